section
/-- a private method of a class that the tables say can be made, by its rows of tables_1 -/
def lw_okq (q : MethodName × Nat) : Prop := (q.1.cls ≠ "java/lang/invoke/MethodHandle" ∧ q.1.cls ≠ "java/lang/invoke/VarHandle") ∧ Cond.instantiable q.1.cls q.2 ∈ tables_1 ∧ Cond.privateMethod q.1 ∈ tables_1 ∧ Cond.instanceMethod q.1 ∈ tables_1
theorem lw_p0 : lw_okq (⟨"WaterThanks", "isVillage", "(I)Z"⟩, 14) := ⟨⟨by decide +kernel, by decide +kernel⟩, List.mem_of_getElem? (i := 19) (by decide +kernel), List.mem_of_getElem? (i := 334) (by decide +kernel), List.mem_of_getElem? (i := 335) (by decide +kernel)⟩
theorem lw_p1 : lw_okq (⟨"WaterThanks", "bestOf", "(I)I"⟩, 14) := ⟨⟨by decide +kernel, by decide +kernel⟩, List.mem_of_getElem? (i := 19) (by decide +kernel), List.mem_of_getElem? (i := 371) (by decide +kernel), List.mem_of_getElem? (i := 372) (by decide +kernel)⟩
theorem lw_p2 : lw_okq (⟨"WaterThanks$Water", "leastBestUse", "(LWaterThanks$Land;II)I"⟩, 7) := ⟨⟨by decide +kernel, by decide +kernel⟩, List.mem_of_getElem? (i := 105) (by decide +kernel), List.mem_of_getElem? (i := 384) (by decide +kernel), List.mem_of_getElem? (i := 385) (by decide +kernel)⟩
theorem lw_p3 : lw_okq (⟨"WaterThanks$Water", "settle", "(LWaterThanks$Land;II)V"⟩, 7) := ⟨⟨by decide +kernel, by decide +kernel⟩, List.mem_of_getElem? (i := 105) (by decide +kernel), List.mem_of_getElem? (i := 406) (by decide +kernel), List.mem_of_getElem? (i := 407) (by decide +kernel)⟩
theorem lw_p4 : lw_okq (⟨"WaterThanks", "mostOf", "(I)I"⟩, 14) := ⟨⟨by decide +kernel, by decide +kernel⟩, List.mem_of_getElem? (i := 19) (by decide +kernel), List.mem_of_getElem? (i := 422) (by decide +kernel), List.mem_of_getElem? (i := 423) (by decide +kernel)⟩
theorem lw_p5 : lw_okq (⟨"WaterThanks", "fillShares", "(I)V"⟩, 14) := ⟨⟨by decide +kernel, by decide +kernel⟩, List.mem_of_getElem? (i := 19) (by decide +kernel), List.mem_of_getElem? (i := 433) (by decide +kernel), List.mem_of_getElem? (i := 434) (by decide +kernel)⟩
theorem lw_p6 : lw_okq (⟨"WaterThanks$Treaty", "holds", "(IIIII)Z"⟩, 6) := ⟨⟨by decide +kernel, by decide +kernel⟩, List.mem_of_getElem? (i := 35) (by decide +kernel), List.mem_of_getElem? (i := 445) (by decide +kernel), List.mem_of_getElem? (i := 446) (by decide +kernel)⟩
theorem lw_p7 : lw_okq (⟨"WaterThanks", "fillSharesDown", "()V"⟩, 14) := ⟨⟨by decide +kernel, by decide +kernel⟩, List.mem_of_getElem? (i := 19) (by decide +kernel), List.mem_of_getElem? (i := 461) (by decide +kernel), List.mem_of_getElem? (i := 462) (by decide +kernel)⟩
theorem lw_p8 : lw_okq (⟨"WaterThanks", "fillSharesUp", "()V"⟩, 14) := ⟨⟨by decide +kernel, by decide +kernel⟩, List.mem_of_getElem? (i := 19) (by decide +kernel), List.mem_of_getElem? (i := 465) (by decide +kernel), List.mem_of_getElem? (i := 466) (by decide +kernel)⟩
theorem lw_p9 : lw_okq (⟨"WaterThanks", "fillSharesEqual", "()V"⟩, 14) := ⟨⟨by decide +kernel, by decide +kernel⟩, List.mem_of_getElem? (i := 19) (by decide +kernel), List.mem_of_getElem? (i := 469) (by decide +kernel), List.mem_of_getElem? (i := 470) (by decide +kernel)⟩
theorem lw_p10 : lw_okq (⟨"WaterThanks", "madeInBest", "(I)I"⟩, 14) := ⟨⟨by decide +kernel, by decide +kernel⟩, List.mem_of_getElem? (i := 19) (by decide +kernel), List.mem_of_getElem? (i := 479) (by decide +kernel), List.mem_of_getElem? (i := 480) (by decide +kernel)⟩
theorem lw_p11 : lw_okq (⟨"WaterThanks", "breakOfShares", "()I"⟩, 14) := ⟨⟨by decide +kernel, by decide +kernel⟩, List.mem_of_getElem? (i := 19) (by decide +kernel), List.mem_of_getElem? (i := 487) (by decide +kernel), List.mem_of_getElem? (i := 488) (by decide +kernel)⟩
theorem lw_p12 : lw_okq (⟨"WaterThanks", "tellsThanks", "(LWaterThanks$Sheet;)Z"⟩, 14) := ⟨⟨by decide +kernel, by decide +kernel⟩, List.mem_of_getElem? (i := 19) (by decide +kernel), List.mem_of_getElem? (i := 495) (by decide +kernel), List.mem_of_getElem? (i := 496) (by decide +kernel)⟩
theorem lw_p13 : lw_okq (⟨"WaterThanks$Dirt", "leastBest", "(LWaterThanks$Land;II)I"⟩, 2) := ⟨⟨by decide +kernel, by decide +kernel⟩, List.mem_of_getElem? (i := 165) (by decide +kernel), List.mem_of_getElem? (i := 508) (by decide +kernel), List.mem_of_getElem? (i := 509) (by decide +kernel)⟩
theorem lw_p14 : lw_okq (⟨"WaterThanks$Dirt", "coins", "(LWaterThanks$Land;III)I"⟩, 2) := ⟨⟨by decide +kernel, by decide +kernel⟩, List.mem_of_getElem? (i := 165) (by decide +kernel), List.mem_of_getElem? (i := 513) (by decide +kernel), List.mem_of_getElem? (i := 514) (by decide +kernel)⟩
theorem lw_p15 : lw_okq (⟨"WaterThanks", "isYear", "(I)Z"⟩, 14) := ⟨⟨by decide +kernel, by decide +kernel⟩, List.mem_of_getElem? (i := 19) (by decide +kernel), List.mem_of_getElem? (i := 525) (by decide +kernel), List.mem_of_getElem? (i := 526) (by decide +kernel)⟩
def lw_privs_1 : List (MethodName × Nat) := [(⟨"WaterThanks", "isVillage", "(I)Z"⟩, 14), (⟨"WaterThanks", "bestOf", "(I)I"⟩, 14), (⟨"WaterThanks$Water", "leastBestUse", "(LWaterThanks$Land;II)I"⟩, 7), (⟨"WaterThanks$Water", "settle", "(LWaterThanks$Land;II)V"⟩, 7), (⟨"WaterThanks", "mostOf", "(I)I"⟩, 14), (⟨"WaterThanks", "fillShares", "(I)V"⟩, 14), (⟨"WaterThanks$Treaty", "holds", "(IIIII)Z"⟩, 6), (⟨"WaterThanks", "fillSharesDown", "()V"⟩, 14), (⟨"WaterThanks", "fillSharesUp", "()V"⟩, 14), (⟨"WaterThanks", "fillSharesEqual", "()V"⟩, 14), (⟨"WaterThanks", "madeInBest", "(I)I"⟩, 14), (⟨"WaterThanks", "breakOfShares", "()I"⟩, 14), (⟨"WaterThanks", "tellsThanks", "(LWaterThanks$Sheet;)Z"⟩, 14), (⟨"WaterThanks$Dirt", "leastBest", "(LWaterThanks$Land;II)I"⟩, 2), (⟨"WaterThanks$Dirt", "coins", "(LWaterThanks$Land;III)I"⟩, 2), (⟨"WaterThanks", "isYear", "(I)Z"⟩, 14)]
theorem lw_r1 : ∀ q ∈ lw_privs_1, lw_okq q := List.forall_mem_cons.mpr ⟨lw_p0, List.forall_mem_cons.mpr ⟨lw_p1, List.forall_mem_cons.mpr ⟨lw_p2, List.forall_mem_cons.mpr ⟨lw_p3, List.forall_mem_cons.mpr ⟨lw_p4, List.forall_mem_cons.mpr ⟨lw_p5, List.forall_mem_cons.mpr ⟨lw_p6, List.forall_mem_cons.mpr ⟨lw_p7, List.forall_mem_cons.mpr ⟨lw_p8, List.forall_mem_cons.mpr ⟨lw_p9, List.forall_mem_cons.mpr ⟨lw_p10, List.forall_mem_cons.mpr ⟨lw_p11, List.forall_mem_cons.mpr ⟨lw_p12, List.forall_mem_cons.mpr ⟨lw_p13, List.forall_mem_cons.mpr ⟨lw_p14, List.forall_mem_cons.mpr ⟨lw_p15, fun _ h => absurd h List.not_mem_nil⟩⟩⟩⟩⟩⟩⟩⟩⟩⟩⟩⟩⟩⟩⟩⟩
theorem lw_p16 : lw_okq (⟨"WaterThanks$Storage", "fillBests", "(LWaterThanks$Land;LWaterThanks$Water;II)V"⟩, 5) := ⟨⟨by decide +kernel, by decide +kernel⟩, List.mem_of_getElem? (i := 141) (by decide +kernel), List.mem_of_getElem? (i := 543) (by decide +kernel), List.mem_of_getElem? (i := 544) (by decide +kernel)⟩
theorem lw_p17 : lw_okq (⟨"WaterThanks$Storage", "choose", "(III)V"⟩, 5) := ⟨⟨by decide +kernel, by decide +kernel⟩, List.mem_of_getElem? (i := 141) (by decide +kernel), List.mem_of_getElem? (i := 549) (by decide +kernel), List.mem_of_getElem? (i := 550) (by decide +kernel)⟩
theorem lw_p18 : lw_okq (⟨"WaterThanks$TreatyReader", "split", "()V"⟩, 7) := ⟨⟨by decide +kernel, by decide +kernel⟩, List.mem_of_getElem? (i := 180) (by decide +kernel), List.mem_of_getElem? (i := 569) (by decide +kernel), List.mem_of_getElem? (i := 570) (by decide +kernel)⟩
theorem lw_p19 : lw_okq (⟨"WaterThanks$TreatyReader", "beginsPart", "(I)Z"⟩, 7) := ⟨⟨by decide +kernel, by decide +kernel⟩, List.mem_of_getElem? (i := 180) (by decide +kernel), List.mem_of_getElem? (i := 573) (by decide +kernel), List.mem_of_getElem? (i := 574) (by decide +kernel)⟩
theorem lw_p20 : lw_okq (⟨"WaterThanks$TreatyReader", "endOfPart", "(I)I"⟩, 7) := ⟨⟨by decide +kernel, by decide +kernel⟩, List.mem_of_getElem? (i := 180) (by decide +kernel), List.mem_of_getElem? (i := 586) (by decide +kernel), List.mem_of_getElem? (i := 587) (by decide +kernel)⟩
theorem lw_p21 : lw_okq (⟨"WaterThanks$TreatyReader", "kindOfPart", "(II)I"⟩, 7) := ⟨⟨by decide +kernel, by decide +kernel⟩, List.mem_of_getElem? (i := 180) (by decide +kernel), List.mem_of_getElem? (i := 590) (by decide +kernel), List.mem_of_getElem? (i := 591) (by decide +kernel)⟩
theorem lw_p22 : lw_okq (⟨"WaterThanks$TreatyReader", "kindOfWord", "(II)I"⟩, 7) := ⟨⟨by decide +kernel, by decide +kernel⟩, List.mem_of_getElem? (i := 180) (by decide +kernel), List.mem_of_getElem? (i := 594) (by decide +kernel), List.mem_of_getElem? (i := 595) (by decide +kernel)⟩
theorem lw_p23 : lw_okq (⟨"WaterThanks$TreatyReader", "isWord", "(Ljava/lang/String;II)Z"⟩, 7) := ⟨⟨by decide +kernel, by decide +kernel⟩, List.mem_of_getElem? (i := 180) (by decide +kernel), List.mem_of_getElem? (i := 599) (by decide +kernel), List.mem_of_getElem? (i := 600) (by decide +kernel)⟩
theorem lw_p24 : lw_okq (⟨"WaterThanks$TreatyReader", "numberOf", "(II)I"⟩, 7) := ⟨⟨by decide +kernel, by decide +kernel⟩, List.mem_of_getElem? (i := 180) (by decide +kernel), List.mem_of_getElem? (i := 658) (by decide +kernel), List.mem_of_getElem? (i := 659) (by decide +kernel)⟩
theorem lw_p25 : lw_okq (⟨"WaterThanks$TreatyReader", "readLine", "()Z"⟩, 7) := ⟨⟨by decide +kernel, by decide +kernel⟩, List.mem_of_getElem? (i := 180) (by decide +kernel), List.mem_of_getElem? (i := 666) (by decide +kernel), List.mem_of_getElem? (i := 667) (by decide +kernel)⟩
theorem lw_p26 : lw_okq (⟨"WaterThanks$TreatyReader", "pass", "(I)Z"⟩, 7) := ⟨⟨by decide +kernel, by decide +kernel⟩, List.mem_of_getElem? (i := 180) (by decide +kernel), List.mem_of_getElem? (i := 670) (by decide +kernel), List.mem_of_getElem? (i := 671) (by decide +kernel)⟩
theorem lw_p27 : lw_okq (⟨"WaterThanks$TreatyReader", "isNumber", "(I)Z"⟩, 7) := ⟨⟨by decide +kernel, by decide +kernel⟩, List.mem_of_getElem? (i := 180) (by decide +kernel), List.mem_of_getElem? (i := 674) (by decide +kernel), List.mem_of_getElem? (i := 675) (by decide +kernel)⟩
theorem lw_p28 : lw_okq (⟨"WaterThanks$TreatyReader", "readCondition", "(I)Z"⟩, 7) := ⟨⟨by decide +kernel, by decide +kernel⟩, List.mem_of_getElem? (i := 180) (by decide +kernel), List.mem_of_getElem? (i := 678) (by decide +kernel), List.mem_of_getElem? (i := 679) (by decide +kernel)⟩
theorem lw_p29 : lw_okq (⟨"WaterThanks$TreatyReader", "readOne", "(I)Z"⟩, 7) := ⟨⟨by decide +kernel, by decide +kernel⟩, List.mem_of_getElem? (i := 180) (by decide +kernel), List.mem_of_getElem? (i := 682) (by decide +kernel), List.mem_of_getElem? (i := 683) (by decide +kernel)⟩
theorem lw_p30 : lw_okq (⟨"WaterThanks$TreatyReader", "readComparison", "()Z"⟩, 7) := ⟨⟨by decide +kernel, by decide +kernel⟩, List.mem_of_getElem? (i := 180) (by decide +kernel), List.mem_of_getElem? (i := 686) (by decide +kernel), List.mem_of_getElem? (i := 687) (by decide +kernel)⟩
theorem lw_p31 : lw_okq (⟨"WaterThanks$TreatyReader", "value", "()I"⟩, 7) := ⟨⟨by decide +kernel, by decide +kernel⟩, List.mem_of_getElem? (i := 180) (by decide +kernel), List.mem_of_getElem? (i := 690) (by decide +kernel), List.mem_of_getElem? (i := 691) (by decide +kernel)⟩
def lw_privs_2 : List (MethodName × Nat) := [(⟨"WaterThanks$Storage", "fillBests", "(LWaterThanks$Land;LWaterThanks$Water;II)V"⟩, 5), (⟨"WaterThanks$Storage", "choose", "(III)V"⟩, 5), (⟨"WaterThanks$TreatyReader", "split", "()V"⟩, 7), (⟨"WaterThanks$TreatyReader", "beginsPart", "(I)Z"⟩, 7), (⟨"WaterThanks$TreatyReader", "endOfPart", "(I)I"⟩, 7), (⟨"WaterThanks$TreatyReader", "kindOfPart", "(II)I"⟩, 7), (⟨"WaterThanks$TreatyReader", "kindOfWord", "(II)I"⟩, 7), (⟨"WaterThanks$TreatyReader", "isWord", "(Ljava/lang/String;II)Z"⟩, 7), (⟨"WaterThanks$TreatyReader", "numberOf", "(II)I"⟩, 7), (⟨"WaterThanks$TreatyReader", "readLine", "()Z"⟩, 7), (⟨"WaterThanks$TreatyReader", "pass", "(I)Z"⟩, 7), (⟨"WaterThanks$TreatyReader", "isNumber", "(I)Z"⟩, 7), (⟨"WaterThanks$TreatyReader", "readCondition", "(I)Z"⟩, 7), (⟨"WaterThanks$TreatyReader", "readOne", "(I)Z"⟩, 7), (⟨"WaterThanks$TreatyReader", "readComparison", "()Z"⟩, 7), (⟨"WaterThanks$TreatyReader", "value", "()I"⟩, 7)]
theorem lw_r2 : ∀ q ∈ lw_privs_2, lw_okq q := List.forall_mem_cons.mpr ⟨lw_p16, List.forall_mem_cons.mpr ⟨lw_p17, List.forall_mem_cons.mpr ⟨lw_p18, List.forall_mem_cons.mpr ⟨lw_p19, List.forall_mem_cons.mpr ⟨lw_p20, List.forall_mem_cons.mpr ⟨lw_p21, List.forall_mem_cons.mpr ⟨lw_p22, List.forall_mem_cons.mpr ⟨lw_p23, List.forall_mem_cons.mpr ⟨lw_p24, List.forall_mem_cons.mpr ⟨lw_p25, List.forall_mem_cons.mpr ⟨lw_p26, List.forall_mem_cons.mpr ⟨lw_p27, List.forall_mem_cons.mpr ⟨lw_p28, List.forall_mem_cons.mpr ⟨lw_p29, List.forall_mem_cons.mpr ⟨lw_p30, List.forall_mem_cons.mpr ⟨lw_p31, fun _ h => absurd h List.not_mem_nil⟩⟩⟩⟩⟩⟩⟩⟩⟩⟩⟩⟩⟩⟩⟩⟩
theorem lw_p32 : lw_okq (⟨"WaterThanks", "bestOfYears", "()I"⟩, 14) := ⟨⟨by decide +kernel, by decide +kernel⟩, List.mem_of_getElem? (i := 19) (by decide +kernel), List.mem_of_getElem? (i := 720) (by decide +kernel), List.mem_of_getElem? (i := 721) (by decide +kernel)⟩
theorem lw_p33 : lw_okq (⟨"WaterThanks", "madeInYears", "(I)I"⟩, 14) := ⟨⟨by decide +kernel, by decide +kernel⟩, List.mem_of_getElem? (i := 19) (by decide +kernel), List.mem_of_getElem? (i := 724) (by decide +kernel), List.mem_of_getElem? (i := 725) (by decide +kernel)⟩
theorem lw_p34 : lw_okq (⟨"WaterThanks", "isRowPart", "(II)Z"⟩, 14) := ⟨⟨by decide +kernel, by decide +kernel⟩, List.mem_of_getElem? (i := 19) (by decide +kernel), List.mem_of_getElem? (i := 746) (by decide +kernel), List.mem_of_getElem? (i := 747) (by decide +kernel)⟩
theorem lw_p35 : lw_okq (⟨"WaterThanks", "isRight", "(II)Z"⟩, 14) := ⟨⟨by decide +kernel, by decide +kernel⟩, List.mem_of_getElem? (i := 19) (by decide +kernel), List.mem_of_getElem? (i := 758) (by decide +kernel), List.mem_of_getElem? (i := 759) (by decide +kernel)⟩
theorem lw_p36 : lw_okq (⟨"WaterThanks", "heldOn", "(I)I"⟩, 14) := ⟨⟨by decide +kernel, by decide +kernel⟩, List.mem_of_getElem? (i := 19) (by decide +kernel), List.mem_of_getElem? (i := 803) (by decide +kernel), List.mem_of_getElem? (i := 804) (by decide +kernel)⟩
theorem lw_p37 : lw_okq (⟨"WaterThanks", "amountOf", "(II)I"⟩, 14) := ⟨⟨by decide +kernel, by decide +kernel⟩, List.mem_of_getElem? (i := 19) (by decide +kernel), List.mem_of_getElem? (i := 820) (by decide +kernel), List.mem_of_getElem? (i := 821) (by decide +kernel)⟩
theorem lw_p38 : lw_okq (⟨"WaterThanks$Acts", "perform", "(IIII)I"⟩, 6) := ⟨⟨by decide +kernel, by decide +kernel⟩, List.mem_of_getElem? (i := 215) (by decide +kernel), List.mem_of_getElem? (i := 828) (by decide +kernel), List.mem_of_getElem? (i := 829) (by decide +kernel)⟩
theorem lw_p39 : lw_okq (⟨"WaterThanks$Acts", "answerOf", "(III)I"⟩, 6) := ⟨⟨by decide +kernel, by decide +kernel⟩, List.mem_of_getElem? (i := 215) (by decide +kernel), List.mem_of_getElem? (i := 834) (by decide +kernel), List.mem_of_getElem? (i := 835) (by decide +kernel)⟩
theorem lw_p40 : lw_okq (⟨"WaterThanks$Acts", "quotient", "(II)I"⟩, 6) := ⟨⟨by decide +kernel, by decide +kernel⟩, List.mem_of_getElem? (i := 215) (by decide +kernel), List.mem_of_getElem? (i := 838) (by decide +kernel), List.mem_of_getElem? (i := 839) (by decide +kernel)⟩
theorem lw_p41 : lw_okq (⟨"WaterThanksModel", "isVillage", "(I)Z"⟩, 44) := ⟨⟨by decide +kernel, by decide +kernel⟩, List.mem_of_getElem? (i := 863) (by decide +kernel), List.mem_of_getElem? (i := 1017) (by decide +kernel), List.mem_of_getElem? (i := 1018) (by decide +kernel)⟩
theorem lw_p42 : lw_okq (⟨"WaterThanksModel", "of", "(II)I"⟩, 44) := ⟨⟨by decide +kernel, by decide +kernel⟩, List.mem_of_getElem? (i := 863) (by decide +kernel), List.mem_of_getElem? (i := 1021) (by decide +kernel), List.mem_of_getElem? (i := 1022) (by decide +kernel)⟩
theorem lw_p43 : lw_okq (⟨"WaterThanksModel", "first", "(II)I"⟩, 44) := ⟨⟨by decide +kernel, by decide +kernel⟩, List.mem_of_getElem? (i := 863) (by decide +kernel), List.mem_of_getElem? (i := 1036) (by decide +kernel), List.mem_of_getElem? (i := 1037) (by decide +kernel)⟩
theorem lw_p44 : lw_okq (⟨"WaterThanksModel", "bestOf", "(I)I"⟩, 44) := ⟨⟨by decide +kernel, by decide +kernel⟩, List.mem_of_getElem? (i := 863) (by decide +kernel), List.mem_of_getElem? (i := 1044) (by decide +kernel), List.mem_of_getElem? (i := 1045) (by decide +kernel)⟩
theorem lw_p45 : lw_okq (⟨"WaterThanksModel", "flows", "(I)V"⟩, 44) := ⟨⟨by decide +kernel, by decide +kernel⟩, List.mem_of_getElem? (i := 863) (by decide +kernel), List.mem_of_getElem? (i := 1048) (by decide +kernel), List.mem_of_getElem? (i := 1049) (by decide +kernel)⟩
theorem lw_p46 : lw_okq (⟨"WaterThanksModel", "mostOf", "(II)I"⟩, 44) := ⟨⟨by decide +kernel, by decide +kernel⟩, List.mem_of_getElem? (i := 863) (by decide +kernel), List.mem_of_getElem? (i := 1052) (by decide +kernel), List.mem_of_getElem? (i := 1053) (by decide +kernel)⟩
theorem lw_p47 : lw_okq (⟨"WaterThanksModel", "harm", "(II)I"⟩, 44) := ⟨⟨by decide +kernel, by decide +kernel⟩, List.mem_of_getElem? (i := 863) (by decide +kernel), List.mem_of_getElem? (i := 1056) (by decide +kernel), List.mem_of_getElem? (i := 1057) (by decide +kernel)⟩
def lw_privs_3 : List (MethodName × Nat) := [(⟨"WaterThanks", "bestOfYears", "()I"⟩, 14), (⟨"WaterThanks", "madeInYears", "(I)I"⟩, 14), (⟨"WaterThanks", "isRowPart", "(II)Z"⟩, 14), (⟨"WaterThanks", "isRight", "(II)Z"⟩, 14), (⟨"WaterThanks", "heldOn", "(I)I"⟩, 14), (⟨"WaterThanks", "amountOf", "(II)I"⟩, 14), (⟨"WaterThanks$Acts", "perform", "(IIII)I"⟩, 6), (⟨"WaterThanks$Acts", "answerOf", "(III)I"⟩, 6), (⟨"WaterThanks$Acts", "quotient", "(II)I"⟩, 6), (⟨"WaterThanksModel", "isVillage", "(I)Z"⟩, 44), (⟨"WaterThanksModel", "of", "(II)I"⟩, 44), (⟨"WaterThanksModel", "first", "(II)I"⟩, 44), (⟨"WaterThanksModel", "bestOf", "(I)I"⟩, 44), (⟨"WaterThanksModel", "flows", "(I)V"⟩, 44), (⟨"WaterThanksModel", "mostOf", "(II)I"⟩, 44), (⟨"WaterThanksModel", "harm", "(II)I"⟩, 44)]
theorem lw_r3 : ∀ q ∈ lw_privs_3, lw_okq q := List.forall_mem_cons.mpr ⟨lw_p32, List.forall_mem_cons.mpr ⟨lw_p33, List.forall_mem_cons.mpr ⟨lw_p34, List.forall_mem_cons.mpr ⟨lw_p35, List.forall_mem_cons.mpr ⟨lw_p36, List.forall_mem_cons.mpr ⟨lw_p37, List.forall_mem_cons.mpr ⟨lw_p38, List.forall_mem_cons.mpr ⟨lw_p39, List.forall_mem_cons.mpr ⟨lw_p40, List.forall_mem_cons.mpr ⟨lw_p41, List.forall_mem_cons.mpr ⟨lw_p42, List.forall_mem_cons.mpr ⟨lw_p43, List.forall_mem_cons.mpr ⟨lw_p44, List.forall_mem_cons.mpr ⟨lw_p45, List.forall_mem_cons.mpr ⟨lw_p46, List.forall_mem_cons.mpr ⟨lw_p47, fun _ h => absurd h List.not_mem_nil⟩⟩⟩⟩⟩⟩⟩⟩⟩⟩⟩⟩⟩⟩⟩⟩
theorem lw_p48 : lw_okq (⟨"WaterThanksModel", "findBest", "()I"⟩, 44) := ⟨⟨by decide +kernel, by decide +kernel⟩, List.mem_of_getElem? (i := 863) (by decide +kernel), List.mem_of_getElem? (i := 1065) (by decide +kernel), List.mem_of_getElem? (i := 1066) (by decide +kernel)⟩
theorem lw_p49 : lw_okq (⟨"WaterThanksModel", "runOf", "(II)I"⟩, 44) := ⟨⟨by decide +kernel, by decide +kernel⟩, List.mem_of_getElem? (i := 863) (by decide +kernel), List.mem_of_getElem? (i := 1077) (by decide +kernel), List.mem_of_getElem? (i := 1078) (by decide +kernel)⟩
theorem lw_p50 : lw_okq (⟨"WaterThanksModel", "mostFor", "(I)I"⟩, 44) := ⟨⟨by decide +kernel, by decide +kernel⟩, List.mem_of_getElem? (i := 863) (by decide +kernel), List.mem_of_getElem? (i := 1085) (by decide +kernel), List.mem_of_getElem? (i := 1086) (by decide +kernel)⟩
theorem lw_p51 : lw_okq (⟨"WaterThanksModel", "findShares", "(I)V"⟩, 44) := ⟨⟨by decide +kernel, by decide +kernel⟩, List.mem_of_getElem? (i := 863) (by decide +kernel), List.mem_of_getElem? (i := 1093) (by decide +kernel), List.mem_of_getElem? (i := 1094) (by decide +kernel)⟩
theorem lw_p52 : lw_okq (⟨"WaterThanksModel", "canUse", "(II)I"⟩, 44) := ⟨⟨by decide +kernel, by decide +kernel⟩, List.mem_of_getElem? (i := 863) (by decide +kernel), List.mem_of_getElem? (i := 1097) (by decide +kernel), List.mem_of_getElem? (i := 1098) (by decide +kernel)⟩
theorem lw_p53 : lw_okq (⟨"WaterThanksModel", "breakOf", "()I"⟩, 44) := ⟨⟨by decide +kernel, by decide +kernel⟩, List.mem_of_getElem? (i := 863) (by decide +kernel), List.mem_of_getElem? (i := 1105) (by decide +kernel), List.mem_of_getElem? (i := 1106) (by decide +kernel)⟩
theorem lw_p54 : lw_okq (⟨"WaterThanksModel", "findCleaning", "()V"⟩, 44) := ⟨⟨by decide +kernel, by decide +kernel⟩, List.mem_of_getElem? (i := 863) (by decide +kernel), List.mem_of_getElem? (i := 1113) (by decide +kernel), List.mem_of_getElem? (i := 1114) (by decide +kernel)⟩
theorem lw_p55 : lw_okq (⟨"WaterThanksModel", "findKept", "()V"⟩, 44) := ⟨⟨by decide +kernel, by decide +kernel⟩, List.mem_of_getElem? (i := 863) (by decide +kernel), List.mem_of_getElem? (i := 1133) (by decide +kernel), List.mem_of_getElem? (i := 1134) (by decide +kernel)⟩
theorem lw_p56 : lw_okq (⟨"WaterThanksModel", "findYear", "(I)V"⟩, 44) := ⟨⟨by decide +kernel, by decide +kernel⟩, List.mem_of_getElem? (i := 863) (by decide +kernel), List.mem_of_getElem? (i := 1137) (by decide +kernel), List.mem_of_getElem? (i := 1138) (by decide +kernel)⟩
theorem lw_p57 : lw_okq (⟨"WaterThanksModel", "next", "()V"⟩, 44) := ⟨⟨by decide +kernel, by decide +kernel⟩, List.mem_of_getElem? (i := 863) (by decide +kernel), List.mem_of_getElem? (i := 1150) (by decide +kernel), List.mem_of_getElem? (i := 1151) (by decide +kernel)⟩
theorem lw_p58 : lw_okq (⟨"WaterThanksModel", "isLetter", "(I)Z"⟩, 44) := ⟨⟨by decide +kernel, by decide +kernel⟩, List.mem_of_getElem? (i := 863) (by decide +kernel), List.mem_of_getElem? (i := 1154) (by decide +kernel), List.mem_of_getElem? (i := 1155) (by decide +kernel)⟩
theorem lw_p59 : lw_okq (⟨"WaterThanksModel", "isDigit", "(I)Z"⟩, 44) := ⟨⟨by decide +kernel, by decide +kernel⟩, List.mem_of_getElem? (i := 863) (by decide +kernel), List.mem_of_getElem? (i := 1158) (by decide +kernel), List.mem_of_getElem? (i := 1159) (by decide +kernel)⟩
theorem lw_p60 : lw_okq (⟨"WaterThanksModel", "line", "(I)V"⟩, 44) := ⟨⟨by decide +kernel, by decide +kernel⟩, List.mem_of_getElem? (i := 863) (by decide +kernel), List.mem_of_getElem? (i := 1162) (by decide +kernel), List.mem_of_getElem? (i := 1163) (by decide +kernel)⟩
theorem lw_p61 : lw_okq (⟨"WaterThanksModel", "isWord", "(Ljava/lang/String;)Z"⟩, 44) := ⟨⟨by decide +kernel, by decide +kernel⟩, List.mem_of_getElem? (i := 863) (by decide +kernel), List.mem_of_getElem? (i := 1167) (by decide +kernel), List.mem_of_getElem? (i := 1168) (by decide +kernel)⟩
theorem lw_p62 : lw_okq (⟨"WaterThanksModel", "need", "(Z)V"⟩, 44) := ⟨⟨by decide +kernel, by decide +kernel⟩, List.mem_of_getElem? (i := 863) (by decide +kernel), List.mem_of_getElem? (i := 1173) (by decide +kernel), List.mem_of_getElem? (i := 1174) (by decide +kernel)⟩
theorem lw_p63 : lw_okq (⟨"WaterThanksModel", "number", "(I)I"⟩, 44) := ⟨⟨by decide +kernel, by decide +kernel⟩, List.mem_of_getElem? (i := 863) (by decide +kernel), List.mem_of_getElem? (i := 1177) (by decide +kernel), List.mem_of_getElem? (i := 1178) (by decide +kernel)⟩
def lw_privs_4 : List (MethodName × Nat) := [(⟨"WaterThanksModel", "findBest", "()I"⟩, 44), (⟨"WaterThanksModel", "runOf", "(II)I"⟩, 44), (⟨"WaterThanksModel", "mostFor", "(I)I"⟩, 44), (⟨"WaterThanksModel", "findShares", "(I)V"⟩, 44), (⟨"WaterThanksModel", "canUse", "(II)I"⟩, 44), (⟨"WaterThanksModel", "breakOf", "()I"⟩, 44), (⟨"WaterThanksModel", "findCleaning", "()V"⟩, 44), (⟨"WaterThanksModel", "findKept", "()V"⟩, 44), (⟨"WaterThanksModel", "findYear", "(I)V"⟩, 44), (⟨"WaterThanksModel", "next", "()V"⟩, 44), (⟨"WaterThanksModel", "isLetter", "(I)Z"⟩, 44), (⟨"WaterThanksModel", "isDigit", "(I)Z"⟩, 44), (⟨"WaterThanksModel", "line", "(I)V"⟩, 44), (⟨"WaterThanksModel", "isWord", "(Ljava/lang/String;)Z"⟩, 44), (⟨"WaterThanksModel", "need", "(Z)V"⟩, 44), (⟨"WaterThanksModel", "number", "(I)I"⟩, 44)]
theorem lw_r4 : ∀ q ∈ lw_privs_4, lw_okq q := List.forall_mem_cons.mpr ⟨lw_p48, List.forall_mem_cons.mpr ⟨lw_p49, List.forall_mem_cons.mpr ⟨lw_p50, List.forall_mem_cons.mpr ⟨lw_p51, List.forall_mem_cons.mpr ⟨lw_p52, List.forall_mem_cons.mpr ⟨lw_p53, List.forall_mem_cons.mpr ⟨lw_p54, List.forall_mem_cons.mpr ⟨lw_p55, List.forall_mem_cons.mpr ⟨lw_p56, List.forall_mem_cons.mpr ⟨lw_p57, List.forall_mem_cons.mpr ⟨lw_p58, List.forall_mem_cons.mpr ⟨lw_p59, List.forall_mem_cons.mpr ⟨lw_p60, List.forall_mem_cons.mpr ⟨lw_p61, List.forall_mem_cons.mpr ⟨lw_p62, List.forall_mem_cons.mpr ⟨lw_p63, fun _ h => absurd h List.not_mem_nil⟩⟩⟩⟩⟩⟩⟩⟩⟩⟩⟩⟩⟩⟩⟩⟩
theorem lw_p64 : lw_okq (⟨"WaterThanksModel", "cond", "()V"⟩, 44) := ⟨⟨by decide +kernel, by decide +kernel⟩, List.mem_of_getElem? (i := 863) (by decide +kernel), List.mem_of_getElem? (i := 1182) (by decide +kernel), List.mem_of_getElem? (i := 1183) (by decide +kernel)⟩
theorem lw_p65 : lw_okq (⟨"WaterThanksModel", "all", "()V"⟩, 44) := ⟨⟨by decide +kernel, by decide +kernel⟩, List.mem_of_getElem? (i := 863) (by decide +kernel), List.mem_of_getElem? (i := 1186) (by decide +kernel), List.mem_of_getElem? (i := 1187) (by decide +kernel)⟩
theorem lw_p66 : lw_okq (⟨"WaterThanksModel", "one", "()V"⟩, 44) := ⟨⟨by decide +kernel, by decide +kernel⟩, List.mem_of_getElem? (i := 863) (by decide +kernel), List.mem_of_getElem? (i := 1190) (by decide +kernel), List.mem_of_getElem? (i := 1191) (by decide +kernel)⟩
theorem lw_p67 : lw_okq (⟨"WaterThanksModel", "value", "()V"⟩, 44) := ⟨⟨by decide +kernel, by decide +kernel⟩, List.mem_of_getElem? (i := 863) (by decide +kernel), List.mem_of_getElem? (i := 1197) (by decide +kernel), List.mem_of_getElem? (i := 1198) (by decide +kernel)⟩
theorem lw_p68 : lw_okq (⟨"WaterThanksModel", "put", "(I)V"⟩, 44) := ⟨⟨by decide +kernel, by decide +kernel⟩, List.mem_of_getElem? (i := 863) (by decide +kernel), List.mem_of_getElem? (i := 1204) (by decide +kernel), List.mem_of_getElem? (i := 1205) (by decide +kernel)⟩
theorem lw_p69 : lw_okq (⟨"WaterThanksModel", "goBy", "(II)I"⟩, 44) := ⟨⟨by decide +kernel, by decide +kernel⟩, List.mem_of_getElem? (i := 863) (by decide +kernel), List.mem_of_getElem? (i := 1218) (by decide +kernel), List.mem_of_getElem? (i := 1219) (by decide +kernel)⟩
theorem lw_p70 : lw_okq (⟨"WaterThanksModel", "letsOf", "(III)I"⟩, 44) := ⟨⟨by decide +kernel, by decide +kernel⟩, List.mem_of_getElem? (i := 863) (by decide +kernel), List.mem_of_getElem? (i := 1222) (by decide +kernel), List.mem_of_getElem? (i := 1223) (by decide +kernel)⟩
theorem lw_p71 : lw_okq (⟨"WaterThanksModel", "holds", "(IIII)Z"⟩, 44) := ⟨⟨by decide +kernel, by decide +kernel⟩, List.mem_of_getElem? (i := 863) (by decide +kernel), List.mem_of_getElem? (i := 1226) (by decide +kernel), List.mem_of_getElem? (i := 1227) (by decide +kernel)⟩
theorem lw_p72 : lw_okq (⟨"WaterThanksModel", "bestYears", "()I"⟩, 44) := ⟨⟨by decide +kernel, by decide +kernel⟩, List.mem_of_getElem? (i := 863) (by decide +kernel), List.mem_of_getElem? (i := 1234) (by decide +kernel), List.mem_of_getElem? (i := 1235) (by decide +kernel)⟩
theorem lw_p73 : lw_okq (⟨"WaterThanksModel", "goYears", "(I)I"⟩, 44) := ⟨⟨by decide +kernel, by decide +kernel⟩, List.mem_of_getElem? (i := 863) (by decide +kernel), List.mem_of_getElem? (i := 1238) (by decide +kernel), List.mem_of_getElem? (i := 1239) (by decide +kernel)⟩
theorem lw_p74 : lw_okq (⟨"WaterThanksModel", "isRow", "(II)Z"⟩, 44) := ⟨⟨by decide +kernel, by decide +kernel⟩, List.mem_of_getElem? (i := 863) (by decide +kernel), List.mem_of_getElem? (i := 1258) (by decide +kernel), List.mem_of_getElem? (i := 1259) (by decide +kernel)⟩
theorem lw_p75 : lw_okq (⟨"WaterThanksModel", "notOf", "(II)I"⟩, 44) := ⟨⟨by decide +kernel, by decide +kernel⟩, List.mem_of_getElem? (i := 863) (by decide +kernel), List.mem_of_getElem? (i := 1285) (by decide +kernel), List.mem_of_getElem? (i := 1286) (by decide +kernel)⟩
theorem lw_p76 : lw_okq (⟨"WaterThanksModel", "isThing", "(I)Z"⟩, 44) := ⟨⟨by decide +kernel, by decide +kernel⟩, List.mem_of_getElem? (i := 863) (by decide +kernel), List.mem_of_getElem? (i := 1309) (by decide +kernel), List.mem_of_getElem? (i := 1310) (by decide +kernel)⟩
theorem lw_p77 : lw_okq (⟨"WaterThanksModel", "itsOf", "(II)I"⟩, 44) := ⟨⟨by decide +kernel, by decide +kernel⟩, List.mem_of_getElem? (i := 863) (by decide +kernel), List.mem_of_getElem? (i := 1320) (by decide +kernel), List.mem_of_getElem? (i := 1321) (by decide +kernel)⟩
theorem lw_p78 : lw_okq (⟨"WaterThanksModel", "acted", "(II)I"⟩, 44) := ⟨⟨by decide +kernel, by decide +kernel⟩, List.mem_of_getElem? (i := 863) (by decide +kernel), List.mem_of_getElem? (i := 1324) (by decide +kernel), List.mem_of_getElem? (i := 1325) (by decide +kernel)⟩
theorem lw_p79 : lw_okq (⟨"WaterThanksModel", "body", "(II)I"⟩, 44) := ⟨⟨by decide +kernel, by decide +kernel⟩, List.mem_of_getElem? (i := 863) (by decide +kernel), List.mem_of_getElem? (i := 1331) (by decide +kernel), List.mem_of_getElem? (i := 1332) (by decide +kernel)⟩
def lw_privs_5 : List (MethodName × Nat) := [(⟨"WaterThanksModel", "cond", "()V"⟩, 44), (⟨"WaterThanksModel", "all", "()V"⟩, 44), (⟨"WaterThanksModel", "one", "()V"⟩, 44), (⟨"WaterThanksModel", "value", "()V"⟩, 44), (⟨"WaterThanksModel", "put", "(I)V"⟩, 44), (⟨"WaterThanksModel", "goBy", "(II)I"⟩, 44), (⟨"WaterThanksModel", "letsOf", "(III)I"⟩, 44), (⟨"WaterThanksModel", "holds", "(IIII)Z"⟩, 44), (⟨"WaterThanksModel", "bestYears", "()I"⟩, 44), (⟨"WaterThanksModel", "goYears", "(I)I"⟩, 44), (⟨"WaterThanksModel", "isRow", "(II)Z"⟩, 44), (⟨"WaterThanksModel", "notOf", "(II)I"⟩, 44), (⟨"WaterThanksModel", "isThing", "(I)Z"⟩, 44), (⟨"WaterThanksModel", "itsOf", "(II)I"⟩, 44), (⟨"WaterThanksModel", "acted", "(II)I"⟩, 44), (⟨"WaterThanksModel", "body", "(II)I"⟩, 44)]
theorem lw_r5 : ∀ q ∈ lw_privs_5, lw_okq q := List.forall_mem_cons.mpr ⟨lw_p64, List.forall_mem_cons.mpr ⟨lw_p65, List.forall_mem_cons.mpr ⟨lw_p66, List.forall_mem_cons.mpr ⟨lw_p67, List.forall_mem_cons.mpr ⟨lw_p68, List.forall_mem_cons.mpr ⟨lw_p69, List.forall_mem_cons.mpr ⟨lw_p70, List.forall_mem_cons.mpr ⟨lw_p71, List.forall_mem_cons.mpr ⟨lw_p72, List.forall_mem_cons.mpr ⟨lw_p73, List.forall_mem_cons.mpr ⟨lw_p74, List.forall_mem_cons.mpr ⟨lw_p75, List.forall_mem_cons.mpr ⟨lw_p76, List.forall_mem_cons.mpr ⟨lw_p77, List.forall_mem_cons.mpr ⟨lw_p78, List.forall_mem_cons.mpr ⟨lw_p79, fun _ h => absurd h List.not_mem_nil⟩⟩⟩⟩⟩⟩⟩⟩⟩⟩⟩⟩⟩⟩⟩⟩
theorem lw_p80 : lw_okq (⟨"WaterThanksModel", "began", "(I)V"⟩, 44) := ⟨⟨by decide +kernel, by decide +kernel⟩, List.mem_of_getElem? (i := 863) (by decide +kernel), List.mem_of_getElem? (i := 1335) (by decide +kernel), List.mem_of_getElem? (i := 1336) (by decide +kernel)⟩
theorem lw_p81 : lw_okq (⟨"WaterThanksModel", "parted", "(I)I"⟩, 44) := ⟨⟨by decide +kernel, by decide +kernel⟩, List.mem_of_getElem? (i := 863) (by decide +kernel), List.mem_of_getElem? (i := 1339) (by decide +kernel), List.mem_of_getElem? (i := 1340) (by decide +kernel)⟩
theorem lw_p82 : lw_okq (⟨"WaterThanksModel", "fromAbove", "(III)I"⟩, 44) := ⟨⟨by decide +kernel, by decide +kernel⟩, List.mem_of_getElem? (i := 863) (by decide +kernel), List.mem_of_getElem? (i := 1343) (by decide +kernel), List.mem_of_getElem? (i := 1344) (by decide +kernel)⟩
def lw_privs_6 : List (MethodName × Nat) := [(⟨"WaterThanksModel", "began", "(I)V"⟩, 44), (⟨"WaterThanksModel", "parted", "(I)I"⟩, 44), (⟨"WaterThanksModel", "fromAbove", "(III)I"⟩, 44)]
theorem lw_r6 : ∀ q ∈ lw_privs_6, lw_okq q := List.forall_mem_cons.mpr ⟨lw_p80, List.forall_mem_cons.mpr ⟨lw_p81, List.forall_mem_cons.mpr ⟨lw_p82, fun _ h => absurd h List.not_mem_nil⟩⟩⟩
def lw_privs : List (MethodName × Nat) := lw_privs_1 ++ (lw_privs_2 ++ (lw_privs_3 ++ (lw_privs_4 ++ (lw_privs_5 ++ (lw_privs_6)))))
def lw_tbl : List Cond := k2_sels lw_privs ++ tables_1
theorem lw_privs_ok : ∀ q ∈ lw_privs, lw_okq q := by
  show ∀ q ∈ lw_privs_1 ++ (lw_privs_2 ++ (lw_privs_3 ++ (lw_privs_4 ++ (lw_privs_5 ++ (lw_privs_6))))), lw_okq q
  exact List.forall_mem_append.mpr ⟨lw_r1, List.forall_mem_append.mpr ⟨lw_r2, List.forall_mem_append.mpr ⟨lw_r3, List.forall_mem_append.mpr ⟨lw_r4, List.forall_mem_append.mpr ⟨lw_r5, lw_r6⟩⟩⟩⟩⟩
end
section
def RX0 : String := "WaterThanks$Acts"
def TX0 : u_T := fun k => match k with
  | 0 => ("WaterThanks$Acts", "ran", "[I", true)
  | 1 => ("WaterThanks$Acts", "ranCount", "I", false)
  | 2 => ("WaterThanks$Acts", "self", "I", false)
  | 3 => ("WaterThanks$Acts", "n", "I", false)
  | 4 => ("WaterThanks$Acts", "a", "I", false)
  | _ => ("WaterThanks$Acts", "parted", "Z", false)
def tyX0 : Nat → FieldType := fun k => match k with
  | 0 => .array .int
  | 1 => .int
  | 2 => .int
  | 3 => .int
  | 4 => .int
  | _ => .boolean
abbrev wsX00 : List Cond := u_ws RX0 TX0 6
theorem nmX0 : ∀ a, a < 6 → ∀ b, b < 6 → a ≠ b → (TX0 a).2.1 ≠ (TX0 b).2.1 := by decide +kernel
theorem tyX0_ok : ∀ k, k < 6 → parseFieldDescriptor (TX0 k).2.2.1 = some (tyX0 k) := by decide +kernel
abbrev cX0_init : ByteArray := prog_2_method_1_code
def yX0_init : MethodName := ⟨RX0, "<init>", "()V"⟩
abbrev cX0_clearTrace : ByteArray := prog_2_method_2_code
def yX0_clearTrace : MethodName := ⟨RX0, "clearTrace", "()V"⟩
abbrev cX0_play : ByteArray := prog_2_method_3_code
def yX0_play : MethodName := ⟨RX0, "play", "(IIIII)I"⟩
abbrev cX0_perform : ByteArray := prog_2_method_4_code
def yX0_perform : MethodName := ⟨RX0, "perform", "(IIII)I"⟩
abbrev cX0_answerOf : ByteArray := prog_2_method_5_code
def yX0_answerOf : MethodName := ⟨RX0, "answerOf", "(III)I"⟩
abbrev cX0_quotient : ByteArray := prog_2_method_6_code
def yX0_quotient : MethodName := ⟨RX0, "quotient", "(II)I"⟩
def RX1 : String := "WaterThanks$Dirt"
def TX1 : u_T := fun k => match k with
  | 0 => ("WaterThanks$Dirt", "cleaned", "[I", true)
  | _ => ("WaterThanks$Dirt", "leastFrom", "[[I", true)
def tyX1 : Nat → FieldType := fun k => match k with
  | 0 => .array .int
  | _ => .array (.array .int)
abbrev wsX10 : List Cond := u_ws RX1 TX1 2
theorem nmX1 : ∀ a, a < 2 → ∀ b, b < 2 → a ≠ b → (TX1 a).2.1 ≠ (TX1 b).2.1 := by decide +kernel
theorem tyX1_ok : ∀ k, k < 2 → parseFieldDescriptor (TX1 k).2.2.1 = some (tyX1 k) := by decide +kernel
abbrev cX1_init : ByteArray := prog_3_method_1_code
def yX1_init : MethodName := ⟨RX1, "<init>", "()V"⟩
abbrev cX1_clean : ByteArray := prog_3_method_2_code
def yX1_clean : MethodName := ⟨RX1, "clean", "(LWaterThanks$Land;)I"⟩
abbrev cX1_coins : ByteArray := prog_3_method_3_code
def yX1_coins : MethodName := ⟨RX1, "coins", "(LWaterThanks$Land;III)I"⟩
abbrev cX1_leastBest : ByteArray := prog_3_method_4_code
def yX1_leastBest : MethodName := ⟨RX1, "leastBest", "(LWaterThanks$Land;II)I"⟩
def RX2 : String := "WaterThanks$Land"
def TX2 : u_T := fun k => match k with
  | 0 => ("WaterThanks$Land", "villages", "I", false)
  | 1 => ("WaterThanks$Land", "facts", "[[I", true)
  | 2 => ("WaterThanks$Land", "together", "[[I", true)
  | 3 => ("WaterThanks$Land", "years", "I", false)
  | 4 => ("WaterThanks$Land", "wets", "[I", true)
  | 5 => ("WaterThanks$Land", "damAt", "I", false)
  | 6 => ("WaterThanks$Land", "holds", "I", false)
  | _ => ("WaterThanks$Land", "treaty", "LWaterThanks$Treaty;", true)
def tyX2 : Nat → FieldType := fun k => match k with
  | 0 => .int
  | 1 => .array (.array .int)
  | 2 => .array (.array .int)
  | 3 => .int
  | 4 => .array .int
  | 5 => .int
  | 6 => .int
  | _ => .object "WaterThanks$Treaty"
abbrev wsX20 : List Cond := u_ws RX2 TX2 8
theorem nmX2 : ∀ a, a < 8 → ∀ b, b < 8 → a ≠ b → (TX2 a).2.1 ≠ (TX2 b).2.1 := by decide +kernel
theorem tyX2_ok : ∀ k, k < 8 → parseFieldDescriptor (TX2 k).2.2.1 = some (tyX2 k) := by decide +kernel
abbrev cX2_init : ByteArray := prog_4_method_1_code
def yX2_init : MethodName := ⟨RX2, "<init>", "()V"⟩
abbrev cX2_addVillage : ByteArray := prog_4_method_2_code
def yX2_addVillage : MethodName := ⟨RX2, "addVillage", "(I)I"⟩
abbrev cX2_takeWorths : ByteArray := prog_4_method_3_code
def yX2_takeWorths : MethodName := ⟨RX2, "takeWorths", "(I[I)V"⟩
abbrev cX2_made : ByteArray := prog_4_method_4_code
def yX2_made : MethodName := ⟨RX2, "made", "(III)I"⟩
abbrev cX2_wanted : ByteArray := prog_4_method_5_code
def yX2_wanted : MethodName := ⟨RX2, "wanted", "(II)I"⟩
abbrev cX2_copyFrom : ByteArray := prog_4_method_6_code
def yX2_copyFrom : MethodName := ⟨RX2, "copyFrom", "(LWaterThanks$Land;)V"⟩
def RX3 : String := "WaterThanks$Sheet"
def TX3 : u_T := fun k => match k with
  | 0 => ("WaterThanks$Sheet", "sort", "I", false)
  | 1 => ("WaterThanks$Sheet", "size", "I", false)
  | _ => ("WaterThanks$Sheet", "items", "[I", true)
def tyX3 : Nat → FieldType := fun k => match k with
  | 0 => .int
  | 1 => .int
  | _ => .array .int
abbrev wsX30 : List Cond := u_ws RX3 TX3 3
theorem nmX3 : ∀ a, a < 3 → ∀ b, b < 3 → a ≠ b → (TX3 a).2.1 ≠ (TX3 b).2.1 := by decide +kernel
theorem tyX3_ok : ∀ k, k < 3 → parseFieldDescriptor (TX3 k).2.2.1 = some (tyX3 k) := by decide +kernel
abbrev cX3_init : ByteArray := prog_5_method_1_code
def yX3_init : MethodName := ⟨RX3, "<init>", "()V"⟩
abbrev cX3_becomeRow : ByteArray := prog_5_method_2_code
def yX3_becomeRow : MethodName := ⟨RX3, "becomeRow", "(II)V"⟩
abbrev cX3_refusalAs : ByteArray := prog_5_method_3_code
def yX3_refusalAs : MethodName := ⟨RX3, "refusalAs", "(I)I"⟩
abbrev cX3_hasItem : ByteArray := prog_5_method_4_code
def yX3_hasItem : MethodName := ⟨RX3, "hasItem", "(I)Z"⟩
abbrev cX3_narrowed : ByteArray := prog_5_method_5_code
def yX3_narrowed : MethodName := ⟨RX3, "narrowed", "(I)I"⟩
def RX4 : String := "WaterThanks$Storage"
def TX4 : u_T := fun k => match k with
  | 0 => ("WaterThanks$Storage", "heldBehind", "[I", true)
  | 1 => ("WaterThanks$Storage", "choices", "[[I", true)
  | 2 => ("WaterThanks$Storage", "later", "[I", false)
  | 3 => ("WaterThanks$Storage", "earlier", "[I", false)
  | _ => ("WaterThanks$Storage", "bests", "[I", true)
def tyX4 : Nat → FieldType := fun k => match k with
  | 0 => .array .int
  | 1 => .array (.array .int)
  | 2 => .array .int
  | 3 => .array .int
  | _ => .array .int
abbrev wsX40 : List Cond := u_ws RX4 TX4 5
theorem nmX4 : ∀ a, a < 5 → ∀ b, b < 5 → a ≠ b → (TX4 a).2.1 ≠ (TX4 b).2.1 := by decide +kernel
theorem tyX4_ok : ∀ k, k < 5 → parseFieldDescriptor (TX4 k).2.2.1 = some (tyX4 k) := by decide +kernel
abbrev cX4_init : ByteArray := prog_6_method_1_code
def yX4_init : MethodName := ⟨RX4, "<init>", "()V"⟩
abbrev cX4_storeBest : ByteArray := prog_6_method_2_code
def yX4_storeBest : MethodName := ⟨RX4, "storeBest", "(LWaterThanks$Land;LWaterThanks$Water;)I"⟩
abbrev cX4_fillBests : ByteArray := prog_6_method_3_code
def yX4_fillBests : MethodName := ⟨RX4, "fillBests", "(LWaterThanks$Land;LWaterThanks$Water;II)V"⟩
abbrev cX4_choose : ByteArray := prog_6_method_4_code
def yX4_choose : MethodName := ⟨RX4, "choose", "(III)V"⟩
def RX5 : String := "WaterThanks$Treaty"
def TX5 : u_T := fun k => match k with
  | 0 => ("WaterThanks$Treaty", "lines", "I", false)
  | 1 => ("WaterThanks$Treaty", "villages", "[I", true)
  | 2 => ("WaterThanks$Treaty", "amounts", "[I", true)
  | 3 => ("WaterThanks$Treaty", "ends", "[I", true)
  | 4 => ("WaterThanks$Treaty", "steps", "[I", true)
  | _ => ("WaterThanks$Treaty", "stepCount", "I", false)
def tyX5 : Nat → FieldType := fun k => match k with
  | 0 => .int
  | 1 => .array .int
  | 2 => .array .int
  | 3 => .array .int
  | 4 => .array .int
  | _ => .int
abbrev wsX50 : List Cond := u_ws RX5 TX5 6
theorem nmX5 : ∀ a, a < 6 → ∀ b, b < 6 → a ≠ b → (TX5 a).2.1 ≠ (TX5 b).2.1 := by decide +kernel
theorem tyX5_ok : ∀ k, k < 6 → parseFieldDescriptor (TX5 k).2.2.1 = some (tyX5 k) := by decide +kernel
abbrev cX5_init : ByteArray := prog_7_method_1_code
def yX5_init : MethodName := ⟨RX5, "<init>", "()V"⟩
abbrev cX5_clear : ByteArray := prog_7_method_2_code
def yX5_clear : MethodName := ⟨RX5, "clear", "()V"⟩
abbrev cX5_addStep : ByteArray := prog_7_method_3_code
def yX5_addStep : MethodName := ⟨RX5, "addStep", "(I)V"⟩
abbrev cX5_comparison : ByteArray := prog_7_method_4_code
def yX5_comparison : MethodName := ⟨RX5, "comparison", "(III)I"⟩
abbrev cX5_endLine : ByteArray := prog_7_method_5_code
def yX5_endLine : MethodName := ⟨RX5, "endLine", "(II)V"⟩
abbrev cX5_toldFor : ByteArray := prog_7_method_6_code
def yX5_toldFor : MethodName := ⟨RX5, "toldFor", "(IIII)I"⟩
abbrev cX5_holds : ByteArray := prog_7_method_7_code
def yX5_holds : MethodName := ⟨RX5, "holds", "(IIIII)Z"⟩
abbrev cX5_compares : ByteArray := prog_7_method_8_code
def yX5_compares : MethodName := ⟨RX5, "compares", "(IIII)Z"⟩
abbrev cX5_valueOf : ByteArray := prog_7_method_9_code
def yX5_valueOf : MethodName := ⟨RX5, "valueOf", "(IIII)I"⟩
abbrev cX5_copyFrom : ByteArray := prog_7_method_10_code
def yX5_copyFrom : MethodName := ⟨RX5, "copyFrom", "(LWaterThanks$Treaty;)V"⟩
def RX6 : String := "WaterThanks$TreatyReader"
def TX6 : u_T := fun k => match k with
  | 0 => ("WaterThanks$TreatyReader", "bytes", "I", false)
  | 1 => ("WaterThanks$TreatyReader", "draft", "LWaterThanks$Treaty;", true)
  | 2 => ("WaterThanks$TreatyReader", "tape", "[I", true)
  | 3 => ("WaterThanks$TreatyReader", "kinds", "[I", true)
  | 4 => ("WaterThanks$TreatyReader", "numbers", "[I", true)
  | 5 => ("WaterThanks$TreatyReader", "places", "[I", true)
  | _ => ("WaterThanks$TreatyReader", "at", "I", false)
def tyX6 : Nat → FieldType := fun k => match k with
  | 0 => .int
  | 1 => .object "WaterThanks$Treaty"
  | 2 => .array .int
  | 3 => .array .int
  | 4 => .array .int
  | 5 => .array .int
  | _ => .int
abbrev wsX60 : List Cond := u_ws RX6 TX6 7
theorem nmX6 : ∀ a, a < 7 → ∀ b, b < 7 → a ≠ b → (TX6 a).2.1 ≠ (TX6 b).2.1 := by decide +kernel
theorem tyX6_ok : ∀ k, k < 7 → parseFieldDescriptor (TX6 k).2.2.1 = some (tyX6 k) := by decide +kernel
abbrev cX6_init : ByteArray := prog_8_method_1_code
def yX6_init : MethodName := ⟨RX6, "<init>", "()V"⟩
abbrev cX6_takeBytes : ByteArray := prog_8_method_2_code
def yX6_takeBytes : MethodName := ⟨RX6, "takeBytes", "(JI)Z"⟩
abbrev cX6_readText : ByteArray := prog_8_method_3_code
def yX6_readText : MethodName := ⟨RX6, "readText", "()I"⟩
abbrev cX6_split : ByteArray := prog_8_method_4_code
def yX6_split : MethodName := ⟨RX6, "split", "()V"⟩
abbrev cX6_isLetter : ByteArray := prog_8_method_5_code
def yX6_isLetter : MethodName := ⟨RX6, "isLetter", "(I)Z"⟩
abbrev cX6_isDigit : ByteArray := prog_8_method_6_code
def yX6_isDigit : MethodName := ⟨RX6, "isDigit", "(I)Z"⟩
abbrev cX6_belongTogether : ByteArray := prog_8_method_7_code
def yX6_belongTogether : MethodName := ⟨RX6, "belongTogether", "(II)Z"⟩
abbrev cX6_beginsPart : ByteArray := prog_8_method_8_code
def yX6_beginsPart : MethodName := ⟨RX6, "beginsPart", "(I)Z"⟩
abbrev cX6_endOfPart : ByteArray := prog_8_method_9_code
def yX6_endOfPart : MethodName := ⟨RX6, "endOfPart", "(I)I"⟩
abbrev cX6_kindOfPart : ByteArray := prog_8_method_10_code
def yX6_kindOfPart : MethodName := ⟨RX6, "kindOfPart", "(II)I"⟩
abbrev cX6_kindOfWord : ByteArray := prog_8_method_11_code
def yX6_kindOfWord : MethodName := ⟨RX6, "kindOfWord", "(II)I"⟩
abbrev cX6_isWord : ByteArray := prog_8_method_12_code
def yX6_isWord : MethodName := ⟨RX6, "isWord", "(Ljava/lang/String;II)Z"⟩
abbrev cX6_numberOf : ByteArray := prog_8_method_13_code
def yX6_numberOf : MethodName := ⟨RX6, "numberOf", "(II)I"⟩
abbrev cX6_readLine : ByteArray := prog_8_method_14_code
def yX6_readLine : MethodName := ⟨RX6, "readLine", "()Z"⟩
abbrev cX6_pass : ByteArray := prog_8_method_15_code
def yX6_pass : MethodName := ⟨RX6, "pass", "(I)Z"⟩
abbrev cX6_isNumber : ByteArray := prog_8_method_16_code
def yX6_isNumber : MethodName := ⟨RX6, "isNumber", "(I)Z"⟩
abbrev cX6_readCondition : ByteArray := prog_8_method_17_code
def yX6_readCondition : MethodName := ⟨RX6, "readCondition", "(I)Z"⟩
abbrev cX6_readOne : ByteArray := prog_8_method_18_code
def yX6_readOne : MethodName := ⟨RX6, "readOne", "(I)Z"⟩
abbrev cX6_readComparison : ByteArray := prog_8_method_19_code
def yX6_readComparison : MethodName := ⟨RX6, "readComparison", "()Z"⟩
abbrev cX6_value : ByteArray := prog_8_method_20_code
def yX6_value : MethodName := ⟨RX6, "value", "()I"⟩
def RX7 : String := "WaterThanks$Water"
def TX7 : u_T := fun k => match k with
  | 0 => ("WaterThanks$Water", "inflow", "[I", true)
  | 1 => ("WaterThanks$Water", "comes", "[I", true)
  | 2 => ("WaterThanks$Water", "lets", "[I", true)
  | 3 => ("WaterThanks$Water", "uses", "[I", true)
  | 4 => ("WaterThanks$Water", "passes", "[I", true)
  | 5 => ("WaterThanks$Water", "makes", "[I", true)
  | _ => ("WaterThanks$Water", "mostFrom", "[[I", true)
def tyX7 : Nat → FieldType := fun k => match k with
  | 0 => .array .int
  | 1 => .array .int
  | 2 => .array .int
  | 3 => .array .int
  | 4 => .array .int
  | 5 => .array .int
  | _ => .array (.array .int)
abbrev wsX70 : List Cond := u_ws RX7 TX7 7
theorem nmX7 : ∀ a, a < 7 → ∀ b, b < 7 → a ≠ b → (TX7 a).2.1 ≠ (TX7 b).2.1 := by decide +kernel
theorem tyX7_ok : ∀ k, k < 7 → parseFieldDescriptor (TX7 k).2.2.1 = some (tyX7 k) := by decide +kernel
abbrev cX7_init : ByteArray := prog_9_method_1_code
def yX7_init : MethodName := ⟨RX7, "<init>", "()V"⟩
abbrev cX7_fill : ByteArray := prog_9_method_2_code
def yX7_fill : MethodName := ⟨RX7, "fill", "(LWaterThanks$Land;I)V"⟩
abbrev cX7_mostMade : ByteArray := prog_9_method_3_code
def yX7_mostMade : MethodName := ⟨RX7, "mostMade", "(LWaterThanks$Land;II)I"⟩
abbrev cX7_leastBestUse : ByteArray := prog_9_method_4_code
def yX7_leastBestUse : MethodName := ⟨RX7, "leastBestUse", "(LWaterThanks$Land;II)I"⟩
abbrev cX7_followBest : ByteArray := prog_9_method_5_code
def yX7_followBest : MethodName := ⟨RX7, "followBest", "(LWaterThanks$Land;I)V"⟩
abbrev cX7_follow : ByteArray := prog_9_method_6_code
def yX7_follow : MethodName := ⟨RX7, "follow", "(LWaterThanks$Land;II)I"⟩
abbrev cX7_settle : ByteArray := prog_9_method_7_code
def yX7_settle : MethodName := ⟨RX7, "settle", "(LWaterThanks$Land;II)V"⟩
def RX8 : String := "WaterThanks"
def TX8 : u_T := fun k => match k with
  | 0 => ("WaterThanks", "now", "LWaterThanks$Land;", true)
  | 1 => ("WaterThanks", "saved", "LWaterThanks$Land;", true)
  | 2 => ("WaterThanks", "hasSaved", "Z", false)
  | 3 => ("WaterThanks", "water", "LWaterThanks$Water;", true)
  | 4 => ("WaterThanks", "storage", "LWaterThanks$Storage;", true)
  | 5 => ("WaterThanks", "dirt", "LWaterThanks$Dirt;", true)
  | 6 => ("WaterThanks", "reader", "LWaterThanks$TreatyReader;", true)
  | 7 => ("WaterThanks", "shares", "[I", true)
  | 8 => ("WaterThanks", "rows", "[[I", true)
  | 9 => ("WaterThanks", "rowCount", "I", false)
  | 10 => ("WaterThanks", "sheets", "[LWaterThanks$Sheet;", true)
  | 11 => ("WaterThanks", "shelfKinds", "[I", true)
  | 12 => ("WaterThanks", "shelfNumbers", "[I", true)
  | _ => ("WaterThanks", "acts", "LWaterThanks$Acts;", true)
def tyX8 : Nat → FieldType := fun k => match k with
  | 0 => .object "WaterThanks$Land"
  | 1 => .object "WaterThanks$Land"
  | 2 => .boolean
  | 3 => .object "WaterThanks$Water"
  | 4 => .object "WaterThanks$Storage"
  | 5 => .object "WaterThanks$Dirt"
  | 6 => .object "WaterThanks$TreatyReader"
  | 7 => .array .int
  | 8 => .array (.array .int)
  | 9 => .int
  | 10 => .array (.object "WaterThanks$Sheet")
  | 11 => .array .int
  | 12 => .array .int
  | _ => .object "WaterThanks$Acts"
abbrev wsX80 : List Cond := u_ws RX8 TX8 14
theorem nmX8 : ∀ a, a < 14 → ∀ b, b < 14 → a ≠ b → (TX8 a).2.1 ≠ (TX8 b).2.1 := by decide +kernel
theorem tyX8_ok : ∀ k, k < 14 → parseFieldDescriptor (TX8 k).2.2.1 = some (tyX8 k) := by decide +kernel
abbrev cX8_init : ByteArray := prog_1_method_1_code
def yX8_init : MethodName := ⟨RX8, "<init>", "()V"⟩
abbrev cX8_village : ByteArray := prog_1_method_2_code
def yX8_village : MethodName := ⟨RX8, "village", "(I)I"⟩
abbrev cX8_villageOf : ByteArray := prog_1_method_3_code
def yX8_villageOf : MethodName := ⟨RX8, "villageOf", "(II)I"⟩
abbrev cX8_set : ByteArray := prog_1_method_4_code
def yX8_set : MethodName := ⟨RX8, "set", "(III)I"⟩
abbrev cX8_worths : ByteArray := prog_1_method_5_code
def yX8_worths : MethodName := ⟨RX8, "worths", "(II)I"⟩
abbrev cX8_worth : ByteArray := prog_1_method_6_code
def yX8_worth : MethodName := ⟨RX8, "worth", "(II)I"⟩
abbrev cX8_best : ByteArray := prog_1_method_7_code
def yX8_best : MethodName := ⟨RX8, "best", "(I)I"⟩
abbrev cX8_use : ByteArray := prog_1_method_8_code
def yX8_use : MethodName := ⟨RX8, "use", "(II)I"⟩
abbrev cX8_price : ByteArray := prog_1_method_9_code
def yX8_price : MethodName := ⟨RX8, "price", "(I)I"⟩
abbrev cX8_run : ByteArray := prog_1_method_10_code
def yX8_run : MethodName := ⟨RX8, "run", "(II)I"⟩
abbrev cX8_most : ByteArray := prog_1_method_11_code
def yX8_most : MethodName := ⟨RX8, "most", "(I)I"⟩
abbrev cX8_share : ByteArray := prog_1_method_12_code
def yX8_share : MethodName := ⟨RX8, "share", "(III)I"⟩
abbrev cX8_broken : ByteArray := prog_1_method_13_code
def yX8_broken : MethodName := ⟨RX8, "broken", "(I)I"⟩
abbrev cX8_lawful : ByteArray := prog_1_method_14_code
def yX8_lawful : MethodName := ⟨RX8, "lawful", "(I)I"⟩
abbrev cX8_cleaning : ByteArray := prog_1_method_15_code
def yX8_cleaning : MethodName := ⟨RX8, "cleaning", "(I)I"⟩
abbrev cX8_year : ByteArray := prog_1_method_16_code
def yX8_year : MethodName := ⟨RX8, "year", "(I)I"⟩
abbrev cX8_yearOf : ByteArray := prog_1_method_17_code
def yX8_yearOf : MethodName := ⟨RX8, "yearOf", "(II)I"⟩
abbrev cX8_dam : ByteArray := prog_1_method_18_code
def yX8_dam : MethodName := ⟨RX8, "dam", "(II)I"⟩
abbrev cX8_kept : ByteArray := prog_1_method_19_code
def yX8_kept : MethodName := ⟨RX8, "kept", "(I)I"⟩
abbrev cX8_feed : ByteArray := prog_1_method_20_code
def yX8_feed : MethodName := ⟨RX8, "feed", "(JI)I"⟩
abbrev cX8_read : ByteArray := prog_1_method_21_code
def yX8_read : MethodName := ⟨RX8, "read", "()I"⟩
abbrev cX8_treaty : ByteArray := prog_1_method_22_code
def yX8_treaty : MethodName := ⟨RX8, "treaty", "(III)I"⟩
abbrev cX8_lost : ByteArray := prog_1_method_23_code
def yX8_lost : MethodName := ⟨RX8, "lost", "()I"⟩
abbrev cX8_plain : ByteArray := prog_1_method_24_code
def yX8_plain : MethodName := ⟨RX8, "plain", "(I)I"⟩
abbrev cX8_breaks : ByteArray := prog_1_method_25_code
def yX8_breaks : MethodName := ⟨RX8, "breaks", "(I)I"⟩
abbrev cX8_prove : ByteArray := prog_1_method_26_code
def yX8_prove : MethodName := ⟨RX8, "prove", "()I"⟩
abbrev cX8_row : ByteArray := prog_1_method_27_code
def yX8_row : MethodName := ⟨RX8, "row", "(II)I"⟩
abbrev cX8_alterRow : ByteArray := prog_1_method_28_code
def yX8_alterRow : MethodName := ⟨RX8, "alterRow", "(III)I"⟩
abbrev cX8_judge : ByteArray := prog_1_method_29_code
def yX8_judge : MethodName := ⟨RX8, "judge", "()I"⟩
abbrev cX8_sheet : ByteArray := prog_1_method_30_code
def yX8_sheet : MethodName := ⟨RX8, "sheet", "(III)I"⟩
abbrev cX8_put : ByteArray := prog_1_method_31_code
def yX8_put : MethodName := ⟨RX8, "put", "(III)I"⟩
abbrev cX8_item : ByteArray := prog_1_method_32_code
def yX8_item : MethodName := ⟨RX8, "item", "(III)I"⟩
abbrev cX8_flows : ByteArray := prog_1_method_33_code
def yX8_flows : MethodName := ⟨RX8, "flows", "(IIII)I"⟩
abbrev cX8_shelf : ByteArray := prog_1_method_34_code
def yX8_shelf : MethodName := ⟨RX8, "shelf", "(III)I"⟩
abbrev cX8_taken : ByteArray := prog_1_method_35_code
def yX8_taken : MethodName := ⟨RX8, "taken", "(II)I"⟩
abbrev cX8_act : ByteArray := prog_1_method_36_code
def yX8_act : MethodName := ⟨RX8, "act", "(III)I"⟩
abbrev cX8_trace : ByteArray := prog_1_method_37_code
def yX8_trace : MethodName := ⟨RX8, "trace", "(I)I"⟩
abbrev cX8_many : ByteArray := prog_1_method_38_code
def yX8_many : MethodName := ⟨RX8, "many", "(I)I"⟩
abbrev cX8_keep : ByteArray := prog_1_method_39_code
def yX8_keep : MethodName := ⟨RX8, "keep", "()I"⟩
abbrev cX8_again : ByteArray := prog_1_method_40_code
def yX8_again : MethodName := ⟨RX8, "again", "()I"⟩
abbrev cX8_within : ByteArray := prog_1_method_41_code
def yX8_within : MethodName := ⟨RX8, "within", "(III)Z"⟩
abbrev cX8_isWet : ByteArray := prog_1_method_42_code
def yX8_isWet : MethodName := ⟨RX8, "isWet", "(I)Z"⟩
abbrev cX8_isSheet : ByteArray := prog_1_method_43_code
def yX8_isSheet : MethodName := ⟨RX8, "isSheet", "(I)Z"⟩
abbrev cX8_isShelf : ByteArray := prog_1_method_44_code
def yX8_isShelf : MethodName := ⟨RX8, "isShelf", "(I)Z"⟩
abbrev cX8_isFact : ByteArray := prog_1_method_45_code
def yX8_isFact : MethodName := ⟨RX8, "isFact", "(II)Z"⟩
abbrev cX8_isVillage : ByteArray := prog_1_method_46_code
def yX8_isVillage : MethodName := ⟨RX8, "isVillage", "(I)Z"⟩
abbrev cX8_isYear : ByteArray := prog_1_method_47_code
def yX8_isYear : MethodName := ⟨RX8, "isYear", "(I)Z"⟩
abbrev cX8_isRowPart : ByteArray := prog_1_method_48_code
def yX8_isRowPart : MethodName := ⟨RX8, "isRowPart", "(II)Z"⟩
abbrev cX8_tellsWorths : ByteArray := prog_1_method_49_code
def yX8_tellsWorths : MethodName := ⟨RX8, "tellsWorths", "(LWaterThanks$Sheet;)Z"⟩
abbrev cX8_tellsThanks : ByteArray := prog_1_method_50_code
def yX8_tellsThanks : MethodName := ⟨RX8, "tellsThanks", "(LWaterThanks$Sheet;)Z"⟩
abbrev cX8_bestOf : ByteArray := prog_1_method_51_code
def yX8_bestOf : MethodName := ⟨RX8, "bestOf", "(I)I"⟩
abbrev cX8_madeInBest : ByteArray := prog_1_method_52_code
def yX8_madeInBest : MethodName := ⟨RX8, "madeInBest", "(I)I"⟩
abbrev cX8_bestOfYears : ByteArray := prog_1_method_53_code
def yX8_bestOfYears : MethodName := ⟨RX8, "bestOfYears", "()I"⟩
abbrev cX8_madeInYears : ByteArray := prog_1_method_54_code
def yX8_madeInYears : MethodName := ⟨RX8, "madeInYears", "(I)I"⟩
abbrev cX8_mostOf : ByteArray := prog_1_method_55_code
def yX8_mostOf : MethodName := ⟨RX8, "mostOf", "(I)I"⟩
abbrev cX8_fillShares : ByteArray := prog_1_method_56_code
def yX8_fillShares : MethodName := ⟨RX8, "fillShares", "(I)V"⟩
abbrev cX8_fillSharesDown : ByteArray := prog_1_method_57_code
def yX8_fillSharesDown : MethodName := ⟨RX8, "fillSharesDown", "()V"⟩
abbrev cX8_fillSharesUp : ByteArray := prog_1_method_58_code
def yX8_fillSharesUp : MethodName := ⟨RX8, "fillSharesUp", "()V"⟩
abbrev cX8_fillSharesEqual : ByteArray := prog_1_method_59_code
def yX8_fillSharesEqual : MethodName := ⟨RX8, "fillSharesEqual", "()V"⟩
abbrev cX8_breakOfShares : ByteArray := prog_1_method_60_code
def yX8_breakOfShares : MethodName := ⟨RX8, "breakOfShares", "()I"⟩
abbrev cX8_isRight : ByteArray := prog_1_method_61_code
def yX8_isRight : MethodName := ⟨RX8, "isRight", "(II)Z"⟩
abbrev cX8_heldOn : ByteArray := prog_1_method_62_code
def yX8_heldOn : MethodName := ⟨RX8, "heldOn", "(I)I"⟩
abbrev cX8_isUnder : ByteArray := prog_1_method_63_code
def yX8_isUnder : MethodName := ⟨RX8, "isUnder", "(II)Z"⟩
abbrev cX8_amountOf : ByteArray := prog_1_method_64_code
def yX8_amountOf : MethodName := ⟨RX8, "amountOf", "(II)I"⟩
def RX9 : String := "WaterThanksModel"
def TX9 : u_T := fun k => match k with
  | 0 => ("WaterThanksModel", "now", "[I", true)
  | 1 => ("WaterThanksModel", "kept", "[I", true)
  | 2 => ("WaterThanksModel", "isKept", "Z", false)
  | 3 => ("WaterThanksModel", "most", "[I", true)
  | 4 => ("WaterThanksModel", "uses", "[I", true)
  | 5 => ("WaterThanksModel", "flow", "[I", true)
  | 6 => ("WaterThanksModel", "used", "[I", true)
  | 7 => ("WaterThanksModel", "passed", "[I", true)
  | 8 => ("WaterThanksModel", "made", "[I", true)
  | 9 => ("WaterThanksModel", "shares", "[I", true)
  | 10 => ("WaterThanksModel", "coins", "[I", true)
  | 11 => ("WaterThanksModel", "cleans", "[I", true)
  | 12 => ("WaterThanksModel", "total", "[I", true)
  | 13 => ("WaterThanksModel", "behind", "[I", true)
  | 14 => ("WaterThanksModel", "yearBest", "[I", true)
  | 15 => ("WaterThanksModel", "canHold", "[Z", true)
  | 16 => ("WaterThanksModel", "tape", "[I", true)
  | 17 => ("WaterThanksModel", "taped", "I", false)
  | 18 => ("WaterThanksModel", "from", "I", false)
  | 19 => ("WaterThanksModel", "to", "I", false)
  | 20 => ("WaterThanksModel", "isFault", "Z", false)
  | 21 => ("WaterThanksModel", "open", "I", false)
  | 22 => ("WaterThanksModel", "codes", "I", false)
  | 23 => ("WaterThanksModel", "fresh", "[I", true)
  | 24 => ("WaterThanksModel", "freshLines", "[I", true)
  | 25 => ("WaterThanksModel", "pile", "[I", true)
  | 26 => ("WaterThanksModel", "comes", "[I", true)
  | 27 => ("WaterThanksModel", "lets", "[I", true)
  | 28 => ("WaterThanksModel", "takes", "[I", true)
  | 29 => ("WaterThanksModel", "makes", "[I", true)
  | 30 => ("WaterThanksModel", "rows", "[I", true)
  | 31 => ("WaterThanksModel", "rowMany", "I", false)
  | 32 => ("WaterThanksModel", "sorts", "[I", true)
  | 33 => ("WaterThanksModel", "sizes", "[I", true)
  | 34 => ("WaterThanksModel", "items", "[I", true)
  | 35 => ("WaterThanksModel", "shelves", "[I", true)
  | 36 => ("WaterThanksModel", "shelfKind", "[I", true)
  | 37 => ("WaterThanksModel", "shelfOf", "[I", true)
  | 38 => ("WaterThanksModel", "trace", "[I", true)
  | 39 => ("WaterThanksModel", "traced", "I", false)
  | 40 => ("WaterThanksModel", "kind", "I", false)
  | 41 => ("WaterThanksModel", "its", "I", false)
  | 42 => ("WaterThanksModel", "number", "I", false)
  | _ => ("WaterThanksModel", "isParted", "Z", false)
def tyX9 : Nat → FieldType := fun k => match k with
  | 0 => .array .int
  | 1 => .array .int
  | 2 => .boolean
  | 3 => .array .int
  | 4 => .array .int
  | 5 => .array .int
  | 6 => .array .int
  | 7 => .array .int
  | 8 => .array .int
  | 9 => .array .int
  | 10 => .array .int
  | 11 => .array .int
  | 12 => .array .int
  | 13 => .array .int
  | 14 => .array .int
  | 15 => .array .boolean
  | 16 => .array .int
  | 17 => .int
  | 18 => .int
  | 19 => .int
  | 20 => .boolean
  | 21 => .int
  | 22 => .int
  | 23 => .array .int
  | 24 => .array .int
  | 25 => .array .int
  | 26 => .array .int
  | 27 => .array .int
  | 28 => .array .int
  | 29 => .array .int
  | 30 => .array .int
  | 31 => .int
  | 32 => .array .int
  | 33 => .array .int
  | 34 => .array .int
  | 35 => .array .int
  | 36 => .array .int
  | 37 => .array .int
  | 38 => .array .int
  | 39 => .int
  | 40 => .int
  | 41 => .int
  | 42 => .int
  | _ => .boolean
abbrev wsX90 : List Cond := u_ws RX9 TX9 44
theorem nmX9 : ∀ a, a < 44 → ∀ b, b < 44 → a ≠ b → (TX9 a).2.1 ≠ (TX9 b).2.1 := by decide +kernel
theorem tyX9_ok : ∀ k, k < 44 → parseFieldDescriptor (TX9 k).2.2.1 = some (tyX9 k) := by decide +kernel
abbrev cX9_init : ByteArray := prog_11_method_1_code
def yX9_init : MethodName := ⟨RX9, "<init>", "()V"⟩
abbrev cX9_in : ByteArray := prog_11_method_2_code
def yX9_in : MethodName := ⟨RX9, "in", "(III)Z"⟩
abbrev cX9_isVillage : ByteArray := prog_11_method_3_code
def yX9_isVillage : MethodName := ⟨RX9, "isVillage", "(I)Z"⟩
abbrev cX9_at : ByteArray := prog_11_method_4_code
def yX9_at : MethodName := ⟨RX9, "at", "(II)I"⟩
abbrev cX9_of : ByteArray := prog_11_method_5_code
def yX9_of : MethodName := ⟨RX9, "of", "(II)I"⟩
abbrev cX9_village : ByteArray := prog_11_method_6_code
def yX9_village : MethodName := ⟨RX9, "village", "(I)I"⟩
abbrev cX9_villageOf : ByteArray := prog_11_method_7_code
def yX9_villageOf : MethodName := ⟨RX9, "villageOf", "(II)I"⟩
abbrev cX9_fits : ByteArray := prog_11_method_8_code
def yX9_fits : MethodName := ⟨RX9, "fits", "(II)Z"⟩
abbrev cX9_set : ByteArray := prog_11_method_9_code
def yX9_set : MethodName := ⟨RX9, "set", "(III)I"⟩
abbrev cX9_first : ByteArray := prog_11_method_10_code
def yX9_first : MethodName := ⟨RX9, "first", "(II)I"⟩
abbrev cX9_worth : ByteArray := prog_11_method_11_code
def yX9_worth : MethodName := ⟨RX9, "worth", "(II)I"⟩
abbrev cX9_flows : ByteArray := prog_11_method_12_code
def yX9_flows : MethodName := ⟨RX9, "flows", "(I)V"⟩
abbrev cX9_harm : ByteArray := prog_11_method_13_code
def yX9_harm : MethodName := ⟨RX9, "harm", "(II)I"⟩
abbrev cX9_mostOf : ByteArray := prog_11_method_14_code
def yX9_mostOf : MethodName := ⟨RX9, "mostOf", "(II)I"⟩
abbrev cX9_bestOf : ByteArray := prog_11_method_15_code
def yX9_bestOf : MethodName := ⟨RX9, "bestOf", "(I)I"⟩
abbrev cX9_best : ByteArray := prog_11_method_16_code
def yX9_best : MethodName := ⟨RX9, "best", "(I)I"⟩
abbrev cX9_findBest : ByteArray := prog_11_method_17_code
def yX9_findBest : MethodName := ⟨RX9, "findBest", "()I"⟩
abbrev cX9_use : ByteArray := prog_11_method_18_code
def yX9_use : MethodName := ⟨RX9, "use", "(II)I"⟩
abbrev cX9_price : ByteArray := prog_11_method_19_code
def yX9_price : MethodName := ⟨RX9, "price", "(I)I"⟩
abbrev cX9_runOf : ByteArray := prog_11_method_20_code
def yX9_runOf : MethodName := ⟨RX9, "runOf", "(II)I"⟩
abbrev cX9_run : ByteArray := prog_11_method_21_code
def yX9_run : MethodName := ⟨RX9, "run", "(II)I"⟩
abbrev cX9_mostFor : ByteArray := prog_11_method_22_code
def yX9_mostFor : MethodName := ⟨RX9, "mostFor", "(I)I"⟩
abbrev cX9_most : ByteArray := prog_11_method_23_code
def yX9_most : MethodName := ⟨RX9, "most", "(I)I"⟩
abbrev cX9_canUse : ByteArray := prog_11_method_24_code
def yX9_canUse : MethodName := ⟨RX9, "canUse", "(II)I"⟩
abbrev cX9_findShares : ByteArray := prog_11_method_25_code
def yX9_findShares : MethodName := ⟨RX9, "findShares", "(I)V"⟩
abbrev cX9_share : ByteArray := prog_11_method_26_code
def yX9_share : MethodName := ⟨RX9, "share", "(III)I"⟩
abbrev cX9_breakOf : ByteArray := prog_11_method_27_code
def yX9_breakOf : MethodName := ⟨RX9, "breakOf", "()I"⟩
abbrev cX9_broken : ByteArray := prog_11_method_28_code
def yX9_broken : MethodName := ⟨RX9, "broken", "(I)I"⟩
abbrev cX9_findCleaning : ByteArray := prog_11_method_29_code
def yX9_findCleaning : MethodName := ⟨RX9, "findCleaning", "()V"⟩
abbrev cX9_cleaning : ByteArray := prog_11_method_30_code
def yX9_cleaning : MethodName := ⟨RX9, "cleaning", "(I)I"⟩
abbrev cX9_year : ByteArray := prog_11_method_31_code
def yX9_year : MethodName := ⟨RX9, "year", "(I)I"⟩
abbrev cX9_yearOf : ByteArray := prog_11_method_32_code
def yX9_yearOf : MethodName := ⟨RX9, "yearOf", "(II)I"⟩
abbrev cX9_dam : ByteArray := prog_11_method_33_code
def yX9_dam : MethodName := ⟨RX9, "dam", "(II)I"⟩
abbrev cX9_findYear : ByteArray := prog_11_method_34_code
def yX9_findYear : MethodName := ⟨RX9, "findYear", "(I)V"⟩
abbrev cX9_findKept : ByteArray := prog_11_method_35_code
def yX9_findKept : MethodName := ⟨RX9, "findKept", "()V"⟩
abbrev cX9_kept : ByteArray := prog_11_method_36_code
def yX9_kept : MethodName := ⟨RX9, "kept", "(I)I"⟩
abbrev cX9_feed : ByteArray := prog_11_method_37_code
def yX9_feed : MethodName := ⟨RX9, "feed", "(JI)I"⟩
abbrev cX9_isLetter : ByteArray := prog_11_method_38_code
def yX9_isLetter : MethodName := ⟨RX9, "isLetter", "(I)Z"⟩
abbrev cX9_isDigit : ByteArray := prog_11_method_39_code
def yX9_isDigit : MethodName := ⟨RX9, "isDigit", "(I)Z"⟩
abbrev cX9_next : ByteArray := prog_11_method_40_code
def yX9_next : MethodName := ⟨RX9, "next", "()V"⟩
abbrev cX9_need : ByteArray := prog_11_method_41_code
def yX9_need : MethodName := ⟨RX9, "need", "(Z)V"⟩
abbrev cX9_isWord : ByteArray := prog_11_method_42_code
def yX9_isWord : MethodName := ⟨RX9, "isWord", "(Ljava/lang/String;)Z"⟩
abbrev cX9_number : ByteArray := prog_11_method_43_code
def yX9_number : MethodName := ⟨RX9, "number", "(I)I"⟩
abbrev cX9_put : ByteArray := prog_11_method_44_code
def yX9_put : MethodName := ⟨RX9, "put", "(I)V"⟩
abbrev cX9_value : ByteArray := prog_11_method_45_code
def yX9_value : MethodName := ⟨RX9, "value", "()V"⟩
abbrev cX9_one : ByteArray := prog_11_method_46_code
def yX9_one : MethodName := ⟨RX9, "one", "()V"⟩
abbrev cX9_all : ByteArray := prog_11_method_47_code
def yX9_all : MethodName := ⟨RX9, "all", "()V"⟩
abbrev cX9_cond : ByteArray := prog_11_method_48_code
def yX9_cond : MethodName := ⟨RX9, "cond", "()V"⟩
abbrev cX9_line : ByteArray := prog_11_method_49_code
def yX9_line : MethodName := ⟨RX9, "line", "(I)V"⟩
abbrev cX9_read : ByteArray := prog_11_method_50_code
def yX9_read : MethodName := ⟨RX9, "read", "()I"⟩
abbrev cX9_holds : ByteArray := prog_11_method_51_code
def yX9_holds : MethodName := ⟨RX9, "holds", "(IIII)Z"⟩
abbrev cX9_letsOf : ByteArray := prog_11_method_52_code
def yX9_letsOf : MethodName := ⟨RX9, "letsOf", "(III)I"⟩
abbrev cX9_goBy : ByteArray := prog_11_method_53_code
def yX9_goBy : MethodName := ⟨RX9, "goBy", "(II)I"⟩
abbrev cX9_treaty : ByteArray := prog_11_method_54_code
def yX9_treaty : MethodName := ⟨RX9, "treaty", "(III)I"⟩
abbrev cX9_bestYears : ByteArray := prog_11_method_55_code
def yX9_bestYears : MethodName := ⟨RX9, "bestYears", "()I"⟩
abbrev cX9_goYears : ByteArray := prog_11_method_56_code
def yX9_goYears : MethodName := ⟨RX9, "goYears", "(I)I"⟩
abbrev cX9_lost : ByteArray := prog_11_method_57_code
def yX9_lost : MethodName := ⟨RX9, "lost", "()I"⟩
abbrev cX9_plain : ByteArray := prog_11_method_58_code
def yX9_plain : MethodName := ⟨RX9, "plain", "(I)I"⟩
abbrev cX9_breaks : ByteArray := prog_11_method_59_code
def yX9_breaks : MethodName := ⟨RX9, "breaks", "(I)I"⟩
abbrev cX9_prove : ByteArray := prog_11_method_60_code
def yX9_prove : MethodName := ⟨RX9, "prove", "()I"⟩
abbrev cX9_isRow : ByteArray := prog_11_method_61_code
def yX9_isRow : MethodName := ⟨RX9, "isRow", "(II)Z"⟩
abbrev cX9_row : ByteArray := prog_11_method_62_code
def yX9_row : MethodName := ⟨RX9, "row", "(II)I"⟩
abbrev cX9_alterRow : ByteArray := prog_11_method_63_code
def yX9_alterRow : MethodName := ⟨RX9, "alterRow", "(III)I"⟩
abbrev cX9_judge : ByteArray := prog_11_method_64_code
def yX9_judge : MethodName := ⟨RX9, "judge", "()I"⟩
abbrev cX9_isFour : ByteArray := prog_11_method_65_code
def yX9_isFour : MethodName := ⟨RX9, "isFour", "(I)Z"⟩
abbrev cX9_sheet : ByteArray := prog_11_method_66_code
def yX9_sheet : MethodName := ⟨RX9, "sheet", "(III)I"⟩
abbrev cX9_put_ : ByteArray := prog_11_method_67_code
def yX9_put_ : MethodName := ⟨RX9, "put", "(III)I"⟩
abbrev cX9_notOf : ByteArray := prog_11_method_68_code
def yX9_notOf : MethodName := ⟨RX9, "notOf", "(II)I"⟩
abbrev cX9_item : ByteArray := prog_11_method_69_code
def yX9_item : MethodName := ⟨RX9, "item", "(III)I"⟩
abbrev cX9_worths : ByteArray := prog_11_method_70_code
def yX9_worths : MethodName := ⟨RX9, "worths", "(II)I"⟩
abbrev cX9_lawful : ByteArray := prog_11_method_71_code
def yX9_lawful : MethodName := ⟨RX9, "lawful", "(I)I"⟩
abbrev cX9_flows_ : ByteArray := prog_11_method_72_code
def yX9_flows_ : MethodName := ⟨RX9, "flows", "(IIII)I"⟩
abbrev cX9_shelf : ByteArray := prog_11_method_73_code
def yX9_shelf : MethodName := ⟨RX9, "shelf", "(III)I"⟩
abbrev cX9_isThing : ByteArray := prog_11_method_74_code
def yX9_isThing : MethodName := ⟨RX9, "isThing", "(I)Z"⟩
abbrev cX9_above : ByteArray := prog_11_method_75_code
def yX9_above : MethodName := ⟨RX9, "above", "(I)I"⟩
abbrev cX9_taken : ByteArray := prog_11_method_76_code
def yX9_taken : MethodName := ⟨RX9, "taken", "(II)I"⟩
abbrev cX9_began : ByteArray := prog_11_method_77_code
def yX9_began : MethodName := ⟨RX9, "began", "(I)V"⟩
abbrev cX9_bodyOf : ByteArray := prog_11_method_78_code
def yX9_bodyOf : MethodName := ⟨RX9, "bodyOf", "(II)I"⟩
abbrev cX9_acted : ByteArray := prog_11_method_79_code
def yX9_acted : MethodName := ⟨RX9, "acted", "(II)I"⟩
abbrev cX9_fromAbove : ByteArray := prog_11_method_80_code
def yX9_fromAbove : MethodName := ⟨RX9, "fromAbove", "(III)I"⟩
abbrev cX9_parted : ByteArray := prog_11_method_81_code
def yX9_parted : MethodName := ⟨RX9, "parted", "(I)I"⟩
abbrev cX9_body : ByteArray := prog_11_method_82_code
def yX9_body : MethodName := ⟨RX9, "body", "(II)I"⟩
abbrev cX9_itsOf : ByteArray := prog_11_method_83_code
def yX9_itsOf : MethodName := ⟨RX9, "itsOf", "(II)I"⟩
abbrev cX9_act : ByteArray := prog_11_method_84_code
def yX9_act : MethodName := ⟨RX9, "act", "(III)I"⟩
abbrev cX9_trace : ByteArray := prog_11_method_85_code
def yX9_trace : MethodName := ⟨RX9, "trace", "(I)I"⟩
abbrev cX9_many : ByteArray := prog_11_method_86_code
def yX9_many : MethodName := ⟨RX9, "many", "(I)I"⟩
abbrev cX9_keep : ByteArray := prog_11_method_87_code
def yX9_keep : MethodName := ⟨RX9, "keep", "()I"⟩
abbrev cX9_again : ByteArray := prog_11_method_88_code
def yX9_again : MethodName := ⟨RX9, "again", "()I"⟩
def RJx145de : String := "java/io/Serializable"
def TJx145de : u_T := fun k => match k with
  | _ => ("", "", "", false)
def tyJx145de : Nat → FieldType := fun k => match k with
  | _ => .int
abbrev wsJx145de0 : List Cond := u_ws RJx145de TJx145de 0
theorem nmJx145de : ∀ a, a < 0 → ∀ b, b < 0 → a ≠ b → (TJx145de a).2.1 ≠ (TJx145de b).2.1 := by decide +kernel
theorem tyJx145de_ok : ∀ k, k < 0 → parseFieldDescriptor (TJx145de k).2.2.1 = some (tyJx145de k) := by decide +kernel
def RJx9f9b0 : String := "java/lang/CharSequence"
def TJx9f9b0 : u_T := fun k => match k with
  | _ => ("", "", "", false)
def tyJx9f9b0 : Nat → FieldType := fun k => match k with
  | _ => .int
abbrev wsJx9f9b00 : List Cond := u_ws RJx9f9b0 TJx9f9b0 0
theorem nmJx9f9b0 : ∀ a, a < 0 → ∀ b, b < 0 → a ≠ b → (TJx9f9b0 a).2.1 ≠ (TJx9f9b0 b).2.1 := by decide +kernel
theorem tyJx9f9b0_ok : ∀ k, k < 0 → parseFieldDescriptor (TJx9f9b0 k).2.2.1 = some (tyJx9f9b0 k) := by decide +kernel
def RJxb160c : String := "java/lang/Comparable"
def TJxb160c : u_T := fun k => match k with
  | _ => ("", "", "", false)
def tyJxb160c : Nat → FieldType := fun k => match k with
  | _ => .int
abbrev wsJxb160c0 : List Cond := u_ws RJxb160c TJxb160c 0
theorem nmJxb160c : ∀ a, a < 0 → ∀ b, b < 0 → a ≠ b → (TJxb160c a).2.1 ≠ (TJxb160c b).2.1 := by decide +kernel
theorem tyJxb160c_ok : ∀ k, k < 0 → parseFieldDescriptor (TJxb160c k).2.2.1 = some (tyJxb160c k) := by decide +kernel
def RJ9 : String := "java/lang/Math"
def TJ9 : u_T := fun k => match k with
  | _ => ("", "", "", false)
def tyJ9 : Nat → FieldType := fun k => match k with
  | _ => .int
abbrev wsJ90 : List Cond := u_ws RJ9 TJ9 0
theorem nmJ9 : ∀ a, a < 0 → ∀ b, b < 0 → a ≠ b → (TJ9 a).2.1 ≠ (TJ9 b).2.1 := by decide +kernel
theorem tyJ9_ok : ∀ k, k < 0 → parseFieldDescriptor (TJ9 k).2.2.1 = some (tyJ9 k) := by decide +kernel
abbrev cJ9_floorDiv_7cf53 : ByteArray := prog_12_method_47_code
def yJ9_floorDiv_7cf53 : MethodName := ⟨RJ9, "floorDiv", "(II)I"⟩
abbrev cJ9_floorMod_7cf53 : ByteArray := prog_12_method_50_code
def yJ9_floorMod_7cf53 : MethodName := ⟨RJ9, "floorMod", "(II)I"⟩
abbrev cJ9_max_7cf53 : ByteArray := prog_12_method_65_code
def yJ9_max_7cf53 : MethodName := ⟨RJ9, "max", "(II)I"⟩
abbrev cJ9_min_7cf53 : ByteArray := prog_12_method_69_code
def yJ9_min_7cf53 : MethodName := ⟨RJ9, "min", "(II)I"⟩
def RJ0 : String := "java/lang/String"
def TJ0 : u_T := fun k => match k with
  | _ => ("", "", "", false)
def tyJ0 : Nat → FieldType := fun k => match k with
  | _ => .int
abbrev wsJ00 : List Cond := u_ws RJ0 TJ0 0
theorem nmJ0 : ∀ a, a < 0 → ∀ b, b < 0 → a ≠ b → (TJ0 a).2.1 ≠ (TJ0 b).2.1 := by decide +kernel
theorem tyJ0_ok : ∀ k, k < 0 → parseFieldDescriptor (TJ0 k).2.2.1 = some (tyJ0 k) := by decide +kernel
abbrev cJ0_length_8abf5 : ByteArray := prog_13_method_54_code
def yJ0_length_8abf5 : MethodName := ⟨RJ0, "length", "()I"⟩
abbrev cJ0_charAt_5068e : ByteArray := prog_13_method_56_code
def yJ0_charAt_5068e : MethodName := ⟨RJ0, "charAt", "(I)C"⟩
abbrev cJ0_coder_7d493 : ByteArray := prog_13_method_152_code
def yJ0_coder_7d493 : MethodName := ⟨RJ0, "coder", "()B"⟩
abbrev cJ0_isLatin1_aae02 : ByteArray := prog_13_method_154_code
def yJ0_isLatin1_aae02 : MethodName := ⟨RJ0, "isLatin1", "()Z"⟩
abbrev cJ0_checkIndex_df160 : ByteArray := prog_13_method_155_code
def yJ0_checkIndex_df160 : MethodName := ⟨RJ0, "checkIndex", "(II)V"⟩
def RJ1 : String := "java/lang/StringLatin1"
def TJ1 : u_T := fun k => match k with
  | _ => ("", "", "", false)
def tyJ1 : Nat → FieldType := fun k => match k with
  | _ => .int
abbrev wsJ10 : List Cond := u_ws RJ1 TJ1 0
theorem nmJ1 : ∀ a, a < 0 → ∀ b, b < 0 → a ≠ b → (TJ1 a).2.1 ≠ (TJ1 b).2.1 := by decide +kernel
theorem tyJ1_ok : ∀ k, k < 0 → parseFieldDescriptor (TJ1 k).2.2.1 = some (tyJ1 k) := by decide +kernel
abbrev cJ1_charAt_3b067 : ByteArray := prog_14_method_2_code
def yJ1_charAt_3b067 : MethodName := ⟨RJ1, "charAt", "([BI)C"⟩
def RJ2 : String := "java/lang/StringUTF16"
def TJ2 : u_T := fun k => match k with
  | _ => ("", "", "", false)
def tyJ2 : Nat → FieldType := fun k => match k with
  | _ => .int
abbrev wsJ20 : List Cond := u_ws RJ2 TJ2 0
theorem nmJ2 : ∀ a, a < 0 → ∀ b, b < 0 → a ≠ b → (TJ2 a).2.1 ≠ (TJ2 b).2.1 := by decide +kernel
theorem tyJ2_ok : ∀ k, k < 0 → parseFieldDescriptor (TJ2 k).2.2.1 = some (tyJ2 k) := by decide +kernel
abbrev cJ2_getChar_3b067 : ByteArray := prog_15_method_5_code
def yJ2_getChar_3b067 : MethodName := ⟨RJ2, "getChar", "([BI)C"⟩
abbrev cJ2_length_9d52b : ByteArray := prog_15_method_6_code
def yJ2_length_9d52b : MethodName := ⟨RJ2, "length", "([B)I"⟩
abbrev cJ2_charAt_3b067 : ByteArray := prog_15_method_83_code
def yJ2_charAt_3b067 : MethodName := ⟨RJ2, "charAt", "([BI)C"⟩
abbrev cJ2_checkIndex_2214a : ByteArray := prog_15_method_91_code
def yJ2_checkIndex_2214a : MethodName := ⟨RJ2, "checkIndex", "(I[B)V"⟩
def RJ10 : String := "java/lang/System"
def TJ10 : u_T := fun k => match k with
  | _ => ("", "", "", false)
def tyJ10 : Nat → FieldType := fun k => match k with
  | _ => .int
abbrev wsJ100 : List Cond := u_ws RJ10 TJ10 0
theorem nmJ10 : ∀ a, a < 0 → ∀ b, b < 0 → a ≠ b → (TJ10 a).2.1 ≠ (TJ10 b).2.1 := by decide +kernel
theorem tyJ10_ok : ∀ k, k < 0 → parseFieldDescriptor (TJ10 k).2.2.1 = some (tyJ10 k) := by decide +kernel
def RJxfd54e : String := "java/lang/constant/Constable"
def TJxfd54e : u_T := fun k => match k with
  | _ => ("", "", "", false)
def tyJxfd54e : Nat → FieldType := fun k => match k with
  | _ => .int
abbrev wsJxfd54e0 : List Cond := u_ws RJxfd54e TJxfd54e 0
theorem nmJxfd54e : ∀ a, a < 0 → ∀ b, b < 0 → a ≠ b → (TJxfd54e a).2.1 ≠ (TJxfd54e b).2.1 := by decide +kernel
theorem tyJxfd54e_ok : ∀ k, k < 0 → parseFieldDescriptor (TJxfd54e k).2.2.1 = some (tyJxfd54e k) := by decide +kernel
def RJx3cf43 : String := "java/lang/constant/ConstantDesc"
def TJx3cf43 : u_T := fun k => match k with
  | _ => ("", "", "", false)
def tyJx3cf43 : Nat → FieldType := fun k => match k with
  | _ => .int
abbrev wsJx3cf430 : List Cond := u_ws RJx3cf43 TJx3cf43 0
theorem nmJx3cf43 : ∀ a, a < 0 → ∀ b, b < 0 → a ≠ b → (TJx3cf43 a).2.1 ≠ (TJx3cf43 b).2.1 := by decide +kernel
theorem tyJx3cf43_ok : ∀ k, k < 0 → parseFieldDescriptor (TJx3cf43 k).2.2.1 = some (tyJx3cf43 k) := by decide +kernel
def RJ7 : String := "java/util/Arrays"
def TJ7 : u_T := fun k => match k with
  | _ => ("", "", "", false)
def tyJ7 : Nat → FieldType := fun k => match k with
  | _ => .int
abbrev wsJ70 : List Cond := u_ws RJ7 TJ7 0
theorem nmJ7 : ∀ a, a < 0 → ∀ b, b < 0 → a ≠ b → (TJ7 a).2.1 ≠ (TJ7 b).2.1 := by decide +kernel
theorem tyJ7_ok : ∀ k, k < 0 → parseFieldDescriptor (TJ7 k).2.2.1 = some (tyJ7 k) := by decide +kernel
abbrev cJ7_fill_53178 : ByteArray := prog_17_method_103_code
def yJ7_fill_53178 : MethodName := ⟨RJ7, "fill", "([II)V"⟩
def RJ3 : String := "jdk/internal/util/Preconditions"
def TJ3 : u_T := fun k => match k with
  | _ => ("", "", "", false)
def tyJ3 : Nat → FieldType := fun k => match k with
  | _ => .int
abbrev wsJ30 : List Cond := u_ws RJ3 TJ3 0
theorem nmJ3 : ∀ a, a < 0 → ∀ b, b < 0 → a ≠ b → (TJ3 a).2.1 ≠ (TJ3 b).2.1 := by decide +kernel
theorem tyJ3_ok : ∀ k, k < 0 → parseFieldDescriptor (TJ3 k).2.2.1 = some (tyJ3 k) := by decide +kernel
abbrev cJ3_checkIndex_8e157 : ByteArray := prog_18_method_11_code
def yJ3_checkIndex_8e157 : MethodName := ⟨RJ3, "checkIndex", "(IILjava/util/function/BiFunction;)I"⟩
def RL : String := "WaterThanksLaw"
abbrev cL_law : ByteArray := code
def yL_law : MethodName := ⟨RL, "law", "([I)Z"⟩
abbrev vwCl : List vw_C := [(RX0, TX0, 6), (RX1, TX1, 2), (RX2, TX2, 8), (RX3, TX3, 3), (RX4, TX4, 5), (RX5, TX5, 6), (RX6, TX6, 7), (RX7, TX7, 7), (RX8, TX8, 14), (RX9, TX9, 44)]
theorem inX0 : ∀ w ∈ u_ws RX0 TX0 6, w ∈ lw_tbl := by decide +kernel
theorem inX1 : ∀ w ∈ u_ws RX1 TX1 2, w ∈ lw_tbl := by decide +kernel
theorem inX2 : ∀ w ∈ u_ws RX2 TX2 8, w ∈ lw_tbl := by decide +kernel
theorem inX3 : ∀ w ∈ u_ws RX3 TX3 3, w ∈ lw_tbl := by decide +kernel
theorem inX4 : ∀ w ∈ u_ws RX4 TX4 5, w ∈ lw_tbl := by decide +kernel
theorem inX5 : ∀ w ∈ u_ws RX5 TX5 6, w ∈ lw_tbl := by decide +kernel
theorem inX6 : ∀ w ∈ u_ws RX6 TX6 7, w ∈ lw_tbl := by decide +kernel
theorem inX7 : ∀ w ∈ u_ws RX7 TX7 7, w ∈ lw_tbl := by decide +kernel
theorem inX8 : ∀ w ∈ u_ws RX8 TX8 14, w ∈ lw_tbl := by decide +kernel
theorem inX9 : ∀ w ∈ u_ws RX9 TX9 44, w ∈ lw_tbl := by decide +kernel
end
section
theorem dX0_init_0 : decode cX0_init 0 = .ok (.aload_n 0, 1) := by decide +kernel
theorem dX0_init_1 : decode cX0_init 1 = .ok (.invokespecial 3, 3) := by decide +kernel
theorem dX0_init_4 : decode cX0_init 4 = .ok (.aload_n 0, 1) := by decide +kernel
theorem dX0_init_5 : decode cX0_init 5 = .ok (.bipush 30, 2) := by decide +kernel
theorem dX0_init_7 : decode cX0_init 7 = .ok (.newarray .int, 2) := by decide +kernel
theorem dX0_init_9 : decode cX0_init 9 = .ok (.putfield 11, 3) := by decide +kernel
theorem dX0_init_12 : decode cX0_init 12 = .ok (.aload_n 0, 1) := by decide +kernel
theorem dX0_init_13 : decode cX0_init 13 = .ok (.iconst 0, 1) := by decide +kernel
theorem dX0_init_14 : decode cX0_init 14 = .ok (.putfield 15, 3) := by decide +kernel
theorem dX0_init_17 : decode cX0_init 17 = .ok (.aload_n 0, 1) := by decide +kernel
theorem dX0_init_18 : decode cX0_init 18 = .ok (.iconst 0, 1) := by decide +kernel
theorem dX0_init_19 : decode cX0_init 19 = .ok (.putfield 19, 3) := by decide +kernel
theorem dX0_init_22 : decode cX0_init 22 = .ok (.aload_n 0, 1) := by decide +kernel
theorem dX0_init_23 : decode cX0_init 23 = .ok (.iconst 0, 1) := by decide +kernel
theorem dX0_init_24 : decode cX0_init 24 = .ok (.putfield 22, 3) := by decide +kernel
theorem dX0_init_27 : decode cX0_init 27 = .ok (.aload_n 0, 1) := by decide +kernel
theorem dX0_init_28 : decode cX0_init 28 = .ok (.iconst 0, 1) := by decide +kernel
theorem dX0_init_29 : decode cX0_init 29 = .ok (.putfield 25, 3) := by decide +kernel
theorem dX0_init_32 : decode cX0_init 32 = .ok (.aload_n 0, 1) := by decide +kernel
theorem dX0_init_33 : decode cX0_init 33 = .ok (.iconst 0, 1) := by decide +kernel
theorem dX0_init_34 : decode cX0_init 34 = .ok (.putfield 28, 3) := by decide +kernel
theorem dX0_init_37 : decode cX0_init 37 = .ok (.return_, 1) := by decide +kernel
theorem dX0_clearTrace_0 : decode cX0_clearTrace 0 = .ok (.aload_n 0, 1) := by decide +kernel
theorem dX0_clearTrace_1 : decode cX0_clearTrace 1 = .ok (.iconst 0, 1) := by decide +kernel
theorem dX0_clearTrace_2 : decode cX0_clearTrace 2 = .ok (.putfield 15, 3) := by decide +kernel
theorem dX0_clearTrace_5 : decode cX0_clearTrace 5 = .ok (.return_, 1) := by decide +kernel
theorem dX0_play_0 : decode cX0_play 0 = .ok (.aload_n 0, 1) := by decide +kernel
theorem dX0_play_1 : decode cX0_play 1 = .ok (.iload_n 1, 1) := by decide +kernel
theorem dX0_play_2 : decode cX0_play 2 = .ok (.putfield 19, 3) := by decide +kernel
theorem dX0_play_5 : decode cX0_play 5 = .ok (.aload_n 0, 1) := by decide +kernel
theorem dX0_play_6 : decode cX0_play 6 = .ok (.iload_n 2, 1) := by decide +kernel
theorem dX0_play_7 : decode cX0_play 7 = .ok (.putfield 22, 3) := by decide +kernel
theorem dX0_play_10 : decode cX0_play 10 = .ok (.aload_n 0, 1) := by decide +kernel
theorem dX0_play_11 : decode cX0_play 11 = .ok (.iload_n 3, 1) := by decide +kernel
theorem dX0_play_12 : decode cX0_play 12 = .ok (.putfield 25, 3) := by decide +kernel
theorem dX0_play_15 : decode cX0_play 15 = .ok (.aload_n 0, 1) := by decide +kernel
theorem dX0_play_16 : decode cX0_play 16 = .ok (.iconst 0, 1) := by decide +kernel
theorem dX0_play_17 : decode cX0_play 17 = .ok (.putfield 28, 3) := by decide +kernel
theorem dX0_play_20 : decode cX0_play 20 = .ok (.aload_n 0, 1) := by decide +kernel
theorem dX0_play_21 : decode cX0_play 21 = .ok (.iload_n 1, 1) := by decide +kernel
theorem dX0_play_22 : decode cX0_play 22 = .ok (.iload 4, 2) := by decide +kernel
theorem dX0_play_24 : decode cX0_play 24 = .ok (.iload 5, 2) := by decide +kernel
theorem dX0_play_26 : decode cX0_play 26 = .ok (.iconst 0, 1) := by decide +kernel
theorem dX0_play_27 : decode cX0_play 27 = .ok (.invokevirtual 32, 3) := by decide +kernel
theorem dX0_play_30 : decode cX0_play 30 = .ok (.istore 6, 2) := by decide +kernel
theorem dX0_play_32 : decode cX0_play 32 = .ok (.aload_n 0, 1) := by decide +kernel
theorem dX0_play_33 : decode cX0_play 33 = .ok (.getfield 28, 3) := by decide +kernel
theorem dX0_play_36 : decode cX0_play 36 = .ok (.ifCond .eq 8, 3) := by decide +kernel
theorem dX0_play_39 : decode cX0_play 39 = .ok (.bipush (-15), 2) := by decide +kernel
theorem dX0_play_41 : decode cX0_play 41 = .ok (.goto 5, 3) := by decide +kernel
theorem dX0_play_44 : decode cX0_play 44 = .ok (.iload 6, 2) := by decide +kernel
theorem dX0_play_46 : decode cX0_play 46 = .ok (.ireturn, 1) := by decide +kernel
theorem dX0_perform_0 : decode cX0_perform 0 = .ok (.iload 4, 2) := by decide +kernel
theorem dX0_perform_2 : decode cX0_perform 2 = .ok (.bipush 40, 2) := by decide +kernel
theorem dX0_perform_4 : decode cX0_perform 4 = .ok (.if_icmp .le 5, 3) := by decide +kernel
theorem dX0_perform_7 : decode cX0_perform 7 = .ok (.iconst 0, 1) := by decide +kernel
theorem dX0_perform_8 : decode cX0_perform 8 = .ok (.ireturn, 1) := by decide +kernel
theorem dX0_perform_9 : decode cX0_perform 9 = .ok (.getstatic 36, 3) := by decide +kernel
theorem dX0_perform_12 : decode cX0_perform 12 = .ok (.iconst 4, 1) := by decide +kernel
theorem dX0_perform_13 : decode cX0_perform 13 = .ok (.iload_n 1, 1) := by decide +kernel
theorem dX0_perform_14 : decode cX0_perform 14 = .ok (.imul, 1) := by decide +kernel
theorem dX0_perform_15 : decode cX0_perform 15 = .ok (.iload_n 2, 1) := by decide +kernel
theorem dX0_perform_16 : decode cX0_perform 16 = .ok (.iadd, 1) := by decide +kernel
theorem dX0_perform_17 : decode cX0_perform 17 = .ok (.iaload, 1) := by decide +kernel
theorem dX0_perform_18 : decode cX0_perform 18 = .ok (.istore 5, 2) := by decide +kernel
theorem dX0_perform_20 : decode cX0_perform 20 = .ok (.aload_n 0, 1) := by decide +kernel
theorem dX0_perform_21 : decode cX0_perform 21 = .ok (.getfield 15, 3) := by decide +kernel
theorem dX0_perform_24 : decode cX0_perform 24 = .ok (.bipush 30, 2) := by decide +kernel
theorem dX0_perform_26 : decode cX0_perform 26 = .ok (.if_icmp .ge 24, 3) := by decide +kernel
theorem dX0_perform_29 : decode cX0_perform 29 = .ok (.aload_n 0, 1) := by decide +kernel
theorem dX0_perform_30 : decode cX0_perform 30 = .ok (.getfield 11, 3) := by decide +kernel
theorem dX0_perform_33 : decode cX0_perform 33 = .ok (.aload_n 0, 1) := by decide +kernel
theorem dX0_perform_34 : decode cX0_perform 34 = .ok (.getfield 15, 3) := by decide +kernel
theorem dX0_perform_37 : decode cX0_perform 37 = .ok (.iload 5, 2) := by decide +kernel
theorem dX0_perform_39 : decode cX0_perform 39 = .ok (.iastore, 1) := by decide +kernel
theorem dX0_perform_40 : decode cX0_perform 40 = .ok (.aload_n 0, 1) := by decide +kernel
theorem dX0_perform_41 : decode cX0_perform 41 = .ok (.dup, 1) := by decide +kernel
theorem dX0_perform_42 : decode cX0_perform 42 = .ok (.getfield 15, 3) := by decide +kernel
theorem dX0_perform_45 : decode cX0_perform 45 = .ok (.iconst 1, 1) := by decide +kernel
theorem dX0_perform_46 : decode cX0_perform 46 = .ok (.iadd, 1) := by decide +kernel
theorem dX0_perform_47 : decode cX0_perform 47 = .ok (.putfield 15, 3) := by decide +kernel
theorem dX0_perform_50 : decode cX0_perform 50 = .ok (.aload_n 0, 1) := by decide +kernel
theorem dX0_perform_51 : decode cX0_perform 51 = .ok (.iload 5, 2) := by decide +kernel
theorem dX0_perform_53 : decode cX0_perform 53 = .ok (.iload_n 3, 1) := by decide +kernel
theorem dX0_perform_54 : decode cX0_perform 54 = .ok (.iload 4, 2) := by decide +kernel
theorem dX0_perform_56 : decode cX0_perform 56 = .ok (.iconst 1, 1) := by decide +kernel
theorem dX0_perform_57 : decode cX0_perform 57 = .ok (.iadd, 1) := by decide +kernel
theorem dX0_perform_58 : decode cX0_perform 58 = .ok (.invokevirtual 39, 3) := by decide +kernel
theorem dX0_perform_61 : decode cX0_perform 61 = .ok (.ireturn, 1) := by decide +kernel
theorem dX0_answerOf_0 : decode cX0_answerOf 0 = .ok (.iload_n 1, 1) := by decide +kernel
theorem dX0_answerOf_1 : decode cX0_answerOf 1 = .ok (.tableswitch 480 10 73 #[271, 278, 292, 307, 480, 480, 480, 480, 480, 480, 324, 480, 480, 480, 480, 480, 480, 480, 480, 480, 335, 480, 480, 480, 480, 480, 480, 480, 480, 480, 346, 360, 480, 480, 480, 480, 480, 480, 480, 480, 386, 480, 480, 480, 480, 480, 480, 480, 480, 480, 397, 411, 480, 480, 480, 480, 480, 480, 480, 480, 422, 429, 446, 453], 271) := by decide +kernel
theorem dX0_answerOf_272 : decode cX0_answerOf 272 = .ok (.iload_n 2, 1) := by decide +kernel
theorem dX0_answerOf_273 : decode cX0_answerOf 273 = .ok (.aload_n 0, 1) := by decide +kernel
theorem dX0_answerOf_274 : decode cX0_answerOf 274 = .ok (.getfield 25, 3) := by decide +kernel
theorem dX0_answerOf_277 : decode cX0_answerOf 277 = .ok (.iadd, 1) := by decide +kernel
theorem dX0_answerOf_278 : decode cX0_answerOf 278 = .ok (.ireturn, 1) := by decide +kernel
theorem dX0_answerOf_279 : decode cX0_answerOf 279 = .ok (.aload_n 0, 1) := by decide +kernel
theorem dX0_answerOf_280 : decode cX0_answerOf 280 = .ok (.aload_n 0, 1) := by decide +kernel
theorem dX0_answerOf_281 : decode cX0_answerOf 281 = .ok (.getfield 19, 3) := by decide +kernel
theorem dX0_answerOf_284 : decode cX0_answerOf 284 = .ok (.iconst 0, 1) := by decide +kernel
theorem dX0_answerOf_285 : decode cX0_answerOf 285 = .ok (.iload_n 2, 1) := by decide +kernel
theorem dX0_answerOf_286 : decode cX0_answerOf 286 = .ok (.iload_n 3, 1) := by decide +kernel
theorem dX0_answerOf_287 : decode cX0_answerOf 287 = .ok (.invokevirtual 32, 3) := by decide +kernel
theorem dX0_answerOf_290 : decode cX0_answerOf 290 = .ok (.iconst 2, 1) := by decide +kernel
theorem dX0_answerOf_291 : decode cX0_answerOf 291 = .ok (.imul, 1) := by decide +kernel
theorem dX0_answerOf_292 : decode cX0_answerOf 292 = .ok (.ireturn, 1) := by decide +kernel
theorem dX0_answerOf_293 : decode cX0_answerOf 293 = .ok (.aload_n 0, 1) := by decide +kernel
theorem dX0_answerOf_294 : decode cX0_answerOf 294 = .ok (.iload_n 2, 1) := by decide +kernel
theorem dX0_answerOf_295 : decode cX0_answerOf 295 = .ok (.aload_n 0, 1) := by decide +kernel
theorem dX0_answerOf_296 : decode cX0_answerOf 296 = .ok (.getfield 25, 3) := by decide +kernel
theorem dX0_answerOf_299 : decode cX0_answerOf 299 = .ok (.aload_n 0, 1) := by decide +kernel
theorem dX0_answerOf_300 : decode cX0_answerOf 300 = .ok (.getfield 22, 3) := by decide +kernel
theorem dX0_answerOf_303 : decode cX0_answerOf 303 = .ok (.isub, 1) := by decide +kernel
theorem dX0_answerOf_304 : decode cX0_answerOf 304 = .ok (.invokevirtual 43, 3) := by decide +kernel
theorem dX0_answerOf_307 : decode cX0_answerOf 307 = .ok (.ireturn, 1) := by decide +kernel
theorem dX0_answerOf_308 : decode cX0_answerOf 308 = .ok (.aload_n 0, 1) := by decide +kernel
theorem dX0_answerOf_309 : decode cX0_answerOf 309 = .ok (.aload_n 0, 1) := by decide +kernel
theorem dX0_answerOf_310 : decode cX0_answerOf 310 = .ok (.getfield 19, 3) := by decide +kernel
theorem dX0_answerOf_313 : decode cX0_answerOf 313 = .ok (.iconst 1, 1) := by decide +kernel
theorem dX0_answerOf_314 : decode cX0_answerOf 314 = .ok (.iload_n 2, 1) := by decide +kernel
theorem dX0_answerOf_315 : decode cX0_answerOf 315 = .ok (.iload_n 3, 1) := by decide +kernel
theorem dX0_answerOf_316 : decode cX0_answerOf 316 = .ok (.invokevirtual 32, 3) := by decide +kernel
theorem dX0_answerOf_319 : decode cX0_answerOf 319 = .ok (.aload_n 0, 1) := by decide +kernel
theorem dX0_answerOf_320 : decode cX0_answerOf 320 = .ok (.getfield 22, 3) := by decide +kernel
theorem dX0_answerOf_323 : decode cX0_answerOf 323 = .ok (.ixor, 1) := by decide +kernel
theorem dX0_answerOf_324 : decode cX0_answerOf 324 = .ok (.ireturn, 1) := by decide +kernel
theorem dX0_answerOf_325 : decode cX0_answerOf 325 = .ok (.iconst 0, 1) := by decide +kernel
theorem dX0_answerOf_326 : decode cX0_answerOf 326 = .ok (.aload_n 0, 1) := by decide +kernel
theorem dX0_answerOf_327 : decode cX0_answerOf 327 = .ok (.iconst 0, 1) := by decide +kernel
theorem dX0_answerOf_328 : decode cX0_answerOf 328 = .ok (.iconst 1, 1) := by decide +kernel
theorem dX0_answerOf_329 : decode cX0_answerOf 329 = .ok (.iload_n 2, 1) := by decide +kernel
theorem dX0_answerOf_330 : decode cX0_answerOf 330 = .ok (.iload_n 3, 1) := by decide +kernel
theorem dX0_answerOf_331 : decode cX0_answerOf 331 = .ok (.invokevirtual 32, 3) := by decide +kernel
theorem dX0_answerOf_334 : decode cX0_answerOf 334 = .ok (.isub, 1) := by decide +kernel
theorem dX0_answerOf_335 : decode cX0_answerOf 335 = .ok (.ireturn, 1) := by decide +kernel
theorem dX0_answerOf_336 : decode cX0_answerOf 336 = .ok (.aload_n 0, 1) := by decide +kernel
theorem dX0_answerOf_337 : decode cX0_answerOf 337 = .ok (.iconst 0, 1) := by decide +kernel
theorem dX0_answerOf_338 : decode cX0_answerOf 338 = .ok (.iconst 0, 1) := by decide +kernel
theorem dX0_answerOf_339 : decode cX0_answerOf 339 = .ok (.iload_n 2, 1) := by decide +kernel
theorem dX0_answerOf_340 : decode cX0_answerOf 340 = .ok (.iload_n 3, 1) := by decide +kernel
theorem dX0_answerOf_341 : decode cX0_answerOf 341 = .ok (.invokevirtual 32, 3) := by decide +kernel
theorem dX0_answerOf_344 : decode cX0_answerOf 344 = .ok (.iconst 3, 1) := by decide +kernel
theorem dX0_answerOf_345 : decode cX0_answerOf 345 = .ok (.imul, 1) := by decide +kernel
theorem dX0_answerOf_346 : decode cX0_answerOf 346 = .ok (.ireturn, 1) := by decide +kernel
theorem dX0_answerOf_347 : decode cX0_answerOf 347 = .ok (.aload_n 0, 1) := by decide +kernel
theorem dX0_answerOf_348 : decode cX0_answerOf 348 = .ok (.iconst 2, 1) := by decide +kernel
theorem dX0_answerOf_349 : decode cX0_answerOf 349 = .ok (.iconst 1, 1) := by decide +kernel
theorem dX0_answerOf_350 : decode cX0_answerOf 350 = .ok (.iload_n 2, 1) := by decide +kernel
theorem dX0_answerOf_351 : decode cX0_answerOf 351 = .ok (.iload_n 3, 1) := by decide +kernel
theorem dX0_answerOf_352 : decode cX0_answerOf 352 = .ok (.invokevirtual 32, 3) := by decide +kernel
theorem dX0_answerOf_355 : decode cX0_answerOf 355 = .ok (.aload_n 0, 1) := by decide +kernel
theorem dX0_answerOf_356 : decode cX0_answerOf 356 = .ok (.getfield 25, 3) := by decide +kernel
theorem dX0_answerOf_359 : decode cX0_answerOf 359 = .ok (.iadd, 1) := by decide +kernel
theorem dX0_answerOf_360 : decode cX0_answerOf 360 = .ok (.ireturn, 1) := by decide +kernel
theorem dX0_answerOf_361 : decode cX0_answerOf 361 = .ok (.aload_n 0, 1) := by decide +kernel
theorem dX0_answerOf_362 : decode cX0_answerOf 362 = .ok (.iconst 2, 1) := by decide +kernel
theorem dX0_answerOf_363 : decode cX0_answerOf 363 = .ok (.iconst 3, 1) := by decide +kernel
theorem dX0_answerOf_364 : decode cX0_answerOf 364 = .ok (.iload_n 2, 1) := by decide +kernel
theorem dX0_answerOf_365 : decode cX0_answerOf 365 = .ok (.iload_n 3, 1) := by decide +kernel
theorem dX0_answerOf_366 : decode cX0_answerOf 366 = .ok (.invokevirtual 32, 3) := by decide +kernel
theorem dX0_answerOf_369 : decode cX0_answerOf 369 = .ok (.aload_n 0, 1) := by decide +kernel
theorem dX0_answerOf_370 : decode cX0_answerOf 370 = .ok (.aload_n 0, 1) := by decide +kernel
theorem dX0_answerOf_371 : decode cX0_answerOf 371 = .ok (.getfield 19, 3) := by decide +kernel
theorem dX0_answerOf_374 : decode cX0_answerOf 374 = .ok (.iconst 2, 1) := by decide +kernel
theorem dX0_answerOf_375 : decode cX0_answerOf 375 = .ok (.aload_n 0, 1) := by decide +kernel
theorem dX0_answerOf_376 : decode cX0_answerOf 376 = .ok (.getfield 22, 3) := by decide +kernel
theorem dX0_answerOf_379 : decode cX0_answerOf 379 = .ok (.iconst 1, 1) := by decide +kernel
theorem dX0_answerOf_380 : decode cX0_answerOf 380 = .ok (.iadd, 1) := by decide +kernel
theorem dX0_answerOf_381 : decode cX0_answerOf 381 = .ok (.iload_n 3, 1) := by decide +kernel
theorem dX0_answerOf_382 : decode cX0_answerOf 382 = .ok (.invokevirtual 32, 3) := by decide +kernel
theorem dX0_answerOf_385 : decode cX0_answerOf 385 = .ok (.iadd, 1) := by decide +kernel
theorem dX0_answerOf_386 : decode cX0_answerOf 386 = .ok (.ireturn, 1) := by decide +kernel
theorem dX0_answerOf_387 : decode cX0_answerOf 387 = .ok (.aload_n 0, 1) := by decide +kernel
theorem dX0_answerOf_388 : decode cX0_answerOf 388 = .ok (.iconst 2, 1) := by decide +kernel
theorem dX0_answerOf_389 : decode cX0_answerOf 389 = .ok (.iconst 2, 1) := by decide +kernel
theorem dX0_answerOf_390 : decode cX0_answerOf 390 = .ok (.iload_n 2, 1) := by decide +kernel
theorem dX0_answerOf_391 : decode cX0_answerOf 391 = .ok (.iconst 1, 1) := by decide +kernel
theorem dX0_answerOf_392 : decode cX0_answerOf 392 = .ok (.isub, 1) := by decide +kernel
theorem dX0_answerOf_393 : decode cX0_answerOf 393 = .ok (.iload_n 3, 1) := by decide +kernel
theorem dX0_answerOf_394 : decode cX0_answerOf 394 = .ok (.invokevirtual 32, 3) := by decide +kernel
theorem dX0_answerOf_397 : decode cX0_answerOf 397 = .ok (.ireturn, 1) := by decide +kernel
theorem dX0_answerOf_398 : decode cX0_answerOf 398 = .ok (.aload_n 0, 1) := by decide +kernel
theorem dX0_answerOf_399 : decode cX0_answerOf 399 = .ok (.iconst 3, 1) := by decide +kernel
theorem dX0_answerOf_400 : decode cX0_answerOf 400 = .ok (.iconst 0, 1) := by decide +kernel
theorem dX0_answerOf_401 : decode cX0_answerOf 401 = .ok (.iload_n 2, 1) := by decide +kernel
theorem dX0_answerOf_402 : decode cX0_answerOf 402 = .ok (.iload_n 3, 1) := by decide +kernel
theorem dX0_answerOf_403 : decode cX0_answerOf 403 = .ok (.invokevirtual 32, 3) := by decide +kernel
theorem dX0_answerOf_406 : decode cX0_answerOf 406 = .ok (.aload_n 0, 1) := by decide +kernel
theorem dX0_answerOf_407 : decode cX0_answerOf 407 = .ok (.getfield 25, 3) := by decide +kernel
theorem dX0_answerOf_410 : decode cX0_answerOf 410 = .ok (.ixor, 1) := by decide +kernel
theorem dX0_answerOf_411 : decode cX0_answerOf 411 = .ok (.ireturn, 1) := by decide +kernel
theorem dX0_answerOf_412 : decode cX0_answerOf 412 = .ok (.aload_n 0, 1) := by decide +kernel
theorem dX0_answerOf_413 : decode cX0_answerOf 413 = .ok (.iconst 3, 1) := by decide +kernel
theorem dX0_answerOf_414 : decode cX0_answerOf 414 = .ok (.iconst 2, 1) := by decide +kernel
theorem dX0_answerOf_415 : decode cX0_answerOf 415 = .ok (.iload_n 2, 1) := by decide +kernel
theorem dX0_answerOf_416 : decode cX0_answerOf 416 = .ok (.iconst 2, 1) := by decide +kernel
theorem dX0_answerOf_417 : decode cX0_answerOf 417 = .ok (.iadd, 1) := by decide +kernel
theorem dX0_answerOf_418 : decode cX0_answerOf 418 = .ok (.iload_n 3, 1) := by decide +kernel
theorem dX0_answerOf_419 : decode cX0_answerOf 419 = .ok (.invokevirtual 32, 3) := by decide +kernel
theorem dX0_answerOf_422 : decode cX0_answerOf 422 = .ok (.ireturn, 1) := by decide +kernel
theorem dX0_answerOf_423 : decode cX0_answerOf 423 = .ok (.iload_n 2, 1) := by decide +kernel
theorem dX0_answerOf_424 : decode cX0_answerOf 424 = .ok (.aload_n 0, 1) := by decide +kernel
theorem dX0_answerOf_425 : decode cX0_answerOf 425 = .ok (.getfield 25, 3) := by decide +kernel
theorem dX0_answerOf_428 : decode cX0_answerOf 428 = .ok (.isub, 1) := by decide +kernel
theorem dX0_answerOf_429 : decode cX0_answerOf 429 = .ok (.ireturn, 1) := by decide +kernel
theorem dX0_answerOf_430 : decode cX0_answerOf 430 = .ok (.aload_n 0, 1) := by decide +kernel
theorem dX0_answerOf_431 : decode cX0_answerOf 431 = .ok (.aload_n 0, 1) := by decide +kernel
theorem dX0_answerOf_432 : decode cX0_answerOf 432 = .ok (.getfield 19, 3) := by decide +kernel
theorem dX0_answerOf_435 : decode cX0_answerOf 435 = .ok (.iconst 0, 1) := by decide +kernel
theorem dX0_answerOf_436 : decode cX0_answerOf 436 = .ok (.iload_n 2, 1) := by decide +kernel
theorem dX0_answerOf_437 : decode cX0_answerOf 437 = .ok (.iload_n 3, 1) := by decide +kernel
theorem dX0_answerOf_438 : decode cX0_answerOf 438 = .ok (.invokevirtual 32, 3) := by decide +kernel
theorem dX0_answerOf_441 : decode cX0_answerOf 441 = .ok (.aload_n 0, 1) := by decide +kernel
theorem dX0_answerOf_442 : decode cX0_answerOf 442 = .ok (.getfield 22, 3) := by decide +kernel
theorem dX0_answerOf_445 : decode cX0_answerOf 445 = .ok (.imul, 1) := by decide +kernel
theorem dX0_answerOf_446 : decode cX0_answerOf 446 = .ok (.ireturn, 1) := by decide +kernel
theorem dX0_answerOf_447 : decode cX0_answerOf 447 = .ok (.iload_n 2, 1) := by decide +kernel
theorem dX0_answerOf_448 : decode cX0_answerOf 448 = .ok (.aload_n 0, 1) := by decide +kernel
theorem dX0_answerOf_449 : decode cX0_answerOf 449 = .ok (.getfield 25, 3) := by decide +kernel
theorem dX0_answerOf_452 : decode cX0_answerOf 452 = .ok (.ixor, 1) := by decide +kernel
theorem dX0_answerOf_453 : decode cX0_answerOf 453 = .ok (.ireturn, 1) := by decide +kernel
theorem dX0_answerOf_454 : decode cX0_answerOf 454 = .ok (.aload_n 0, 1) := by decide +kernel
theorem dX0_answerOf_455 : decode cX0_answerOf 455 = .ok (.aload_n 0, 1) := by decide +kernel
theorem dX0_answerOf_456 : decode cX0_answerOf 456 = .ok (.getfield 19, 3) := by decide +kernel
theorem dX0_answerOf_459 : decode cX0_answerOf 459 = .ok (.iconst 1, 1) := by decide +kernel
theorem dX0_answerOf_460 : decode cX0_answerOf 460 = .ok (.iload_n 2, 1) := by decide +kernel
theorem dX0_answerOf_461 : decode cX0_answerOf 461 = .ok (.iload_n 3, 1) := by decide +kernel
theorem dX0_answerOf_462 : decode cX0_answerOf 462 = .ok (.invokevirtual 32, 3) := by decide +kernel
theorem dX0_answerOf_465 : decode cX0_answerOf 465 = .ok (.aload_n 0, 1) := by decide +kernel
theorem dX0_answerOf_466 : decode cX0_answerOf 466 = .ok (.aload_n 0, 1) := by decide +kernel
theorem dX0_answerOf_467 : decode cX0_answerOf 467 = .ok (.getfield 19, 3) := by decide +kernel
theorem dX0_answerOf_470 : decode cX0_answerOf 470 = .ok (.iconst 2, 1) := by decide +kernel
theorem dX0_answerOf_471 : decode cX0_answerOf 471 = .ok (.aload_n 0, 1) := by decide +kernel
theorem dX0_answerOf_472 : decode cX0_answerOf 472 = .ok (.getfield 22, 3) := by decide +kernel
theorem dX0_answerOf_475 : decode cX0_answerOf 475 = .ok (.iload_n 3, 1) := by decide +kernel
theorem dX0_answerOf_476 : decode cX0_answerOf 476 = .ok (.invokevirtual 32, 3) := by decide +kernel
theorem dX0_answerOf_479 : decode cX0_answerOf 479 = .ok (.iadd, 1) := by decide +kernel
theorem dX0_answerOf_480 : decode cX0_answerOf 480 = .ok (.ireturn, 1) := by decide +kernel
theorem dX0_answerOf_481 : decode cX0_answerOf 481 = .ok (.iconst 0, 1) := by decide +kernel
theorem dX0_answerOf_482 : decode cX0_answerOf 482 = .ok (.ireturn, 1) := by decide +kernel
theorem dX0_quotient_0 : decode cX0_quotient 0 = .ok (.iload_n 2, 1) := by decide +kernel
theorem dX0_quotient_1 : decode cX0_quotient 1 = .ok (.ifCond .ne 10, 3) := by decide +kernel
theorem dX0_quotient_4 : decode cX0_quotient 4 = .ok (.aload_n 0, 1) := by decide +kernel
theorem dX0_quotient_5 : decode cX0_quotient 5 = .ok (.iconst 1, 1) := by decide +kernel
theorem dX0_quotient_6 : decode cX0_quotient 6 = .ok (.putfield 28, 3) := by decide +kernel
theorem dX0_quotient_9 : decode cX0_quotient 9 = .ok (.iconst 0, 1) := by decide +kernel
theorem dX0_quotient_10 : decode cX0_quotient 10 = .ok (.ireturn, 1) := by decide +kernel
theorem dX0_quotient_11 : decode cX0_quotient 11 = .ok (.iload_n 1, 1) := by decide +kernel
theorem dX0_quotient_12 : decode cX0_quotient 12 = .ok (.iload_n 2, 1) := by decide +kernel
theorem dX0_quotient_13 : decode cX0_quotient 13 = .ok (.idiv, 1) := by decide +kernel
theorem dX0_quotient_14 : decode cX0_quotient 14 = .ok (.ireturn, 1) := by decide +kernel
theorem dX1_init_0 : decode cX1_init 0 = .ok (.aload_n 0, 1) := by decide +kernel
theorem dX1_init_1 : decode cX1_init 1 = .ok (.invokespecial 3, 3) := by decide +kernel
theorem dX1_init_4 : decode cX1_init 4 = .ok (.aload_n 0, 1) := by decide +kernel
theorem dX1_init_5 : decode cX1_init 5 = .ok (.bipush 6, 2) := by decide +kernel
theorem dX1_init_7 : decode cX1_init 7 = .ok (.newarray .int, 2) := by decide +kernel
theorem dX1_init_9 : decode cX1_init 9 = .ok (.putfield 9, 3) := by decide +kernel
theorem dX1_init_12 : decode cX1_init 12 = .ok (.aload_n 0, 1) := by decide +kernel
theorem dX1_init_13 : decode cX1_init 13 = .ok (.bipush 7, 2) := by decide +kernel
theorem dX1_init_15 : decode cX1_init 15 = .ok (.bipush 121, 2) := by decide +kernel
theorem dX1_init_17 : decode cX1_init 17 = .ok (.multianewarray 15 2, 4) := by decide +kernel
theorem dX1_init_21 : decode cX1_init 21 = .ok (.putfield 17, 3) := by decide +kernel
theorem dX1_init_24 : decode cX1_init 24 = .ok (.return_, 1) := by decide +kernel
theorem dX1_clean_0 : decode cX1_clean 0 = .ok (.aload_n 1, 1) := by decide +kernel
theorem dX1_clean_1 : decode cX1_clean 1 = .ok (.getfield 20, 3) := by decide +kernel
theorem dX1_clean_4 : decode cX1_clean 4 = .ok (.iconst 1, 1) := by decide +kernel
theorem dX1_clean_5 : decode cX1_clean 5 = .ok (.isub, 1) := by decide +kernel
theorem dX1_clean_6 : decode cX1_clean 6 = .ok (.istore_n 2, 1) := by decide +kernel
theorem dX1_clean_7 : decode cX1_clean 7 = .ok (.iconst 0, 1) := by decide +kernel
theorem dX1_clean_8 : decode cX1_clean 8 = .ok (.istore_n 3, 1) := by decide +kernel
theorem dX1_clean_9 : decode cX1_clean 9 = .ok (.iconst 0, 1) := by decide +kernel
theorem dX1_clean_10 : decode cX1_clean 10 = .ok (.istore 4, 2) := by decide +kernel
theorem dX1_clean_12 : decode cX1_clean 12 = .ok (.iload 4, 2) := by decide +kernel
theorem dX1_clean_14 : decode cX1_clean 14 = .ok (.iload_n 2, 1) := by decide +kernel
theorem dX1_clean_15 : decode cX1_clean 15 = .ok (.if_icmp .gt 21, 3) := by decide +kernel
theorem dX1_clean_18 : decode cX1_clean 18 = .ok (.iload_n 3, 1) := by decide +kernel
theorem dX1_clean_19 : decode cX1_clean 19 = .ok (.aload_n 1, 1) := by decide +kernel
theorem dX1_clean_20 : decode cX1_clean 20 = .ok (.getfield 26, 3) := by decide +kernel
theorem dX1_clean_23 : decode cX1_clean 23 = .ok (.iload 4, 2) := by decide +kernel
theorem dX1_clean_25 : decode cX1_clean 25 = .ok (.aaload, 1) := by decide +kernel
theorem dX1_clean_26 : decode cX1_clean 26 = .ok (.iconst 3, 1) := by decide +kernel
theorem dX1_clean_27 : decode cX1_clean 27 = .ok (.iaload, 1) := by decide +kernel
theorem dX1_clean_28 : decode cX1_clean 28 = .ok (.iadd, 1) := by decide +kernel
theorem dX1_clean_29 : decode cX1_clean 29 = .ok (.istore_n 3, 1) := by decide +kernel
theorem dX1_clean_30 : decode cX1_clean 30 = .ok (.iinc 4 1, 3) := by decide +kernel
theorem dX1_clean_33 : decode cX1_clean 33 = .ok (.goto (-21), 3) := by decide +kernel
theorem dX1_clean_36 : decode cX1_clean 36 = .ok (.aload_n 0, 1) := by decide +kernel
theorem dX1_clean_37 : decode cX1_clean 37 = .ok (.getfield 17, 3) := by decide +kernel
theorem dX1_clean_40 : decode cX1_clean 40 = .ok (.iload_n 2, 1) := by decide +kernel
theorem dX1_clean_41 : decode cX1_clean 41 = .ok (.iconst 1, 1) := by decide +kernel
theorem dX1_clean_42 : decode cX1_clean 42 = .ok (.iadd, 1) := by decide +kernel
theorem dX1_clean_43 : decode cX1_clean 43 = .ok (.aaload, 1) := by decide +kernel
theorem dX1_clean_44 : decode cX1_clean 44 = .ok (.iconst 0, 1) := by decide +kernel
theorem dX1_clean_45 : decode cX1_clean 45 = .ok (.invokestatic 29, 3) := by decide +kernel
theorem dX1_clean_48 : decode cX1_clean 48 = .ok (.iload_n 2, 1) := by decide +kernel
theorem dX1_clean_49 : decode cX1_clean 49 = .ok (.istore 4, 2) := by decide +kernel
theorem dX1_clean_51 : decode cX1_clean 51 = .ok (.iload 4, 2) := by decide +kernel
theorem dX1_clean_53 : decode cX1_clean 53 = .ok (.ifCond .lt 78, 3) := by decide +kernel
theorem dX1_clean_56 : decode cX1_clean 56 = .ok (.iload_n 3, 1) := by decide +kernel
theorem dX1_clean_57 : decode cX1_clean 57 = .ok (.aload_n 1, 1) := by decide +kernel
theorem dX1_clean_58 : decode cX1_clean 58 = .ok (.getfield 26, 3) := by decide +kernel
theorem dX1_clean_61 : decode cX1_clean 61 = .ok (.iload 4, 2) := by decide +kernel
theorem dX1_clean_63 : decode cX1_clean 63 = .ok (.aaload, 1) := by decide +kernel
theorem dX1_clean_64 : decode cX1_clean 64 = .ok (.iconst 3, 1) := by decide +kernel
theorem dX1_clean_65 : decode cX1_clean 65 = .ok (.iaload, 1) := by decide +kernel
theorem dX1_clean_66 : decode cX1_clean 66 = .ok (.isub, 1) := by decide +kernel
theorem dX1_clean_67 : decode cX1_clean 67 = .ok (.istore_n 3, 1) := by decide +kernel
theorem dX1_clean_68 : decode cX1_clean 68 = .ok (.iconst 0, 1) := by decide +kernel
theorem dX1_clean_69 : decode cX1_clean 69 = .ok (.istore 5, 2) := by decide +kernel
theorem dX1_clean_71 : decode cX1_clean 71 = .ok (.iload 5, 2) := by decide +kernel
theorem dX1_clean_73 : decode cX1_clean 73 = .ok (.iload_n 3, 1) := by decide +kernel
theorem dX1_clean_74 : decode cX1_clean 74 = .ok (.if_icmp .gt 51, 3) := by decide +kernel
theorem dX1_clean_77 : decode cX1_clean 77 = .ok (.iload 5, 2) := by decide +kernel
theorem dX1_clean_79 : decode cX1_clean 79 = .ok (.aload_n 1, 1) := by decide +kernel
theorem dX1_clean_80 : decode cX1_clean 80 = .ok (.getfield 26, 3) := by decide +kernel
theorem dX1_clean_83 : decode cX1_clean 83 = .ok (.iload 4, 2) := by decide +kernel
theorem dX1_clean_85 : decode cX1_clean 85 = .ok (.aaload, 1) := by decide +kernel
theorem dX1_clean_86 : decode cX1_clean 86 = .ok (.iconst 3, 1) := by decide +kernel
theorem dX1_clean_87 : decode cX1_clean 87 = .ok (.iaload, 1) := by decide +kernel
theorem dX1_clean_88 : decode cX1_clean 88 = .ok (.iadd, 1) := by decide +kernel
theorem dX1_clean_89 : decode cX1_clean 89 = .ok (.istore 6, 2) := by decide +kernel
theorem dX1_clean_91 : decode cX1_clean 91 = .ok (.aload_n 0, 1) := by decide +kernel
theorem dX1_clean_92 : decode cX1_clean 92 = .ok (.getfield 17, 3) := by decide +kernel
theorem dX1_clean_95 : decode cX1_clean 95 = .ok (.iload 4, 2) := by decide +kernel
theorem dX1_clean_97 : decode cX1_clean 97 = .ok (.aaload, 1) := by decide +kernel
theorem dX1_clean_98 : decode cX1_clean 98 = .ok (.iload 5, 2) := by decide +kernel
theorem dX1_clean_100 : decode cX1_clean 100 = .ok (.aload_n 0, 1) := by decide +kernel
theorem dX1_clean_101 : decode cX1_clean 101 = .ok (.aload_n 1, 1) := by decide +kernel
theorem dX1_clean_102 : decode cX1_clean 102 = .ok (.iload 4, 2) := by decide +kernel
theorem dX1_clean_104 : decode cX1_clean 104 = .ok (.iload 6, 2) := by decide +kernel
theorem dX1_clean_106 : decode cX1_clean 106 = .ok (.aload_n 0, 1) := by decide +kernel
theorem dX1_clean_107 : decode cX1_clean 107 = .ok (.aload_n 1, 1) := by decide +kernel
theorem dX1_clean_108 : decode cX1_clean 108 = .ok (.iload 4, 2) := by decide +kernel
theorem dX1_clean_110 : decode cX1_clean 110 = .ok (.iload 6, 2) := by decide +kernel
theorem dX1_clean_112 : decode cX1_clean 112 = .ok (.invokevirtual 35, 3) := by decide +kernel
theorem dX1_clean_115 : decode cX1_clean 115 = .ok (.invokevirtual 39, 3) := by decide +kernel
theorem dX1_clean_118 : decode cX1_clean 118 = .ok (.iastore, 1) := by decide +kernel
theorem dX1_clean_119 : decode cX1_clean 119 = .ok (.iinc 5 1, 3) := by decide +kernel
theorem dX1_clean_122 : decode cX1_clean 122 = .ok (.goto (-51), 3) := by decide +kernel
theorem dX1_clean_125 : decode cX1_clean 125 = .ok (.iinc 4 (-1), 3) := by decide +kernel
theorem dX1_clean_128 : decode cX1_clean 128 = .ok (.goto (-77), 3) := by decide +kernel
theorem dX1_clean_131 : decode cX1_clean 131 = .ok (.iconst 0, 1) := by decide +kernel
theorem dX1_clean_132 : decode cX1_clean 132 = .ok (.istore 4, 2) := by decide +kernel
theorem dX1_clean_134 : decode cX1_clean 134 = .ok (.iconst 0, 1) := by decide +kernel
theorem dX1_clean_135 : decode cX1_clean 135 = .ok (.istore 5, 2) := by decide +kernel
theorem dX1_clean_137 : decode cX1_clean 137 = .ok (.iload 5, 2) := by decide +kernel
theorem dX1_clean_139 : decode cX1_clean 139 = .ok (.iload_n 2, 1) := by decide +kernel
theorem dX1_clean_140 : decode cX1_clean 140 = .ok (.if_icmp .gt 51, 3) := by decide +kernel
theorem dX1_clean_143 : decode cX1_clean 143 = .ok (.iload 4, 2) := by decide +kernel
theorem dX1_clean_145 : decode cX1_clean 145 = .ok (.aload_n 1, 1) := by decide +kernel
theorem dX1_clean_146 : decode cX1_clean 146 = .ok (.getfield 26, 3) := by decide +kernel
theorem dX1_clean_149 : decode cX1_clean 149 = .ok (.iload 5, 2) := by decide +kernel
theorem dX1_clean_151 : decode cX1_clean 151 = .ok (.aaload, 1) := by decide +kernel
theorem dX1_clean_152 : decode cX1_clean 152 = .ok (.iconst 3, 1) := by decide +kernel
theorem dX1_clean_153 : decode cX1_clean 153 = .ok (.iaload, 1) := by decide +kernel
theorem dX1_clean_154 : decode cX1_clean 154 = .ok (.iadd, 1) := by decide +kernel
theorem dX1_clean_155 : decode cX1_clean 155 = .ok (.istore 6, 2) := by decide +kernel
theorem dX1_clean_157 : decode cX1_clean 157 = .ok (.aload_n 0, 1) := by decide +kernel
theorem dX1_clean_158 : decode cX1_clean 158 = .ok (.getfield 9, 3) := by decide +kernel
theorem dX1_clean_161 : decode cX1_clean 161 = .ok (.iload 5, 2) := by decide +kernel
theorem dX1_clean_163 : decode cX1_clean 163 = .ok (.aload_n 0, 1) := by decide +kernel
theorem dX1_clean_164 : decode cX1_clean 164 = .ok (.aload_n 1, 1) := by decide +kernel
theorem dX1_clean_165 : decode cX1_clean 165 = .ok (.iload 5, 2) := by decide +kernel
theorem dX1_clean_167 : decode cX1_clean 167 = .ok (.iload 6, 2) := by decide +kernel
theorem dX1_clean_169 : decode cX1_clean 169 = .ok (.invokevirtual 35, 3) := by decide +kernel
theorem dX1_clean_172 : decode cX1_clean 172 = .ok (.iastore, 1) := by decide +kernel
theorem dX1_clean_173 : decode cX1_clean 173 = .ok (.iload 6, 2) := by decide +kernel
theorem dX1_clean_175 : decode cX1_clean 175 = .ok (.aload_n 0, 1) := by decide +kernel
theorem dX1_clean_176 : decode cX1_clean 176 = .ok (.getfield 9, 3) := by decide +kernel
theorem dX1_clean_179 : decode cX1_clean 179 = .ok (.iload 5, 2) := by decide +kernel
theorem dX1_clean_181 : decode cX1_clean 181 = .ok (.iaload, 1) := by decide +kernel
theorem dX1_clean_182 : decode cX1_clean 182 = .ok (.isub, 1) := by decide +kernel
theorem dX1_clean_183 : decode cX1_clean 183 = .ok (.istore 4, 2) := by decide +kernel
theorem dX1_clean_185 : decode cX1_clean 185 = .ok (.iinc 5 1, 3) := by decide +kernel
theorem dX1_clean_188 : decode cX1_clean 188 = .ok (.goto (-51), 3) := by decide +kernel
theorem dX1_clean_191 : decode cX1_clean 191 = .ok (.aload_n 0, 1) := by decide +kernel
theorem dX1_clean_192 : decode cX1_clean 192 = .ok (.getfield 17, 3) := by decide +kernel
theorem dX1_clean_195 : decode cX1_clean 195 = .ok (.iconst 0, 1) := by decide +kernel
theorem dX1_clean_196 : decode cX1_clean 196 = .ok (.aaload, 1) := by decide +kernel
theorem dX1_clean_197 : decode cX1_clean 197 = .ok (.iconst 0, 1) := by decide +kernel
theorem dX1_clean_198 : decode cX1_clean 198 = .ok (.iaload, 1) := by decide +kernel
theorem dX1_clean_199 : decode cX1_clean 199 = .ok (.ireturn, 1) := by decide +kernel
theorem dX1_coins_0 : decode cX1_coins 0 = .ok (.iload 4, 2) := by decide +kernel
theorem dX1_coins_2 : decode cX1_coins 2 = .ok (.aload_n 1, 1) := by decide +kernel
theorem dX1_coins_3 : decode cX1_coins 3 = .ok (.getfield 26, 3) := by decide +kernel
theorem dX1_coins_6 : decode cX1_coins 6 = .ok (.iload_n 2, 1) := by decide +kernel
theorem dX1_coins_7 : decode cX1_coins 7 = .ok (.aaload, 1) := by decide +kernel
theorem dX1_coins_8 : decode cX1_coins 8 = .ok (.iconst 5, 1) := by decide +kernel
theorem dX1_coins_9 : decode cX1_coins 9 = .ok (.iaload, 1) := by decide +kernel
theorem dX1_coins_10 : decode cX1_coins 10 = .ok (.imul, 1) := by decide +kernel
theorem dX1_coins_11 : decode cX1_coins 11 = .ok (.aload_n 0, 1) := by decide +kernel
theorem dX1_coins_12 : decode cX1_coins 12 = .ok (.getfield 17, 3) := by decide +kernel
theorem dX1_coins_15 : decode cX1_coins 15 = .ok (.iload_n 2, 1) := by decide +kernel
theorem dX1_coins_16 : decode cX1_coins 16 = .ok (.iconst 1, 1) := by decide +kernel
theorem dX1_coins_17 : decode cX1_coins 17 = .ok (.iadd, 1) := by decide +kernel
theorem dX1_coins_18 : decode cX1_coins 18 = .ok (.aaload, 1) := by decide +kernel
theorem dX1_coins_19 : decode cX1_coins 19 = .ok (.iload_n 3, 1) := by decide +kernel
theorem dX1_coins_20 : decode cX1_coins 20 = .ok (.iload 4, 2) := by decide +kernel
theorem dX1_coins_22 : decode cX1_coins 22 = .ok (.isub, 1) := by decide +kernel
theorem dX1_coins_23 : decode cX1_coins 23 = .ok (.iaload, 1) := by decide +kernel
theorem dX1_coins_24 : decode cX1_coins 24 = .ok (.iadd, 1) := by decide +kernel
theorem dX1_coins_25 : decode cX1_coins 25 = .ok (.ireturn, 1) := by decide +kernel
theorem dX1_leastBest_0 : decode cX1_leastBest 0 = .ok (.iconst 0, 1) := by decide +kernel
theorem dX1_leastBest_1 : decode cX1_leastBest 1 = .ok (.istore 4, 2) := by decide +kernel
theorem dX1_leastBest_3 : decode cX1_leastBest 3 = .ok (.iload_n 2, 1) := by decide +kernel
theorem dX1_leastBest_4 : decode cX1_leastBest 4 = .ok (.iconst 1, 1) := by decide +kernel
theorem dX1_leastBest_5 : decode cX1_leastBest 5 = .ok (.iadd, 1) := by decide +kernel
theorem dX1_leastBest_6 : decode cX1_leastBest 6 = .ok (.aload_n 1, 1) := by decide +kernel
theorem dX1_leastBest_7 : decode cX1_leastBest 7 = .ok (.getfield 20, 3) := by decide +kernel
theorem dX1_leastBest_10 : decode cX1_leastBest 10 = .ok (.if_icmp .ge 21, 3) := by decide +kernel
theorem dX1_leastBest_13 : decode cX1_leastBest 13 = .ok (.iconst 0, 1) := by decide +kernel
theorem dX1_leastBest_14 : decode cX1_leastBest 14 = .ok (.iload_n 3, 1) := by decide +kernel
theorem dX1_leastBest_15 : decode cX1_leastBest 15 = .ok (.aload_n 1, 1) := by decide +kernel
theorem dX1_leastBest_16 : decode cX1_leastBest 16 = .ok (.getfield 26, 3) := by decide +kernel
theorem dX1_leastBest_19 : decode cX1_leastBest 19 = .ok (.iload_n 2, 1) := by decide +kernel
theorem dX1_leastBest_20 : decode cX1_leastBest 20 = .ok (.iconst 1, 1) := by decide +kernel
theorem dX1_leastBest_21 : decode cX1_leastBest 21 = .ok (.iadd, 1) := by decide +kernel
theorem dX1_leastBest_22 : decode cX1_leastBest 22 = .ok (.aaload, 1) := by decide +kernel
theorem dX1_leastBest_23 : decode cX1_leastBest 23 = .ok (.iconst 4, 1) := by decide +kernel
theorem dX1_leastBest_24 : decode cX1_leastBest 24 = .ok (.iaload, 1) := by decide +kernel
theorem dX1_leastBest_25 : decode cX1_leastBest 25 = .ok (.isub, 1) := by decide +kernel
theorem dX1_leastBest_26 : decode cX1_leastBest 26 = .ok (.invokestatic 43, 3) := by decide +kernel
theorem dX1_leastBest_29 : decode cX1_leastBest 29 = .ok (.istore 4, 2) := by decide +kernel
theorem dX1_leastBest_31 : decode cX1_leastBest 31 = .ok (.iload 4, 2) := by decide +kernel
theorem dX1_leastBest_33 : decode cX1_leastBest 33 = .ok (.istore 5, 2) := by decide +kernel
theorem dX1_leastBest_35 : decode cX1_leastBest 35 = .ok (.iload 4, 2) := by decide +kernel
theorem dX1_leastBest_37 : decode cX1_leastBest 37 = .ok (.iconst 1, 1) := by decide +kernel
theorem dX1_leastBest_38 : decode cX1_leastBest 38 = .ok (.iadd, 1) := by decide +kernel
theorem dX1_leastBest_39 : decode cX1_leastBest 39 = .ok (.istore 6, 2) := by decide +kernel
theorem dX1_leastBest_41 : decode cX1_leastBest 41 = .ok (.iload 6, 2) := by decide +kernel
theorem dX1_leastBest_43 : decode cX1_leastBest 43 = .ok (.iload_n 3, 1) := by decide +kernel
theorem dX1_leastBest_44 : decode cX1_leastBest 44 = .ok (.if_icmp .gt 34, 3) := by decide +kernel
theorem dX1_leastBest_47 : decode cX1_leastBest 47 = .ok (.aload_n 0, 1) := by decide +kernel
theorem dX1_leastBest_48 : decode cX1_leastBest 48 = .ok (.aload_n 1, 1) := by decide +kernel
theorem dX1_leastBest_49 : decode cX1_leastBest 49 = .ok (.iload_n 2, 1) := by decide +kernel
theorem dX1_leastBest_50 : decode cX1_leastBest 50 = .ok (.iload_n 3, 1) := by decide +kernel
theorem dX1_leastBest_51 : decode cX1_leastBest 51 = .ok (.iload 6, 2) := by decide +kernel
theorem dX1_leastBest_53 : decode cX1_leastBest 53 = .ok (.invokevirtual 39, 3) := by decide +kernel
theorem dX1_leastBest_56 : decode cX1_leastBest 56 = .ok (.aload_n 0, 1) := by decide +kernel
theorem dX1_leastBest_57 : decode cX1_leastBest 57 = .ok (.aload_n 1, 1) := by decide +kernel
theorem dX1_leastBest_58 : decode cX1_leastBest 58 = .ok (.iload_n 2, 1) := by decide +kernel
theorem dX1_leastBest_59 : decode cX1_leastBest 59 = .ok (.iload_n 3, 1) := by decide +kernel
theorem dX1_leastBest_60 : decode cX1_leastBest 60 = .ok (.iload 5, 2) := by decide +kernel
theorem dX1_leastBest_62 : decode cX1_leastBest 62 = .ok (.invokevirtual 39, 3) := by decide +kernel
theorem dX1_leastBest_65 : decode cX1_leastBest 65 = .ok (.if_icmp .ge 7, 3) := by decide +kernel
theorem dX1_leastBest_68 : decode cX1_leastBest 68 = .ok (.iload 6, 2) := by decide +kernel
theorem dX1_leastBest_70 : decode cX1_leastBest 70 = .ok (.istore 5, 2) := by decide +kernel
theorem dX1_leastBest_72 : decode cX1_leastBest 72 = .ok (.iinc 6 1, 3) := by decide +kernel
theorem dX1_leastBest_75 : decode cX1_leastBest 75 = .ok (.goto (-34), 3) := by decide +kernel
theorem dX1_leastBest_78 : decode cX1_leastBest 78 = .ok (.iload 5, 2) := by decide +kernel
theorem dX1_leastBest_80 : decode cX1_leastBest 80 = .ok (.ireturn, 1) := by decide +kernel
theorem dX2_init_0 : decode cX2_init 0 = .ok (.aload_n 0, 1) := by decide +kernel
theorem dX2_init_1 : decode cX2_init 1 = .ok (.invokespecial 3, 3) := by decide +kernel
theorem dX2_init_4 : decode cX2_init 4 = .ok (.aload_n 0, 1) := by decide +kernel
theorem dX2_init_5 : decode cX2_init 5 = .ok (.iconst 0, 1) := by decide +kernel
theorem dX2_init_6 : decode cX2_init 6 = .ok (.putfield 9, 3) := by decide +kernel
theorem dX2_init_9 : decode cX2_init 9 = .ok (.aload_n 0, 1) := by decide +kernel
theorem dX2_init_10 : decode cX2_init 10 = .ok (.bipush 6, 2) := by decide +kernel
theorem dX2_init_12 : decode cX2_init 12 = .ok (.bipush 6, 2) := by decide +kernel
theorem dX2_init_14 : decode cX2_init 14 = .ok (.multianewarray 15 2, 4) := by decide +kernel
theorem dX2_init_18 : decode cX2_init 18 = .ok (.putfield 17, 3) := by decide +kernel
theorem dX2_init_21 : decode cX2_init 21 = .ok (.aload_n 0, 1) := by decide +kernel
theorem dX2_init_22 : decode cX2_init 22 = .ok (.bipush 6, 2) := by decide +kernel
theorem dX2_init_24 : decode cX2_init 24 = .ok (.bipush 13, 2) := by decide +kernel
theorem dX2_init_26 : decode cX2_init 26 = .ok (.multianewarray 15 2, 4) := by decide +kernel
theorem dX2_init_30 : decode cX2_init 30 = .ok (.putfield 20, 3) := by decide +kernel
theorem dX2_init_33 : decode cX2_init 33 = .ok (.aload_n 0, 1) := by decide +kernel
theorem dX2_init_34 : decode cX2_init 34 = .ok (.iconst 0, 1) := by decide +kernel
theorem dX2_init_35 : decode cX2_init 35 = .ok (.putfield 23, 3) := by decide +kernel
theorem dX2_init_38 : decode cX2_init 38 = .ok (.aload_n 0, 1) := by decide +kernel
theorem dX2_init_39 : decode cX2_init 39 = .ok (.bipush 6, 2) := by decide +kernel
theorem dX2_init_41 : decode cX2_init 41 = .ok (.newarray .int, 2) := by decide +kernel
theorem dX2_init_43 : decode cX2_init 43 = .ok (.putfield 26, 3) := by decide +kernel
theorem dX2_init_46 : decode cX2_init 46 = .ok (.aload_n 0, 1) := by decide +kernel
theorem dX2_init_47 : decode cX2_init 47 = .ok (.iconst (-1), 1) := by decide +kernel
theorem dX2_init_48 : decode cX2_init 48 = .ok (.putfield 30, 3) := by decide +kernel
theorem dX2_init_51 : decode cX2_init 51 = .ok (.aload_n 0, 1) := by decide +kernel
theorem dX2_init_52 : decode cX2_init 52 = .ok (.iconst 0, 1) := by decide +kernel
theorem dX2_init_53 : decode cX2_init 53 = .ok (.putfield 33, 3) := by decide +kernel
theorem dX2_init_56 : decode cX2_init 56 = .ok (.aload_n 0, 1) := by decide +kernel
theorem dX2_init_57 : decode cX2_init 57 = .ok (.new 36, 3) := by decide +kernel
theorem dX2_init_60 : decode cX2_init 60 = .ok (.dup, 1) := by decide +kernel
theorem dX2_init_61 : decode cX2_init 61 = .ok (.invokespecial 38, 3) := by decide +kernel
theorem dX2_init_64 : decode cX2_init 64 = .ok (.putfield 39, 3) := by decide +kernel
theorem dX2_init_67 : decode cX2_init 67 = .ok (.return_, 1) := by decide +kernel
theorem dX2_addVillage_0 : decode cX2_addVillage 0 = .ok (.aload_n 0, 1) := by decide +kernel
theorem dX2_addVillage_1 : decode cX2_addVillage 1 = .ok (.getfield 9, 3) := by decide +kernel
theorem dX2_addVillage_4 : decode cX2_addVillage 4 = .ok (.istore_n 2, 1) := by decide +kernel
theorem dX2_addVillage_5 : decode cX2_addVillage 5 = .ok (.getstatic 43, 3) := by decide +kernel
theorem dX2_addVillage_8 : decode cX2_addVillage 8 = .ok (.iconst 0, 1) := by decide +kernel
theorem dX2_addVillage_9 : decode cX2_addVillage 9 = .ok (.aload_n 0, 1) := by decide +kernel
theorem dX2_addVillage_10 : decode cX2_addVillage 10 = .ok (.getfield 17, 3) := by decide +kernel
theorem dX2_addVillage_13 : decode cX2_addVillage 13 = .ok (.iload_n 2, 1) := by decide +kernel
theorem dX2_addVillage_14 : decode cX2_addVillage 14 = .ok (.aaload, 1) := by decide +kernel
theorem dX2_addVillage_15 : decode cX2_addVillage 15 = .ok (.iconst 0, 1) := by decide +kernel
theorem dX2_addVillage_16 : decode cX2_addVillage 16 = .ok (.bipush 6, 2) := by decide +kernel
theorem dX2_addVillage_18 : decode cX2_addVillage 18 = .ok (.invokestatic 46, 3) := by decide +kernel
theorem dX2_addVillage_21 : decode cX2_addVillage 21 = .ok (.aload_n 0, 1) := by decide +kernel
theorem dX2_addVillage_22 : decode cX2_addVillage 22 = .ok (.getfield 17, 3) := by decide +kernel
theorem dX2_addVillage_25 : decode cX2_addVillage 25 = .ok (.iload_n 2, 1) := by decide +kernel
theorem dX2_addVillage_26 : decode cX2_addVillage 26 = .ok (.aaload, 1) := by decide +kernel
theorem dX2_addVillage_27 : decode cX2_addVillage 27 = .ok (.iconst 0, 1) := by decide +kernel
theorem dX2_addVillage_28 : decode cX2_addVillage 28 = .ok (.iload_n 1, 1) := by decide +kernel
theorem dX2_addVillage_29 : decode cX2_addVillage 29 = .ok (.iastore, 1) := by decide +kernel
theorem dX2_addVillage_30 : decode cX2_addVillage 30 = .ok (.aload_n 0, 1) := by decide +kernel
theorem dX2_addVillage_31 : decode cX2_addVillage 31 = .ok (.getfield 20, 3) := by decide +kernel
theorem dX2_addVillage_34 : decode cX2_addVillage 34 = .ok (.iload_n 2, 1) := by decide +kernel
theorem dX2_addVillage_35 : decode cX2_addVillage 35 = .ok (.aaload, 1) := by decide +kernel
theorem dX2_addVillage_36 : decode cX2_addVillage 36 = .ok (.iconst 0, 1) := by decide +kernel
theorem dX2_addVillage_37 : decode cX2_addVillage 37 = .ok (.invokestatic 52, 3) := by decide +kernel
theorem dX2_addVillage_40 : decode cX2_addVillage 40 = .ok (.aload_n 0, 1) := by decide +kernel
theorem dX2_addVillage_41 : decode cX2_addVillage 41 = .ok (.dup, 1) := by decide +kernel
theorem dX2_addVillage_42 : decode cX2_addVillage 42 = .ok (.getfield 9, 3) := by decide +kernel
theorem dX2_addVillage_45 : decode cX2_addVillage 45 = .ok (.iconst 1, 1) := by decide +kernel
theorem dX2_addVillage_46 : decode cX2_addVillage 46 = .ok (.iadd, 1) := by decide +kernel
theorem dX2_addVillage_47 : decode cX2_addVillage 47 = .ok (.putfield 9, 3) := by decide +kernel
theorem dX2_addVillage_50 : decode cX2_addVillage 50 = .ok (.iload_n 2, 1) := by decide +kernel
theorem dX2_addVillage_51 : decode cX2_addVillage 51 = .ok (.ireturn, 1) := by decide +kernel
theorem dX2_takeWorths_0 : decode cX2_takeWorths 0 = .ok (.iconst 0, 1) := by decide +kernel
theorem dX2_takeWorths_1 : decode cX2_takeWorths 1 = .ok (.istore_n 3, 1) := by decide +kernel
theorem dX2_takeWorths_2 : decode cX2_takeWorths 2 = .ok (.iload_n 3, 1) := by decide +kernel
theorem dX2_takeWorths_3 : decode cX2_takeWorths 3 = .ok (.bipush 12, 2) := by decide +kernel
theorem dX2_takeWorths_5 : decode cX2_takeWorths 5 = .ok (.if_icmp .ge 31, 3) := by decide +kernel
theorem dX2_takeWorths_8 : decode cX2_takeWorths 8 = .ok (.aload_n 0, 1) := by decide +kernel
theorem dX2_takeWorths_9 : decode cX2_takeWorths 9 = .ok (.getfield 20, 3) := by decide +kernel
theorem dX2_takeWorths_12 : decode cX2_takeWorths 12 = .ok (.iload_n 1, 1) := by decide +kernel
theorem dX2_takeWorths_13 : decode cX2_takeWorths 13 = .ok (.aaload, 1) := by decide +kernel
theorem dX2_takeWorths_14 : decode cX2_takeWorths 14 = .ok (.iload_n 3, 1) := by decide +kernel
theorem dX2_takeWorths_15 : decode cX2_takeWorths 15 = .ok (.iconst 1, 1) := by decide +kernel
theorem dX2_takeWorths_16 : decode cX2_takeWorths 16 = .ok (.iadd, 1) := by decide +kernel
theorem dX2_takeWorths_17 : decode cX2_takeWorths 17 = .ok (.aload_n 0, 1) := by decide +kernel
theorem dX2_takeWorths_18 : decode cX2_takeWorths 18 = .ok (.getfield 20, 3) := by decide +kernel
theorem dX2_takeWorths_21 : decode cX2_takeWorths 21 = .ok (.iload_n 1, 1) := by decide +kernel
theorem dX2_takeWorths_22 : decode cX2_takeWorths 22 = .ok (.aaload, 1) := by decide +kernel
theorem dX2_takeWorths_23 : decode cX2_takeWorths 23 = .ok (.iload_n 3, 1) := by decide +kernel
theorem dX2_takeWorths_24 : decode cX2_takeWorths 24 = .ok (.iaload, 1) := by decide +kernel
theorem dX2_takeWorths_25 : decode cX2_takeWorths 25 = .ok (.aload_n 2, 1) := by decide +kernel
theorem dX2_takeWorths_26 : decode cX2_takeWorths 26 = .ok (.iload_n 3, 1) := by decide +kernel
theorem dX2_takeWorths_27 : decode cX2_takeWorths 27 = .ok (.iaload, 1) := by decide +kernel
theorem dX2_takeWorths_28 : decode cX2_takeWorths 28 = .ok (.iadd, 1) := by decide +kernel
theorem dX2_takeWorths_29 : decode cX2_takeWorths 29 = .ok (.iastore, 1) := by decide +kernel
theorem dX2_takeWorths_30 : decode cX2_takeWorths 30 = .ok (.iinc 3 1, 3) := by decide +kernel
theorem dX2_takeWorths_33 : decode cX2_takeWorths 33 = .ok (.goto (-31), 3) := by decide +kernel
theorem dX2_takeWorths_36 : decode cX2_takeWorths 36 = .ok (.return_, 1) := by decide +kernel
theorem dX2_made_0 : decode cX2_made 0 = .ok (.aload_n 0, 1) := by decide +kernel
theorem dX2_made_1 : decode cX2_made 1 = .ok (.getfield 20, 3) := by decide +kernel
theorem dX2_made_4 : decode cX2_made 4 = .ok (.iload_n 1, 1) := by decide +kernel
theorem dX2_made_5 : decode cX2_made 5 = .ok (.aaload, 1) := by decide +kernel
theorem dX2_made_6 : decode cX2_made 6 = .ok (.iload_n 2, 1) := by decide +kernel
theorem dX2_made_7 : decode cX2_made 7 = .ok (.iaload, 1) := by decide +kernel
theorem dX2_made_8 : decode cX2_made 8 = .ok (.aload_n 0, 1) := by decide +kernel
theorem dX2_made_9 : decode cX2_made 9 = .ok (.getfield 17, 3) := by decide +kernel
theorem dX2_made_12 : decode cX2_made 12 = .ok (.iload_n 1, 1) := by decide +kernel
theorem dX2_made_13 : decode cX2_made 13 = .ok (.aaload, 1) := by decide +kernel
theorem dX2_made_14 : decode cX2_made 14 = .ok (.iconst 2, 1) := by decide +kernel
theorem dX2_made_15 : decode cX2_made 15 = .ok (.iaload, 1) := by decide +kernel
theorem dX2_made_16 : decode cX2_made 16 = .ok (.iconst 0, 1) := by decide +kernel
theorem dX2_made_17 : decode cX2_made 17 = .ok (.iload_n 3, 1) := by decide +kernel
theorem dX2_made_18 : decode cX2_made 18 = .ok (.aload_n 0, 1) := by decide +kernel
theorem dX2_made_19 : decode cX2_made 19 = .ok (.getfield 17, 3) := by decide +kernel
theorem dX2_made_22 : decode cX2_made 22 = .ok (.iload_n 1, 1) := by decide +kernel
theorem dX2_made_23 : decode cX2_made 23 = .ok (.aaload, 1) := by decide +kernel
theorem dX2_made_24 : decode cX2_made 24 = .ok (.iconst 1, 1) := by decide +kernel
theorem dX2_made_25 : decode cX2_made 25 = .ok (.iaload, 1) := by decide +kernel
theorem dX2_made_26 : decode cX2_made 26 = .ok (.isub, 1) := by decide +kernel
theorem dX2_made_27 : decode cX2_made 27 = .ok (.invokestatic 58, 3) := by decide +kernel
theorem dX2_made_30 : decode cX2_made 30 = .ok (.imul, 1) := by decide +kernel
theorem dX2_made_31 : decode cX2_made 31 = .ok (.isub, 1) := by decide +kernel
theorem dX2_made_32 : decode cX2_made 32 = .ok (.ireturn, 1) := by decide +kernel
theorem dX2_wanted_0 : decode cX2_wanted 0 = .ok (.iconst 0, 1) := by decide +kernel
theorem dX2_wanted_1 : decode cX2_wanted 1 = .ok (.istore_n 3, 1) := by decide +kernel
theorem dX2_wanted_2 : decode cX2_wanted 2 = .ok (.iload_n 3, 1) := by decide +kernel
theorem dX2_wanted_3 : decode cX2_wanted 3 = .ok (.bipush 12, 2) := by decide +kernel
theorem dX2_wanted_5 : decode cX2_wanted 5 = .ok (.if_icmp .ge 35, 3) := by decide +kernel
theorem dX2_wanted_8 : decode cX2_wanted 8 = .ok (.iload_n 3, 1) := by decide +kernel
theorem dX2_wanted_9 : decode cX2_wanted 9 = .ok (.iload_n 2, 1) := by decide +kernel
theorem dX2_wanted_10 : decode cX2_wanted 10 = .ok (.if_icmp .ge 30, 3) := by decide +kernel
theorem dX2_wanted_13 : decode cX2_wanted 13 = .ok (.aload_n 0, 1) := by decide +kernel
theorem dX2_wanted_14 : decode cX2_wanted 14 = .ok (.getfield 20, 3) := by decide +kernel
theorem dX2_wanted_17 : decode cX2_wanted 17 = .ok (.iload_n 1, 1) := by decide +kernel
theorem dX2_wanted_18 : decode cX2_wanted 18 = .ok (.aaload, 1) := by decide +kernel
theorem dX2_wanted_19 : decode cX2_wanted 19 = .ok (.iload_n 3, 1) := by decide +kernel
theorem dX2_wanted_20 : decode cX2_wanted 20 = .ok (.iconst 1, 1) := by decide +kernel
theorem dX2_wanted_21 : decode cX2_wanted 21 = .ok (.iadd, 1) := by decide +kernel
theorem dX2_wanted_22 : decode cX2_wanted 22 = .ok (.iaload, 1) := by decide +kernel
theorem dX2_wanted_23 : decode cX2_wanted 23 = .ok (.aload_n 0, 1) := by decide +kernel
theorem dX2_wanted_24 : decode cX2_wanted 24 = .ok (.getfield 20, 3) := by decide +kernel
theorem dX2_wanted_27 : decode cX2_wanted 27 = .ok (.iload_n 1, 1) := by decide +kernel
theorem dX2_wanted_28 : decode cX2_wanted 28 = .ok (.aaload, 1) := by decide +kernel
theorem dX2_wanted_29 : decode cX2_wanted 29 = .ok (.iload_n 3, 1) := by decide +kernel
theorem dX2_wanted_30 : decode cX2_wanted 30 = .ok (.iaload, 1) := by decide +kernel
theorem dX2_wanted_31 : decode cX2_wanted 31 = .ok (.if_icmp .le 9, 3) := by decide +kernel
theorem dX2_wanted_34 : decode cX2_wanted 34 = .ok (.iinc 3 1, 3) := by decide +kernel
theorem dX2_wanted_37 : decode cX2_wanted 37 = .ok (.goto (-35), 3) := by decide +kernel
theorem dX2_wanted_40 : decode cX2_wanted 40 = .ok (.iload_n 3, 1) := by decide +kernel
theorem dX2_wanted_41 : decode cX2_wanted 41 = .ok (.ireturn, 1) := by decide +kernel
theorem dX2_copyFrom_0 : decode cX2_copyFrom 0 = .ok (.aload_n 0, 1) := by decide +kernel
theorem dX2_copyFrom_1 : decode cX2_copyFrom 1 = .ok (.aload_n 1, 1) := by decide +kernel
theorem dX2_copyFrom_2 : decode cX2_copyFrom 2 = .ok (.getfield 9, 3) := by decide +kernel
theorem dX2_copyFrom_5 : decode cX2_copyFrom 5 = .ok (.putfield 9, 3) := by decide +kernel
theorem dX2_copyFrom_8 : decode cX2_copyFrom 8 = .ok (.iconst 0, 1) := by decide +kernel
theorem dX2_copyFrom_9 : decode cX2_copyFrom 9 = .ok (.istore_n 2, 1) := by decide +kernel
theorem dX2_copyFrom_10 : decode cX2_copyFrom 10 = .ok (.iload_n 2, 1) := by decide +kernel
theorem dX2_copyFrom_11 : decode cX2_copyFrom 11 = .ok (.bipush 6, 2) := by decide +kernel
theorem dX2_copyFrom_13 : decode cX2_copyFrom 13 = .ok (.if_icmp .ge 47, 3) := by decide +kernel
theorem dX2_copyFrom_16 : decode cX2_copyFrom 16 = .ok (.aload_n 1, 1) := by decide +kernel
theorem dX2_copyFrom_17 : decode cX2_copyFrom 17 = .ok (.getfield 17, 3) := by decide +kernel
theorem dX2_copyFrom_20 : decode cX2_copyFrom 20 = .ok (.iload_n 2, 1) := by decide +kernel
theorem dX2_copyFrom_21 : decode cX2_copyFrom 21 = .ok (.aaload, 1) := by decide +kernel
theorem dX2_copyFrom_22 : decode cX2_copyFrom 22 = .ok (.iconst 0, 1) := by decide +kernel
theorem dX2_copyFrom_23 : decode cX2_copyFrom 23 = .ok (.aload_n 0, 1) := by decide +kernel
theorem dX2_copyFrom_24 : decode cX2_copyFrom 24 = .ok (.getfield 17, 3) := by decide +kernel
theorem dX2_copyFrom_27 : decode cX2_copyFrom 27 = .ok (.iload_n 2, 1) := by decide +kernel
theorem dX2_copyFrom_28 : decode cX2_copyFrom 28 = .ok (.aaload, 1) := by decide +kernel
theorem dX2_copyFrom_29 : decode cX2_copyFrom 29 = .ok (.iconst 0, 1) := by decide +kernel
theorem dX2_copyFrom_30 : decode cX2_copyFrom 30 = .ok (.bipush 6, 2) := by decide +kernel
theorem dX2_copyFrom_32 : decode cX2_copyFrom 32 = .ok (.invokestatic 46, 3) := by decide +kernel
theorem dX2_copyFrom_35 : decode cX2_copyFrom 35 = .ok (.aload_n 1, 1) := by decide +kernel
theorem dX2_copyFrom_36 : decode cX2_copyFrom 36 = .ok (.getfield 20, 3) := by decide +kernel
theorem dX2_copyFrom_39 : decode cX2_copyFrom 39 = .ok (.iload_n 2, 1) := by decide +kernel
theorem dX2_copyFrom_40 : decode cX2_copyFrom 40 = .ok (.aaload, 1) := by decide +kernel
theorem dX2_copyFrom_41 : decode cX2_copyFrom 41 = .ok (.iconst 0, 1) := by decide +kernel
theorem dX2_copyFrom_42 : decode cX2_copyFrom 42 = .ok (.aload_n 0, 1) := by decide +kernel
theorem dX2_copyFrom_43 : decode cX2_copyFrom 43 = .ok (.getfield 20, 3) := by decide +kernel
theorem dX2_copyFrom_46 : decode cX2_copyFrom 46 = .ok (.iload_n 2, 1) := by decide +kernel
theorem dX2_copyFrom_47 : decode cX2_copyFrom 47 = .ok (.aaload, 1) := by decide +kernel
theorem dX2_copyFrom_48 : decode cX2_copyFrom 48 = .ok (.iconst 0, 1) := by decide +kernel
theorem dX2_copyFrom_49 : decode cX2_copyFrom 49 = .ok (.bipush 13, 2) := by decide +kernel
theorem dX2_copyFrom_51 : decode cX2_copyFrom 51 = .ok (.invokestatic 46, 3) := by decide +kernel
theorem dX2_copyFrom_54 : decode cX2_copyFrom 54 = .ok (.iinc 2 1, 3) := by decide +kernel
theorem dX2_copyFrom_57 : decode cX2_copyFrom 57 = .ok (.goto (-47), 3) := by decide +kernel
theorem dX2_copyFrom_60 : decode cX2_copyFrom 60 = .ok (.aload_n 0, 1) := by decide +kernel
theorem dX2_copyFrom_61 : decode cX2_copyFrom 61 = .ok (.aload_n 1, 1) := by decide +kernel
theorem dX2_copyFrom_62 : decode cX2_copyFrom 62 = .ok (.getfield 23, 3) := by decide +kernel
theorem dX2_copyFrom_65 : decode cX2_copyFrom 65 = .ok (.putfield 23, 3) := by decide +kernel
theorem dX2_copyFrom_68 : decode cX2_copyFrom 68 = .ok (.aload_n 1, 1) := by decide +kernel
theorem dX2_copyFrom_69 : decode cX2_copyFrom 69 = .ok (.getfield 26, 3) := by decide +kernel
theorem dX2_copyFrom_72 : decode cX2_copyFrom 72 = .ok (.iconst 0, 1) := by decide +kernel
theorem dX2_copyFrom_73 : decode cX2_copyFrom 73 = .ok (.aload_n 0, 1) := by decide +kernel
theorem dX2_copyFrom_74 : decode cX2_copyFrom 74 = .ok (.getfield 26, 3) := by decide +kernel
theorem dX2_copyFrom_77 : decode cX2_copyFrom 77 = .ok (.iconst 0, 1) := by decide +kernel
theorem dX2_copyFrom_78 : decode cX2_copyFrom 78 = .ok (.bipush 6, 2) := by decide +kernel
theorem dX2_copyFrom_80 : decode cX2_copyFrom 80 = .ok (.invokestatic 46, 3) := by decide +kernel
theorem dX2_copyFrom_83 : decode cX2_copyFrom 83 = .ok (.aload_n 0, 1) := by decide +kernel
theorem dX2_copyFrom_84 : decode cX2_copyFrom 84 = .ok (.aload_n 1, 1) := by decide +kernel
theorem dX2_copyFrom_85 : decode cX2_copyFrom 85 = .ok (.getfield 30, 3) := by decide +kernel
theorem dX2_copyFrom_88 : decode cX2_copyFrom 88 = .ok (.putfield 30, 3) := by decide +kernel
theorem dX2_copyFrom_91 : decode cX2_copyFrom 91 = .ok (.aload_n 0, 1) := by decide +kernel
theorem dX2_copyFrom_92 : decode cX2_copyFrom 92 = .ok (.aload_n 1, 1) := by decide +kernel
theorem dX2_copyFrom_93 : decode cX2_copyFrom 93 = .ok (.getfield 33, 3) := by decide +kernel
theorem dX2_copyFrom_96 : decode cX2_copyFrom 96 = .ok (.putfield 33, 3) := by decide +kernel
theorem dX2_copyFrom_99 : decode cX2_copyFrom 99 = .ok (.aload_n 0, 1) := by decide +kernel
theorem dX2_copyFrom_100 : decode cX2_copyFrom 100 = .ok (.getfield 39, 3) := by decide +kernel
theorem dX2_copyFrom_103 : decode cX2_copyFrom 103 = .ok (.aload_n 1, 1) := by decide +kernel
theorem dX2_copyFrom_104 : decode cX2_copyFrom 104 = .ok (.getfield 39, 3) := by decide +kernel
theorem dX2_copyFrom_107 : decode cX2_copyFrom 107 = .ok (.invokevirtual 64, 3) := by decide +kernel
theorem dX2_copyFrom_110 : decode cX2_copyFrom 110 = .ok (.return_, 1) := by decide +kernel
theorem dX3_init_0 : decode cX3_init 0 = .ok (.aload_n 0, 1) := by decide +kernel
theorem dX3_init_1 : decode cX3_init 1 = .ok (.invokespecial 3, 3) := by decide +kernel
theorem dX3_init_4 : decode cX3_init 4 = .ok (.aload_n 0, 1) := by decide +kernel
theorem dX3_init_5 : decode cX3_init 5 = .ok (.iconst (-1), 1) := by decide +kernel
theorem dX3_init_6 : decode cX3_init 6 = .ok (.putfield 9, 3) := by decide +kernel
theorem dX3_init_9 : decode cX3_init 9 = .ok (.aload_n 0, 1) := by decide +kernel
theorem dX3_init_10 : decode cX3_init 10 = .ok (.iconst 0, 1) := by decide +kernel
theorem dX3_init_11 : decode cX3_init 11 = .ok (.putfield 15, 3) := by decide +kernel
theorem dX3_init_14 : decode cX3_init 14 = .ok (.aload_n 0, 1) := by decide +kernel
theorem dX3_init_15 : decode cX3_init 15 = .ok (.bipush 40, 2) := by decide +kernel
theorem dX3_init_17 : decode cX3_init 17 = .ok (.newarray .int, 2) := by decide +kernel
theorem dX3_init_19 : decode cX3_init 19 = .ok (.putfield 18, 3) := by decide +kernel
theorem dX3_init_22 : decode cX3_init 22 = .ok (.return_, 1) := by decide +kernel
theorem dX3_becomeRow_0 : decode cX3_becomeRow 0 = .ok (.aload_n 0, 1) := by decide +kernel
theorem dX3_becomeRow_1 : decode cX3_becomeRow 1 = .ok (.iload_n 1, 1) := by decide +kernel
theorem dX3_becomeRow_2 : decode cX3_becomeRow 2 = .ok (.putfield 9, 3) := by decide +kernel
theorem dX3_becomeRow_5 : decode cX3_becomeRow 5 = .ok (.aload_n 0, 1) := by decide +kernel
theorem dX3_becomeRow_6 : decode cX3_becomeRow 6 = .ok (.iload_n 2, 1) := by decide +kernel
theorem dX3_becomeRow_7 : decode cX3_becomeRow 7 = .ok (.putfield 15, 3) := by decide +kernel
theorem dX3_becomeRow_10 : decode cX3_becomeRow 10 = .ok (.aload_n 0, 1) := by decide +kernel
theorem dX3_becomeRow_11 : decode cX3_becomeRow 11 = .ok (.getfield 18, 3) := by decide +kernel
theorem dX3_becomeRow_14 : decode cX3_becomeRow 14 = .ok (.iconst 0, 1) := by decide +kernel
theorem dX3_becomeRow_15 : decode cX3_becomeRow 15 = .ok (.invokestatic 22, 3) := by decide +kernel
theorem dX3_becomeRow_18 : decode cX3_becomeRow 18 = .ok (.return_, 1) := by decide +kernel
theorem dX3_refusalAs_0 : decode cX3_refusalAs 0 = .ok (.aload_n 0, 1) := by decide +kernel
theorem dX3_refusalAs_1 : decode cX3_refusalAs 1 = .ok (.getfield 9, 3) := by decide +kernel
theorem dX3_refusalAs_4 : decode cX3_refusalAs 4 = .ok (.iconst (-1), 1) := by decide +kernel
theorem dX3_refusalAs_5 : decode cX3_refusalAs 5 = .ok (.if_icmp .ne 6, 3) := by decide +kernel
theorem dX3_refusalAs_8 : decode cX3_refusalAs 8 = .ok (.bipush (-11), 2) := by decide +kernel
theorem dX3_refusalAs_10 : decode cX3_refusalAs 10 = .ok (.ireturn, 1) := by decide +kernel
theorem dX3_refusalAs_11 : decode cX3_refusalAs 11 = .ok (.aload_n 0, 1) := by decide +kernel
theorem dX3_refusalAs_12 : decode cX3_refusalAs 12 = .ok (.getfield 9, 3) := by decide +kernel
theorem dX3_refusalAs_15 : decode cX3_refusalAs 15 = .ok (.iload_n 1, 1) := by decide +kernel
theorem dX3_refusalAs_16 : decode cX3_refusalAs 16 = .ok (.if_icmp .ne 7, 3) := by decide +kernel
theorem dX3_refusalAs_19 : decode cX3_refusalAs 19 = .ok (.iconst 0, 1) := by decide +kernel
theorem dX3_refusalAs_20 : decode cX3_refusalAs 20 = .ok (.goto 5, 3) := by decide +kernel
theorem dX3_refusalAs_23 : decode cX3_refusalAs 23 = .ok (.bipush (-13), 2) := by decide +kernel
theorem dX3_refusalAs_25 : decode cX3_refusalAs 25 = .ok (.ireturn, 1) := by decide +kernel
theorem dX3_hasItem_0 : decode cX3_hasItem 0 = .ok (.iload_n 1, 1) := by decide +kernel
theorem dX3_hasItem_1 : decode cX3_hasItem 1 = .ok (.iconst 0, 1) := by decide +kernel
theorem dX3_hasItem_2 : decode cX3_hasItem 2 = .ok (.aload_n 0, 1) := by decide +kernel
theorem dX3_hasItem_3 : decode cX3_hasItem 3 = .ok (.getfield 15, 3) := by decide +kernel
theorem dX3_hasItem_6 : decode cX3_hasItem 6 = .ok (.iconst 1, 1) := by decide +kernel
theorem dX3_hasItem_7 : decode cX3_hasItem 7 = .ok (.isub, 1) := by decide +kernel
theorem dX3_hasItem_8 : decode cX3_hasItem 8 = .ok (.invokestatic 28, 3) := by decide +kernel
theorem dX3_hasItem_11 : decode cX3_hasItem 11 = .ok (.ireturn, 1) := by decide +kernel
theorem dX3_narrowed_0 : decode cX3_narrowed 0 = .ok (.aload_n 0, 1) := by decide +kernel
theorem dX3_narrowed_1 : decode cX3_narrowed 1 = .ok (.getfield 9, 3) := by decide +kernel
theorem dX3_narrowed_4 : decode cX3_narrowed 4 = .ok (.ifCond .ne 6, 3) := by decide +kernel
theorem dX3_narrowed_7 : decode cX3_narrowed 7 = .ok (.iload_n 1, 1) := by decide +kernel
theorem dX3_narrowed_8 : decode cX3_narrowed 8 = .ok (.i2b, 1) := by decide +kernel
theorem dX3_narrowed_9 : decode cX3_narrowed 9 = .ok (.ireturn, 1) := by decide +kernel
theorem dX3_narrowed_10 : decode cX3_narrowed 10 = .ok (.aload_n 0, 1) := by decide +kernel
theorem dX3_narrowed_11 : decode cX3_narrowed 11 = .ok (.getfield 9, 3) := by decide +kernel
theorem dX3_narrowed_14 : decode cX3_narrowed 14 = .ok (.iconst 1, 1) := by decide +kernel
theorem dX3_narrowed_15 : decode cX3_narrowed 15 = .ok (.if_icmp .ne 8, 3) := by decide +kernel
theorem dX3_narrowed_18 : decode cX3_narrowed 18 = .ok (.iload_n 1, 1) := by decide +kernel
theorem dX3_narrowed_19 : decode cX3_narrowed 19 = .ok (.i2s, 1) := by decide +kernel
theorem dX3_narrowed_20 : decode cX3_narrowed 20 = .ok (.goto 4, 3) := by decide +kernel
theorem dX3_narrowed_23 : decode cX3_narrowed 23 = .ok (.iload_n 1, 1) := by decide +kernel
theorem dX3_narrowed_24 : decode cX3_narrowed 24 = .ok (.ireturn, 1) := by decide +kernel
theorem dX4_init_0 : decode cX4_init 0 = .ok (.aload_n 0, 1) := by decide +kernel
theorem dX4_init_1 : decode cX4_init 1 = .ok (.invokespecial 3, 3) := by decide +kernel
theorem dX4_init_4 : decode cX4_init 4 = .ok (.aload_n 0, 1) := by decide +kernel
theorem dX4_init_5 : decode cX4_init 5 = .ok (.bipush 6, 2) := by decide +kernel
theorem dX4_init_7 : decode cX4_init 7 = .ok (.newarray .int, 2) := by decide +kernel
theorem dX4_init_9 : decode cX4_init 9 = .ok (.putfield 9, 3) := by decide +kernel
theorem dX4_init_12 : decode cX4_init 12 = .ok (.aload_n 0, 1) := by decide +kernel
theorem dX4_init_13 : decode cX4_init 13 = .ok (.bipush 6, 2) := by decide +kernel
theorem dX4_init_15 : decode cX4_init 15 = .ok (.iconst 5, 1) := by decide +kernel
theorem dX4_init_16 : decode cX4_init 16 = .ok (.multianewarray 15 2, 4) := by decide +kernel
theorem dX4_init_20 : decode cX4_init 20 = .ok (.putfield 17, 3) := by decide +kernel
theorem dX4_init_23 : decode cX4_init 23 = .ok (.aload_n 0, 1) := by decide +kernel
theorem dX4_init_24 : decode cX4_init 24 = .ok (.iconst 5, 1) := by decide +kernel
theorem dX4_init_25 : decode cX4_init 25 = .ok (.newarray .int, 2) := by decide +kernel
theorem dX4_init_27 : decode cX4_init 27 = .ok (.putfield 20, 3) := by decide +kernel
theorem dX4_init_30 : decode cX4_init 30 = .ok (.aload_n 0, 1) := by decide +kernel
theorem dX4_init_31 : decode cX4_init 31 = .ok (.iconst 5, 1) := by decide +kernel
theorem dX4_init_32 : decode cX4_init 32 = .ok (.newarray .int, 2) := by decide +kernel
theorem dX4_init_34 : decode cX4_init 34 = .ok (.putfield 23, 3) := by decide +kernel
theorem dX4_init_37 : decode cX4_init 37 = .ok (.aload_n 0, 1) := by decide +kernel
theorem dX4_init_38 : decode cX4_init 38 = .ok (.bipush 9, 2) := by decide +kernel
theorem dX4_init_40 : decode cX4_init 40 = .ok (.newarray .int, 2) := by decide +kernel
theorem dX4_init_42 : decode cX4_init 42 = .ok (.putfield 26, 3) := by decide +kernel
theorem dX4_init_45 : decode cX4_init 45 = .ok (.return_, 1) := by decide +kernel
theorem dX4_storeBest_0 : decode cX4_storeBest 0 = .ok (.aload_n 1, 1) := by decide +kernel
theorem dX4_storeBest_1 : decode cX4_storeBest 1 = .ok (.getfield 29, 3) := by decide +kernel
theorem dX4_storeBest_4 : decode cX4_storeBest 4 = .ok (.ifCond .ge 7, 3) := by decide +kernel
theorem dX4_storeBest_7 : decode cX4_storeBest 7 = .ok (.iconst 0, 1) := by decide +kernel
theorem dX4_storeBest_8 : decode cX4_storeBest 8 = .ok (.goto 7, 3) := by decide +kernel
theorem dX4_storeBest_11 : decode cX4_storeBest 11 = .ok (.aload_n 1, 1) := by decide +kernel
theorem dX4_storeBest_12 : decode cX4_storeBest 12 = .ok (.getfield 35, 3) := by decide +kernel
theorem dX4_storeBest_15 : decode cX4_storeBest 15 = .ok (.istore_n 3, 1) := by decide +kernel
theorem dX4_storeBest_16 : decode cX4_storeBest 16 = .ok (.aload_n 0, 1) := by decide +kernel
theorem dX4_storeBest_17 : decode cX4_storeBest 17 = .ok (.getfield 20, 3) := by decide +kernel
theorem dX4_storeBest_20 : decode cX4_storeBest 20 = .ok (.iconst 0, 1) := by decide +kernel
theorem dX4_storeBest_21 : decode cX4_storeBest 21 = .ok (.invokestatic 38, 3) := by decide +kernel
theorem dX4_storeBest_24 : decode cX4_storeBest 24 = .ok (.aload_n 1, 1) := by decide +kernel
theorem dX4_storeBest_25 : decode cX4_storeBest 25 = .ok (.getfield 44, 3) := by decide +kernel
theorem dX4_storeBest_28 : decode cX4_storeBest 28 = .ok (.iconst 1, 1) := by decide +kernel
theorem dX4_storeBest_29 : decode cX4_storeBest 29 = .ok (.isub, 1) := by decide +kernel
theorem dX4_storeBest_30 : decode cX4_storeBest 30 = .ok (.istore 4, 2) := by decide +kernel
theorem dX4_storeBest_32 : decode cX4_storeBest 32 = .ok (.iload 4, 2) := by decide +kernel
theorem dX4_storeBest_34 : decode cX4_storeBest 34 = .ok (.ifCond .lt 104, 3) := by decide +kernel
theorem dX4_storeBest_37 : decode cX4_storeBest 37 = .ok (.aload_n 2, 1) := by decide +kernel
theorem dX4_storeBest_38 : decode cX4_storeBest 38 = .ok (.aload_n 1, 1) := by decide +kernel
theorem dX4_storeBest_39 : decode cX4_storeBest 39 = .ok (.aload_n 1, 1) := by decide +kernel
theorem dX4_storeBest_40 : decode cX4_storeBest 40 = .ok (.getfield 47, 3) := by decide +kernel
theorem dX4_storeBest_43 : decode cX4_storeBest 43 = .ok (.iload 4, 2) := by decide +kernel
theorem dX4_storeBest_45 : decode cX4_storeBest 45 = .ok (.iaload, 1) := by decide +kernel
theorem dX4_storeBest_46 : decode cX4_storeBest 46 = .ok (.invokevirtual 50, 3) := by decide +kernel
theorem dX4_storeBest_49 : decode cX4_storeBest 49 = .ok (.aload_n 1, 1) := by decide +kernel
theorem dX4_storeBest_50 : decode cX4_storeBest 50 = .ok (.getfield 29, 3) := by decide +kernel
theorem dX4_storeBest_53 : decode cX4_storeBest 53 = .ok (.ifCond .ge 7, 3) := by decide +kernel
theorem dX4_storeBest_56 : decode cX4_storeBest 56 = .ok (.iconst 0, 1) := by decide +kernel
theorem dX4_storeBest_57 : decode cX4_storeBest 57 = .ok (.goto 12, 3) := by decide +kernel
theorem dX4_storeBest_60 : decode cX4_storeBest 60 = .ok (.aload_n 2, 1) := by decide +kernel
theorem dX4_storeBest_61 : decode cX4_storeBest 61 = .ok (.getfield 55, 3) := by decide +kernel
theorem dX4_storeBest_64 : decode cX4_storeBest 64 = .ok (.aload_n 1, 1) := by decide +kernel
theorem dX4_storeBest_65 : decode cX4_storeBest 65 = .ok (.getfield 29, 3) := by decide +kernel
theorem dX4_storeBest_68 : decode cX4_storeBest 68 = .ok (.iaload, 1) := by decide +kernel
theorem dX4_storeBest_69 : decode cX4_storeBest 69 = .ok (.istore 5, 2) := by decide +kernel
theorem dX4_storeBest_71 : decode cX4_storeBest 71 = .ok (.aload_n 0, 1) := by decide +kernel
theorem dX4_storeBest_72 : decode cX4_storeBest 72 = .ok (.aload_n 1, 1) := by decide +kernel
theorem dX4_storeBest_73 : decode cX4_storeBest 73 = .ok (.aload_n 2, 1) := by decide +kernel
theorem dX4_storeBest_74 : decode cX4_storeBest 74 = .ok (.iload 5, 2) := by decide +kernel
theorem dX4_storeBest_76 : decode cX4_storeBest 76 = .ok (.iload_n 3, 1) := by decide +kernel
theorem dX4_storeBest_77 : decode cX4_storeBest 77 = .ok (.invokevirtual 58, 3) := by decide +kernel
theorem dX4_storeBest_80 : decode cX4_storeBest 80 = .ok (.iconst 0, 1) := by decide +kernel
theorem dX4_storeBest_81 : decode cX4_storeBest 81 = .ok (.istore 6, 2) := by decide +kernel
theorem dX4_storeBest_83 : decode cX4_storeBest 83 = .ok (.iload 6, 2) := by decide +kernel
theorem dX4_storeBest_85 : decode cX4_storeBest 85 = .ok (.iload_n 3, 1) := by decide +kernel
theorem dX4_storeBest_86 : decode cX4_storeBest 86 = .ok (.if_icmp .gt 26, 3) := by decide +kernel
theorem dX4_storeBest_89 : decode cX4_storeBest 89 = .ok (.aload_n 0, 1) := by decide +kernel
theorem dX4_storeBest_90 : decode cX4_storeBest 90 = .ok (.iload 4, 2) := by decide +kernel
theorem dX4_storeBest_92 : decode cX4_storeBest 92 = .ok (.iload 6, 2) := by decide +kernel
theorem dX4_storeBest_94 : decode cX4_storeBest 94 = .ok (.iload_n 3, 1) := by decide +kernel
theorem dX4_storeBest_95 : decode cX4_storeBest 95 = .ok (.iload 5, 2) := by decide +kernel
theorem dX4_storeBest_97 : decode cX4_storeBest 97 = .ok (.iload 6, 2) := by decide +kernel
theorem dX4_storeBest_99 : decode cX4_storeBest 99 = .ok (.iadd, 1) := by decide +kernel
theorem dX4_storeBest_100 : decode cX4_storeBest 100 = .ok (.invokestatic 62, 3) := by decide +kernel
theorem dX4_storeBest_103 : decode cX4_storeBest 103 = .ok (.invokevirtual 68, 3) := by decide +kernel
theorem dX4_storeBest_106 : decode cX4_storeBest 106 = .ok (.iinc 6 1, 3) := by decide +kernel
theorem dX4_storeBest_109 : decode cX4_storeBest 109 = .ok (.goto (-26), 3) := by decide +kernel
theorem dX4_storeBest_112 : decode cX4_storeBest 112 = .ok (.aload_n 0, 1) := by decide +kernel
theorem dX4_storeBest_113 : decode cX4_storeBest 113 = .ok (.getfield 20, 3) := by decide +kernel
theorem dX4_storeBest_116 : decode cX4_storeBest 116 = .ok (.astore 6, 2) := by decide +kernel
theorem dX4_storeBest_118 : decode cX4_storeBest 118 = .ok (.aload_n 0, 1) := by decide +kernel
theorem dX4_storeBest_119 : decode cX4_storeBest 119 = .ok (.aload_n 0, 1) := by decide +kernel
theorem dX4_storeBest_120 : decode cX4_storeBest 120 = .ok (.getfield 23, 3) := by decide +kernel
theorem dX4_storeBest_123 : decode cX4_storeBest 123 = .ok (.putfield 20, 3) := by decide +kernel
theorem dX4_storeBest_126 : decode cX4_storeBest 126 = .ok (.aload_n 0, 1) := by decide +kernel
theorem dX4_storeBest_127 : decode cX4_storeBest 127 = .ok (.aload 6, 2) := by decide +kernel
theorem dX4_storeBest_129 : decode cX4_storeBest 129 = .ok (.putfield 23, 3) := by decide +kernel
theorem dX4_storeBest_132 : decode cX4_storeBest 132 = .ok (.iinc 4 (-1), 3) := by decide +kernel
theorem dX4_storeBest_135 : decode cX4_storeBest 135 = .ok (.goto (-103), 3) := by decide +kernel
theorem dX4_storeBest_138 : decode cX4_storeBest 138 = .ok (.iconst 0, 1) := by decide +kernel
theorem dX4_storeBest_139 : decode cX4_storeBest 139 = .ok (.istore 4, 2) := by decide +kernel
theorem dX4_storeBest_141 : decode cX4_storeBest 141 = .ok (.iconst 0, 1) := by decide +kernel
theorem dX4_storeBest_142 : decode cX4_storeBest 142 = .ok (.istore 5, 2) := by decide +kernel
theorem dX4_storeBest_144 : decode cX4_storeBest 144 = .ok (.iload 5, 2) := by decide +kernel
theorem dX4_storeBest_146 : decode cX4_storeBest 146 = .ok (.aload_n 1, 1) := by decide +kernel
theorem dX4_storeBest_147 : decode cX4_storeBest 147 = .ok (.getfield 44, 3) := by decide +kernel
theorem dX4_storeBest_150 : decode cX4_storeBest 150 = .ok (.if_icmp .ge 30, 3) := by decide +kernel
theorem dX4_storeBest_153 : decode cX4_storeBest 153 = .ok (.aload_n 0, 1) := by decide +kernel
theorem dX4_storeBest_154 : decode cX4_storeBest 154 = .ok (.getfield 17, 3) := by decide +kernel
theorem dX4_storeBest_157 : decode cX4_storeBest 157 = .ok (.iload 5, 2) := by decide +kernel
theorem dX4_storeBest_159 : decode cX4_storeBest 159 = .ok (.aaload, 1) := by decide +kernel
theorem dX4_storeBest_160 : decode cX4_storeBest 160 = .ok (.iload 4, 2) := by decide +kernel
theorem dX4_storeBest_162 : decode cX4_storeBest 162 = .ok (.iaload, 1) := by decide +kernel
theorem dX4_storeBest_163 : decode cX4_storeBest 163 = .ok (.istore 4, 2) := by decide +kernel
theorem dX4_storeBest_165 : decode cX4_storeBest 165 = .ok (.aload_n 0, 1) := by decide +kernel
theorem dX4_storeBest_166 : decode cX4_storeBest 166 = .ok (.getfield 9, 3) := by decide +kernel
theorem dX4_storeBest_169 : decode cX4_storeBest 169 = .ok (.iload 5, 2) := by decide +kernel
theorem dX4_storeBest_171 : decode cX4_storeBest 171 = .ok (.iload 4, 2) := by decide +kernel
theorem dX4_storeBest_173 : decode cX4_storeBest 173 = .ok (.iastore, 1) := by decide +kernel
theorem dX4_storeBest_174 : decode cX4_storeBest 174 = .ok (.iinc 5 1, 3) := by decide +kernel
theorem dX4_storeBest_177 : decode cX4_storeBest 177 = .ok (.goto (-33), 3) := by decide +kernel
theorem dX4_storeBest_180 : decode cX4_storeBest 180 = .ok (.aload_n 0, 1) := by decide +kernel
theorem dX4_storeBest_181 : decode cX4_storeBest 181 = .ok (.getfield 20, 3) := by decide +kernel
theorem dX4_storeBest_184 : decode cX4_storeBest 184 = .ok (.iconst 0, 1) := by decide +kernel
theorem dX4_storeBest_185 : decode cX4_storeBest 185 = .ok (.iaload, 1) := by decide +kernel
theorem dX4_storeBest_186 : decode cX4_storeBest 186 = .ok (.ireturn, 1) := by decide +kernel
theorem dX4_fillBests_0 : decode cX4_fillBests 0 = .ok (.iload 4, 2) := by decide +kernel
theorem dX4_fillBests_2 : decode cX4_fillBests 2 = .ok (.ineg, 1) := by decide +kernel
theorem dX4_fillBests_3 : decode cX4_fillBests 3 = .ok (.istore 5, 2) := by decide +kernel
theorem dX4_fillBests_5 : decode cX4_fillBests 5 = .ok (.iload 5, 2) := by decide +kernel
theorem dX4_fillBests_7 : decode cX4_fillBests 7 = .ok (.iload 4, 2) := by decide +kernel
theorem dX4_fillBests_9 : decode cX4_fillBests 9 = .ok (.if_icmp .gt 60, 3) := by decide +kernel
theorem dX4_fillBests_12 : decode cX4_fillBests 12 = .ok (.iload_n 3, 1) := by decide +kernel
theorem dX4_fillBests_13 : decode cX4_fillBests 13 = .ok (.iload 5, 2) := by decide +kernel
theorem dX4_fillBests_15 : decode cX4_fillBests 15 = .ok (.iadd, 1) := by decide +kernel
theorem dX4_fillBests_16 : decode cX4_fillBests 16 = .ok (.ifCond .ge 6, 3) := by decide +kernel
theorem dX4_fillBests_19 : decode cX4_fillBests 19 = .ok (.goto 44, 3) := by decide +kernel
theorem dX4_fillBests_22 : decode cX4_fillBests 22 = .ok (.aload_n 1, 1) := by decide +kernel
theorem dX4_fillBests_23 : decode cX4_fillBests 23 = .ok (.getfield 29, 3) := by decide +kernel
theorem dX4_fillBests_26 : decode cX4_fillBests 26 = .ok (.ifCond .lt 16, 3) := by decide +kernel
theorem dX4_fillBests_29 : decode cX4_fillBests 29 = .ok (.aload_n 2, 1) := by decide +kernel
theorem dX4_fillBests_30 : decode cX4_fillBests 30 = .ok (.getfield 55, 3) := by decide +kernel
theorem dX4_fillBests_33 : decode cX4_fillBests 33 = .ok (.aload_n 1, 1) := by decide +kernel
theorem dX4_fillBests_34 : decode cX4_fillBests 34 = .ok (.getfield 29, 3) := by decide +kernel
theorem dX4_fillBests_37 : decode cX4_fillBests 37 = .ok (.iload_n 3, 1) := by decide +kernel
theorem dX4_fillBests_38 : decode cX4_fillBests 38 = .ok (.iload 5, 2) := by decide +kernel
theorem dX4_fillBests_40 : decode cX4_fillBests 40 = .ok (.iadd, 1) := by decide +kernel
theorem dX4_fillBests_41 : decode cX4_fillBests 41 = .ok (.iastore, 1) := by decide +kernel
theorem dX4_fillBests_42 : decode cX4_fillBests 42 = .ok (.aload_n 0, 1) := by decide +kernel
theorem dX4_fillBests_43 : decode cX4_fillBests 43 = .ok (.getfield 26, 3) := by decide +kernel
theorem dX4_fillBests_46 : decode cX4_fillBests 46 = .ok (.iconst 4, 1) := by decide +kernel
theorem dX4_fillBests_47 : decode cX4_fillBests 47 = .ok (.iload 5, 2) := by decide +kernel
theorem dX4_fillBests_49 : decode cX4_fillBests 49 = .ok (.iadd, 1) := by decide +kernel
theorem dX4_fillBests_50 : decode cX4_fillBests 50 = .ok (.aload_n 2, 1) := by decide +kernel
theorem dX4_fillBests_51 : decode cX4_fillBests 51 = .ok (.aload_n 1, 1) := by decide +kernel
theorem dX4_fillBests_52 : decode cX4_fillBests 52 = .ok (.iconst 0, 1) := by decide +kernel
theorem dX4_fillBests_53 : decode cX4_fillBests 53 = .ok (.aload_n 1, 1) := by decide +kernel
theorem dX4_fillBests_54 : decode cX4_fillBests 54 = .ok (.getfield 72, 3) := by decide +kernel
theorem dX4_fillBests_57 : decode cX4_fillBests 57 = .ok (.iconst 1, 1) := by decide +kernel
theorem dX4_fillBests_58 : decode cX4_fillBests 58 = .ok (.isub, 1) := by decide +kernel
theorem dX4_fillBests_59 : decode cX4_fillBests 59 = .ok (.invokevirtual 75, 3) := by decide +kernel
theorem dX4_fillBests_62 : decode cX4_fillBests 62 = .ok (.iastore, 1) := by decide +kernel
theorem dX4_fillBests_63 : decode cX4_fillBests 63 = .ok (.iinc 5 1, 3) := by decide +kernel
theorem dX4_fillBests_66 : decode cX4_fillBests 66 = .ok (.goto (-61), 3) := by decide +kernel
theorem dX4_fillBests_69 : decode cX4_fillBests 69 = .ok (.return_, 1) := by decide +kernel
theorem dX4_choose_0 : decode cX4_choose 0 = .ok (.aload_n 0, 1) := by decide +kernel
theorem dX4_choose_1 : decode cX4_choose 1 = .ok (.getfield 17, 3) := by decide +kernel
theorem dX4_choose_4 : decode cX4_choose 4 = .ok (.iload_n 1, 1) := by decide +kernel
theorem dX4_choose_5 : decode cX4_choose 5 = .ok (.aaload, 1) := by decide +kernel
theorem dX4_choose_6 : decode cX4_choose 6 = .ok (.iload_n 2, 1) := by decide +kernel
theorem dX4_choose_7 : decode cX4_choose 7 = .ok (.iconst 0, 1) := by decide +kernel
theorem dX4_choose_8 : decode cX4_choose 8 = .ok (.iastore, 1) := by decide +kernel
theorem dX4_choose_9 : decode cX4_choose 9 = .ok (.aload_n 0, 1) := by decide +kernel
theorem dX4_choose_10 : decode cX4_choose 10 = .ok (.getfield 23, 3) := by decide +kernel
theorem dX4_choose_13 : decode cX4_choose 13 = .ok (.iload_n 2, 1) := by decide +kernel
theorem dX4_choose_14 : decode cX4_choose 14 = .ok (.aload_n 0, 1) := by decide +kernel
theorem dX4_choose_15 : decode cX4_choose 15 = .ok (.getfield 26, 3) := by decide +kernel
theorem dX4_choose_18 : decode cX4_choose 18 = .ok (.iconst 4, 1) := by decide +kernel
theorem dX4_choose_19 : decode cX4_choose 19 = .ok (.iload_n 2, 1) := by decide +kernel
theorem dX4_choose_20 : decode cX4_choose 20 = .ok (.iadd, 1) := by decide +kernel
theorem dX4_choose_21 : decode cX4_choose 21 = .ok (.iaload, 1) := by decide +kernel
theorem dX4_choose_22 : decode cX4_choose 22 = .ok (.aload_n 0, 1) := by decide +kernel
theorem dX4_choose_23 : decode cX4_choose 23 = .ok (.getfield 20, 3) := by decide +kernel
theorem dX4_choose_26 : decode cX4_choose 26 = .ok (.iconst 0, 1) := by decide +kernel
theorem dX4_choose_27 : decode cX4_choose 27 = .ok (.iaload, 1) := by decide +kernel
theorem dX4_choose_28 : decode cX4_choose 28 = .ok (.iadd, 1) := by decide +kernel
theorem dX4_choose_29 : decode cX4_choose 29 = .ok (.iastore, 1) := by decide +kernel
theorem dX4_choose_30 : decode cX4_choose 30 = .ok (.iconst 1, 1) := by decide +kernel
theorem dX4_choose_31 : decode cX4_choose 31 = .ok (.istore 4, 2) := by decide +kernel
theorem dX4_choose_33 : decode cX4_choose 33 = .ok (.iload 4, 2) := by decide +kernel
theorem dX4_choose_35 : decode cX4_choose 35 = .ok (.iload_n 3, 1) := by decide +kernel
theorem dX4_choose_36 : decode cX4_choose 36 = .ok (.if_icmp .gt 59, 3) := by decide +kernel
theorem dX4_choose_39 : decode cX4_choose 39 = .ok (.aload_n 0, 1) := by decide +kernel
theorem dX4_choose_40 : decode cX4_choose 40 = .ok (.getfield 26, 3) := by decide +kernel
theorem dX4_choose_43 : decode cX4_choose 43 = .ok (.iconst 4, 1) := by decide +kernel
theorem dX4_choose_44 : decode cX4_choose 44 = .ok (.iload_n 2, 1) := by decide +kernel
theorem dX4_choose_45 : decode cX4_choose 45 = .ok (.iadd, 1) := by decide +kernel
theorem dX4_choose_46 : decode cX4_choose 46 = .ok (.iload 4, 2) := by decide +kernel
theorem dX4_choose_48 : decode cX4_choose 48 = .ok (.isub, 1) := by decide +kernel
theorem dX4_choose_49 : decode cX4_choose 49 = .ok (.iaload, 1) := by decide +kernel
theorem dX4_choose_50 : decode cX4_choose 50 = .ok (.aload_n 0, 1) := by decide +kernel
theorem dX4_choose_51 : decode cX4_choose 51 = .ok (.getfield 20, 3) := by decide +kernel
theorem dX4_choose_54 : decode cX4_choose 54 = .ok (.iload 4, 2) := by decide +kernel
theorem dX4_choose_56 : decode cX4_choose 56 = .ok (.iaload, 1) := by decide +kernel
theorem dX4_choose_57 : decode cX4_choose 57 = .ok (.iadd, 1) := by decide +kernel
theorem dX4_choose_58 : decode cX4_choose 58 = .ok (.istore 5, 2) := by decide +kernel
theorem dX4_choose_60 : decode cX4_choose 60 = .ok (.iload 5, 2) := by decide +kernel
theorem dX4_choose_62 : decode cX4_choose 62 = .ok (.aload_n 0, 1) := by decide +kernel
theorem dX4_choose_63 : decode cX4_choose 63 = .ok (.getfield 23, 3) := by decide +kernel
theorem dX4_choose_66 : decode cX4_choose 66 = .ok (.iload_n 2, 1) := by decide +kernel
theorem dX4_choose_67 : decode cX4_choose 67 = .ok (.iaload, 1) := by decide +kernel
theorem dX4_choose_68 : decode cX4_choose 68 = .ok (.if_icmp .le 21, 3) := by decide +kernel
theorem dX4_choose_71 : decode cX4_choose 71 = .ok (.aload_n 0, 1) := by decide +kernel
theorem dX4_choose_72 : decode cX4_choose 72 = .ok (.getfield 17, 3) := by decide +kernel
theorem dX4_choose_75 : decode cX4_choose 75 = .ok (.iload_n 1, 1) := by decide +kernel
theorem dX4_choose_76 : decode cX4_choose 76 = .ok (.aaload, 1) := by decide +kernel
theorem dX4_choose_77 : decode cX4_choose 77 = .ok (.iload_n 2, 1) := by decide +kernel
theorem dX4_choose_78 : decode cX4_choose 78 = .ok (.iload 4, 2) := by decide +kernel
theorem dX4_choose_80 : decode cX4_choose 80 = .ok (.iastore, 1) := by decide +kernel
theorem dX4_choose_81 : decode cX4_choose 81 = .ok (.aload_n 0, 1) := by decide +kernel
theorem dX4_choose_82 : decode cX4_choose 82 = .ok (.getfield 23, 3) := by decide +kernel
theorem dX4_choose_85 : decode cX4_choose 85 = .ok (.iload_n 2, 1) := by decide +kernel
theorem dX4_choose_86 : decode cX4_choose 86 = .ok (.iload 5, 2) := by decide +kernel
theorem dX4_choose_88 : decode cX4_choose 88 = .ok (.iastore, 1) := by decide +kernel
theorem dX4_choose_89 : decode cX4_choose 89 = .ok (.iinc 4 1, 3) := by decide +kernel
theorem dX4_choose_92 : decode cX4_choose 92 = .ok (.goto (-59), 3) := by decide +kernel
theorem dX4_choose_95 : decode cX4_choose 95 = .ok (.return_, 1) := by decide +kernel
theorem dX5_init_0 : decode cX5_init 0 = .ok (.aload_n 0, 1) := by decide +kernel
theorem dX5_init_1 : decode cX5_init 1 = .ok (.invokespecial 1, 3) := by decide +kernel
theorem dX5_init_4 : decode cX5_init 4 = .ok (.aload_n 0, 1) := by decide +kernel
theorem dX5_init_5 : decode cX5_init 5 = .ok (.iconst 0, 1) := by decide +kernel
theorem dX5_init_6 : decode cX5_init 6 = .ok (.putfield 7, 3) := by decide +kernel
theorem dX5_init_9 : decode cX5_init 9 = .ok (.aload_n 0, 1) := by decide +kernel
theorem dX5_init_10 : decode cX5_init 10 = .ok (.bipush 8, 2) := by decide +kernel
theorem dX5_init_12 : decode cX5_init 12 = .ok (.newarray .int, 2) := by decide +kernel
theorem dX5_init_14 : decode cX5_init 14 = .ok (.putfield 13, 3) := by decide +kernel
theorem dX5_init_17 : decode cX5_init 17 = .ok (.aload_n 0, 1) := by decide +kernel
theorem dX5_init_18 : decode cX5_init 18 = .ok (.bipush 8, 2) := by decide +kernel
theorem dX5_init_20 : decode cX5_init 20 = .ok (.newarray .int, 2) := by decide +kernel
theorem dX5_init_22 : decode cX5_init 22 = .ok (.putfield 17, 3) := by decide +kernel
theorem dX5_init_25 : decode cX5_init 25 = .ok (.aload_n 0, 1) := by decide +kernel
theorem dX5_init_26 : decode cX5_init 26 = .ok (.bipush 8, 2) := by decide +kernel
theorem dX5_init_28 : decode cX5_init 28 = .ok (.newarray .int, 2) := by decide +kernel
theorem dX5_init_30 : decode cX5_init 30 = .ok (.putfield 20, 3) := by decide +kernel
theorem dX5_init_33 : decode cX5_init 33 = .ok (.aload_n 0, 1) := by decide +kernel
theorem dX5_init_34 : decode cX5_init 34 = .ok (.sipush 200, 3) := by decide +kernel
theorem dX5_init_37 : decode cX5_init 37 = .ok (.newarray .int, 2) := by decide +kernel
theorem dX5_init_39 : decode cX5_init 39 = .ok (.putfield 23, 3) := by decide +kernel
theorem dX5_init_42 : decode cX5_init 42 = .ok (.aload_n 0, 1) := by decide +kernel
theorem dX5_init_43 : decode cX5_init 43 = .ok (.iconst 0, 1) := by decide +kernel
theorem dX5_init_44 : decode cX5_init 44 = .ok (.putfield 26, 3) := by decide +kernel
theorem dX5_init_47 : decode cX5_init 47 = .ok (.return_, 1) := by decide +kernel
theorem dX5_clear_0 : decode cX5_clear 0 = .ok (.aload_n 0, 1) := by decide +kernel
theorem dX5_clear_1 : decode cX5_clear 1 = .ok (.iconst 0, 1) := by decide +kernel
theorem dX5_clear_2 : decode cX5_clear 2 = .ok (.putfield 7, 3) := by decide +kernel
theorem dX5_clear_5 : decode cX5_clear 5 = .ok (.aload_n 0, 1) := by decide +kernel
theorem dX5_clear_6 : decode cX5_clear 6 = .ok (.iconst 0, 1) := by decide +kernel
theorem dX5_clear_7 : decode cX5_clear 7 = .ok (.putfield 26, 3) := by decide +kernel
theorem dX5_clear_10 : decode cX5_clear 10 = .ok (.return_, 1) := by decide +kernel
theorem dX5_addStep_0 : decode cX5_addStep 0 = .ok (.aload_n 0, 1) := by decide +kernel
theorem dX5_addStep_1 : decode cX5_addStep 1 = .ok (.getfield 26, 3) := by decide +kernel
theorem dX5_addStep_4 : decode cX5_addStep 4 = .ok (.sipush 200, 3) := by decide +kernel
theorem dX5_addStep_7 : decode cX5_addStep 7 = .ok (.if_icmp .ge 23, 3) := by decide +kernel
theorem dX5_addStep_10 : decode cX5_addStep 10 = .ok (.aload_n 0, 1) := by decide +kernel
theorem dX5_addStep_11 : decode cX5_addStep 11 = .ok (.getfield 23, 3) := by decide +kernel
theorem dX5_addStep_14 : decode cX5_addStep 14 = .ok (.aload_n 0, 1) := by decide +kernel
theorem dX5_addStep_15 : decode cX5_addStep 15 = .ok (.getfield 26, 3) := by decide +kernel
theorem dX5_addStep_18 : decode cX5_addStep 18 = .ok (.iload_n 1, 1) := by decide +kernel
theorem dX5_addStep_19 : decode cX5_addStep 19 = .ok (.iastore, 1) := by decide +kernel
theorem dX5_addStep_20 : decode cX5_addStep 20 = .ok (.aload_n 0, 1) := by decide +kernel
theorem dX5_addStep_21 : decode cX5_addStep 21 = .ok (.dup, 1) := by decide +kernel
theorem dX5_addStep_22 : decode cX5_addStep 22 = .ok (.getfield 26, 3) := by decide +kernel
theorem dX5_addStep_25 : decode cX5_addStep 25 = .ok (.iconst 1, 1) := by decide +kernel
theorem dX5_addStep_26 : decode cX5_addStep 26 = .ok (.iadd, 1) := by decide +kernel
theorem dX5_addStep_27 : decode cX5_addStep 27 = .ok (.putfield 26, 3) := by decide +kernel
theorem dX5_addStep_30 : decode cX5_addStep 30 = .ok (.return_, 1) := by decide +kernel
theorem dX5_comparison_0 : decode cX5_comparison 0 = .ok (.iload_n 1, 1) := by decide +kernel
theorem dX5_comparison_1 : decode cX5_comparison 1 = .ok (.bipush 20, 2) := by decide +kernel
theorem dX5_comparison_3 : decode cX5_comparison 3 = .ok (.ishl, 1) := by decide +kernel
theorem dX5_comparison_4 : decode cX5_comparison 4 = .ok (.iload_n 0, 1) := by decide +kernel
theorem dX5_comparison_5 : decode cX5_comparison 5 = .ok (.bipush 10, 2) := by decide +kernel
theorem dX5_comparison_7 : decode cX5_comparison 7 = .ok (.ishl, 1) := by decide +kernel
theorem dX5_comparison_8 : decode cX5_comparison 8 = .ok (.ior, 1) := by decide +kernel
theorem dX5_comparison_9 : decode cX5_comparison 9 = .ok (.iload_n 2, 1) := by decide +kernel
theorem dX5_comparison_10 : decode cX5_comparison 10 = .ok (.ior, 1) := by decide +kernel
theorem dX5_comparison_11 : decode cX5_comparison 11 = .ok (.ireturn, 1) := by decide +kernel
theorem dX5_endLine_0 : decode cX5_endLine 0 = .ok (.aload_n 0, 1) := by decide +kernel
theorem dX5_endLine_1 : decode cX5_endLine 1 = .ok (.getfield 7, 3) := by decide +kernel
theorem dX5_endLine_4 : decode cX5_endLine 4 = .ok (.bipush 8, 2) := by decide +kernel
theorem dX5_endLine_6 : decode cX5_endLine 6 = .ok (.if_icmp .ge 46, 3) := by decide +kernel
theorem dX5_endLine_9 : decode cX5_endLine 9 = .ok (.aload_n 0, 1) := by decide +kernel
theorem dX5_endLine_10 : decode cX5_endLine 10 = .ok (.getfield 13, 3) := by decide +kernel
theorem dX5_endLine_13 : decode cX5_endLine 13 = .ok (.aload_n 0, 1) := by decide +kernel
theorem dX5_endLine_14 : decode cX5_endLine 14 = .ok (.getfield 7, 3) := by decide +kernel
theorem dX5_endLine_17 : decode cX5_endLine 17 = .ok (.iload_n 1, 1) := by decide +kernel
theorem dX5_endLine_18 : decode cX5_endLine 18 = .ok (.iastore, 1) := by decide +kernel
theorem dX5_endLine_19 : decode cX5_endLine 19 = .ok (.aload_n 0, 1) := by decide +kernel
theorem dX5_endLine_20 : decode cX5_endLine 20 = .ok (.getfield 17, 3) := by decide +kernel
theorem dX5_endLine_23 : decode cX5_endLine 23 = .ok (.aload_n 0, 1) := by decide +kernel
theorem dX5_endLine_24 : decode cX5_endLine 24 = .ok (.getfield 7, 3) := by decide +kernel
theorem dX5_endLine_27 : decode cX5_endLine 27 = .ok (.iload_n 2, 1) := by decide +kernel
theorem dX5_endLine_28 : decode cX5_endLine 28 = .ok (.iastore, 1) := by decide +kernel
theorem dX5_endLine_29 : decode cX5_endLine 29 = .ok (.aload_n 0, 1) := by decide +kernel
theorem dX5_endLine_30 : decode cX5_endLine 30 = .ok (.getfield 20, 3) := by decide +kernel
theorem dX5_endLine_33 : decode cX5_endLine 33 = .ok (.aload_n 0, 1) := by decide +kernel
theorem dX5_endLine_34 : decode cX5_endLine 34 = .ok (.getfield 7, 3) := by decide +kernel
theorem dX5_endLine_37 : decode cX5_endLine 37 = .ok (.aload_n 0, 1) := by decide +kernel
theorem dX5_endLine_38 : decode cX5_endLine 38 = .ok (.getfield 26, 3) := by decide +kernel
theorem dX5_endLine_41 : decode cX5_endLine 41 = .ok (.iastore, 1) := by decide +kernel
theorem dX5_endLine_42 : decode cX5_endLine 42 = .ok (.aload_n 0, 1) := by decide +kernel
theorem dX5_endLine_43 : decode cX5_endLine 43 = .ok (.dup, 1) := by decide +kernel
theorem dX5_endLine_44 : decode cX5_endLine 44 = .ok (.getfield 7, 3) := by decide +kernel
theorem dX5_endLine_47 : decode cX5_endLine 47 = .ok (.iconst 1, 1) := by decide +kernel
theorem dX5_endLine_48 : decode cX5_endLine 48 = .ok (.iadd, 1) := by decide +kernel
theorem dX5_endLine_49 : decode cX5_endLine 49 = .ok (.putfield 7, 3) := by decide +kernel
theorem dX5_endLine_52 : decode cX5_endLine 52 = .ok (.return_, 1) := by decide +kernel
theorem dX5_toldFor_0 : decode cX5_toldFor 0 = .ok (.iconst 0, 1) := by decide +kernel
theorem dX5_toldFor_1 : decode cX5_toldFor 1 = .ok (.istore 5, 2) := by decide +kernel
theorem dX5_toldFor_3 : decode cX5_toldFor 3 = .ok (.iconst 0, 1) := by decide +kernel
theorem dX5_toldFor_4 : decode cX5_toldFor 4 = .ok (.istore 6, 2) := by decide +kernel
theorem dX5_toldFor_6 : decode cX5_toldFor 6 = .ok (.iconst 0, 1) := by decide +kernel
theorem dX5_toldFor_7 : decode cX5_toldFor 7 = .ok (.istore 7, 2) := by decide +kernel
theorem dX5_toldFor_9 : decode cX5_toldFor 9 = .ok (.iload 7, 2) := by decide +kernel
theorem dX5_toldFor_11 : decode cX5_toldFor 11 = .ok (.aload_n 0, 1) := by decide +kernel
theorem dX5_toldFor_12 : decode cX5_toldFor 12 = .ok (.getfield 7, 3) := by decide +kernel
theorem dX5_toldFor_15 : decode cX5_toldFor 15 = .ok (.if_icmp .ge 58, 3) := by decide +kernel
theorem dX5_toldFor_18 : decode cX5_toldFor 18 = .ok (.aload_n 0, 1) := by decide +kernel
theorem dX5_toldFor_19 : decode cX5_toldFor 19 = .ok (.getfield 13, 3) := by decide +kernel
theorem dX5_toldFor_22 : decode cX5_toldFor 22 = .ok (.iload 7, 2) := by decide +kernel
theorem dX5_toldFor_24 : decode cX5_toldFor 24 = .ok (.iaload, 1) := by decide +kernel
theorem dX5_toldFor_25 : decode cX5_toldFor 25 = .ok (.iload_n 1, 1) := by decide +kernel
theorem dX5_toldFor_26 : decode cX5_toldFor 26 = .ok (.if_icmp .ne 32, 3) := by decide +kernel
theorem dX5_toldFor_29 : decode cX5_toldFor 29 = .ok (.aload_n 0, 1) := by decide +kernel
theorem dX5_toldFor_30 : decode cX5_toldFor 30 = .ok (.iload 6, 2) := by decide +kernel
theorem dX5_toldFor_32 : decode cX5_toldFor 32 = .ok (.aload_n 0, 1) := by decide +kernel
theorem dX5_toldFor_33 : decode cX5_toldFor 33 = .ok (.getfield 20, 3) := by decide +kernel
theorem dX5_toldFor_36 : decode cX5_toldFor 36 = .ok (.iload 7, 2) := by decide +kernel
theorem dX5_toldFor_38 : decode cX5_toldFor 38 = .ok (.iaload, 1) := by decide +kernel
theorem dX5_toldFor_39 : decode cX5_toldFor 39 = .ok (.iload_n 2, 1) := by decide +kernel
theorem dX5_toldFor_40 : decode cX5_toldFor 40 = .ok (.iload_n 3, 1) := by decide +kernel
theorem dX5_toldFor_41 : decode cX5_toldFor 41 = .ok (.iload 4, 2) := by decide +kernel
theorem dX5_toldFor_43 : decode cX5_toldFor 43 = .ok (.invokevirtual 29, 3) := by decide +kernel
theorem dX5_toldFor_46 : decode cX5_toldFor 46 = .ok (.ifCond .eq 12, 3) := by decide +kernel
theorem dX5_toldFor_49 : decode cX5_toldFor 49 = .ok (.aload_n 0, 1) := by decide +kernel
theorem dX5_toldFor_50 : decode cX5_toldFor 50 = .ok (.getfield 17, 3) := by decide +kernel
theorem dX5_toldFor_53 : decode cX5_toldFor 53 = .ok (.iload 7, 2) := by decide +kernel
theorem dX5_toldFor_55 : decode cX5_toldFor 55 = .ok (.iaload, 1) := by decide +kernel
theorem dX5_toldFor_56 : decode cX5_toldFor 56 = .ok (.istore 5, 2) := by decide +kernel
theorem dX5_toldFor_58 : decode cX5_toldFor 58 = .ok (.aload_n 0, 1) := by decide +kernel
theorem dX5_toldFor_59 : decode cX5_toldFor 59 = .ok (.getfield 20, 3) := by decide +kernel
theorem dX5_toldFor_62 : decode cX5_toldFor 62 = .ok (.iload 7, 2) := by decide +kernel
theorem dX5_toldFor_64 : decode cX5_toldFor 64 = .ok (.iaload, 1) := by decide +kernel
theorem dX5_toldFor_65 : decode cX5_toldFor 65 = .ok (.istore 6, 2) := by decide +kernel
theorem dX5_toldFor_67 : decode cX5_toldFor 67 = .ok (.iinc 7 1, 3) := by decide +kernel
theorem dX5_toldFor_70 : decode cX5_toldFor 70 = .ok (.goto (-61), 3) := by decide +kernel
theorem dX5_toldFor_73 : decode cX5_toldFor 73 = .ok (.iload 5, 2) := by decide +kernel
theorem dX5_toldFor_75 : decode cX5_toldFor 75 = .ok (.ireturn, 1) := by decide +kernel
theorem dX5_holds_0 : decode cX5_holds 0 = .ok (.iconst 1, 1) := by decide +kernel
theorem dX5_holds_1 : decode cX5_holds 1 = .ok (.istore 6, 2) := by decide +kernel
theorem dX5_holds_3 : decode cX5_holds 3 = .ok (.iload_n 1, 1) := by decide +kernel
theorem dX5_holds_4 : decode cX5_holds 4 = .ok (.istore 7, 2) := by decide +kernel
theorem dX5_holds_6 : decode cX5_holds 6 = .ok (.iload 7, 2) := by decide +kernel
theorem dX5_holds_8 : decode cX5_holds 8 = .ok (.iload_n 2, 1) := by decide +kernel
theorem dX5_holds_9 : decode cX5_holds 9 = .ok (.if_icmp .ge 101, 3) := by decide +kernel
theorem dX5_holds_12 : decode cX5_holds 12 = .ok (.aload_n 0, 1) := by decide +kernel
theorem dX5_holds_13 : decode cX5_holds 13 = .ok (.getfield 23, 3) := by decide +kernel
theorem dX5_holds_16 : decode cX5_holds 16 = .ok (.iload 7, 2) := by decide +kernel
theorem dX5_holds_18 : decode cX5_holds 18 = .ok (.iaload, 1) := by decide +kernel
theorem dX5_holds_19 : decode cX5_holds 19 = .ok (.istore 8, 2) := by decide +kernel
theorem dX5_holds_21 : decode cX5_holds 21 = .ok (.iload 8, 2) := by decide +kernel
theorem dX5_holds_23 : decode cX5_holds 23 = .ok (.iconst (-1), 1) := by decide +kernel
theorem dX5_holds_24 : decode cX5_holds 24 = .ok (.if_icmp .ne 12, 3) := by decide +kernel
theorem dX5_holds_27 : decode cX5_holds 27 = .ok (.iload 6, 2) := by decide +kernel
theorem dX5_holds_29 : decode cX5_holds 29 = .ok (.iconst 1, 1) := by decide +kernel
theorem dX5_holds_30 : decode cX5_holds 30 = .ok (.ixor, 1) := by decide +kernel
theorem dX5_holds_31 : decode cX5_holds 31 = .ok (.istore 6, 2) := by decide +kernel
theorem dX5_holds_33 : decode cX5_holds 33 = .ok (.goto 71, 3) := by decide +kernel
theorem dX5_holds_36 : decode cX5_holds 36 = .ok (.iload 8, 2) := by decide +kernel
theorem dX5_holds_38 : decode cX5_holds 38 = .ok (.bipush (-2), 2) := by decide +kernel
theorem dX5_holds_40 : decode cX5_holds 40 = .ok (.if_icmp .ne 18, 3) := by decide +kernel
theorem dX5_holds_43 : decode cX5_holds 43 = .ok (.iload 6, 2) := by decide +kernel
theorem dX5_holds_45 : decode cX5_holds 45 = .ok (.iconst 1, 1) := by decide +kernel
theorem dX5_holds_46 : decode cX5_holds 46 = .ok (.ishr, 1) := by decide +kernel
theorem dX5_holds_47 : decode cX5_holds 47 = .ok (.iload 6, 2) := by decide +kernel
theorem dX5_holds_49 : decode cX5_holds 49 = .ok (.bipush (-2), 2) := by decide +kernel
theorem dX5_holds_51 : decode cX5_holds 51 = .ok (.ior, 1) := by decide +kernel
theorem dX5_holds_52 : decode cX5_holds 52 = .ok (.iand, 1) := by decide +kernel
theorem dX5_holds_53 : decode cX5_holds 53 = .ok (.istore 6, 2) := by decide +kernel
theorem dX5_holds_55 : decode cX5_holds 55 = .ok (.goto 49, 3) := by decide +kernel
theorem dX5_holds_58 : decode cX5_holds 58 = .ok (.iload 8, 2) := by decide +kernel
theorem dX5_holds_60 : decode cX5_holds 60 = .ok (.bipush (-3), 2) := by decide +kernel
theorem dX5_holds_62 : decode cX5_holds 62 = .ok (.if_icmp .ne 17, 3) := by decide +kernel
theorem dX5_holds_65 : decode cX5_holds 65 = .ok (.iload 6, 2) := by decide +kernel
theorem dX5_holds_67 : decode cX5_holds 67 = .ok (.iconst 1, 1) := by decide +kernel
theorem dX5_holds_68 : decode cX5_holds 68 = .ok (.ishr, 1) := by decide +kernel
theorem dX5_holds_69 : decode cX5_holds 69 = .ok (.iload 6, 2) := by decide +kernel
theorem dX5_holds_71 : decode cX5_holds 71 = .ok (.iconst 1, 1) := by decide +kernel
theorem dX5_holds_72 : decode cX5_holds 72 = .ok (.iand, 1) := by decide +kernel
theorem dX5_holds_73 : decode cX5_holds 73 = .ok (.ior, 1) := by decide +kernel
theorem dX5_holds_74 : decode cX5_holds 74 = .ok (.istore 6, 2) := by decide +kernel
theorem dX5_holds_76 : decode cX5_holds 76 = .ok (.goto 28, 3) := by decide +kernel
theorem dX5_holds_79 : decode cX5_holds 79 = .ok (.iload 6, 2) := by decide +kernel
theorem dX5_holds_81 : decode cX5_holds 81 = .ok (.iconst 1, 1) := by decide +kernel
theorem dX5_holds_82 : decode cX5_holds 82 = .ok (.ishl, 1) := by decide +kernel
theorem dX5_holds_83 : decode cX5_holds 83 = .ok (.iload 8, 2) := by decide +kernel
theorem dX5_holds_85 : decode cX5_holds 85 = .ok (.iload_n 3, 1) := by decide +kernel
theorem dX5_holds_86 : decode cX5_holds 86 = .ok (.iload 4, 2) := by decide +kernel
theorem dX5_holds_88 : decode cX5_holds 88 = .ok (.iload 5, 2) := by decide +kernel
theorem dX5_holds_90 : decode cX5_holds 90 = .ok (.invokestatic 33, 3) := by decide +kernel
theorem dX5_holds_93 : decode cX5_holds 93 = .ok (.ifCond .eq 7, 3) := by decide +kernel
theorem dX5_holds_96 : decode cX5_holds 96 = .ok (.iconst 1, 1) := by decide +kernel
theorem dX5_holds_97 : decode cX5_holds 97 = .ok (.goto 4, 3) := by decide +kernel
theorem dX5_holds_100 : decode cX5_holds 100 = .ok (.iconst 0, 1) := by decide +kernel
theorem dX5_holds_101 : decode cX5_holds 101 = .ok (.ior, 1) := by decide +kernel
theorem dX5_holds_102 : decode cX5_holds 102 = .ok (.istore 6, 2) := by decide +kernel
theorem dX5_holds_104 : decode cX5_holds 104 = .ok (.iinc 7 1, 3) := by decide +kernel
theorem dX5_holds_107 : decode cX5_holds 107 = .ok (.goto (-101), 3) := by decide +kernel
theorem dX5_holds_110 : decode cX5_holds 110 = .ok (.iload 6, 2) := by decide +kernel
theorem dX5_holds_112 : decode cX5_holds 112 = .ok (.iconst 1, 1) := by decide +kernel
theorem dX5_holds_113 : decode cX5_holds 113 = .ok (.iand, 1) := by decide +kernel
theorem dX5_holds_114 : decode cX5_holds 114 = .ok (.iconst 1, 1) := by decide +kernel
theorem dX5_holds_115 : decode cX5_holds 115 = .ok (.if_icmp .ne 7, 3) := by decide +kernel
theorem dX5_holds_118 : decode cX5_holds 118 = .ok (.iconst 1, 1) := by decide +kernel
theorem dX5_holds_119 : decode cX5_holds 119 = .ok (.goto 4, 3) := by decide +kernel
theorem dX5_holds_122 : decode cX5_holds 122 = .ok (.iconst 0, 1) := by decide +kernel
theorem dX5_holds_123 : decode cX5_holds 123 = .ok (.ireturn, 1) := by decide +kernel
theorem dX5_compares_0 : decode cX5_compares 0 = .ok (.iload_n 0, 1) := by decide +kernel
theorem dX5_compares_1 : decode cX5_compares 1 = .ok (.bipush 20, 2) := by decide +kernel
theorem dX5_compares_3 : decode cX5_compares 3 = .ok (.ishr, 1) := by decide +kernel
theorem dX5_compares_4 : decode cX5_compares 4 = .ok (.istore 4, 2) := by decide +kernel
theorem dX5_compares_6 : decode cX5_compares 6 = .ok (.iload_n 0, 1) := by decide +kernel
theorem dX5_compares_7 : decode cX5_compares 7 = .ok (.bipush 10, 2) := by decide +kernel
theorem dX5_compares_9 : decode cX5_compares 9 = .ok (.ishr, 1) := by decide +kernel
theorem dX5_compares_10 : decode cX5_compares 10 = .ok (.sipush 1023, 3) := by decide +kernel
theorem dX5_compares_13 : decode cX5_compares 13 = .ok (.iand, 1) := by decide +kernel
theorem dX5_compares_14 : decode cX5_compares 14 = .ok (.iload_n 1, 1) := by decide +kernel
theorem dX5_compares_15 : decode cX5_compares 15 = .ok (.iload_n 2, 1) := by decide +kernel
theorem dX5_compares_16 : decode cX5_compares 16 = .ok (.iload_n 3, 1) := by decide +kernel
theorem dX5_compares_17 : decode cX5_compares 17 = .ok (.invokestatic 37, 3) := by decide +kernel
theorem dX5_compares_20 : decode cX5_compares 20 = .ok (.istore 5, 2) := by decide +kernel
theorem dX5_compares_22 : decode cX5_compares 22 = .ok (.iload_n 0, 1) := by decide +kernel
theorem dX5_compares_23 : decode cX5_compares 23 = .ok (.sipush 1023, 3) := by decide +kernel
theorem dX5_compares_26 : decode cX5_compares 26 = .ok (.iand, 1) := by decide +kernel
theorem dX5_compares_27 : decode cX5_compares 27 = .ok (.iload_n 1, 1) := by decide +kernel
theorem dX5_compares_28 : decode cX5_compares 28 = .ok (.iload_n 2, 1) := by decide +kernel
theorem dX5_compares_29 : decode cX5_compares 29 = .ok (.iload_n 3, 1) := by decide +kernel
theorem dX5_compares_30 : decode cX5_compares 30 = .ok (.invokestatic 37, 3) := by decide +kernel
theorem dX5_compares_33 : decode cX5_compares 33 = .ok (.istore 6, 2) := by decide +kernel
theorem dX5_compares_35 : decode cX5_compares 35 = .ok (.iload 4, 2) := by decide +kernel
theorem dX5_compares_37 : decode cX5_compares 37 = .ok (.ifCond .ne 16, 3) := by decide +kernel
theorem dX5_compares_40 : decode cX5_compares 40 = .ok (.iload 5, 2) := by decide +kernel
theorem dX5_compares_42 : decode cX5_compares 42 = .ok (.iload 6, 2) := by decide +kernel
theorem dX5_compares_44 : decode cX5_compares 44 = .ok (.if_icmp .ge 7, 3) := by decide +kernel
theorem dX5_compares_47 : decode cX5_compares 47 = .ok (.iconst 1, 1) := by decide +kernel
theorem dX5_compares_48 : decode cX5_compares 48 = .ok (.goto 4, 3) := by decide +kernel
theorem dX5_compares_51 : decode cX5_compares 51 = .ok (.iconst 0, 1) := by decide +kernel
theorem dX5_compares_52 : decode cX5_compares 52 = .ok (.ireturn, 1) := by decide +kernel
theorem dX5_compares_53 : decode cX5_compares 53 = .ok (.iload 4, 2) := by decide +kernel
theorem dX5_compares_55 : decode cX5_compares 55 = .ok (.iconst 1, 1) := by decide +kernel
theorem dX5_compares_56 : decode cX5_compares 56 = .ok (.if_icmp .ne 18, 3) := by decide +kernel
theorem dX5_compares_59 : decode cX5_compares 59 = .ok (.iload 5, 2) := by decide +kernel
theorem dX5_compares_61 : decode cX5_compares 61 = .ok (.iload 6, 2) := by decide +kernel
theorem dX5_compares_63 : decode cX5_compares 63 = .ok (.if_icmp .ne 7, 3) := by decide +kernel
theorem dX5_compares_66 : decode cX5_compares 66 = .ok (.iconst 1, 1) := by decide +kernel
theorem dX5_compares_67 : decode cX5_compares 67 = .ok (.goto 19, 3) := by decide +kernel
theorem dX5_compares_70 : decode cX5_compares 70 = .ok (.iconst 0, 1) := by decide +kernel
theorem dX5_compares_71 : decode cX5_compares 71 = .ok (.goto 15, 3) := by decide +kernel
theorem dX5_compares_74 : decode cX5_compares 74 = .ok (.iload 5, 2) := by decide +kernel
theorem dX5_compares_76 : decode cX5_compares 76 = .ok (.iload 6, 2) := by decide +kernel
theorem dX5_compares_78 : decode cX5_compares 78 = .ok (.if_icmp .le 7, 3) := by decide +kernel
theorem dX5_compares_81 : decode cX5_compares 81 = .ok (.iconst 1, 1) := by decide +kernel
theorem dX5_compares_82 : decode cX5_compares 82 = .ok (.goto 4, 3) := by decide +kernel
theorem dX5_compares_85 : decode cX5_compares 85 = .ok (.iconst 0, 1) := by decide +kernel
theorem dX5_compares_86 : decode cX5_compares 86 = .ok (.ireturn, 1) := by decide +kernel
theorem dX5_valueOf_0 : decode cX5_valueOf 0 = .ok (.iload_n 0, 1) := by decide +kernel
theorem dX5_valueOf_1 : decode cX5_valueOf 1 = .ok (.tableswitch 33 1000 1002 #[27, 29, 31], 27) := by decide +kernel
theorem dX5_valueOf_28 : decode cX5_valueOf 28 = .ok (.iload_n 1, 1) := by decide +kernel
theorem dX5_valueOf_29 : decode cX5_valueOf 29 = .ok (.ireturn, 1) := by decide +kernel
theorem dX5_valueOf_30 : decode cX5_valueOf 30 = .ok (.iload_n 2, 1) := by decide +kernel
theorem dX5_valueOf_31 : decode cX5_valueOf 31 = .ok (.ireturn, 1) := by decide +kernel
theorem dX5_valueOf_32 : decode cX5_valueOf 32 = .ok (.iload_n 3, 1) := by decide +kernel
theorem dX5_valueOf_33 : decode cX5_valueOf 33 = .ok (.ireturn, 1) := by decide +kernel
theorem dX5_valueOf_34 : decode cX5_valueOf 34 = .ok (.iload_n 0, 1) := by decide +kernel
theorem dX5_valueOf_35 : decode cX5_valueOf 35 = .ok (.ireturn, 1) := by decide +kernel
theorem dX5_copyFrom_0 : decode cX5_copyFrom 0 = .ok (.aload_n 0, 1) := by decide +kernel
theorem dX5_copyFrom_1 : decode cX5_copyFrom 1 = .ok (.aload_n 1, 1) := by decide +kernel
theorem dX5_copyFrom_2 : decode cX5_copyFrom 2 = .ok (.getfield 7, 3) := by decide +kernel
theorem dX5_copyFrom_5 : decode cX5_copyFrom 5 = .ok (.putfield 7, 3) := by decide +kernel
theorem dX5_copyFrom_8 : decode cX5_copyFrom 8 = .ok (.aload_n 0, 1) := by decide +kernel
theorem dX5_copyFrom_9 : decode cX5_copyFrom 9 = .ok (.aload_n 1, 1) := by decide +kernel
theorem dX5_copyFrom_10 : decode cX5_copyFrom 10 = .ok (.getfield 26, 3) := by decide +kernel
theorem dX5_copyFrom_13 : decode cX5_copyFrom 13 = .ok (.putfield 26, 3) := by decide +kernel
theorem dX5_copyFrom_16 : decode cX5_copyFrom 16 = .ok (.aload_n 1, 1) := by decide +kernel
theorem dX5_copyFrom_17 : decode cX5_copyFrom 17 = .ok (.getfield 13, 3) := by decide +kernel
theorem dX5_copyFrom_20 : decode cX5_copyFrom 20 = .ok (.iconst 0, 1) := by decide +kernel
theorem dX5_copyFrom_21 : decode cX5_copyFrom 21 = .ok (.aload_n 0, 1) := by decide +kernel
theorem dX5_copyFrom_22 : decode cX5_copyFrom 22 = .ok (.getfield 13, 3) := by decide +kernel
theorem dX5_copyFrom_25 : decode cX5_copyFrom 25 = .ok (.iconst 0, 1) := by decide +kernel
theorem dX5_copyFrom_26 : decode cX5_copyFrom 26 = .ok (.bipush 8, 2) := by decide +kernel
theorem dX5_copyFrom_28 : decode cX5_copyFrom 28 = .ok (.invokestatic 41, 3) := by decide +kernel
theorem dX5_copyFrom_31 : decode cX5_copyFrom 31 = .ok (.aload_n 1, 1) := by decide +kernel
theorem dX5_copyFrom_32 : decode cX5_copyFrom 32 = .ok (.getfield 17, 3) := by decide +kernel
theorem dX5_copyFrom_35 : decode cX5_copyFrom 35 = .ok (.iconst 0, 1) := by decide +kernel
theorem dX5_copyFrom_36 : decode cX5_copyFrom 36 = .ok (.aload_n 0, 1) := by decide +kernel
theorem dX5_copyFrom_37 : decode cX5_copyFrom 37 = .ok (.getfield 17, 3) := by decide +kernel
theorem dX5_copyFrom_40 : decode cX5_copyFrom 40 = .ok (.iconst 0, 1) := by decide +kernel
theorem dX5_copyFrom_41 : decode cX5_copyFrom 41 = .ok (.bipush 8, 2) := by decide +kernel
theorem dX5_copyFrom_43 : decode cX5_copyFrom 43 = .ok (.invokestatic 41, 3) := by decide +kernel
theorem dX5_copyFrom_46 : decode cX5_copyFrom 46 = .ok (.aload_n 1, 1) := by decide +kernel
theorem dX5_copyFrom_47 : decode cX5_copyFrom 47 = .ok (.getfield 20, 3) := by decide +kernel
theorem dX5_copyFrom_50 : decode cX5_copyFrom 50 = .ok (.iconst 0, 1) := by decide +kernel
theorem dX5_copyFrom_51 : decode cX5_copyFrom 51 = .ok (.aload_n 0, 1) := by decide +kernel
theorem dX5_copyFrom_52 : decode cX5_copyFrom 52 = .ok (.getfield 20, 3) := by decide +kernel
theorem dX5_copyFrom_55 : decode cX5_copyFrom 55 = .ok (.iconst 0, 1) := by decide +kernel
theorem dX5_copyFrom_56 : decode cX5_copyFrom 56 = .ok (.bipush 8, 2) := by decide +kernel
theorem dX5_copyFrom_58 : decode cX5_copyFrom 58 = .ok (.invokestatic 41, 3) := by decide +kernel
theorem dX5_copyFrom_61 : decode cX5_copyFrom 61 = .ok (.aload_n 1, 1) := by decide +kernel
theorem dX5_copyFrom_62 : decode cX5_copyFrom 62 = .ok (.getfield 23, 3) := by decide +kernel
theorem dX5_copyFrom_65 : decode cX5_copyFrom 65 = .ok (.iconst 0, 1) := by decide +kernel
theorem dX5_copyFrom_66 : decode cX5_copyFrom 66 = .ok (.aload_n 0, 1) := by decide +kernel
theorem dX5_copyFrom_67 : decode cX5_copyFrom 67 = .ok (.getfield 23, 3) := by decide +kernel
theorem dX5_copyFrom_70 : decode cX5_copyFrom 70 = .ok (.iconst 0, 1) := by decide +kernel
theorem dX5_copyFrom_71 : decode cX5_copyFrom 71 = .ok (.sipush 200, 3) := by decide +kernel
theorem dX5_copyFrom_74 : decode cX5_copyFrom 74 = .ok (.invokestatic 41, 3) := by decide +kernel
theorem dX5_copyFrom_77 : decode cX5_copyFrom 77 = .ok (.return_, 1) := by decide +kernel
theorem dX6_init_0 : decode cX6_init 0 = .ok (.aload_n 0, 1) := by decide +kernel
theorem dX6_init_1 : decode cX6_init 1 = .ok (.invokespecial 3, 3) := by decide +kernel
theorem dX6_init_4 : decode cX6_init 4 = .ok (.aload_n 0, 1) := by decide +kernel
theorem dX6_init_5 : decode cX6_init 5 = .ok (.iconst 0, 1) := by decide +kernel
theorem dX6_init_6 : decode cX6_init 6 = .ok (.putfield 9, 3) := by decide +kernel
theorem dX6_init_9 : decode cX6_init 9 = .ok (.aload_n 0, 1) := by decide +kernel
theorem dX6_init_10 : decode cX6_init 10 = .ok (.new 15, 3) := by decide +kernel
theorem dX6_init_13 : decode cX6_init 13 = .ok (.dup, 1) := by decide +kernel
theorem dX6_init_14 : decode cX6_init 14 = .ok (.invokespecial 17, 3) := by decide +kernel
theorem dX6_init_17 : decode cX6_init 17 = .ok (.putfield 18, 3) := by decide +kernel
theorem dX6_init_20 : decode cX6_init 20 = .ok (.aload_n 0, 1) := by decide +kernel
theorem dX6_init_21 : decode cX6_init 21 = .ok (.sipush 200, 3) := by decide +kernel
theorem dX6_init_24 : decode cX6_init 24 = .ok (.newarray .int, 2) := by decide +kernel
theorem dX6_init_26 : decode cX6_init 26 = .ok (.putfield 22, 3) := by decide +kernel
theorem dX6_init_29 : decode cX6_init 29 = .ok (.aload_n 0, 1) := by decide +kernel
theorem dX6_init_30 : decode cX6_init 30 = .ok (.sipush 201, 3) := by decide +kernel
theorem dX6_init_33 : decode cX6_init 33 = .ok (.newarray .int, 2) := by decide +kernel
theorem dX6_init_35 : decode cX6_init 35 = .ok (.putfield 26, 3) := by decide +kernel
theorem dX6_init_38 : decode cX6_init 38 = .ok (.aload_n 0, 1) := by decide +kernel
theorem dX6_init_39 : decode cX6_init 39 = .ok (.sipush 201, 3) := by decide +kernel
theorem dX6_init_42 : decode cX6_init 42 = .ok (.newarray .int, 2) := by decide +kernel
theorem dX6_init_44 : decode cX6_init 44 = .ok (.putfield 29, 3) := by decide +kernel
theorem dX6_init_47 : decode cX6_init 47 = .ok (.aload_n 0, 1) := by decide +kernel
theorem dX6_init_48 : decode cX6_init 48 = .ok (.sipush 201, 3) := by decide +kernel
theorem dX6_init_51 : decode cX6_init 51 = .ok (.newarray .int, 2) := by decide +kernel
theorem dX6_init_53 : decode cX6_init 53 = .ok (.putfield 32, 3) := by decide +kernel
theorem dX6_init_56 : decode cX6_init 56 = .ok (.aload_n 0, 1) := by decide +kernel
theorem dX6_init_57 : decode cX6_init 57 = .ok (.iconst 0, 1) := by decide +kernel
theorem dX6_init_58 : decode cX6_init 58 = .ok (.putfield 35, 3) := by decide +kernel
theorem dX6_init_61 : decode cX6_init 61 = .ok (.return_, 1) := by decide +kernel
theorem dX6_takeBytes_0 : decode cX6_takeBytes 0 = .ok (.aload_n 0, 1) := by decide +kernel
theorem dX6_takeBytes_1 : decode cX6_takeBytes 1 = .ok (.getfield 9, 3) := by decide +kernel
theorem dX6_takeBytes_4 : decode cX6_takeBytes 4 = .ok (.iload_n 3, 1) := by decide +kernel
theorem dX6_takeBytes_5 : decode cX6_takeBytes 5 = .ok (.iadd, 1) := by decide +kernel
theorem dX6_takeBytes_6 : decode cX6_takeBytes 6 = .ok (.sipush 200, 3) := by decide +kernel
theorem dX6_takeBytes_9 : decode cX6_takeBytes 9 = .ok (.if_icmp .le 5, 3) := by decide +kernel
theorem dX6_takeBytes_12 : decode cX6_takeBytes 12 = .ok (.iconst 0, 1) := by decide +kernel
theorem dX6_takeBytes_13 : decode cX6_takeBytes 13 = .ok (.ireturn, 1) := by decide +kernel
theorem dX6_takeBytes_14 : decode cX6_takeBytes 14 = .ok (.iconst 0, 1) := by decide +kernel
theorem dX6_takeBytes_15 : decode cX6_takeBytes 15 = .ok (.istore 4, 2) := by decide +kernel
theorem dX6_takeBytes_17 : decode cX6_takeBytes 17 = .ok (.iload 4, 2) := by decide +kernel
theorem dX6_takeBytes_19 : decode cX6_takeBytes 19 = .ok (.iload_n 3, 1) := by decide +kernel
theorem dX6_takeBytes_20 : decode cX6_takeBytes 20 = .ok (.if_icmp .ge 40, 3) := by decide +kernel
theorem dX6_takeBytes_23 : decode cX6_takeBytes 23 = .ok (.aload_n 0, 1) := by decide +kernel
theorem dX6_takeBytes_24 : decode cX6_takeBytes 24 = .ok (.getfield 22, 3) := by decide +kernel
theorem dX6_takeBytes_27 : decode cX6_takeBytes 27 = .ok (.aload_n 0, 1) := by decide +kernel
theorem dX6_takeBytes_28 : decode cX6_takeBytes 28 = .ok (.getfield 9, 3) := by decide +kernel
theorem dX6_takeBytes_31 : decode cX6_takeBytes 31 = .ok (.lload_n 1, 1) := by decide +kernel
theorem dX6_takeBytes_32 : decode cX6_takeBytes 32 = .ok (.bipush 8, 2) := by decide +kernel
theorem dX6_takeBytes_34 : decode cX6_takeBytes 34 = .ok (.iload 4, 2) := by decide +kernel
theorem dX6_takeBytes_36 : decode cX6_takeBytes 36 = .ok (.imul, 1) := by decide +kernel
theorem dX6_takeBytes_37 : decode cX6_takeBytes 37 = .ok (.lshr, 1) := by decide +kernel
theorem dX6_takeBytes_38 : decode cX6_takeBytes 38 = .ok (.l2i, 1) := by decide +kernel
theorem dX6_takeBytes_39 : decode cX6_takeBytes 39 = .ok (.sipush 255, 3) := by decide +kernel
theorem dX6_takeBytes_42 : decode cX6_takeBytes 42 = .ok (.iand, 1) := by decide +kernel
theorem dX6_takeBytes_43 : decode cX6_takeBytes 43 = .ok (.iastore, 1) := by decide +kernel
theorem dX6_takeBytes_44 : decode cX6_takeBytes 44 = .ok (.aload_n 0, 1) := by decide +kernel
theorem dX6_takeBytes_45 : decode cX6_takeBytes 45 = .ok (.dup, 1) := by decide +kernel
theorem dX6_takeBytes_46 : decode cX6_takeBytes 46 = .ok (.getfield 9, 3) := by decide +kernel
theorem dX6_takeBytes_49 : decode cX6_takeBytes 49 = .ok (.iconst 1, 1) := by decide +kernel
theorem dX6_takeBytes_50 : decode cX6_takeBytes 50 = .ok (.iadd, 1) := by decide +kernel
theorem dX6_takeBytes_51 : decode cX6_takeBytes 51 = .ok (.putfield 9, 3) := by decide +kernel
theorem dX6_takeBytes_54 : decode cX6_takeBytes 54 = .ok (.iinc 4 1, 3) := by decide +kernel
theorem dX6_takeBytes_57 : decode cX6_takeBytes 57 = .ok (.goto (-40), 3) := by decide +kernel
theorem dX6_takeBytes_60 : decode cX6_takeBytes 60 = .ok (.iconst 1, 1) := by decide +kernel
theorem dX6_takeBytes_61 : decode cX6_takeBytes 61 = .ok (.ireturn, 1) := by decide +kernel
theorem dX6_readText_0 : decode cX6_readText 0 = .ok (.aload_n 0, 1) := by decide +kernel
theorem dX6_readText_1 : decode cX6_readText 1 = .ok (.invokevirtual 38, 3) := by decide +kernel
theorem dX6_readText_4 : decode cX6_readText 4 = .ok (.aload_n 0, 1) := by decide +kernel
theorem dX6_readText_5 : decode cX6_readText 5 = .ok (.iconst 0, 1) := by decide +kernel
theorem dX6_readText_6 : decode cX6_readText 6 = .ok (.putfield 9, 3) := by decide +kernel
theorem dX6_readText_9 : decode cX6_readText 9 = .ok (.aload_n 0, 1) := by decide +kernel
theorem dX6_readText_10 : decode cX6_readText 10 = .ok (.iconst 0, 1) := by decide +kernel
theorem dX6_readText_11 : decode cX6_readText 11 = .ok (.putfield 35, 3) := by decide +kernel
theorem dX6_readText_14 : decode cX6_readText 14 = .ok (.aload_n 0, 1) := by decide +kernel
theorem dX6_readText_15 : decode cX6_readText 15 = .ok (.getfield 18, 3) := by decide +kernel
theorem dX6_readText_18 : decode cX6_readText 18 = .ok (.invokevirtual 41, 3) := by decide +kernel
theorem dX6_readText_21 : decode cX6_readText 21 = .ok (.iconst 0, 1) := by decide +kernel
theorem dX6_readText_22 : decode cX6_readText 22 = .ok (.istore_n 1, 1) := by decide +kernel
theorem dX6_readText_23 : decode cX6_readText 23 = .ok (.iload_n 1, 1) := by decide +kernel
theorem dX6_readText_24 : decode cX6_readText 24 = .ok (.bipush 8, 2) := by decide +kernel
theorem dX6_readText_26 : decode cX6_readText 26 = .ok (.if_icmp .ge 38, 3) := by decide +kernel
theorem dX6_readText_29 : decode cX6_readText 29 = .ok (.aload_n 0, 1) := by decide +kernel
theorem dX6_readText_30 : decode cX6_readText 30 = .ok (.getfield 26, 3) := by decide +kernel
theorem dX6_readText_33 : decode cX6_readText 33 = .ok (.aload_n 0, 1) := by decide +kernel
theorem dX6_readText_34 : decode cX6_readText 34 = .ok (.getfield 35, 3) := by decide +kernel
theorem dX6_readText_37 : decode cX6_readText 37 = .ok (.iaload, 1) := by decide +kernel
theorem dX6_readText_38 : decode cX6_readText 38 = .ok (.ifCond .eq 26, 3) := by decide +kernel
theorem dX6_readText_41 : decode cX6_readText 41 = .ok (.aload_n 0, 1) := by decide +kernel
theorem dX6_readText_42 : decode cX6_readText 42 = .ok (.invokevirtual 44, 3) := by decide +kernel
theorem dX6_readText_45 : decode cX6_readText 45 = .ok (.ifCond .ne 13, 3) := by decide +kernel
theorem dX6_readText_48 : decode cX6_readText 48 = .ok (.aload_n 0, 1) := by decide +kernel
theorem dX6_readText_49 : decode cX6_readText 49 = .ok (.getfield 32, 3) := by decide +kernel
theorem dX6_readText_52 : decode cX6_readText 52 = .ok (.aload_n 0, 1) := by decide +kernel
theorem dX6_readText_53 : decode cX6_readText 53 = .ok (.getfield 35, 3) := by decide +kernel
theorem dX6_readText_56 : decode cX6_readText 56 = .ok (.iaload, 1) := by decide +kernel
theorem dX6_readText_57 : decode cX6_readText 57 = .ok (.ireturn, 1) := by decide +kernel
theorem dX6_readText_58 : decode cX6_readText 58 = .ok (.iinc 1 1, 3) := by decide +kernel
theorem dX6_readText_61 : decode cX6_readText 61 = .ok (.goto (-38), 3) := by decide +kernel
theorem dX6_readText_64 : decode cX6_readText 64 = .ok (.aload_n 0, 1) := by decide +kernel
theorem dX6_readText_65 : decode cX6_readText 65 = .ok (.getfield 26, 3) := by decide +kernel
theorem dX6_readText_68 : decode cX6_readText 68 = .ok (.aload_n 0, 1) := by decide +kernel
theorem dX6_readText_69 : decode cX6_readText 69 = .ok (.getfield 35, 3) := by decide +kernel
theorem dX6_readText_72 : decode cX6_readText 72 = .ok (.iaload, 1) := by decide +kernel
theorem dX6_readText_73 : decode cX6_readText 73 = .ok (.ifCond .ne 7, 3) := by decide +kernel
theorem dX6_readText_76 : decode cX6_readText 76 = .ok (.iconst (-1), 1) := by decide +kernel
theorem dX6_readText_77 : decode cX6_readText 77 = .ok (.goto 12, 3) := by decide +kernel
theorem dX6_readText_80 : decode cX6_readText 80 = .ok (.aload_n 0, 1) := by decide +kernel
theorem dX6_readText_81 : decode cX6_readText 81 = .ok (.getfield 32, 3) := by decide +kernel
theorem dX6_readText_84 : decode cX6_readText 84 = .ok (.aload_n 0, 1) := by decide +kernel
theorem dX6_readText_85 : decode cX6_readText 85 = .ok (.getfield 35, 3) := by decide +kernel
theorem dX6_readText_88 : decode cX6_readText 88 = .ok (.iaload, 1) := by decide +kernel
theorem dX6_readText_89 : decode cX6_readText 89 = .ok (.ireturn, 1) := by decide +kernel
theorem dX6_split_0 : decode cX6_split 0 = .ok (.iconst 0, 1) := by decide +kernel
theorem dX6_split_1 : decode cX6_split 1 = .ok (.istore_n 1, 1) := by decide +kernel
theorem dX6_split_2 : decode cX6_split 2 = .ok (.iconst 0, 1) := by decide +kernel
theorem dX6_split_3 : decode cX6_split 3 = .ok (.istore_n 2, 1) := by decide +kernel
theorem dX6_split_4 : decode cX6_split 4 = .ok (.iload_n 2, 1) := by decide +kernel
theorem dX6_split_5 : decode cX6_split 5 = .ok (.aload_n 0, 1) := by decide +kernel
theorem dX6_split_6 : decode cX6_split 6 = .ok (.getfield 9, 3) := by decide +kernel
theorem dX6_split_9 : decode cX6_split 9 = .ok (.if_icmp .ge 71, 3) := by decide +kernel
theorem dX6_split_12 : decode cX6_split 12 = .ok (.aload_n 0, 1) := by decide +kernel
theorem dX6_split_13 : decode cX6_split 13 = .ok (.iload_n 2, 1) := by decide +kernel
theorem dX6_split_14 : decode cX6_split 14 = .ok (.invokevirtual 48, 3) := by decide +kernel
theorem dX6_split_17 : decode cX6_split 17 = .ok (.ifCond .eq 57, 3) := by decide +kernel
theorem dX6_split_20 : decode cX6_split 20 = .ok (.aload_n 0, 1) := by decide +kernel
theorem dX6_split_21 : decode cX6_split 21 = .ok (.iload_n 2, 1) := by decide +kernel
theorem dX6_split_22 : decode cX6_split 22 = .ok (.invokevirtual 52, 3) := by decide +kernel
theorem dX6_split_25 : decode cX6_split 25 = .ok (.istore_n 3, 1) := by decide +kernel
theorem dX6_split_26 : decode cX6_split 26 = .ok (.aload_n 0, 1) := by decide +kernel
theorem dX6_split_27 : decode cX6_split 27 = .ok (.getfield 32, 3) := by decide +kernel
theorem dX6_split_30 : decode cX6_split 30 = .ok (.iload_n 1, 1) := by decide +kernel
theorem dX6_split_31 : decode cX6_split 31 = .ok (.iload_n 2, 1) := by decide +kernel
theorem dX6_split_32 : decode cX6_split 32 = .ok (.iastore, 1) := by decide +kernel
theorem dX6_split_33 : decode cX6_split 33 = .ok (.aload_n 0, 1) := by decide +kernel
theorem dX6_split_34 : decode cX6_split 34 = .ok (.getfield 26, 3) := by decide +kernel
theorem dX6_split_37 : decode cX6_split 37 = .ok (.iload_n 1, 1) := by decide +kernel
theorem dX6_split_38 : decode cX6_split 38 = .ok (.aload_n 0, 1) := by decide +kernel
theorem dX6_split_39 : decode cX6_split 39 = .ok (.iload_n 2, 1) := by decide +kernel
theorem dX6_split_40 : decode cX6_split 40 = .ok (.iload_n 3, 1) := by decide +kernel
theorem dX6_split_41 : decode cX6_split 41 = .ok (.invokevirtual 56, 3) := by decide +kernel
theorem dX6_split_44 : decode cX6_split 44 = .ok (.iastore, 1) := by decide +kernel
theorem dX6_split_45 : decode cX6_split 45 = .ok (.aload_n 0, 1) := by decide +kernel
theorem dX6_split_46 : decode cX6_split 46 = .ok (.getfield 29, 3) := by decide +kernel
theorem dX6_split_49 : decode cX6_split 49 = .ok (.iload_n 1, 1) := by decide +kernel
theorem dX6_split_50 : decode cX6_split 50 = .ok (.aload_n 0, 1) := by decide +kernel
theorem dX6_split_51 : decode cX6_split 51 = .ok (.getfield 26, 3) := by decide +kernel
theorem dX6_split_54 : decode cX6_split 54 = .ok (.iload_n 1, 1) := by decide +kernel
theorem dX6_split_55 : decode cX6_split 55 = .ok (.iaload, 1) := by decide +kernel
theorem dX6_split_56 : decode cX6_split 56 = .ok (.iconst 2, 1) := by decide +kernel
theorem dX6_split_57 : decode cX6_split 57 = .ok (.if_icmp .ne 12, 3) := by decide +kernel
theorem dX6_split_60 : decode cX6_split 60 = .ok (.aload_n 0, 1) := by decide +kernel
theorem dX6_split_61 : decode cX6_split 61 = .ok (.iload_n 2, 1) := by decide +kernel
theorem dX6_split_62 : decode cX6_split 62 = .ok (.iload_n 3, 1) := by decide +kernel
theorem dX6_split_63 : decode cX6_split 63 = .ok (.invokevirtual 60, 3) := by decide +kernel
theorem dX6_split_66 : decode cX6_split 66 = .ok (.goto 4, 3) := by decide +kernel
theorem dX6_split_69 : decode cX6_split 69 = .ok (.iconst 0, 1) := by decide +kernel
theorem dX6_split_70 : decode cX6_split 70 = .ok (.iastore, 1) := by decide +kernel
theorem dX6_split_71 : decode cX6_split 71 = .ok (.iinc 1 1, 3) := by decide +kernel
theorem dX6_split_74 : decode cX6_split 74 = .ok (.iinc 2 1, 3) := by decide +kernel
theorem dX6_split_77 : decode cX6_split 77 = .ok (.goto (-73), 3) := by decide +kernel
theorem dX6_split_80 : decode cX6_split 80 = .ok (.aload_n 0, 1) := by decide +kernel
theorem dX6_split_81 : decode cX6_split 81 = .ok (.getfield 32, 3) := by decide +kernel
theorem dX6_split_84 : decode cX6_split 84 = .ok (.iload_n 1, 1) := by decide +kernel
theorem dX6_split_85 : decode cX6_split 85 = .ok (.aload_n 0, 1) := by decide +kernel
theorem dX6_split_86 : decode cX6_split 86 = .ok (.getfield 9, 3) := by decide +kernel
theorem dX6_split_89 : decode cX6_split 89 = .ok (.iastore, 1) := by decide +kernel
theorem dX6_split_90 : decode cX6_split 90 = .ok (.aload_n 0, 1) := by decide +kernel
theorem dX6_split_91 : decode cX6_split 91 = .ok (.getfield 26, 3) := by decide +kernel
theorem dX6_split_94 : decode cX6_split 94 = .ok (.iload_n 1, 1) := by decide +kernel
theorem dX6_split_95 : decode cX6_split 95 = .ok (.iconst 0, 1) := by decide +kernel
theorem dX6_split_96 : decode cX6_split 96 = .ok (.iastore, 1) := by decide +kernel
theorem dX6_split_97 : decode cX6_split 97 = .ok (.return_, 1) := by decide +kernel
theorem dX6_isLetter_0 : decode cX6_isLetter 0 = .ok (.bipush 97, 2) := by decide +kernel
theorem dX6_isLetter_2 : decode cX6_isLetter 2 = .ok (.iload_n 0, 1) := by decide +kernel
theorem dX6_isLetter_3 : decode cX6_isLetter 3 = .ok (.if_icmp .gt 13, 3) := by decide +kernel
theorem dX6_isLetter_6 : decode cX6_isLetter 6 = .ok (.iload_n 0, 1) := by decide +kernel
theorem dX6_isLetter_7 : decode cX6_isLetter 7 = .ok (.bipush 122, 2) := by decide +kernel
theorem dX6_isLetter_9 : decode cX6_isLetter 9 = .ok (.if_icmp .gt 7, 3) := by decide +kernel
theorem dX6_isLetter_12 : decode cX6_isLetter 12 = .ok (.iconst 1, 1) := by decide +kernel
theorem dX6_isLetter_13 : decode cX6_isLetter 13 = .ok (.goto 4, 3) := by decide +kernel
theorem dX6_isLetter_16 : decode cX6_isLetter 16 = .ok (.iconst 0, 1) := by decide +kernel
theorem dX6_isLetter_17 : decode cX6_isLetter 17 = .ok (.ireturn, 1) := by decide +kernel
theorem dX6_isDigit_0 : decode cX6_isDigit 0 = .ok (.bipush 48, 2) := by decide +kernel
theorem dX6_isDigit_2 : decode cX6_isDigit 2 = .ok (.iload_n 0, 1) := by decide +kernel
theorem dX6_isDigit_3 : decode cX6_isDigit 3 = .ok (.if_icmp .gt 13, 3) := by decide +kernel
theorem dX6_isDigit_6 : decode cX6_isDigit 6 = .ok (.iload_n 0, 1) := by decide +kernel
theorem dX6_isDigit_7 : decode cX6_isDigit 7 = .ok (.bipush 57, 2) := by decide +kernel
theorem dX6_isDigit_9 : decode cX6_isDigit 9 = .ok (.if_icmp .gt 7, 3) := by decide +kernel
theorem dX6_isDigit_12 : decode cX6_isDigit 12 = .ok (.iconst 1, 1) := by decide +kernel
theorem dX6_isDigit_13 : decode cX6_isDigit 13 = .ok (.goto 4, 3) := by decide +kernel
theorem dX6_isDigit_16 : decode cX6_isDigit 16 = .ok (.iconst 0, 1) := by decide +kernel
theorem dX6_isDigit_17 : decode cX6_isDigit 17 = .ok (.ireturn, 1) := by decide +kernel
theorem dX6_belongTogether_0 : decode cX6_belongTogether 0 = .ok (.iload_n 0, 1) := by decide +kernel
theorem dX6_belongTogether_1 : decode cX6_belongTogether 1 = .ok (.invokestatic 63, 3) := by decide +kernel
theorem dX6_belongTogether_4 : decode cX6_belongTogether 4 = .ok (.ifCond .eq 10, 3) := by decide +kernel
theorem dX6_belongTogether_7 : decode cX6_belongTogether 7 = .ok (.iload_n 1, 1) := by decide +kernel
theorem dX6_belongTogether_8 : decode cX6_belongTogether 8 = .ok (.invokestatic 63, 3) := by decide +kernel
theorem dX6_belongTogether_11 : decode cX6_belongTogether 11 = .ok (.ifCond .ne 17, 3) := by decide +kernel
theorem dX6_belongTogether_14 : decode cX6_belongTogether 14 = .ok (.iload_n 0, 1) := by decide +kernel
theorem dX6_belongTogether_15 : decode cX6_belongTogether 15 = .ok (.invokestatic 66, 3) := by decide +kernel
theorem dX6_belongTogether_18 : decode cX6_belongTogether 18 = .ok (.ifCond .eq 14, 3) := by decide +kernel
theorem dX6_belongTogether_21 : decode cX6_belongTogether 21 = .ok (.iload_n 1, 1) := by decide +kernel
theorem dX6_belongTogether_22 : decode cX6_belongTogether 22 = .ok (.invokestatic 66, 3) := by decide +kernel
theorem dX6_belongTogether_25 : decode cX6_belongTogether 25 = .ok (.ifCond .eq 7, 3) := by decide +kernel
theorem dX6_belongTogether_28 : decode cX6_belongTogether 28 = .ok (.iconst 1, 1) := by decide +kernel
theorem dX6_belongTogether_29 : decode cX6_belongTogether 29 = .ok (.goto 4, 3) := by decide +kernel
theorem dX6_belongTogether_32 : decode cX6_belongTogether 32 = .ok (.iconst 0, 1) := by decide +kernel
theorem dX6_belongTogether_33 : decode cX6_belongTogether 33 = .ok (.ireturn, 1) := by decide +kernel
theorem dX6_beginsPart_0 : decode cX6_beginsPart 0 = .ok (.aload_n 0, 1) := by decide +kernel
theorem dX6_beginsPart_1 : decode cX6_beginsPart 1 = .ok (.getfield 22, 3) := by decide +kernel
theorem dX6_beginsPart_4 : decode cX6_beginsPart 4 = .ok (.iload_n 1, 1) := by decide +kernel
theorem dX6_beginsPart_5 : decode cX6_beginsPart 5 = .ok (.iaload, 1) := by decide +kernel
theorem dX6_beginsPart_6 : decode cX6_beginsPart 6 = .ok (.bipush 32, 2) := by decide +kernel
theorem dX6_beginsPart_8 : decode cX6_beginsPart 8 = .ok (.if_icmp .eq 31, 3) := by decide +kernel
theorem dX6_beginsPart_11 : decode cX6_beginsPart 11 = .ok (.iload_n 1, 1) := by decide +kernel
theorem dX6_beginsPart_12 : decode cX6_beginsPart 12 = .ok (.ifCond .eq 23, 3) := by decide +kernel
theorem dX6_beginsPart_15 : decode cX6_beginsPart 15 = .ok (.aload_n 0, 1) := by decide +kernel
theorem dX6_beginsPart_16 : decode cX6_beginsPart 16 = .ok (.getfield 22, 3) := by decide +kernel
theorem dX6_beginsPart_19 : decode cX6_beginsPart 19 = .ok (.iload_n 1, 1) := by decide +kernel
theorem dX6_beginsPart_20 : decode cX6_beginsPart 20 = .ok (.iconst 1, 1) := by decide +kernel
theorem dX6_beginsPart_21 : decode cX6_beginsPart 21 = .ok (.isub, 1) := by decide +kernel
theorem dX6_beginsPart_22 : decode cX6_beginsPart 22 = .ok (.iaload, 1) := by decide +kernel
theorem dX6_beginsPart_23 : decode cX6_beginsPart 23 = .ok (.aload_n 0, 1) := by decide +kernel
theorem dX6_beginsPart_24 : decode cX6_beginsPart 24 = .ok (.getfield 22, 3) := by decide +kernel
theorem dX6_beginsPart_27 : decode cX6_beginsPart 27 = .ok (.iload_n 1, 1) := by decide +kernel
theorem dX6_beginsPart_28 : decode cX6_beginsPart 28 = .ok (.iaload, 1) := by decide +kernel
theorem dX6_beginsPart_29 : decode cX6_beginsPart 29 = .ok (.invokestatic 69, 3) := by decide +kernel
theorem dX6_beginsPart_32 : decode cX6_beginsPart 32 = .ok (.ifCond .ne 7, 3) := by decide +kernel
theorem dX6_beginsPart_35 : decode cX6_beginsPart 35 = .ok (.iconst 1, 1) := by decide +kernel
theorem dX6_beginsPart_36 : decode cX6_beginsPart 36 = .ok (.goto 4, 3) := by decide +kernel
theorem dX6_beginsPart_39 : decode cX6_beginsPart 39 = .ok (.iconst 0, 1) := by decide +kernel
theorem dX6_beginsPart_40 : decode cX6_beginsPart 40 = .ok (.ireturn, 1) := by decide +kernel
theorem dX6_endOfPart_0 : decode cX6_endOfPart 0 = .ok (.iload_n 1, 1) := by decide +kernel
theorem dX6_endOfPart_1 : decode cX6_endOfPart 1 = .ok (.iconst 1, 1) := by decide +kernel
theorem dX6_endOfPart_2 : decode cX6_endOfPart 2 = .ok (.iadd, 1) := by decide +kernel
theorem dX6_endOfPart_3 : decode cX6_endOfPart 3 = .ok (.istore_n 2, 1) := by decide +kernel
theorem dX6_endOfPart_4 : decode cX6_endOfPart 4 = .ok (.iload_n 2, 1) := by decide +kernel
theorem dX6_endOfPart_5 : decode cX6_endOfPart 5 = .ok (.aload_n 0, 1) := by decide +kernel
theorem dX6_endOfPart_6 : decode cX6_endOfPart 6 = .ok (.getfield 9, 3) := by decide +kernel
theorem dX6_endOfPart_9 : decode cX6_endOfPart 9 = .ok (.if_icmp .ge 27, 3) := by decide +kernel
theorem dX6_endOfPart_12 : decode cX6_endOfPart 12 = .ok (.aload_n 0, 1) := by decide +kernel
theorem dX6_endOfPart_13 : decode cX6_endOfPart 13 = .ok (.getfield 22, 3) := by decide +kernel
theorem dX6_endOfPart_16 : decode cX6_endOfPart 16 = .ok (.iload_n 1, 1) := by decide +kernel
theorem dX6_endOfPart_17 : decode cX6_endOfPart 17 = .ok (.iaload, 1) := by decide +kernel
theorem dX6_endOfPart_18 : decode cX6_endOfPart 18 = .ok (.aload_n 0, 1) := by decide +kernel
theorem dX6_endOfPart_19 : decode cX6_endOfPart 19 = .ok (.getfield 22, 3) := by decide +kernel
theorem dX6_endOfPart_22 : decode cX6_endOfPart 22 = .ok (.iload_n 2, 1) := by decide +kernel
theorem dX6_endOfPart_23 : decode cX6_endOfPart 23 = .ok (.iaload, 1) := by decide +kernel
theorem dX6_endOfPart_24 : decode cX6_endOfPart 24 = .ok (.invokestatic 69, 3) := by decide +kernel
theorem dX6_endOfPart_27 : decode cX6_endOfPart 27 = .ok (.ifCond .eq 9, 3) := by decide +kernel
theorem dX6_endOfPart_30 : decode cX6_endOfPart 30 = .ok (.iinc 2 1, 3) := by decide +kernel
theorem dX6_endOfPart_33 : decode cX6_endOfPart 33 = .ok (.goto (-29), 3) := by decide +kernel
theorem dX6_endOfPart_36 : decode cX6_endOfPart 36 = .ok (.iload_n 2, 1) := by decide +kernel
theorem dX6_endOfPart_37 : decode cX6_endOfPart 37 = .ok (.ireturn, 1) := by decide +kernel
theorem dX6_kindOfPart_0 : decode cX6_kindOfPart 0 = .ok (.aload_n 0, 1) := by decide +kernel
theorem dX6_kindOfPart_1 : decode cX6_kindOfPart 1 = .ok (.getfield 22, 3) := by decide +kernel
theorem dX6_kindOfPart_4 : decode cX6_kindOfPart 4 = .ok (.iload_n 1, 1) := by decide +kernel
theorem dX6_kindOfPart_5 : decode cX6_kindOfPart 5 = .ok (.iaload, 1) := by decide +kernel
theorem dX6_kindOfPart_6 : decode cX6_kindOfPart 6 = .ok (.invokestatic 63, 3) := by decide +kernel
theorem dX6_kindOfPart_9 : decode cX6_kindOfPart 9 = .ok (.ifCond .eq 10, 3) := by decide +kernel
theorem dX6_kindOfPart_12 : decode cX6_kindOfPart 12 = .ok (.aload_n 0, 1) := by decide +kernel
theorem dX6_kindOfPart_13 : decode cX6_kindOfPart 13 = .ok (.iload_n 1, 1) := by decide +kernel
theorem dX6_kindOfPart_14 : decode cX6_kindOfPart 14 = .ok (.iload_n 2, 1) := by decide +kernel
theorem dX6_kindOfPart_15 : decode cX6_kindOfPart 15 = .ok (.invokevirtual 73, 3) := by decide +kernel
theorem dX6_kindOfPart_18 : decode cX6_kindOfPart 18 = .ok (.ireturn, 1) := by decide +kernel
theorem dX6_kindOfPart_19 : decode cX6_kindOfPart 19 = .ok (.aload_n 0, 1) := by decide +kernel
theorem dX6_kindOfPart_20 : decode cX6_kindOfPart 20 = .ok (.getfield 22, 3) := by decide +kernel
theorem dX6_kindOfPart_23 : decode cX6_kindOfPart 23 = .ok (.iload_n 1, 1) := by decide +kernel
theorem dX6_kindOfPart_24 : decode cX6_kindOfPart 24 = .ok (.iaload, 1) := by decide +kernel
theorem dX6_kindOfPart_25 : decode cX6_kindOfPart 25 = .ok (.invokestatic 66, 3) := by decide +kernel
theorem dX6_kindOfPart_28 : decode cX6_kindOfPart 28 = .ok (.ifCond .eq 16, 3) := by decide +kernel
theorem dX6_kindOfPart_31 : decode cX6_kindOfPart 31 = .ok (.iload_n 2, 1) := by decide +kernel
theorem dX6_kindOfPart_32 : decode cX6_kindOfPart 32 = .ok (.iload_n 1, 1) := by decide +kernel
theorem dX6_kindOfPart_33 : decode cX6_kindOfPart 33 = .ok (.isub, 1) := by decide +kernel
theorem dX6_kindOfPart_34 : decode cX6_kindOfPart 34 = .ok (.iconst 3, 1) := by decide +kernel
theorem dX6_kindOfPart_35 : decode cX6_kindOfPart 35 = .ok (.if_icmp .gt 7, 3) := by decide +kernel
theorem dX6_kindOfPart_38 : decode cX6_kindOfPart 38 = .ok (.iconst 2, 1) := by decide +kernel
theorem dX6_kindOfPart_39 : decode cX6_kindOfPart 39 = .ok (.goto 4, 3) := by decide +kernel
theorem dX6_kindOfPart_42 : decode cX6_kindOfPart 42 = .ok (.iconst 1, 1) := by decide +kernel
theorem dX6_kindOfPart_43 : decode cX6_kindOfPart 43 = .ok (.ireturn, 1) := by decide +kernel
theorem dX6_kindOfPart_44 : decode cX6_kindOfPart 44 = .ok (.aload_n 0, 1) := by decide +kernel
theorem dX6_kindOfPart_45 : decode cX6_kindOfPart 45 = .ok (.getfield 22, 3) := by decide +kernel
theorem dX6_kindOfPart_48 : decode cX6_kindOfPart 48 = .ok (.iload_n 1, 1) := by decide +kernel
theorem dX6_kindOfPart_49 : decode cX6_kindOfPart 49 = .ok (.iaload, 1) := by decide +kernel
theorem dX6_kindOfPart_50 : decode cX6_kindOfPart 50 = .ok (.lookupswitch 76 #[(40, 61), (41, 64), (59, 58), (60, 67), (61, 70), (62, 73)], 58) := by decide +kernel
theorem dX6_kindOfPart_108 : decode cX6_kindOfPart 108 = .ok (.bipush 8, 2) := by decide +kernel
theorem dX6_kindOfPart_110 : decode cX6_kindOfPart 110 = .ok (.ireturn, 1) := by decide +kernel
theorem dX6_kindOfPart_111 : decode cX6_kindOfPart 111 = .ok (.bipush 9, 2) := by decide +kernel
theorem dX6_kindOfPart_113 : decode cX6_kindOfPart 113 = .ok (.ireturn, 1) := by decide +kernel
theorem dX6_kindOfPart_114 : decode cX6_kindOfPart 114 = .ok (.bipush 10, 2) := by decide +kernel
theorem dX6_kindOfPart_116 : decode cX6_kindOfPart 116 = .ok (.ireturn, 1) := by decide +kernel
theorem dX6_kindOfPart_117 : decode cX6_kindOfPart 117 = .ok (.bipush 20, 2) := by decide +kernel
theorem dX6_kindOfPart_119 : decode cX6_kindOfPart 119 = .ok (.ireturn, 1) := by decide +kernel
theorem dX6_kindOfPart_120 : decode cX6_kindOfPart 120 = .ok (.bipush 21, 2) := by decide +kernel
theorem dX6_kindOfPart_122 : decode cX6_kindOfPart 122 = .ok (.ireturn, 1) := by decide +kernel
theorem dX6_kindOfPart_123 : decode cX6_kindOfPart 123 = .ok (.bipush 22, 2) := by decide +kernel
theorem dX6_kindOfPart_125 : decode cX6_kindOfPart 125 = .ok (.ireturn, 1) := by decide +kernel
theorem dX6_kindOfPart_126 : decode cX6_kindOfPart 126 = .ok (.iconst 1, 1) := by decide +kernel
theorem dX6_kindOfPart_127 : decode cX6_kindOfPart 127 = .ok (.ireturn, 1) := by decide +kernel
theorem dX6_kindOfWord_0 : decode cX6_kindOfWord 0 = .ok (.aload_n 0, 1) := by decide +kernel
theorem dX6_kindOfWord_1 : decode cX6_kindOfWord 1 = .ok (.ldc 76, 2) := by decide +kernel
theorem dX6_kindOfWord_3 : decode cX6_kindOfWord 3 = .ok (.iload_n 1, 1) := by decide +kernel
theorem dX6_kindOfWord_4 : decode cX6_kindOfWord 4 = .ok (.iload_n 2, 1) := by decide +kernel
theorem dX6_kindOfWord_5 : decode cX6_kindOfWord 5 = .ok (.invokevirtual 78, 3) := by decide +kernel
theorem dX6_kindOfWord_8 : decode cX6_kindOfWord 8 = .ok (.ifCond .eq 5, 3) := by decide +kernel
theorem dX6_kindOfWord_11 : decode cX6_kindOfWord 11 = .ok (.iconst 3, 1) := by decide +kernel
theorem dX6_kindOfWord_12 : decode cX6_kindOfWord 12 = .ok (.ireturn, 1) := by decide +kernel
theorem dX6_kindOfWord_13 : decode cX6_kindOfWord 13 = .ok (.aload_n 0, 1) := by decide +kernel
theorem dX6_kindOfWord_14 : decode cX6_kindOfWord 14 = .ok (.ldc 82, 2) := by decide +kernel
theorem dX6_kindOfWord_16 : decode cX6_kindOfWord 16 = .ok (.iload_n 1, 1) := by decide +kernel
theorem dX6_kindOfWord_17 : decode cX6_kindOfWord 17 = .ok (.iload_n 2, 1) := by decide +kernel
theorem dX6_kindOfWord_18 : decode cX6_kindOfWord 18 = .ok (.invokevirtual 78, 3) := by decide +kernel
theorem dX6_kindOfWord_21 : decode cX6_kindOfWord 21 = .ok (.ifCond .eq 5, 3) := by decide +kernel
theorem dX6_kindOfWord_24 : decode cX6_kindOfWord 24 = .ok (.iconst 4, 1) := by decide +kernel
theorem dX6_kindOfWord_25 : decode cX6_kindOfWord 25 = .ok (.ireturn, 1) := by decide +kernel
theorem dX6_kindOfWord_26 : decode cX6_kindOfWord 26 = .ok (.aload_n 0, 1) := by decide +kernel
theorem dX6_kindOfWord_27 : decode cX6_kindOfWord 27 = .ok (.ldc 84, 2) := by decide +kernel
theorem dX6_kindOfWord_29 : decode cX6_kindOfWord 29 = .ok (.iload_n 1, 1) := by decide +kernel
theorem dX6_kindOfWord_30 : decode cX6_kindOfWord 30 = .ok (.iload_n 2, 1) := by decide +kernel
theorem dX6_kindOfWord_31 : decode cX6_kindOfWord 31 = .ok (.invokevirtual 78, 3) := by decide +kernel
theorem dX6_kindOfWord_34 : decode cX6_kindOfWord 34 = .ok (.ifCond .eq 5, 3) := by decide +kernel
theorem dX6_kindOfWord_37 : decode cX6_kindOfWord 37 = .ok (.iconst 5, 1) := by decide +kernel
theorem dX6_kindOfWord_38 : decode cX6_kindOfWord 38 = .ok (.ireturn, 1) := by decide +kernel
theorem dX6_kindOfWord_39 : decode cX6_kindOfWord 39 = .ok (.aload_n 0, 1) := by decide +kernel
theorem dX6_kindOfWord_40 : decode cX6_kindOfWord 40 = .ok (.ldc 86, 2) := by decide +kernel
theorem dX6_kindOfWord_42 : decode cX6_kindOfWord 42 = .ok (.iload_n 1, 1) := by decide +kernel
theorem dX6_kindOfWord_43 : decode cX6_kindOfWord 43 = .ok (.iload_n 2, 1) := by decide +kernel
theorem dX6_kindOfWord_44 : decode cX6_kindOfWord 44 = .ok (.invokevirtual 78, 3) := by decide +kernel
theorem dX6_kindOfWord_47 : decode cX6_kindOfWord 47 = .ok (.ifCond .eq 6, 3) := by decide +kernel
theorem dX6_kindOfWord_50 : decode cX6_kindOfWord 50 = .ok (.bipush 6, 2) := by decide +kernel
theorem dX6_kindOfWord_52 : decode cX6_kindOfWord 52 = .ok (.ireturn, 1) := by decide +kernel
theorem dX6_kindOfWord_53 : decode cX6_kindOfWord 53 = .ok (.aload_n 0, 1) := by decide +kernel
theorem dX6_kindOfWord_54 : decode cX6_kindOfWord 54 = .ok (.ldc 88, 2) := by decide +kernel
theorem dX6_kindOfWord_56 : decode cX6_kindOfWord 56 = .ok (.iload_n 1, 1) := by decide +kernel
theorem dX6_kindOfWord_57 : decode cX6_kindOfWord 57 = .ok (.iload_n 2, 1) := by decide +kernel
theorem dX6_kindOfWord_58 : decode cX6_kindOfWord 58 = .ok (.invokevirtual 78, 3) := by decide +kernel
theorem dX6_kindOfWord_61 : decode cX6_kindOfWord 61 = .ok (.ifCond .eq 6, 3) := by decide +kernel
theorem dX6_kindOfWord_64 : decode cX6_kindOfWord 64 = .ok (.bipush 7, 2) := by decide +kernel
theorem dX6_kindOfWord_66 : decode cX6_kindOfWord 66 = .ok (.ireturn, 1) := by decide +kernel
theorem dX6_kindOfWord_67 : decode cX6_kindOfWord 67 = .ok (.aload_n 0, 1) := by decide +kernel
theorem dX6_kindOfWord_68 : decode cX6_kindOfWord 68 = .ok (.ldc 90, 2) := by decide +kernel
theorem dX6_kindOfWord_70 : decode cX6_kindOfWord 70 = .ok (.iload_n 1, 1) := by decide +kernel
theorem dX6_kindOfWord_71 : decode cX6_kindOfWord 71 = .ok (.iload_n 2, 1) := by decide +kernel
theorem dX6_kindOfWord_72 : decode cX6_kindOfWord 72 = .ok (.invokevirtual 78, 3) := by decide +kernel
theorem dX6_kindOfWord_75 : decode cX6_kindOfWord 75 = .ok (.ifCond .eq 7, 3) := by decide +kernel
theorem dX6_kindOfWord_78 : decode cX6_kindOfWord 78 = .ok (.sipush 1030, 3) := by decide +kernel
theorem dX6_kindOfWord_81 : decode cX6_kindOfWord 81 = .ok (.ireturn, 1) := by decide +kernel
theorem dX6_kindOfWord_82 : decode cX6_kindOfWord 82 = .ok (.aload_n 0, 1) := by decide +kernel
theorem dX6_kindOfWord_83 : decode cX6_kindOfWord 83 = .ok (.ldc 92, 2) := by decide +kernel
theorem dX6_kindOfWord_85 : decode cX6_kindOfWord 85 = .ok (.iload_n 1, 1) := by decide +kernel
theorem dX6_kindOfWord_86 : decode cX6_kindOfWord 86 = .ok (.iload_n 2, 1) := by decide +kernel
theorem dX6_kindOfWord_87 : decode cX6_kindOfWord 87 = .ok (.invokevirtual 78, 3) := by decide +kernel
theorem dX6_kindOfWord_90 : decode cX6_kindOfWord 90 = .ok (.ifCond .eq 7, 3) := by decide +kernel
theorem dX6_kindOfWord_93 : decode cX6_kindOfWord 93 = .ok (.sipush 1031, 3) := by decide +kernel
theorem dX6_kindOfWord_96 : decode cX6_kindOfWord 96 = .ok (.ireturn, 1) := by decide +kernel
theorem dX6_kindOfWord_97 : decode cX6_kindOfWord 97 = .ok (.aload_n 0, 1) := by decide +kernel
theorem dX6_kindOfWord_98 : decode cX6_kindOfWord 98 = .ok (.ldc 94, 2) := by decide +kernel
theorem dX6_kindOfWord_100 : decode cX6_kindOfWord 100 = .ok (.iload_n 1, 1) := by decide +kernel
theorem dX6_kindOfWord_101 : decode cX6_kindOfWord 101 = .ok (.iload_n 2, 1) := by decide +kernel
theorem dX6_kindOfWord_102 : decode cX6_kindOfWord 102 = .ok (.invokevirtual 78, 3) := by decide +kernel
theorem dX6_kindOfWord_105 : decode cX6_kindOfWord 105 = .ok (.ifCond .eq 9, 3) := by decide +kernel
theorem dX6_kindOfWord_108 : decode cX6_kindOfWord 108 = .ok (.sipush 1032, 3) := by decide +kernel
theorem dX6_kindOfWord_111 : decode cX6_kindOfWord 111 = .ok (.goto 4, 3) := by decide +kernel
theorem dX6_kindOfWord_114 : decode cX6_kindOfWord 114 = .ok (.iconst 1, 1) := by decide +kernel
theorem dX6_kindOfWord_115 : decode cX6_kindOfWord 115 = .ok (.ireturn, 1) := by decide +kernel
theorem dX6_isWord_0 : decode cX6_isWord 0 = .ok (.aload_n 1, 1) := by decide +kernel
theorem dX6_isWord_1 : decode cX6_isWord 1 = .ok (.invokevirtual 96, 3) := by decide +kernel
theorem dX6_isWord_4 : decode cX6_isWord 4 = .ok (.iload_n 3, 1) := by decide +kernel
theorem dX6_isWord_5 : decode cX6_isWord 5 = .ok (.iload_n 2, 1) := by decide +kernel
theorem dX6_isWord_6 : decode cX6_isWord 6 = .ok (.isub, 1) := by decide +kernel
theorem dX6_isWord_7 : decode cX6_isWord 7 = .ok (.if_icmp .eq 5, 3) := by decide +kernel
theorem dX6_isWord_10 : decode cX6_isWord 10 = .ok (.iconst 0, 1) := by decide +kernel
theorem dX6_isWord_11 : decode cX6_isWord 11 = .ok (.ireturn, 1) := by decide +kernel
theorem dX6_isWord_12 : decode cX6_isWord 12 = .ok (.iconst 0, 1) := by decide +kernel
theorem dX6_isWord_13 : decode cX6_isWord 13 = .ok (.istore 4, 2) := by decide +kernel
theorem dX6_isWord_15 : decode cX6_isWord 15 = .ok (.iload 4, 2) := by decide +kernel
theorem dX6_isWord_17 : decode cX6_isWord 17 = .ok (.aload_n 1, 1) := by decide +kernel
theorem dX6_isWord_18 : decode cX6_isWord 18 = .ok (.invokevirtual 96, 3) := by decide +kernel
theorem dX6_isWord_21 : decode cX6_isWord 21 = .ok (.if_icmp .ge 29, 3) := by decide +kernel
theorem dX6_isWord_24 : decode cX6_isWord 24 = .ok (.aload_n 1, 1) := by decide +kernel
theorem dX6_isWord_25 : decode cX6_isWord 25 = .ok (.iload 4, 2) := by decide +kernel
theorem dX6_isWord_27 : decode cX6_isWord 27 = .ok (.invokevirtual 102, 3) := by decide +kernel
theorem dX6_isWord_30 : decode cX6_isWord 30 = .ok (.aload_n 0, 1) := by decide +kernel
theorem dX6_isWord_31 : decode cX6_isWord 31 = .ok (.getfield 22, 3) := by decide +kernel
theorem dX6_isWord_34 : decode cX6_isWord 34 = .ok (.iload_n 2, 1) := by decide +kernel
theorem dX6_isWord_35 : decode cX6_isWord 35 = .ok (.iload 4, 2) := by decide +kernel
theorem dX6_isWord_37 : decode cX6_isWord 37 = .ok (.iadd, 1) := by decide +kernel
theorem dX6_isWord_38 : decode cX6_isWord 38 = .ok (.iaload, 1) := by decide +kernel
theorem dX6_isWord_39 : decode cX6_isWord 39 = .ok (.if_icmp .eq 5, 3) := by decide +kernel
theorem dX6_isWord_42 : decode cX6_isWord 42 = .ok (.iconst 0, 1) := by decide +kernel
theorem dX6_isWord_43 : decode cX6_isWord 43 = .ok (.ireturn, 1) := by decide +kernel
theorem dX6_isWord_44 : decode cX6_isWord 44 = .ok (.iinc 4 1, 3) := by decide +kernel
theorem dX6_isWord_47 : decode cX6_isWord 47 = .ok (.goto (-32), 3) := by decide +kernel
theorem dX6_isWord_50 : decode cX6_isWord 50 = .ok (.iconst 1, 1) := by decide +kernel
theorem dX6_isWord_51 : decode cX6_isWord 51 = .ok (.ireturn, 1) := by decide +kernel
theorem dX6_numberOf_0 : decode cX6_numberOf 0 = .ok (.iconst 0, 1) := by decide +kernel
theorem dX6_numberOf_1 : decode cX6_numberOf 1 = .ok (.istore_n 3, 1) := by decide +kernel
theorem dX6_numberOf_2 : decode cX6_numberOf 2 = .ok (.iload_n 1, 1) := by decide +kernel
theorem dX6_numberOf_3 : decode cX6_numberOf 3 = .ok (.istore 4, 2) := by decide +kernel
theorem dX6_numberOf_5 : decode cX6_numberOf 5 = .ok (.iload 4, 2) := by decide +kernel
theorem dX6_numberOf_7 : decode cX6_numberOf 7 = .ok (.iload_n 2, 1) := by decide +kernel
theorem dX6_numberOf_8 : decode cX6_numberOf 8 = .ok (.if_icmp .ge 25, 3) := by decide +kernel
theorem dX6_numberOf_11 : decode cX6_numberOf 11 = .ok (.bipush 10, 2) := by decide +kernel
theorem dX6_numberOf_13 : decode cX6_numberOf 13 = .ok (.iload_n 3, 1) := by decide +kernel
theorem dX6_numberOf_14 : decode cX6_numberOf 14 = .ok (.imul, 1) := by decide +kernel
theorem dX6_numberOf_15 : decode cX6_numberOf 15 = .ok (.aload_n 0, 1) := by decide +kernel
theorem dX6_numberOf_16 : decode cX6_numberOf 16 = .ok (.getfield 22, 3) := by decide +kernel
theorem dX6_numberOf_19 : decode cX6_numberOf 19 = .ok (.iload 4, 2) := by decide +kernel
theorem dX6_numberOf_21 : decode cX6_numberOf 21 = .ok (.iaload, 1) := by decide +kernel
theorem dX6_numberOf_22 : decode cX6_numberOf 22 = .ok (.iadd, 1) := by decide +kernel
theorem dX6_numberOf_23 : decode cX6_numberOf 23 = .ok (.bipush 48, 2) := by decide +kernel
theorem dX6_numberOf_25 : decode cX6_numberOf 25 = .ok (.isub, 1) := by decide +kernel
theorem dX6_numberOf_26 : decode cX6_numberOf 26 = .ok (.istore_n 3, 1) := by decide +kernel
theorem dX6_numberOf_27 : decode cX6_numberOf 27 = .ok (.iinc 4 1, 3) := by decide +kernel
theorem dX6_numberOf_30 : decode cX6_numberOf 30 = .ok (.goto (-25), 3) := by decide +kernel
theorem dX6_numberOf_33 : decode cX6_numberOf 33 = .ok (.iload_n 3, 1) := by decide +kernel
theorem dX6_numberOf_34 : decode cX6_numberOf 34 = .ok (.ireturn, 1) := by decide +kernel
theorem dX6_readLine_0 : decode cX6_readLine 0 = .ok (.aload_n 0, 1) := by decide +kernel
theorem dX6_readLine_1 : decode cX6_readLine 1 = .ok (.iconst 3, 1) := by decide +kernel
theorem dX6_readLine_2 : decode cX6_readLine 2 = .ok (.invokevirtual 106, 3) := by decide +kernel
theorem dX6_readLine_5 : decode cX6_readLine 5 = .ok (.ifCond .eq 11, 3) := by decide +kernel
theorem dX6_readLine_8 : decode cX6_readLine 8 = .ok (.aload_n 0, 1) := by decide +kernel
theorem dX6_readLine_9 : decode cX6_readLine 9 = .ok (.iconst 5, 1) := by decide +kernel
theorem dX6_readLine_10 : decode cX6_readLine 10 = .ok (.invokevirtual 109, 3) := by decide +kernel
theorem dX6_readLine_13 : decode cX6_readLine 13 = .ok (.ifCond .ne 5, 3) := by decide +kernel
theorem dX6_readLine_16 : decode cX6_readLine 16 = .ok (.iconst 0, 1) := by decide +kernel
theorem dX6_readLine_17 : decode cX6_readLine 17 = .ok (.ireturn, 1) := by decide +kernel
theorem dX6_readLine_18 : decode cX6_readLine 18 = .ok (.aload_n 0, 1) := by decide +kernel
theorem dX6_readLine_19 : decode cX6_readLine 19 = .ok (.getfield 29, 3) := by decide +kernel
theorem dX6_readLine_22 : decode cX6_readLine 22 = .ok (.aload_n 0, 1) := by decide +kernel
theorem dX6_readLine_23 : decode cX6_readLine 23 = .ok (.getfield 35, 3) := by decide +kernel
theorem dX6_readLine_26 : decode cX6_readLine 26 = .ok (.iaload, 1) := by decide +kernel
theorem dX6_readLine_27 : decode cX6_readLine 27 = .ok (.istore_n 1, 1) := by decide +kernel
theorem dX6_readLine_28 : decode cX6_readLine 28 = .ok (.aload_n 0, 1) := by decide +kernel
theorem dX6_readLine_29 : decode cX6_readLine 29 = .ok (.dup, 1) := by decide +kernel
theorem dX6_readLine_30 : decode cX6_readLine 30 = .ok (.getfield 35, 3) := by decide +kernel
theorem dX6_readLine_33 : decode cX6_readLine 33 = .ok (.iconst 1, 1) := by decide +kernel
theorem dX6_readLine_34 : decode cX6_readLine 34 = .ok (.iadd, 1) := by decide +kernel
theorem dX6_readLine_35 : decode cX6_readLine 35 = .ok (.putfield 35, 3) := by decide +kernel
theorem dX6_readLine_38 : decode cX6_readLine 38 = .ok (.aload_n 0, 1) := by decide +kernel
theorem dX6_readLine_39 : decode cX6_readLine 39 = .ok (.bipush 99, 2) := by decide +kernel
theorem dX6_readLine_41 : decode cX6_readLine 41 = .ok (.invokevirtual 109, 3) := by decide +kernel
theorem dX6_readLine_44 : decode cX6_readLine 44 = .ok (.ifCond .ne 5, 3) := by decide +kernel
theorem dX6_readLine_47 : decode cX6_readLine 47 = .ok (.iconst 0, 1) := by decide +kernel
theorem dX6_readLine_48 : decode cX6_readLine 48 = .ok (.ireturn, 1) := by decide +kernel
theorem dX6_readLine_49 : decode cX6_readLine 49 = .ok (.aload_n 0, 1) := by decide +kernel
theorem dX6_readLine_50 : decode cX6_readLine 50 = .ok (.getfield 29, 3) := by decide +kernel
theorem dX6_readLine_53 : decode cX6_readLine 53 = .ok (.aload_n 0, 1) := by decide +kernel
theorem dX6_readLine_54 : decode cX6_readLine 54 = .ok (.getfield 35, 3) := by decide +kernel
theorem dX6_readLine_57 : decode cX6_readLine 57 = .ok (.iaload, 1) := by decide +kernel
theorem dX6_readLine_58 : decode cX6_readLine 58 = .ok (.istore_n 2, 1) := by decide +kernel
theorem dX6_readLine_59 : decode cX6_readLine 59 = .ok (.aload_n 0, 1) := by decide +kernel
theorem dX6_readLine_60 : decode cX6_readLine 60 = .ok (.dup, 1) := by decide +kernel
theorem dX6_readLine_61 : decode cX6_readLine 61 = .ok (.getfield 35, 3) := by decide +kernel
theorem dX6_readLine_64 : decode cX6_readLine 64 = .ok (.iconst 1, 1) := by decide +kernel
theorem dX6_readLine_65 : decode cX6_readLine 65 = .ok (.iadd, 1) := by decide +kernel
theorem dX6_readLine_66 : decode cX6_readLine 66 = .ok (.putfield 35, 3) := by decide +kernel
theorem dX6_readLine_69 : decode cX6_readLine 69 = .ok (.aload_n 0, 1) := by decide +kernel
theorem dX6_readLine_70 : decode cX6_readLine 70 = .ok (.iconst 4, 1) := by decide +kernel
theorem dX6_readLine_71 : decode cX6_readLine 71 = .ok (.invokevirtual 106, 3) := by decide +kernel
theorem dX6_readLine_74 : decode cX6_readLine 74 = .ok (.ifCond .eq 13, 3) := by decide +kernel
theorem dX6_readLine_77 : decode cX6_readLine 77 = .ok (.aload_n 0, 1) := by decide +kernel
theorem dX6_readLine_78 : decode cX6_readLine 78 = .ok (.iconst 0, 1) := by decide +kernel
theorem dX6_readLine_79 : decode cX6_readLine 79 = .ok (.invokevirtual 112, 3) := by decide +kernel
theorem dX6_readLine_82 : decode cX6_readLine 82 = .ok (.ifCond .ne 5, 3) := by decide +kernel
theorem dX6_readLine_85 : decode cX6_readLine 85 = .ok (.iconst 0, 1) := by decide +kernel
theorem dX6_readLine_86 : decode cX6_readLine 86 = .ok (.ireturn, 1) := by decide +kernel
theorem dX6_readLine_87 : decode cX6_readLine 87 = .ok (.aload_n 0, 1) := by decide +kernel
theorem dX6_readLine_88 : decode cX6_readLine 88 = .ok (.bipush 8, 2) := by decide +kernel
theorem dX6_readLine_90 : decode cX6_readLine 90 = .ok (.invokevirtual 106, 3) := by decide +kernel
theorem dX6_readLine_93 : decode cX6_readLine 93 = .ok (.ifCond .ne 5, 3) := by decide +kernel
theorem dX6_readLine_96 : decode cX6_readLine 96 = .ok (.iconst 0, 1) := by decide +kernel
theorem dX6_readLine_97 : decode cX6_readLine 97 = .ok (.ireturn, 1) := by decide +kernel
theorem dX6_readLine_98 : decode cX6_readLine 98 = .ok (.aload_n 0, 1) := by decide +kernel
theorem dX6_readLine_99 : decode cX6_readLine 99 = .ok (.getfield 18, 3) := by decide +kernel
theorem dX6_readLine_102 : decode cX6_readLine 102 = .ok (.iload_n 1, 1) := by decide +kernel
theorem dX6_readLine_103 : decode cX6_readLine 103 = .ok (.iload_n 2, 1) := by decide +kernel
theorem dX6_readLine_104 : decode cX6_readLine 104 = .ok (.invokevirtual 115, 3) := by decide +kernel
theorem dX6_readLine_107 : decode cX6_readLine 107 = .ok (.iconst 1, 1) := by decide +kernel
theorem dX6_readLine_108 : decode cX6_readLine 108 = .ok (.ireturn, 1) := by decide +kernel
theorem dX6_pass_0 : decode cX6_pass 0 = .ok (.aload_n 0, 1) := by decide +kernel
theorem dX6_pass_1 : decode cX6_pass 1 = .ok (.getfield 26, 3) := by decide +kernel
theorem dX6_pass_4 : decode cX6_pass 4 = .ok (.aload_n 0, 1) := by decide +kernel
theorem dX6_pass_5 : decode cX6_pass 5 = .ok (.getfield 35, 3) := by decide +kernel
theorem dX6_pass_8 : decode cX6_pass 8 = .ok (.iaload, 1) := by decide +kernel
theorem dX6_pass_9 : decode cX6_pass 9 = .ok (.iload_n 1, 1) := by decide +kernel
theorem dX6_pass_10 : decode cX6_pass 10 = .ok (.if_icmp .eq 5, 3) := by decide +kernel
theorem dX6_pass_13 : decode cX6_pass 13 = .ok (.iconst 0, 1) := by decide +kernel
theorem dX6_pass_14 : decode cX6_pass 14 = .ok (.ireturn, 1) := by decide +kernel
theorem dX6_pass_15 : decode cX6_pass 15 = .ok (.aload_n 0, 1) := by decide +kernel
theorem dX6_pass_16 : decode cX6_pass 16 = .ok (.dup, 1) := by decide +kernel
theorem dX6_pass_17 : decode cX6_pass 17 = .ok (.getfield 35, 3) := by decide +kernel
theorem dX6_pass_20 : decode cX6_pass 20 = .ok (.iconst 1, 1) := by decide +kernel
theorem dX6_pass_21 : decode cX6_pass 21 = .ok (.iadd, 1) := by decide +kernel
theorem dX6_pass_22 : decode cX6_pass 22 = .ok (.putfield 35, 3) := by decide +kernel
theorem dX6_pass_25 : decode cX6_pass 25 = .ok (.iconst 1, 1) := by decide +kernel
theorem dX6_pass_26 : decode cX6_pass 26 = .ok (.ireturn, 1) := by decide +kernel
theorem dX6_isNumber_0 : decode cX6_isNumber 0 = .ok (.aload_n 0, 1) := by decide +kernel
theorem dX6_isNumber_1 : decode cX6_isNumber 1 = .ok (.getfield 26, 3) := by decide +kernel
theorem dX6_isNumber_4 : decode cX6_isNumber 4 = .ok (.aload_n 0, 1) := by decide +kernel
theorem dX6_isNumber_5 : decode cX6_isNumber 5 = .ok (.getfield 35, 3) := by decide +kernel
theorem dX6_isNumber_8 : decode cX6_isNumber 8 = .ok (.iaload, 1) := by decide +kernel
theorem dX6_isNumber_9 : decode cX6_isNumber 9 = .ok (.iconst 2, 1) := by decide +kernel
theorem dX6_isNumber_10 : decode cX6_isNumber 10 = .ok (.if_icmp .ne 20, 3) := by decide +kernel
theorem dX6_isNumber_13 : decode cX6_isNumber 13 = .ok (.aload_n 0, 1) := by decide +kernel
theorem dX6_isNumber_14 : decode cX6_isNumber 14 = .ok (.getfield 29, 3) := by decide +kernel
theorem dX6_isNumber_17 : decode cX6_isNumber 17 = .ok (.aload_n 0, 1) := by decide +kernel
theorem dX6_isNumber_18 : decode cX6_isNumber 18 = .ok (.getfield 35, 3) := by decide +kernel
theorem dX6_isNumber_21 : decode cX6_isNumber 21 = .ok (.iaload, 1) := by decide +kernel
theorem dX6_isNumber_22 : decode cX6_isNumber 22 = .ok (.iload_n 1, 1) := by decide +kernel
theorem dX6_isNumber_23 : decode cX6_isNumber 23 = .ok (.if_icmp .gt 7, 3) := by decide +kernel
theorem dX6_isNumber_26 : decode cX6_isNumber 26 = .ok (.iconst 1, 1) := by decide +kernel
theorem dX6_isNumber_27 : decode cX6_isNumber 27 = .ok (.goto 4, 3) := by decide +kernel
theorem dX6_isNumber_30 : decode cX6_isNumber 30 = .ok (.iconst 0, 1) := by decide +kernel
theorem dX6_isNumber_31 : decode cX6_isNumber 31 = .ok (.ireturn, 1) := by decide +kernel
theorem dX6_readCondition_0 : decode cX6_readCondition 0 = .ok (.iconst 0, 1) := by decide +kernel
theorem dX6_readCondition_1 : decode cX6_readCondition 1 = .ok (.istore_n 2, 1) := by decide +kernel
theorem dX6_readCondition_2 : decode cX6_readCondition 2 = .ok (.iconst 0, 1) := by decide +kernel
theorem dX6_readCondition_3 : decode cX6_readCondition 3 = .ok (.istore_n 3, 1) := by decide +kernel
theorem dX6_readCondition_4 : decode cX6_readCondition 4 = .ok (.iconst 0, 1) := by decide +kernel
theorem dX6_readCondition_5 : decode cX6_readCondition 5 = .ok (.istore 4, 2) := by decide +kernel
theorem dX6_readCondition_7 : decode cX6_readCondition 7 = .ok (.iload 4, 2) := by decide +kernel
theorem dX6_readCondition_9 : decode cX6_readCondition 9 = .ok (.sipush 200, 3) := by decide +kernel
theorem dX6_readCondition_12 : decode cX6_readCondition 12 = .ok (.if_icmp .ge 71, 3) := by decide +kernel
theorem dX6_readCondition_15 : decode cX6_readCondition 15 = .ok (.aload_n 0, 1) := by decide +kernel
theorem dX6_readCondition_16 : decode cX6_readCondition 16 = .ok (.iload_n 1, 1) := by decide +kernel
theorem dX6_readCondition_17 : decode cX6_readCondition 17 = .ok (.invokevirtual 119, 3) := by decide +kernel
theorem dX6_readCondition_20 : decode cX6_readCondition 20 = .ok (.ifCond .ne 5, 3) := by decide +kernel
theorem dX6_readCondition_23 : decode cX6_readCondition 23 = .ok (.iconst 0, 1) := by decide +kernel
theorem dX6_readCondition_24 : decode cX6_readCondition 24 = .ok (.ireturn, 1) := by decide +kernel
theorem dX6_readCondition_25 : decode cX6_readCondition 25 = .ok (.iload_n 2, 1) := by decide +kernel
theorem dX6_readCondition_26 : decode cX6_readCondition 26 = .ok (.ifCond .eq 12, 3) := by decide +kernel
theorem dX6_readCondition_29 : decode cX6_readCondition 29 = .ok (.aload_n 0, 1) := by decide +kernel
theorem dX6_readCondition_30 : decode cX6_readCondition 30 = .ok (.getfield 18, 3) := by decide +kernel
theorem dX6_readCondition_33 : decode cX6_readCondition 33 = .ok (.bipush (-2), 2) := by decide +kernel
theorem dX6_readCondition_35 : decode cX6_readCondition 35 = .ok (.invokevirtual 122, 3) := by decide +kernel
theorem dX6_readCondition_38 : decode cX6_readCondition 38 = .ok (.aload_n 0, 1) := by decide +kernel
theorem dX6_readCondition_39 : decode cX6_readCondition 39 = .ok (.bipush 6, 2) := by decide +kernel
theorem dX6_readCondition_41 : decode cX6_readCondition 41 = .ok (.invokevirtual 106, 3) := by decide +kernel
theorem dX6_readCondition_44 : decode cX6_readCondition 44 = .ok (.istore_n 2, 1) := by decide +kernel
theorem dX6_readCondition_45 : decode cX6_readCondition 45 = .ok (.iload_n 2, 1) := by decide +kernel
theorem dX6_readCondition_46 : decode cX6_readCondition 46 = .ok (.ifCond .eq 6, 3) := by decide +kernel
theorem dX6_readCondition_49 : decode cX6_readCondition 49 = .ok (.goto 28, 3) := by decide +kernel
theorem dX6_readCondition_52 : decode cX6_readCondition 52 = .ok (.iload_n 3, 1) := by decide +kernel
theorem dX6_readCondition_53 : decode cX6_readCondition 53 = .ok (.ifCond .eq 12, 3) := by decide +kernel
theorem dX6_readCondition_56 : decode cX6_readCondition 56 = .ok (.aload_n 0, 1) := by decide +kernel
theorem dX6_readCondition_57 : decode cX6_readCondition 57 = .ok (.getfield 18, 3) := by decide +kernel
theorem dX6_readCondition_60 : decode cX6_readCondition 60 = .ok (.bipush (-3), 2) := by decide +kernel
theorem dX6_readCondition_62 : decode cX6_readCondition 62 = .ok (.invokevirtual 122, 3) := by decide +kernel
theorem dX6_readCondition_65 : decode cX6_readCondition 65 = .ok (.aload_n 0, 1) := by decide +kernel
theorem dX6_readCondition_66 : decode cX6_readCondition 66 = .ok (.iconst 5, 1) := by decide +kernel
theorem dX6_readCondition_67 : decode cX6_readCondition 67 = .ok (.invokevirtual 106, 3) := by decide +kernel
theorem dX6_readCondition_70 : decode cX6_readCondition 70 = .ok (.istore_n 3, 1) := by decide +kernel
theorem dX6_readCondition_71 : decode cX6_readCondition 71 = .ok (.iload_n 3, 1) := by decide +kernel
theorem dX6_readCondition_72 : decode cX6_readCondition 72 = .ok (.ifCond .ne 5, 3) := by decide +kernel
theorem dX6_readCondition_75 : decode cX6_readCondition 75 = .ok (.iconst 1, 1) := by decide +kernel
theorem dX6_readCondition_76 : decode cX6_readCondition 76 = .ok (.ireturn, 1) := by decide +kernel
theorem dX6_readCondition_77 : decode cX6_readCondition 77 = .ok (.iinc 4 1, 3) := by decide +kernel
theorem dX6_readCondition_80 : decode cX6_readCondition 80 = .ok (.goto (-73), 3) := by decide +kernel
theorem dX6_readCondition_83 : decode cX6_readCondition 83 = .ok (.iconst 0, 1) := by decide +kernel
theorem dX6_readCondition_84 : decode cX6_readCondition 84 = .ok (.ireturn, 1) := by decide +kernel
theorem dX6_readOne_0 : decode cX6_readOne 0 = .ok (.iconst 0, 1) := by decide +kernel
theorem dX6_readOne_1 : decode cX6_readOne 1 = .ok (.istore_n 2, 1) := by decide +kernel
theorem dX6_readOne_2 : decode cX6_readOne 2 = .ok (.iconst 0, 1) := by decide +kernel
theorem dX6_readOne_3 : decode cX6_readOne 3 = .ok (.istore_n 3, 1) := by decide +kernel
theorem dX6_readOne_4 : decode cX6_readOne 4 = .ok (.iload_n 3, 1) := by decide +kernel
theorem dX6_readOne_5 : decode cX6_readOne 5 = .ok (.sipush 200, 3) := by decide +kernel
theorem dX6_readOne_8 : decode cX6_readOne 8 = .ok (.if_icmp .ge 28, 3) := by decide +kernel
theorem dX6_readOne_11 : decode cX6_readOne 11 = .ok (.aload_n 0, 1) := by decide +kernel
theorem dX6_readOne_12 : decode cX6_readOne 12 = .ok (.bipush 7, 2) := by decide +kernel
theorem dX6_readOne_14 : decode cX6_readOne 14 = .ok (.invokevirtual 106, 3) := by decide +kernel
theorem dX6_readOne_17 : decode cX6_readOne 17 = .ok (.ifCond .eq 19, 3) := by decide +kernel
theorem dX6_readOne_20 : decode cX6_readOne 20 = .ok (.iload_n 2, 1) := by decide +kernel
theorem dX6_readOne_21 : decode cX6_readOne 21 = .ok (.ifCond .ne 7, 3) := by decide +kernel
theorem dX6_readOne_24 : decode cX6_readOne 24 = .ok (.iconst 1, 1) := by decide +kernel
theorem dX6_readOne_25 : decode cX6_readOne 25 = .ok (.goto 4, 3) := by decide +kernel
theorem dX6_readOne_28 : decode cX6_readOne 28 = .ok (.iconst 0, 1) := by decide +kernel
theorem dX6_readOne_29 : decode cX6_readOne 29 = .ok (.istore_n 2, 1) := by decide +kernel
theorem dX6_readOne_30 : decode cX6_readOne 30 = .ok (.iinc 3 1, 3) := by decide +kernel
theorem dX6_readOne_33 : decode cX6_readOne 33 = .ok (.goto (-29), 3) := by decide +kernel
theorem dX6_readOne_36 : decode cX6_readOne 36 = .ok (.aload_n 0, 1) := by decide +kernel
theorem dX6_readOne_37 : decode cX6_readOne 37 = .ok (.getfield 26, 3) := by decide +kernel
theorem dX6_readOne_40 : decode cX6_readOne 40 = .ok (.aload_n 0, 1) := by decide +kernel
theorem dX6_readOne_41 : decode cX6_readOne 41 = .ok (.getfield 35, 3) := by decide +kernel
theorem dX6_readOne_44 : decode cX6_readOne 44 = .ok (.iaload, 1) := by decide +kernel
theorem dX6_readOne_45 : decode cX6_readOne 45 = .ok (.bipush 9, 2) := by decide +kernel
theorem dX6_readOne_47 : decode cX6_readOne 47 = .ok (.if_icmp .eq 12, 3) := by decide +kernel
theorem dX6_readOne_50 : decode cX6_readOne 50 = .ok (.aload_n 0, 1) := by decide +kernel
theorem dX6_readOne_51 : decode cX6_readOne 51 = .ok (.invokevirtual 126, 3) := by decide +kernel
theorem dX6_readOne_54 : decode cX6_readOne 54 = .ok (.ifCond .ne 40, 3) := by decide +kernel
theorem dX6_readOne_57 : decode cX6_readOne 57 = .ok (.iconst 0, 1) := by decide +kernel
theorem dX6_readOne_58 : decode cX6_readOne 58 = .ok (.ireturn, 1) := by decide +kernel
theorem dX6_readOne_59 : decode cX6_readOne 59 = .ok (.iload_n 1, 1) := by decide +kernel
theorem dX6_readOne_60 : decode cX6_readOne 60 = .ok (.iconst 3, 1) := by decide +kernel
theorem dX6_readOne_61 : decode cX6_readOne 61 = .ok (.if_icmp .eq 31, 3) := by decide +kernel
theorem dX6_readOne_64 : decode cX6_readOne 64 = .ok (.aload_n 0, 1) := by decide +kernel
theorem dX6_readOne_65 : decode cX6_readOne 65 = .ok (.bipush 9, 2) := by decide +kernel
theorem dX6_readOne_67 : decode cX6_readOne 67 = .ok (.invokevirtual 106, 3) := by decide +kernel
theorem dX6_readOne_70 : decode cX6_readOne 70 = .ok (.ifCond .eq 22, 3) := by decide +kernel
theorem dX6_readOne_73 : decode cX6_readOne 73 = .ok (.aload_n 0, 1) := by decide +kernel
theorem dX6_readOne_74 : decode cX6_readOne 74 = .ok (.iload_n 1, 1) := by decide +kernel
theorem dX6_readOne_75 : decode cX6_readOne 75 = .ok (.iconst 1, 1) := by decide +kernel
theorem dX6_readOne_76 : decode cX6_readOne 76 = .ok (.iadd, 1) := by decide +kernel
theorem dX6_readOne_77 : decode cX6_readOne 77 = .ok (.invokevirtual 112, 3) := by decide +kernel
theorem dX6_readOne_80 : decode cX6_readOne 80 = .ok (.ifCond .eq 12, 3) := by decide +kernel
theorem dX6_readOne_83 : decode cX6_readOne 83 = .ok (.aload_n 0, 1) := by decide +kernel
theorem dX6_readOne_84 : decode cX6_readOne 84 = .ok (.bipush 10, 2) := by decide +kernel
theorem dX6_readOne_86 : decode cX6_readOne 86 = .ok (.invokevirtual 106, 3) := by decide +kernel
theorem dX6_readOne_89 : decode cX6_readOne 89 = .ok (.ifCond .ne 5, 3) := by decide +kernel
theorem dX6_readOne_92 : decode cX6_readOne 92 = .ok (.iconst 0, 1) := by decide +kernel
theorem dX6_readOne_93 : decode cX6_readOne 93 = .ok (.ireturn, 1) := by decide +kernel
theorem dX6_readOne_94 : decode cX6_readOne 94 = .ok (.iload_n 2, 1) := by decide +kernel
theorem dX6_readOne_95 : decode cX6_readOne 95 = .ok (.ifCond .eq 11, 3) := by decide +kernel
theorem dX6_readOne_98 : decode cX6_readOne 98 = .ok (.aload_n 0, 1) := by decide +kernel
theorem dX6_readOne_99 : decode cX6_readOne 99 = .ok (.getfield 18, 3) := by decide +kernel
theorem dX6_readOne_102 : decode cX6_readOne 102 = .ok (.iconst (-1), 1) := by decide +kernel
theorem dX6_readOne_103 : decode cX6_readOne 103 = .ok (.invokevirtual 122, 3) := by decide +kernel
theorem dX6_readOne_106 : decode cX6_readOne 106 = .ok (.iconst 1, 1) := by decide +kernel
theorem dX6_readOne_107 : decode cX6_readOne 107 = .ok (.ireturn, 1) := by decide +kernel
theorem dX6_readComparison_0 : decode cX6_readComparison 0 = .ok (.aload_n 0, 1) := by decide +kernel
theorem dX6_readComparison_1 : decode cX6_readComparison 1 = .ok (.invokevirtual 129, 3) := by decide +kernel
theorem dX6_readComparison_4 : decode cX6_readComparison 4 = .ok (.istore_n 1, 1) := by decide +kernel
theorem dX6_readComparison_5 : decode cX6_readComparison 5 = .ok (.iload_n 1, 1) := by decide +kernel
theorem dX6_readComparison_6 : decode cX6_readComparison 6 = .ok (.ifCond .ge 5, 3) := by decide +kernel
theorem dX6_readComparison_9 : decode cX6_readComparison 9 = .ok (.iconst 0, 1) := by decide +kernel
theorem dX6_readComparison_10 : decode cX6_readComparison 10 = .ok (.ireturn, 1) := by decide +kernel
theorem dX6_readComparison_11 : decode cX6_readComparison 11 = .ok (.aload_n 0, 1) := by decide +kernel
theorem dX6_readComparison_12 : decode cX6_readComparison 12 = .ok (.dup, 1) := by decide +kernel
theorem dX6_readComparison_13 : decode cX6_readComparison 13 = .ok (.getfield 35, 3) := by decide +kernel
theorem dX6_readComparison_16 : decode cX6_readComparison 16 = .ok (.iconst 1, 1) := by decide +kernel
theorem dX6_readComparison_17 : decode cX6_readComparison 17 = .ok (.iadd, 1) := by decide +kernel
theorem dX6_readComparison_18 : decode cX6_readComparison 18 = .ok (.putfield 35, 3) := by decide +kernel
theorem dX6_readComparison_21 : decode cX6_readComparison 21 = .ok (.aload_n 0, 1) := by decide +kernel
theorem dX6_readComparison_22 : decode cX6_readComparison 22 = .ok (.getfield 26, 3) := by decide +kernel
theorem dX6_readComparison_25 : decode cX6_readComparison 25 = .ok (.aload_n 0, 1) := by decide +kernel
theorem dX6_readComparison_26 : decode cX6_readComparison 26 = .ok (.getfield 35, 3) := by decide +kernel
theorem dX6_readComparison_29 : decode cX6_readComparison 29 = .ok (.iaload, 1) := by decide +kernel
theorem dX6_readComparison_30 : decode cX6_readComparison 30 = .ok (.bipush 20, 2) := by decide +kernel
theorem dX6_readComparison_32 : decode cX6_readComparison 32 = .ok (.isub, 1) := by decide +kernel
theorem dX6_readComparison_33 : decode cX6_readComparison 33 = .ok (.istore_n 2, 1) := by decide +kernel
theorem dX6_readComparison_34 : decode cX6_readComparison 34 = .ok (.iload_n 2, 1) := by decide +kernel
theorem dX6_readComparison_35 : decode cX6_readComparison 35 = .ok (.iconst 0, 1) := by decide +kernel
theorem dX6_readComparison_36 : decode cX6_readComparison 36 = .ok (.iconst 2, 1) := by decide +kernel
theorem dX6_readComparison_37 : decode cX6_readComparison 37 = .ok (.invokestatic 132, 3) := by decide +kernel
theorem dX6_readComparison_40 : decode cX6_readComparison 40 = .ok (.ifCond .ne 5, 3) := by decide +kernel
theorem dX6_readComparison_43 : decode cX6_readComparison 43 = .ok (.iconst 0, 1) := by decide +kernel
theorem dX6_readComparison_44 : decode cX6_readComparison 44 = .ok (.ireturn, 1) := by decide +kernel
theorem dX6_readComparison_45 : decode cX6_readComparison 45 = .ok (.aload_n 0, 1) := by decide +kernel
theorem dX6_readComparison_46 : decode cX6_readComparison 46 = .ok (.dup, 1) := by decide +kernel
theorem dX6_readComparison_47 : decode cX6_readComparison 47 = .ok (.getfield 35, 3) := by decide +kernel
theorem dX6_readComparison_50 : decode cX6_readComparison 50 = .ok (.iconst 1, 1) := by decide +kernel
theorem dX6_readComparison_51 : decode cX6_readComparison 51 = .ok (.iadd, 1) := by decide +kernel
theorem dX6_readComparison_52 : decode cX6_readComparison 52 = .ok (.putfield 35, 3) := by decide +kernel
theorem dX6_readComparison_55 : decode cX6_readComparison 55 = .ok (.aload_n 0, 1) := by decide +kernel
theorem dX6_readComparison_56 : decode cX6_readComparison 56 = .ok (.invokevirtual 129, 3) := by decide +kernel
theorem dX6_readComparison_59 : decode cX6_readComparison 59 = .ok (.istore_n 3, 1) := by decide +kernel
theorem dX6_readComparison_60 : decode cX6_readComparison 60 = .ok (.iload_n 3, 1) := by decide +kernel
theorem dX6_readComparison_61 : decode cX6_readComparison 61 = .ok (.ifCond .ge 5, 3) := by decide +kernel
theorem dX6_readComparison_64 : decode cX6_readComparison 64 = .ok (.iconst 0, 1) := by decide +kernel
theorem dX6_readComparison_65 : decode cX6_readComparison 65 = .ok (.ireturn, 1) := by decide +kernel
theorem dX6_readComparison_66 : decode cX6_readComparison 66 = .ok (.aload_n 0, 1) := by decide +kernel
theorem dX6_readComparison_67 : decode cX6_readComparison 67 = .ok (.dup, 1) := by decide +kernel
theorem dX6_readComparison_68 : decode cX6_readComparison 68 = .ok (.getfield 35, 3) := by decide +kernel
theorem dX6_readComparison_71 : decode cX6_readComparison 71 = .ok (.iconst 1, 1) := by decide +kernel
theorem dX6_readComparison_72 : decode cX6_readComparison 72 = .ok (.iadd, 1) := by decide +kernel
theorem dX6_readComparison_73 : decode cX6_readComparison 73 = .ok (.putfield 35, 3) := by decide +kernel
theorem dX6_readComparison_76 : decode cX6_readComparison 76 = .ok (.aload_n 0, 1) := by decide +kernel
theorem dX6_readComparison_77 : decode cX6_readComparison 77 = .ok (.getfield 18, 3) := by decide +kernel
theorem dX6_readComparison_80 : decode cX6_readComparison 80 = .ok (.iload_n 1, 1) := by decide +kernel
theorem dX6_readComparison_81 : decode cX6_readComparison 81 = .ok (.iload_n 2, 1) := by decide +kernel
theorem dX6_readComparison_82 : decode cX6_readComparison 82 = .ok (.iload_n 3, 1) := by decide +kernel
theorem dX6_readComparison_83 : decode cX6_readComparison 83 = .ok (.invokestatic 136, 3) := by decide +kernel
theorem dX6_readComparison_86 : decode cX6_readComparison 86 = .ok (.invokevirtual 122, 3) := by decide +kernel
theorem dX6_readComparison_89 : decode cX6_readComparison 89 = .ok (.iconst 1, 1) := by decide +kernel
theorem dX6_readComparison_90 : decode cX6_readComparison 90 = .ok (.ireturn, 1) := by decide +kernel
theorem dX6_value_0 : decode cX6_value 0 = .ok (.aload_n 0, 1) := by decide +kernel
theorem dX6_value_1 : decode cX6_value 1 = .ok (.getfield 26, 3) := by decide +kernel
theorem dX6_value_4 : decode cX6_value 4 = .ok (.aload_n 0, 1) := by decide +kernel
theorem dX6_value_5 : decode cX6_value 5 = .ok (.getfield 35, 3) := by decide +kernel
theorem dX6_value_8 : decode cX6_value 8 = .ok (.iaload, 1) := by decide +kernel
theorem dX6_value_9 : decode cX6_value 9 = .ok (.iconst 2, 1) := by decide +kernel
theorem dX6_value_10 : decode cX6_value 10 = .ok (.if_icmp .ne 13, 3) := by decide +kernel
theorem dX6_value_13 : decode cX6_value 13 = .ok (.aload_n 0, 1) := by decide +kernel
theorem dX6_value_14 : decode cX6_value 14 = .ok (.getfield 29, 3) := by decide +kernel
theorem dX6_value_17 : decode cX6_value 17 = .ok (.aload_n 0, 1) := by decide +kernel
theorem dX6_value_18 : decode cX6_value 18 = .ok (.getfield 35, 3) := by decide +kernel
theorem dX6_value_21 : decode cX6_value 21 = .ok (.iaload, 1) := by decide +kernel
theorem dX6_value_22 : decode cX6_value 22 = .ok (.ireturn, 1) := by decide +kernel
theorem dX6_value_23 : decode cX6_value 23 = .ok (.aload_n 0, 1) := by decide +kernel
theorem dX6_value_24 : decode cX6_value 24 = .ok (.getfield 26, 3) := by decide +kernel
theorem dX6_value_27 : decode cX6_value 27 = .ok (.aload_n 0, 1) := by decide +kernel
theorem dX6_value_28 : decode cX6_value 28 = .ok (.getfield 35, 3) := by decide +kernel
theorem dX6_value_31 : decode cX6_value 31 = .ok (.iaload, 1) := by decide +kernel
theorem dX6_value_32 : decode cX6_value 32 = .ok (.bipush 30, 2) := by decide +kernel
theorem dX6_value_34 : decode cX6_value 34 = .ok (.if_icmp .lt 18, 3) := by decide +kernel
theorem dX6_value_37 : decode cX6_value 37 = .ok (.aload_n 0, 1) := by decide +kernel
theorem dX6_value_38 : decode cX6_value 38 = .ok (.getfield 26, 3) := by decide +kernel
theorem dX6_value_41 : decode cX6_value 41 = .ok (.aload_n 0, 1) := by decide +kernel
theorem dX6_value_42 : decode cX6_value 42 = .ok (.getfield 35, 3) := by decide +kernel
theorem dX6_value_45 : decode cX6_value 45 = .ok (.iaload, 1) := by decide +kernel
theorem dX6_value_46 : decode cX6_value 46 = .ok (.bipush 30, 2) := by decide +kernel
theorem dX6_value_48 : decode cX6_value 48 = .ok (.isub, 1) := by decide +kernel
theorem dX6_value_49 : decode cX6_value 49 = .ok (.goto 4, 3) := by decide +kernel
theorem dX6_value_52 : decode cX6_value 52 = .ok (.iconst (-1), 1) := by decide +kernel
theorem dX6_value_53 : decode cX6_value 53 = .ok (.ireturn, 1) := by decide +kernel
theorem dX7_init_0 : decode cX7_init 0 = .ok (.aload_n 0, 1) := by decide +kernel
theorem dX7_init_1 : decode cX7_init 1 = .ok (.invokespecial 3, 3) := by decide +kernel
theorem dX7_init_4 : decode cX7_init 4 = .ok (.aload_n 0, 1) := by decide +kernel
theorem dX7_init_5 : decode cX7_init 5 = .ok (.bipush 6, 2) := by decide +kernel
theorem dX7_init_7 : decode cX7_init 7 = .ok (.newarray .int, 2) := by decide +kernel
theorem dX7_init_9 : decode cX7_init 9 = .ok (.putfield 9, 3) := by decide +kernel
theorem dX7_init_12 : decode cX7_init 12 = .ok (.aload_n 0, 1) := by decide +kernel
theorem dX7_init_13 : decode cX7_init 13 = .ok (.bipush 6, 2) := by decide +kernel
theorem dX7_init_15 : decode cX7_init 15 = .ok (.newarray .int, 2) := by decide +kernel
theorem dX7_init_17 : decode cX7_init 17 = .ok (.putfield 15, 3) := by decide +kernel
theorem dX7_init_20 : decode cX7_init 20 = .ok (.aload_n 0, 1) := by decide +kernel
theorem dX7_init_21 : decode cX7_init 21 = .ok (.bipush 6, 2) := by decide +kernel
theorem dX7_init_23 : decode cX7_init 23 = .ok (.newarray .int, 2) := by decide +kernel
theorem dX7_init_25 : decode cX7_init 25 = .ok (.putfield 18, 3) := by decide +kernel
theorem dX7_init_28 : decode cX7_init 28 = .ok (.aload_n 0, 1) := by decide +kernel
theorem dX7_init_29 : decode cX7_init 29 = .ok (.bipush 6, 2) := by decide +kernel
theorem dX7_init_31 : decode cX7_init 31 = .ok (.newarray .int, 2) := by decide +kernel
theorem dX7_init_33 : decode cX7_init 33 = .ok (.putfield 21, 3) := by decide +kernel
theorem dX7_init_36 : decode cX7_init 36 = .ok (.aload_n 0, 1) := by decide +kernel
theorem dX7_init_37 : decode cX7_init 37 = .ok (.bipush 6, 2) := by decide +kernel
theorem dX7_init_39 : decode cX7_init 39 = .ok (.newarray .int, 2) := by decide +kernel
theorem dX7_init_41 : decode cX7_init 41 = .ok (.putfield 24, 3) := by decide +kernel
theorem dX7_init_44 : decode cX7_init 44 = .ok (.aload_n 0, 1) := by decide +kernel
theorem dX7_init_45 : decode cX7_init 45 = .ok (.bipush 6, 2) := by decide +kernel
theorem dX7_init_47 : decode cX7_init 47 = .ok (.newarray .int, 2) := by decide +kernel
theorem dX7_init_49 : decode cX7_init 49 = .ok (.putfield 27, 3) := by decide +kernel
theorem dX7_init_52 : decode cX7_init 52 = .ok (.aload_n 0, 1) := by decide +kernel
theorem dX7_init_53 : decode cX7_init 53 = .ok (.bipush 7, 2) := by decide +kernel
theorem dX7_init_55 : decode cX7_init 55 = .ok (.sipush 149, 3) := by decide +kernel
theorem dX7_init_58 : decode cX7_init 58 = .ok (.multianewarray 30 2, 4) := by decide +kernel
theorem dX7_init_62 : decode cX7_init 62 = .ok (.putfield 32, 3) := by decide +kernel
theorem dX7_init_65 : decode cX7_init 65 = .ok (.return_, 1) := by decide +kernel
theorem dX7_fill_0 : decode cX7_fill 0 = .ok (.iconst 0, 1) := by decide +kernel
theorem dX7_fill_1 : decode cX7_fill 1 = .ok (.istore_n 3, 1) := by decide +kernel
theorem dX7_fill_2 : decode cX7_fill 2 = .ok (.iload_n 3, 1) := by decide +kernel
theorem dX7_fill_3 : decode cX7_fill 3 = .ok (.aload_n 1, 1) := by decide +kernel
theorem dX7_fill_4 : decode cX7_fill 4 = .ok (.getfield 35, 3) := by decide +kernel
theorem dX7_fill_7 : decode cX7_fill 7 = .ok (.if_icmp .ge 28, 3) := by decide +kernel
theorem dX7_fill_10 : decode cX7_fill 10 = .ok (.aload_n 0, 1) := by decide +kernel
theorem dX7_fill_11 : decode cX7_fill 11 = .ok (.getfield 9, 3) := by decide +kernel
theorem dX7_fill_14 : decode cX7_fill 14 = .ok (.iload_n 3, 1) := by decide +kernel
theorem dX7_fill_15 : decode cX7_fill 15 = .ok (.aload_n 1, 1) := by decide +kernel
theorem dX7_fill_16 : decode cX7_fill 16 = .ok (.getfield 41, 3) := by decide +kernel
theorem dX7_fill_19 : decode cX7_fill 19 = .ok (.iload_n 3, 1) := by decide +kernel
theorem dX7_fill_20 : decode cX7_fill 20 = .ok (.aaload, 1) := by decide +kernel
theorem dX7_fill_21 : decode cX7_fill 21 = .ok (.iconst 0, 1) := by decide +kernel
theorem dX7_fill_22 : decode cX7_fill 22 = .ok (.iaload, 1) := by decide +kernel
theorem dX7_fill_23 : decode cX7_fill 23 = .ok (.iload_n 2, 1) := by decide +kernel
theorem dX7_fill_24 : decode cX7_fill 24 = .ok (.imul, 1) := by decide +kernel
theorem dX7_fill_25 : decode cX7_fill 25 = .ok (.bipush 10, 2) := by decide +kernel
theorem dX7_fill_27 : decode cX7_fill 27 = .ok (.idiv, 1) := by decide +kernel
theorem dX7_fill_28 : decode cX7_fill 28 = .ok (.iastore, 1) := by decide +kernel
theorem dX7_fill_29 : decode cX7_fill 29 = .ok (.iinc 3 1, 3) := by decide +kernel
theorem dX7_fill_32 : decode cX7_fill 32 = .ok (.goto (-30), 3) := by decide +kernel
theorem dX7_fill_35 : decode cX7_fill 35 = .ok (.return_, 1) := by decide +kernel
theorem dX7_mostMade_0 : decode cX7_mostMade 0 = .ok (.iconst 0, 1) := by decide +kernel
theorem dX7_mostMade_1 : decode cX7_mostMade 1 = .ok (.istore 4, 2) := by decide +kernel
theorem dX7_mostMade_3 : decode cX7_mostMade 3 = .ok (.iload_n 2, 1) := by decide +kernel
theorem dX7_mostMade_4 : decode cX7_mostMade 4 = .ok (.istore 5, 2) := by decide +kernel
theorem dX7_mostMade_6 : decode cX7_mostMade 6 = .ok (.iload 5, 2) := by decide +kernel
theorem dX7_mostMade_8 : decode cX7_mostMade 8 = .ok (.iload_n 3, 1) := by decide +kernel
theorem dX7_mostMade_9 : decode cX7_mostMade 9 = .ok (.if_icmp .gt 21, 3) := by decide +kernel
theorem dX7_mostMade_12 : decode cX7_mostMade 12 = .ok (.iload 4, 2) := by decide +kernel
theorem dX7_mostMade_14 : decode cX7_mostMade 14 = .ok (.aload_n 0, 1) := by decide +kernel
theorem dX7_mostMade_15 : decode cX7_mostMade 15 = .ok (.getfield 9, 3) := by decide +kernel
theorem dX7_mostMade_18 : decode cX7_mostMade 18 = .ok (.iload 5, 2) := by decide +kernel
theorem dX7_mostMade_20 : decode cX7_mostMade 20 = .ok (.iaload, 1) := by decide +kernel
theorem dX7_mostMade_21 : decode cX7_mostMade 21 = .ok (.iadd, 1) := by decide +kernel
theorem dX7_mostMade_22 : decode cX7_mostMade 22 = .ok (.istore 4, 2) := by decide +kernel
theorem dX7_mostMade_24 : decode cX7_mostMade 24 = .ok (.iinc 5 1, 3) := by decide +kernel
theorem dX7_mostMade_27 : decode cX7_mostMade 27 = .ok (.goto (-21), 3) := by decide +kernel
theorem dX7_mostMade_30 : decode cX7_mostMade 30 = .ok (.aload_n 0, 1) := by decide +kernel
theorem dX7_mostMade_31 : decode cX7_mostMade 31 = .ok (.getfield 32, 3) := by decide +kernel
theorem dX7_mostMade_34 : decode cX7_mostMade 34 = .ok (.iload_n 3, 1) := by decide +kernel
theorem dX7_mostMade_35 : decode cX7_mostMade 35 = .ok (.iconst 1, 1) := by decide +kernel
theorem dX7_mostMade_36 : decode cX7_mostMade 36 = .ok (.iadd, 1) := by decide +kernel
theorem dX7_mostMade_37 : decode cX7_mostMade 37 = .ok (.aaload, 1) := by decide +kernel
theorem dX7_mostMade_38 : decode cX7_mostMade 38 = .ok (.iconst 0, 1) := by decide +kernel
theorem dX7_mostMade_39 : decode cX7_mostMade 39 = .ok (.invokestatic 44, 3) := by decide +kernel
theorem dX7_mostMade_42 : decode cX7_mostMade 42 = .ok (.iload_n 3, 1) := by decide +kernel
theorem dX7_mostMade_43 : decode cX7_mostMade 43 = .ok (.istore 5, 2) := by decide +kernel
theorem dX7_mostMade_45 : decode cX7_mostMade 45 = .ok (.iload 5, 2) := by decide +kernel
theorem dX7_mostMade_47 : decode cX7_mostMade 47 = .ok (.iload_n 2, 1) := by decide +kernel
theorem dX7_mostMade_48 : decode cX7_mostMade 48 = .ok (.if_icmp .lt 99, 3) := by decide +kernel
theorem dX7_mostMade_51 : decode cX7_mostMade 51 = .ok (.iload 4, 2) := by decide +kernel
theorem dX7_mostMade_53 : decode cX7_mostMade 53 = .ok (.aload_n 0, 1) := by decide +kernel
theorem dX7_mostMade_54 : decode cX7_mostMade 54 = .ok (.getfield 9, 3) := by decide +kernel
theorem dX7_mostMade_57 : decode cX7_mostMade 57 = .ok (.iload 5, 2) := by decide +kernel
theorem dX7_mostMade_59 : decode cX7_mostMade 59 = .ok (.iaload, 1) := by decide +kernel
theorem dX7_mostMade_60 : decode cX7_mostMade 60 = .ok (.isub, 1) := by decide +kernel
theorem dX7_mostMade_61 : decode cX7_mostMade 61 = .ok (.istore 4, 2) := by decide +kernel
theorem dX7_mostMade_63 : decode cX7_mostMade 63 = .ok (.iconst 0, 1) := by decide +kernel
theorem dX7_mostMade_64 : decode cX7_mostMade 64 = .ok (.istore 6, 2) := by decide +kernel
theorem dX7_mostMade_66 : decode cX7_mostMade 66 = .ok (.iload 6, 2) := by decide +kernel
theorem dX7_mostMade_68 : decode cX7_mostMade 68 = .ok (.iload 4, 2) := by decide +kernel
theorem dX7_mostMade_70 : decode cX7_mostMade 70 = .ok (.if_icmp .gt 71, 3) := by decide +kernel
theorem dX7_mostMade_73 : decode cX7_mostMade 73 = .ok (.iload 6, 2) := by decide +kernel
theorem dX7_mostMade_75 : decode cX7_mostMade 75 = .ok (.aload_n 0, 1) := by decide +kernel
theorem dX7_mostMade_76 : decode cX7_mostMade 76 = .ok (.getfield 9, 3) := by decide +kernel
theorem dX7_mostMade_79 : decode cX7_mostMade 79 = .ok (.iload 5, 2) := by decide +kernel
theorem dX7_mostMade_81 : decode cX7_mostMade 81 = .ok (.iaload, 1) := by decide +kernel
theorem dX7_mostMade_82 : decode cX7_mostMade 82 = .ok (.iadd, 1) := by decide +kernel
theorem dX7_mostMade_83 : decode cX7_mostMade 83 = .ok (.istore 7, 2) := by decide +kernel
theorem dX7_mostMade_85 : decode cX7_mostMade 85 = .ok (.aload_n 0, 1) := by decide +kernel
theorem dX7_mostMade_86 : decode cX7_mostMade 86 = .ok (.aload_n 1, 1) := by decide +kernel
theorem dX7_mostMade_87 : decode cX7_mostMade 87 = .ok (.iload 5, 2) := by decide +kernel
theorem dX7_mostMade_89 : decode cX7_mostMade 89 = .ok (.iload 7, 2) := by decide +kernel
theorem dX7_mostMade_91 : decode cX7_mostMade 91 = .ok (.invokevirtual 50, 3) := by decide +kernel
theorem dX7_mostMade_94 : decode cX7_mostMade 94 = .ok (.istore 8, 2) := by decide +kernel
theorem dX7_mostMade_96 : decode cX7_mostMade 96 = .ok (.aload_n 0, 1) := by decide +kernel
theorem dX7_mostMade_97 : decode cX7_mostMade 97 = .ok (.getfield 32, 3) := by decide +kernel
theorem dX7_mostMade_100 : decode cX7_mostMade 100 = .ok (.iload 5, 2) := by decide +kernel
theorem dX7_mostMade_102 : decode cX7_mostMade 102 = .ok (.aaload, 1) := by decide +kernel
theorem dX7_mostMade_103 : decode cX7_mostMade 103 = .ok (.iload 6, 2) := by decide +kernel
theorem dX7_mostMade_105 : decode cX7_mostMade 105 = .ok (.aload_n 1, 1) := by decide +kernel
theorem dX7_mostMade_106 : decode cX7_mostMade 106 = .ok (.iload 5, 2) := by decide +kernel
theorem dX7_mostMade_108 : decode cX7_mostMade 108 = .ok (.iload 8, 2) := by decide +kernel
theorem dX7_mostMade_110 : decode cX7_mostMade 110 = .ok (.iload 7, 2) := by decide +kernel
theorem dX7_mostMade_112 : decode cX7_mostMade 112 = .ok (.iload 8, 2) := by decide +kernel
theorem dX7_mostMade_114 : decode cX7_mostMade 114 = .ok (.isub, 1) := by decide +kernel
theorem dX7_mostMade_115 : decode cX7_mostMade 115 = .ok (.invokevirtual 54, 3) := by decide +kernel
theorem dX7_mostMade_118 : decode cX7_mostMade 118 = .ok (.aload_n 0, 1) := by decide +kernel
theorem dX7_mostMade_119 : decode cX7_mostMade 119 = .ok (.getfield 32, 3) := by decide +kernel
theorem dX7_mostMade_122 : decode cX7_mostMade 122 = .ok (.iload 5, 2) := by decide +kernel
theorem dX7_mostMade_124 : decode cX7_mostMade 124 = .ok (.iconst 1, 1) := by decide +kernel
theorem dX7_mostMade_125 : decode cX7_mostMade 125 = .ok (.iadd, 1) := by decide +kernel
theorem dX7_mostMade_126 : decode cX7_mostMade 126 = .ok (.aaload, 1) := by decide +kernel
theorem dX7_mostMade_127 : decode cX7_mostMade 127 = .ok (.iload 7, 2) := by decide +kernel
theorem dX7_mostMade_129 : decode cX7_mostMade 129 = .ok (.iload 8, 2) := by decide +kernel
theorem dX7_mostMade_131 : decode cX7_mostMade 131 = .ok (.isub, 1) := by decide +kernel
theorem dX7_mostMade_132 : decode cX7_mostMade 132 = .ok (.iaload, 1) := by decide +kernel
theorem dX7_mostMade_133 : decode cX7_mostMade 133 = .ok (.iadd, 1) := by decide +kernel
theorem dX7_mostMade_134 : decode cX7_mostMade 134 = .ok (.iastore, 1) := by decide +kernel
theorem dX7_mostMade_135 : decode cX7_mostMade 135 = .ok (.iinc 6 1, 3) := by decide +kernel
theorem dX7_mostMade_138 : decode cX7_mostMade 138 = .ok (.goto (-72), 3) := by decide +kernel
theorem dX7_mostMade_141 : decode cX7_mostMade 141 = .ok (.iinc 5 (-1), 3) := by decide +kernel
theorem dX7_mostMade_144 : decode cX7_mostMade 144 = .ok (.goto (-99), 3) := by decide +kernel
theorem dX7_mostMade_147 : decode cX7_mostMade 147 = .ok (.aload_n 0, 1) := by decide +kernel
theorem dX7_mostMade_148 : decode cX7_mostMade 148 = .ok (.getfield 32, 3) := by decide +kernel
theorem dX7_mostMade_151 : decode cX7_mostMade 151 = .ok (.iload_n 2, 1) := by decide +kernel
theorem dX7_mostMade_152 : decode cX7_mostMade 152 = .ok (.aaload, 1) := by decide +kernel
theorem dX7_mostMade_153 : decode cX7_mostMade 153 = .ok (.iconst 0, 1) := by decide +kernel
theorem dX7_mostMade_154 : decode cX7_mostMade 154 = .ok (.iaload, 1) := by decide +kernel
theorem dX7_mostMade_155 : decode cX7_mostMade 155 = .ok (.ireturn, 1) := by decide +kernel
theorem dX7_leastBestUse_0 : decode cX7_leastBestUse 0 = .ok (.iconst 0, 1) := by decide +kernel
theorem dX7_leastBestUse_1 : decode cX7_leastBestUse 1 = .ok (.istore 4, 2) := by decide +kernel
theorem dX7_leastBestUse_3 : decode cX7_leastBestUse 3 = .ok (.aload_n 1, 1) := by decide +kernel
theorem dX7_leastBestUse_4 : decode cX7_leastBestUse 4 = .ok (.iload_n 2, 1) := by decide +kernel
theorem dX7_leastBestUse_5 : decode cX7_leastBestUse 5 = .ok (.iconst 0, 1) := by decide +kernel
theorem dX7_leastBestUse_6 : decode cX7_leastBestUse 6 = .ok (.iload_n 3, 1) := by decide +kernel
theorem dX7_leastBestUse_7 : decode cX7_leastBestUse 7 = .ok (.invokevirtual 54, 3) := by decide +kernel
theorem dX7_leastBestUse_10 : decode cX7_leastBestUse 10 = .ok (.aload_n 0, 1) := by decide +kernel
theorem dX7_leastBestUse_11 : decode cX7_leastBestUse 11 = .ok (.getfield 32, 3) := by decide +kernel
theorem dX7_leastBestUse_14 : decode cX7_leastBestUse 14 = .ok (.iload_n 2, 1) := by decide +kernel
theorem dX7_leastBestUse_15 : decode cX7_leastBestUse 15 = .ok (.iconst 1, 1) := by decide +kernel
theorem dX7_leastBestUse_16 : decode cX7_leastBestUse 16 = .ok (.iadd, 1) := by decide +kernel
theorem dX7_leastBestUse_17 : decode cX7_leastBestUse 17 = .ok (.aaload, 1) := by decide +kernel
theorem dX7_leastBestUse_18 : decode cX7_leastBestUse 18 = .ok (.iload_n 3, 1) := by decide +kernel
theorem dX7_leastBestUse_19 : decode cX7_leastBestUse 19 = .ok (.iaload, 1) := by decide +kernel
theorem dX7_leastBestUse_20 : decode cX7_leastBestUse 20 = .ok (.iadd, 1) := by decide +kernel
theorem dX7_leastBestUse_21 : decode cX7_leastBestUse 21 = .ok (.istore 5, 2) := by decide +kernel
theorem dX7_leastBestUse_23 : decode cX7_leastBestUse 23 = .ok (.iconst 1, 1) := by decide +kernel
theorem dX7_leastBestUse_24 : decode cX7_leastBestUse 24 = .ok (.istore 6, 2) := by decide +kernel
theorem dX7_leastBestUse_26 : decode cX7_leastBestUse 26 = .ok (.iload 6, 2) := by decide +kernel
theorem dX7_leastBestUse_28 : decode cX7_leastBestUse 28 = .ok (.iload_n 3, 1) := by decide +kernel
theorem dX7_leastBestUse_29 : decode cX7_leastBestUse 29 = .ok (.if_icmp .gt 58, 3) := by decide +kernel
theorem dX7_leastBestUse_32 : decode cX7_leastBestUse 32 = .ok (.iload 6, 2) := by decide +kernel
theorem dX7_leastBestUse_34 : decode cX7_leastBestUse 34 = .ok (.bipush 12, 2) := by decide +kernel
theorem dX7_leastBestUse_36 : decode cX7_leastBestUse 36 = .ok (.if_icmp .gt 51, 3) := by decide +kernel
theorem dX7_leastBestUse_39 : decode cX7_leastBestUse 39 = .ok (.aload_n 1, 1) := by decide +kernel
theorem dX7_leastBestUse_40 : decode cX7_leastBestUse 40 = .ok (.iload_n 2, 1) := by decide +kernel
theorem dX7_leastBestUse_41 : decode cX7_leastBestUse 41 = .ok (.iload 6, 2) := by decide +kernel
theorem dX7_leastBestUse_43 : decode cX7_leastBestUse 43 = .ok (.iload_n 3, 1) := by decide +kernel
theorem dX7_leastBestUse_44 : decode cX7_leastBestUse 44 = .ok (.iload 6, 2) := by decide +kernel
theorem dX7_leastBestUse_46 : decode cX7_leastBestUse 46 = .ok (.isub, 1) := by decide +kernel
theorem dX7_leastBestUse_47 : decode cX7_leastBestUse 47 = .ok (.invokevirtual 54, 3) := by decide +kernel
theorem dX7_leastBestUse_50 : decode cX7_leastBestUse 50 = .ok (.aload_n 0, 1) := by decide +kernel
theorem dX7_leastBestUse_51 : decode cX7_leastBestUse 51 = .ok (.getfield 32, 3) := by decide +kernel
theorem dX7_leastBestUse_54 : decode cX7_leastBestUse 54 = .ok (.iload_n 2, 1) := by decide +kernel
theorem dX7_leastBestUse_55 : decode cX7_leastBestUse 55 = .ok (.iconst 1, 1) := by decide +kernel
theorem dX7_leastBestUse_56 : decode cX7_leastBestUse 56 = .ok (.iadd, 1) := by decide +kernel
theorem dX7_leastBestUse_57 : decode cX7_leastBestUse 57 = .ok (.aaload, 1) := by decide +kernel
theorem dX7_leastBestUse_58 : decode cX7_leastBestUse 58 = .ok (.iload_n 3, 1) := by decide +kernel
theorem dX7_leastBestUse_59 : decode cX7_leastBestUse 59 = .ok (.iload 6, 2) := by decide +kernel
theorem dX7_leastBestUse_61 : decode cX7_leastBestUse 61 = .ok (.isub, 1) := by decide +kernel
theorem dX7_leastBestUse_62 : decode cX7_leastBestUse 62 = .ok (.iaload, 1) := by decide +kernel
theorem dX7_leastBestUse_63 : decode cX7_leastBestUse 63 = .ok (.iadd, 1) := by decide +kernel
theorem dX7_leastBestUse_64 : decode cX7_leastBestUse 64 = .ok (.istore 7, 2) := by decide +kernel
theorem dX7_leastBestUse_66 : decode cX7_leastBestUse 66 = .ok (.iload 7, 2) := by decide +kernel
theorem dX7_leastBestUse_68 : decode cX7_leastBestUse 68 = .ok (.iload 5, 2) := by decide +kernel
theorem dX7_leastBestUse_70 : decode cX7_leastBestUse 70 = .ok (.if_icmp .le 11, 3) := by decide +kernel
theorem dX7_leastBestUse_73 : decode cX7_leastBestUse 73 = .ok (.iload 7, 2) := by decide +kernel
theorem dX7_leastBestUse_75 : decode cX7_leastBestUse 75 = .ok (.istore 5, 2) := by decide +kernel
theorem dX7_leastBestUse_77 : decode cX7_leastBestUse 77 = .ok (.iload 6, 2) := by decide +kernel
theorem dX7_leastBestUse_79 : decode cX7_leastBestUse 79 = .ok (.istore 4, 2) := by decide +kernel
theorem dX7_leastBestUse_81 : decode cX7_leastBestUse 81 = .ok (.iinc 6 1, 3) := by decide +kernel
theorem dX7_leastBestUse_84 : decode cX7_leastBestUse 84 = .ok (.goto (-58), 3) := by decide +kernel
theorem dX7_leastBestUse_87 : decode cX7_leastBestUse 87 = .ok (.iload 4, 2) := by decide +kernel
theorem dX7_leastBestUse_89 : decode cX7_leastBestUse 89 = .ok (.ireturn, 1) := by decide +kernel
theorem dX7_followBest_0 : decode cX7_followBest 0 = .ok (.aload_n 0, 1) := by decide +kernel
theorem dX7_followBest_1 : decode cX7_followBest 1 = .ok (.aload_n 1, 1) := by decide +kernel
theorem dX7_followBest_2 : decode cX7_followBest 2 = .ok (.iload_n 2, 1) := by decide +kernel
theorem dX7_followBest_3 : decode cX7_followBest 3 = .ok (.invokevirtual 58, 3) := by decide +kernel
theorem dX7_followBest_6 : decode cX7_followBest 6 = .ok (.aload_n 0, 1) := by decide +kernel
theorem dX7_followBest_7 : decode cX7_followBest 7 = .ok (.aload_n 1, 1) := by decide +kernel
theorem dX7_followBest_8 : decode cX7_followBest 8 = .ok (.iconst 0, 1) := by decide +kernel
theorem dX7_followBest_9 : decode cX7_followBest 9 = .ok (.aload_n 1, 1) := by decide +kernel
theorem dX7_followBest_10 : decode cX7_followBest 10 = .ok (.getfield 35, 3) := by decide +kernel
theorem dX7_followBest_13 : decode cX7_followBest 13 = .ok (.iconst 1, 1) := by decide +kernel
theorem dX7_followBest_14 : decode cX7_followBest 14 = .ok (.isub, 1) := by decide +kernel
theorem dX7_followBest_15 : decode cX7_followBest 15 = .ok (.invokevirtual 61, 3) := by decide +kernel
theorem dX7_followBest_18 : decode cX7_followBest 18 = .ok (.pop, 1) := by decide +kernel
theorem dX7_followBest_19 : decode cX7_followBest 19 = .ok (.iconst 0, 1) := by decide +kernel
theorem dX7_followBest_20 : decode cX7_followBest 20 = .ok (.istore_n 3, 1) := by decide +kernel
theorem dX7_followBest_21 : decode cX7_followBest 21 = .ok (.iconst 0, 1) := by decide +kernel
theorem dX7_followBest_22 : decode cX7_followBest 22 = .ok (.istore 4, 2) := by decide +kernel
theorem dX7_followBest_24 : decode cX7_followBest 24 = .ok (.iload 4, 2) := by decide +kernel
theorem dX7_followBest_26 : decode cX7_followBest 26 = .ok (.aload_n 1, 1) := by decide +kernel
theorem dX7_followBest_27 : decode cX7_followBest 27 = .ok (.getfield 35, 3) := by decide +kernel
theorem dX7_followBest_30 : decode cX7_followBest 30 = .ok (.if_icmp .ge 54, 3) := by decide +kernel
theorem dX7_followBest_33 : decode cX7_followBest 33 = .ok (.aload_n 0, 1) := by decide +kernel
theorem dX7_followBest_34 : decode cX7_followBest 34 = .ok (.getfield 15, 3) := by decide +kernel
theorem dX7_followBest_37 : decode cX7_followBest 37 = .ok (.iload 4, 2) := by decide +kernel
theorem dX7_followBest_39 : decode cX7_followBest 39 = .ok (.iload_n 3, 1) := by decide +kernel
theorem dX7_followBest_40 : decode cX7_followBest 40 = .ok (.aload_n 0, 1) := by decide +kernel
theorem dX7_followBest_41 : decode cX7_followBest 41 = .ok (.getfield 9, 3) := by decide +kernel
theorem dX7_followBest_44 : decode cX7_followBest 44 = .ok (.iload 4, 2) := by decide +kernel
theorem dX7_followBest_46 : decode cX7_followBest 46 = .ok (.iaload, 1) := by decide +kernel
theorem dX7_followBest_47 : decode cX7_followBest 47 = .ok (.iadd, 1) := by decide +kernel
theorem dX7_followBest_48 : decode cX7_followBest 48 = .ok (.iastore, 1) := by decide +kernel
theorem dX7_followBest_49 : decode cX7_followBest 49 = .ok (.aload_n 0, 1) := by decide +kernel
theorem dX7_followBest_50 : decode cX7_followBest 50 = .ok (.aload_n 1, 1) := by decide +kernel
theorem dX7_followBest_51 : decode cX7_followBest 51 = .ok (.iload 4, 2) := by decide +kernel
theorem dX7_followBest_53 : decode cX7_followBest 53 = .ok (.aload_n 0, 1) := by decide +kernel
theorem dX7_followBest_54 : decode cX7_followBest 54 = .ok (.aload_n 1, 1) := by decide +kernel
theorem dX7_followBest_55 : decode cX7_followBest 55 = .ok (.iload 4, 2) := by decide +kernel
theorem dX7_followBest_57 : decode cX7_followBest 57 = .ok (.aload_n 0, 1) := by decide +kernel
theorem dX7_followBest_58 : decode cX7_followBest 58 = .ok (.getfield 15, 3) := by decide +kernel
theorem dX7_followBest_61 : decode cX7_followBest 61 = .ok (.iload 4, 2) := by decide +kernel
theorem dX7_followBest_63 : decode cX7_followBest 63 = .ok (.iaload, 1) := by decide +kernel
theorem dX7_followBest_64 : decode cX7_followBest 64 = .ok (.invokevirtual 50, 3) := by decide +kernel
theorem dX7_followBest_67 : decode cX7_followBest 67 = .ok (.invokevirtual 64, 3) := by decide +kernel
theorem dX7_followBest_70 : decode cX7_followBest 70 = .ok (.aload_n 0, 1) := by decide +kernel
theorem dX7_followBest_71 : decode cX7_followBest 71 = .ok (.getfield 24, 3) := by decide +kernel
theorem dX7_followBest_74 : decode cX7_followBest 74 = .ok (.iload 4, 2) := by decide +kernel
theorem dX7_followBest_76 : decode cX7_followBest 76 = .ok (.iaload, 1) := by decide +kernel
theorem dX7_followBest_77 : decode cX7_followBest 77 = .ok (.istore_n 3, 1) := by decide +kernel
theorem dX7_followBest_78 : decode cX7_followBest 78 = .ok (.iinc 4 1, 3) := by decide +kernel
theorem dX7_followBest_81 : decode cX7_followBest 81 = .ok (.goto (-57), 3) := by decide +kernel
theorem dX7_followBest_84 : decode cX7_followBest 84 = .ok (.return_, 1) := by decide +kernel
theorem dX7_follow_0 : decode cX7_follow 0 = .ok (.aload_n 0, 1) := by decide +kernel
theorem dX7_follow_1 : decode cX7_follow 1 = .ok (.aload_n 1, 1) := by decide +kernel
theorem dX7_follow_2 : decode cX7_follow 2 = .ok (.iload_n 2, 1) := by decide +kernel
theorem dX7_follow_3 : decode cX7_follow 3 = .ok (.invokevirtual 58, 3) := by decide +kernel
theorem dX7_follow_6 : decode cX7_follow 6 = .ok (.iconst 0, 1) := by decide +kernel
theorem dX7_follow_7 : decode cX7_follow 7 = .ok (.istore 4, 2) := by decide +kernel
theorem dX7_follow_9 : decode cX7_follow 9 = .ok (.iconst 0, 1) := by decide +kernel
theorem dX7_follow_10 : decode cX7_follow 10 = .ok (.istore 5, 2) := by decide +kernel
theorem dX7_follow_12 : decode cX7_follow 12 = .ok (.iconst 0, 1) := by decide +kernel
theorem dX7_follow_13 : decode cX7_follow 13 = .ok (.istore 6, 2) := by decide +kernel
theorem dX7_follow_15 : decode cX7_follow 15 = .ok (.iload 6, 2) := by decide +kernel
theorem dX7_follow_17 : decode cX7_follow 17 = .ok (.aload_n 1, 1) := by decide +kernel
theorem dX7_follow_18 : decode cX7_follow 18 = .ok (.getfield 35, 3) := by decide +kernel
theorem dX7_follow_21 : decode cX7_follow 21 = .ok (.if_icmp .ge 130, 3) := by decide +kernel
theorem dX7_follow_24 : decode cX7_follow 24 = .ok (.aload_n 0, 1) := by decide +kernel
theorem dX7_follow_25 : decode cX7_follow 25 = .ok (.getfield 15, 3) := by decide +kernel
theorem dX7_follow_28 : decode cX7_follow 28 = .ok (.iload 6, 2) := by decide +kernel
theorem dX7_follow_30 : decode cX7_follow 30 = .ok (.iload 4, 2) := by decide +kernel
theorem dX7_follow_32 : decode cX7_follow 32 = .ok (.aload_n 0, 1) := by decide +kernel
theorem dX7_follow_33 : decode cX7_follow 33 = .ok (.getfield 9, 3) := by decide +kernel
theorem dX7_follow_36 : decode cX7_follow 36 = .ok (.iload 6, 2) := by decide +kernel
theorem dX7_follow_38 : decode cX7_follow 38 = .ok (.iaload, 1) := by decide +kernel
theorem dX7_follow_39 : decode cX7_follow 39 = .ok (.iadd, 1) := by decide +kernel
theorem dX7_follow_40 : decode cX7_follow 40 = .ok (.iastore, 1) := by decide +kernel
theorem dX7_follow_41 : decode cX7_follow 41 = .ok (.iload_n 3, 1) := by decide +kernel
theorem dX7_follow_42 : decode cX7_follow 42 = .ok (.istore 7, 2) := by decide +kernel
theorem dX7_follow_44 : decode cX7_follow 44 = .ok (.iload_n 3, 1) := by decide +kernel
theorem dX7_follow_45 : decode cX7_follow 45 = .ok (.iconst (-1), 1) := by decide +kernel
theorem dX7_follow_46 : decode cX7_follow 46 = .ok (.if_icmp .ne 31, 3) := by decide +kernel
theorem dX7_follow_49 : decode cX7_follow 49 = .ok (.aload_n 1, 1) := by decide +kernel
theorem dX7_follow_50 : decode cX7_follow 50 = .ok (.getfield 68, 3) := by decide +kernel
theorem dX7_follow_53 : decode cX7_follow 53 = .ok (.iload 6, 2) := by decide +kernel
theorem dX7_follow_55 : decode cX7_follow 55 = .ok (.iload_n 2, 1) := by decide +kernel
theorem dX7_follow_56 : decode cX7_follow 56 = .ok (.aload_n 0, 1) := by decide +kernel
theorem dX7_follow_57 : decode cX7_follow 57 = .ok (.getfield 15, 3) := by decide +kernel
theorem dX7_follow_60 : decode cX7_follow 60 = .ok (.iload 6, 2) := by decide +kernel
theorem dX7_follow_62 : decode cX7_follow 62 = .ok (.iaload, 1) := by decide +kernel
theorem dX7_follow_63 : decode cX7_follow 63 = .ok (.aload_n 1, 1) := by decide +kernel
theorem dX7_follow_64 : decode cX7_follow 64 = .ok (.getfield 41, 3) := by decide +kernel
theorem dX7_follow_67 : decode cX7_follow 67 = .ok (.iload 6, 2) := by decide +kernel
theorem dX7_follow_69 : decode cX7_follow 69 = .ok (.aaload, 1) := by decide +kernel
theorem dX7_follow_70 : decode cX7_follow 70 = .ok (.iconst 0, 1) := by decide +kernel
theorem dX7_follow_71 : decode cX7_follow 71 = .ok (.iaload, 1) := by decide +kernel
theorem dX7_follow_72 : decode cX7_follow 72 = .ok (.invokevirtual 72, 3) := by decide +kernel
theorem dX7_follow_75 : decode cX7_follow 75 = .ok (.istore 7, 2) := by decide +kernel
theorem dX7_follow_77 : decode cX7_follow 77 = .ok (.aload_n 0, 1) := by decide +kernel
theorem dX7_follow_78 : decode cX7_follow 78 = .ok (.getfield 18, 3) := by decide +kernel
theorem dX7_follow_81 : decode cX7_follow 81 = .ok (.iload 6, 2) := by decide +kernel
theorem dX7_follow_83 : decode cX7_follow 83 = .ok (.iload 7, 2) := by decide +kernel
theorem dX7_follow_85 : decode cX7_follow 85 = .ok (.aload_n 0, 1) := by decide +kernel
theorem dX7_follow_86 : decode cX7_follow 86 = .ok (.getfield 15, 3) := by decide +kernel
theorem dX7_follow_89 : decode cX7_follow 89 = .ok (.iload 6, 2) := by decide +kernel
theorem dX7_follow_91 : decode cX7_follow 91 = .ok (.iaload, 1) := by decide +kernel
theorem dX7_follow_92 : decode cX7_follow 92 = .ok (.invokestatic 78, 3) := by decide +kernel
theorem dX7_follow_95 : decode cX7_follow 95 = .ok (.iastore, 1) := by decide +kernel
theorem dX7_follow_96 : decode cX7_follow 96 = .ok (.aload_n 0, 1) := by decide +kernel
theorem dX7_follow_97 : decode cX7_follow 97 = .ok (.aload_n 1, 1) := by decide +kernel
theorem dX7_follow_98 : decode cX7_follow 98 = .ok (.iload 6, 2) := by decide +kernel
theorem dX7_follow_100 : decode cX7_follow 100 = .ok (.aload_n 1, 1) := by decide +kernel
theorem dX7_follow_101 : decode cX7_follow 101 = .ok (.iload 6, 2) := by decide +kernel
theorem dX7_follow_103 : decode cX7_follow 103 = .ok (.aload_n 0, 1) := by decide +kernel
theorem dX7_follow_104 : decode cX7_follow 104 = .ok (.getfield 15, 3) := by decide +kernel
theorem dX7_follow_107 : decode cX7_follow 107 = .ok (.iload 6, 2) := by decide +kernel
theorem dX7_follow_109 : decode cX7_follow 109 = .ok (.iaload, 1) := by decide +kernel
theorem dX7_follow_110 : decode cX7_follow 110 = .ok (.aload_n 0, 1) := by decide +kernel
theorem dX7_follow_111 : decode cX7_follow 111 = .ok (.getfield 18, 3) := by decide +kernel
theorem dX7_follow_114 : decode cX7_follow 114 = .ok (.iload 6, 2) := by decide +kernel
theorem dX7_follow_116 : decode cX7_follow 116 = .ok (.iaload, 1) := by decide +kernel
theorem dX7_follow_117 : decode cX7_follow 117 = .ok (.isub, 1) := by decide +kernel
theorem dX7_follow_118 : decode cX7_follow 118 = .ok (.invokevirtual 84, 3) := by decide +kernel
theorem dX7_follow_121 : decode cX7_follow 121 = .ok (.invokevirtual 64, 3) := by decide +kernel
theorem dX7_follow_124 : decode cX7_follow 124 = .ok (.aload_n 0, 1) := by decide +kernel
theorem dX7_follow_125 : decode cX7_follow 125 = .ok (.getfield 24, 3) := by decide +kernel
theorem dX7_follow_128 : decode cX7_follow 128 = .ok (.iload 6, 2) := by decide +kernel
theorem dX7_follow_130 : decode cX7_follow 130 = .ok (.iaload, 1) := by decide +kernel
theorem dX7_follow_131 : decode cX7_follow 131 = .ok (.istore 4, 2) := by decide +kernel
theorem dX7_follow_133 : decode cX7_follow 133 = .ok (.iload 5, 2) := by decide +kernel
theorem dX7_follow_135 : decode cX7_follow 135 = .ok (.aload_n 0, 1) := by decide +kernel
theorem dX7_follow_136 : decode cX7_follow 136 = .ok (.getfield 27, 3) := by decide +kernel
theorem dX7_follow_139 : decode cX7_follow 139 = .ok (.iload 6, 2) := by decide +kernel
theorem dX7_follow_141 : decode cX7_follow 141 = .ok (.iaload, 1) := by decide +kernel
theorem dX7_follow_142 : decode cX7_follow 142 = .ok (.iadd, 1) := by decide +kernel
theorem dX7_follow_143 : decode cX7_follow 143 = .ok (.istore 5, 2) := by decide +kernel
theorem dX7_follow_145 : decode cX7_follow 145 = .ok (.iinc 6 1, 3) := by decide +kernel
theorem dX7_follow_148 : decode cX7_follow 148 = .ok (.goto (-133), 3) := by decide +kernel
theorem dX7_follow_151 : decode cX7_follow 151 = .ok (.iload 5, 2) := by decide +kernel
theorem dX7_follow_153 : decode cX7_follow 153 = .ok (.ireturn, 1) := by decide +kernel
theorem dX7_settle_0 : decode cX7_settle 0 = .ok (.aload_n 0, 1) := by decide +kernel
theorem dX7_settle_1 : decode cX7_settle 1 = .ok (.getfield 21, 3) := by decide +kernel
theorem dX7_settle_4 : decode cX7_settle 4 = .ok (.iload_n 2, 1) := by decide +kernel
theorem dX7_settle_5 : decode cX7_settle 5 = .ok (.iload_n 3, 1) := by decide +kernel
theorem dX7_settle_6 : decode cX7_settle 6 = .ok (.iastore, 1) := by decide +kernel
theorem dX7_settle_7 : decode cX7_settle 7 = .ok (.aload_n 0, 1) := by decide +kernel
theorem dX7_settle_8 : decode cX7_settle 8 = .ok (.getfield 24, 3) := by decide +kernel
theorem dX7_settle_11 : decode cX7_settle 11 = .ok (.iload_n 2, 1) := by decide +kernel
theorem dX7_settle_12 : decode cX7_settle 12 = .ok (.aload_n 0, 1) := by decide +kernel
theorem dX7_settle_13 : decode cX7_settle 13 = .ok (.getfield 15, 3) := by decide +kernel
theorem dX7_settle_16 : decode cX7_settle 16 = .ok (.iload_n 2, 1) := by decide +kernel
theorem dX7_settle_17 : decode cX7_settle 17 = .ok (.iaload, 1) := by decide +kernel
theorem dX7_settle_18 : decode cX7_settle 18 = .ok (.iload_n 3, 1) := by decide +kernel
theorem dX7_settle_19 : decode cX7_settle 19 = .ok (.isub, 1) := by decide +kernel
theorem dX7_settle_20 : decode cX7_settle 20 = .ok (.iastore, 1) := by decide +kernel
theorem dX7_settle_21 : decode cX7_settle 21 = .ok (.aload_n 0, 1) := by decide +kernel
theorem dX7_settle_22 : decode cX7_settle 22 = .ok (.getfield 27, 3) := by decide +kernel
theorem dX7_settle_25 : decode cX7_settle 25 = .ok (.iload_n 2, 1) := by decide +kernel
theorem dX7_settle_26 : decode cX7_settle 26 = .ok (.aload_n 1, 1) := by decide +kernel
theorem dX7_settle_27 : decode cX7_settle 27 = .ok (.iload_n 2, 1) := by decide +kernel
theorem dX7_settle_28 : decode cX7_settle 28 = .ok (.iload_n 3, 1) := by decide +kernel
theorem dX7_settle_29 : decode cX7_settle 29 = .ok (.aload_n 0, 1) := by decide +kernel
theorem dX7_settle_30 : decode cX7_settle 30 = .ok (.getfield 24, 3) := by decide +kernel
theorem dX7_settle_33 : decode cX7_settle 33 = .ok (.iload_n 2, 1) := by decide +kernel
theorem dX7_settle_34 : decode cX7_settle 34 = .ok (.iaload, 1) := by decide +kernel
theorem dX7_settle_35 : decode cX7_settle 35 = .ok (.invokevirtual 54, 3) := by decide +kernel
theorem dX7_settle_38 : decode cX7_settle 38 = .ok (.iastore, 1) := by decide +kernel
theorem dX7_settle_39 : decode cX7_settle 39 = .ok (.return_, 1) := by decide +kernel
theorem dJ9_floorDiv_7cf53_0 : decode cJ9_floorDiv_7cf53 0 = .ok (.iload_n 0, 1) := by decide +kernel
theorem dJ9_floorDiv_7cf53_1 : decode cJ9_floorDiv_7cf53 1 = .ok (.iload_n 1, 1) := by decide +kernel
theorem dJ9_floorDiv_7cf53_2 : decode cJ9_floorDiv_7cf53 2 = .ok (.idiv, 1) := by decide +kernel
theorem dJ9_floorDiv_7cf53_3 : decode cJ9_floorDiv_7cf53 3 = .ok (.istore_n 2, 1) := by decide +kernel
theorem dJ9_floorDiv_7cf53_4 : decode cJ9_floorDiv_7cf53 4 = .ok (.iload_n 0, 1) := by decide +kernel
theorem dJ9_floorDiv_7cf53_5 : decode cJ9_floorDiv_7cf53 5 = .ok (.iload_n 1, 1) := by decide +kernel
theorem dJ9_floorDiv_7cf53_6 : decode cJ9_floorDiv_7cf53 6 = .ok (.ixor, 1) := by decide +kernel
theorem dJ9_floorDiv_7cf53_7 : decode cJ9_floorDiv_7cf53 7 = .ok (.ifCond .ge 14, 3) := by decide +kernel
theorem dJ9_floorDiv_7cf53_10 : decode cJ9_floorDiv_7cf53 10 = .ok (.iload_n 2, 1) := by decide +kernel
theorem dJ9_floorDiv_7cf53_11 : decode cJ9_floorDiv_7cf53 11 = .ok (.iload_n 1, 1) := by decide +kernel
theorem dJ9_floorDiv_7cf53_12 : decode cJ9_floorDiv_7cf53 12 = .ok (.imul, 1) := by decide +kernel
theorem dJ9_floorDiv_7cf53_13 : decode cJ9_floorDiv_7cf53 13 = .ok (.iload_n 0, 1) := by decide +kernel
theorem dJ9_floorDiv_7cf53_14 : decode cJ9_floorDiv_7cf53 14 = .ok (.if_icmp .eq 7, 3) := by decide +kernel
theorem dJ9_floorDiv_7cf53_17 : decode cJ9_floorDiv_7cf53 17 = .ok (.iload_n 2, 1) := by decide +kernel
theorem dJ9_floorDiv_7cf53_18 : decode cJ9_floorDiv_7cf53 18 = .ok (.iconst 1, 1) := by decide +kernel
theorem dJ9_floorDiv_7cf53_19 : decode cJ9_floorDiv_7cf53 19 = .ok (.isub, 1) := by decide +kernel
theorem dJ9_floorDiv_7cf53_20 : decode cJ9_floorDiv_7cf53 20 = .ok (.ireturn, 1) := by decide +kernel
theorem dJ9_floorDiv_7cf53_21 : decode cJ9_floorDiv_7cf53 21 = .ok (.iload_n 2, 1) := by decide +kernel
theorem dJ9_floorDiv_7cf53_22 : decode cJ9_floorDiv_7cf53 22 = .ok (.ireturn, 1) := by decide +kernel
theorem dJ9_floorMod_7cf53_0 : decode cJ9_floorMod_7cf53 0 = .ok (.iload_n 0, 1) := by decide +kernel
theorem dJ9_floorMod_7cf53_1 : decode cJ9_floorMod_7cf53 1 = .ok (.iload_n 1, 1) := by decide +kernel
theorem dJ9_floorMod_7cf53_2 : decode cJ9_floorMod_7cf53 2 = .ok (.irem, 1) := by decide +kernel
theorem dJ9_floorMod_7cf53_3 : decode cJ9_floorMod_7cf53 3 = .ok (.istore_n 2, 1) := by decide +kernel
theorem dJ9_floorMod_7cf53_4 : decode cJ9_floorMod_7cf53 4 = .ok (.iload_n 0, 1) := by decide +kernel
theorem dJ9_floorMod_7cf53_5 : decode cJ9_floorMod_7cf53 5 = .ok (.iload_n 1, 1) := by decide +kernel
theorem dJ9_floorMod_7cf53_6 : decode cJ9_floorMod_7cf53 6 = .ok (.ixor, 1) := by decide +kernel
theorem dJ9_floorMod_7cf53_7 : decode cJ9_floorMod_7cf53 7 = .ok (.ifCond .ge 11, 3) := by decide +kernel
theorem dJ9_floorMod_7cf53_10 : decode cJ9_floorMod_7cf53 10 = .ok (.iload_n 2, 1) := by decide +kernel
theorem dJ9_floorMod_7cf53_11 : decode cJ9_floorMod_7cf53 11 = .ok (.ifCond .eq 7, 3) := by decide +kernel
theorem dJ9_floorMod_7cf53_14 : decode cJ9_floorMod_7cf53 14 = .ok (.iload_n 2, 1) := by decide +kernel
theorem dJ9_floorMod_7cf53_15 : decode cJ9_floorMod_7cf53 15 = .ok (.iload_n 1, 1) := by decide +kernel
theorem dJ9_floorMod_7cf53_16 : decode cJ9_floorMod_7cf53 16 = .ok (.iadd, 1) := by decide +kernel
theorem dJ9_floorMod_7cf53_17 : decode cJ9_floorMod_7cf53 17 = .ok (.ireturn, 1) := by decide +kernel
theorem dJ9_floorMod_7cf53_18 : decode cJ9_floorMod_7cf53 18 = .ok (.iload_n 2, 1) := by decide +kernel
theorem dJ9_floorMod_7cf53_19 : decode cJ9_floorMod_7cf53 19 = .ok (.ireturn, 1) := by decide +kernel
theorem dJ9_max_7cf53_0 : decode cJ9_max_7cf53 0 = .ok (.iload_n 0, 1) := by decide +kernel
theorem dJ9_max_7cf53_1 : decode cJ9_max_7cf53 1 = .ok (.iload_n 1, 1) := by decide +kernel
theorem dJ9_max_7cf53_2 : decode cJ9_max_7cf53 2 = .ok (.if_icmp .lt 7, 3) := by decide +kernel
theorem dJ9_max_7cf53_5 : decode cJ9_max_7cf53 5 = .ok (.iload_n 0, 1) := by decide +kernel
theorem dJ9_max_7cf53_6 : decode cJ9_max_7cf53 6 = .ok (.goto 4, 3) := by decide +kernel
theorem dJ9_max_7cf53_9 : decode cJ9_max_7cf53 9 = .ok (.iload_n 1, 1) := by decide +kernel
theorem dJ9_max_7cf53_10 : decode cJ9_max_7cf53 10 = .ok (.ireturn, 1) := by decide +kernel
theorem dJ9_min_7cf53_0 : decode cJ9_min_7cf53 0 = .ok (.iload_n 0, 1) := by decide +kernel
theorem dJ9_min_7cf53_1 : decode cJ9_min_7cf53 1 = .ok (.iload_n 1, 1) := by decide +kernel
theorem dJ9_min_7cf53_2 : decode cJ9_min_7cf53 2 = .ok (.if_icmp .gt 7, 3) := by decide +kernel
theorem dJ9_min_7cf53_5 : decode cJ9_min_7cf53 5 = .ok (.iload_n 0, 1) := by decide +kernel
theorem dJ9_min_7cf53_6 : decode cJ9_min_7cf53 6 = .ok (.goto 4, 3) := by decide +kernel
theorem dJ9_min_7cf53_9 : decode cJ9_min_7cf53 9 = .ok (.iload_n 1, 1) := by decide +kernel
theorem dJ9_min_7cf53_10 : decode cJ9_min_7cf53 10 = .ok (.ireturn, 1) := by decide +kernel
theorem dJ0_length_8abf5_0 : decode cJ0_length_8abf5 0 = .ok (.aload_n 0, 1) := by decide +kernel
theorem dJ0_length_8abf5_1 : decode cJ0_length_8abf5 1 = .ok (.getfield 9, 3) := by decide +kernel
theorem dJ0_length_8abf5_4 : decode cJ0_length_8abf5 4 = .ok (.arraylength, 1) := by decide +kernel
theorem dJ0_length_8abf5_5 : decode cJ0_length_8abf5 5 = .ok (.aload_n 0, 1) := by decide +kernel
theorem dJ0_length_8abf5_6 : decode cJ0_length_8abf5 6 = .ok (.invokevirtual 335, 3) := by decide +kernel
theorem dJ0_length_8abf5_9 : decode cJ0_length_8abf5 9 = .ok (.ishr, 1) := by decide +kernel
theorem dJ0_length_8abf5_10 : decode cJ0_length_8abf5 10 = .ok (.ireturn, 1) := by decide +kernel
theorem dJ0_charAt_5068e_0 : decode cJ0_charAt_5068e 0 = .ok (.aload_n 0, 1) := by decide +kernel
theorem dJ0_charAt_5068e_1 : decode cJ0_charAt_5068e 1 = .ok (.invokevirtual 492, 3) := by decide +kernel
theorem dJ0_charAt_5068e_4 : decode cJ0_charAt_5068e 4 = .ok (.ifCond .eq 12, 3) := by decide +kernel
theorem dJ0_charAt_5068e_7 : decode cJ0_charAt_5068e 7 = .ok (.aload_n 0, 1) := by decide +kernel
theorem dJ0_charAt_5068e_8 : decode cJ0_charAt_5068e 8 = .ok (.getfield 9, 3) := by decide +kernel
theorem dJ0_charAt_5068e_11 : decode cJ0_charAt_5068e 11 = .ok (.iload_n 1, 1) := by decide +kernel
theorem dJ0_charAt_5068e_12 : decode cJ0_charAt_5068e 12 = .ok (.invokestatic 495, 3) := by decide +kernel
theorem dJ0_charAt_5068e_15 : decode cJ0_charAt_5068e 15 = .ok (.ireturn, 1) := by decide +kernel
theorem dJ0_charAt_5068e_16 : decode cJ0_charAt_5068e 16 = .ok (.aload_n 0, 1) := by decide +kernel
theorem dJ0_charAt_5068e_17 : decode cJ0_charAt_5068e 17 = .ok (.getfield 9, 3) := by decide +kernel
theorem dJ0_charAt_5068e_20 : decode cJ0_charAt_5068e 20 = .ok (.iload_n 1, 1) := by decide +kernel
theorem dJ0_charAt_5068e_21 : decode cJ0_charAt_5068e 21 = .ok (.invokestatic 498, 3) := by decide +kernel
theorem dJ0_charAt_5068e_24 : decode cJ0_charAt_5068e 24 = .ok (.ireturn, 1) := by decide +kernel
theorem dJ0_coder_7d493_0 : decode cJ0_coder_7d493 0 = .ok (.getstatic 38, 3) := by decide +kernel
theorem dJ0_coder_7d493_3 : decode cJ0_coder_7d493 3 = .ok (.ifCond .eq 10, 3) := by decide +kernel
theorem dJ0_coder_7d493_6 : decode cJ0_coder_7d493 6 = .ok (.aload_n 0, 1) := by decide +kernel
theorem dJ0_coder_7d493_7 : decode cJ0_coder_7d493 7 = .ok (.getfield 15, 3) := by decide +kernel
theorem dJ0_coder_7d493_10 : decode cJ0_coder_7d493 10 = .ok (.goto 4, 3) := by decide +kernel
theorem dJ0_coder_7d493_13 : decode cJ0_coder_7d493 13 = .ok (.iconst 1, 1) := by decide +kernel
theorem dJ0_coder_7d493_14 : decode cJ0_coder_7d493 14 = .ok (.ireturn, 1) := by decide +kernel
theorem dJ0_isLatin1_aae02_0 : decode cJ0_isLatin1_aae02 0 = .ok (.getstatic 38, 3) := by decide +kernel
theorem dJ0_isLatin1_aae02_3 : decode cJ0_isLatin1_aae02 3 = .ok (.ifCond .eq 14, 3) := by decide +kernel
theorem dJ0_isLatin1_aae02_6 : decode cJ0_isLatin1_aae02 6 = .ok (.aload_n 0, 1) := by decide +kernel
theorem dJ0_isLatin1_aae02_7 : decode cJ0_isLatin1_aae02 7 = .ok (.getfield 15, 3) := by decide +kernel
theorem dJ0_isLatin1_aae02_10 : decode cJ0_isLatin1_aae02 10 = .ok (.ifCond .ne 7, 3) := by decide +kernel
theorem dJ0_isLatin1_aae02_13 : decode cJ0_isLatin1_aae02 13 = .ok (.iconst 1, 1) := by decide +kernel
theorem dJ0_isLatin1_aae02_14 : decode cJ0_isLatin1_aae02 14 = .ok (.goto 4, 3) := by decide +kernel
theorem dJ0_isLatin1_aae02_17 : decode cJ0_isLatin1_aae02 17 = .ok (.iconst 0, 1) := by decide +kernel
theorem dJ0_isLatin1_aae02_18 : decode cJ0_isLatin1_aae02 18 = .ok (.ireturn, 1) := by decide +kernel
theorem dJ0_checkIndex_df160_0 : decode cJ0_checkIndex_df160 0 = .ok (.iload_n 0, 1) := by decide +kernel
theorem dJ0_checkIndex_df160_1 : decode cJ0_checkIndex_df160 1 = .ok (.iload_n 1, 1) := by decide +kernel
theorem dJ0_checkIndex_df160_2 : decode cJ0_checkIndex_df160 2 = .ok (.getstatic 1053, 3) := by decide +kernel
theorem dJ0_checkIndex_df160_5 : decode cJ0_checkIndex_df160 5 = .ok (.invokestatic 1059, 3) := by decide +kernel
theorem dJ0_checkIndex_df160_8 : decode cJ0_checkIndex_df160 8 = .ok (.pop, 1) := by decide +kernel
theorem dJ0_checkIndex_df160_9 : decode cJ0_checkIndex_df160 9 = .ok (.return_, 1) := by decide +kernel
theorem dJ1_charAt_3b067_0 : decode cJ1_charAt_3b067 0 = .ok (.iload_n 1, 1) := by decide +kernel
theorem dJ1_charAt_3b067_1 : decode cJ1_charAt_3b067 1 = .ok (.aload_n 0, 1) := by decide +kernel
theorem dJ1_charAt_3b067_2 : decode cJ1_charAt_3b067 2 = .ok (.arraylength, 1) := by decide +kernel
theorem dJ1_charAt_3b067_3 : decode cJ1_charAt_3b067 3 = .ok (.invokestatic 9, 3) := by decide +kernel
theorem dJ1_charAt_3b067_6 : decode cJ1_charAt_3b067 6 = .ok (.aload_n 0, 1) := by decide +kernel
theorem dJ1_charAt_3b067_7 : decode cJ1_charAt_3b067 7 = .ok (.iload_n 1, 1) := by decide +kernel
theorem dJ1_charAt_3b067_8 : decode cJ1_charAt_3b067 8 = .ok (.baload, 1) := by decide +kernel
theorem dJ1_charAt_3b067_9 : decode cJ1_charAt_3b067 9 = .ok (.sipush 255, 3) := by decide +kernel
theorem dJ1_charAt_3b067_12 : decode cJ1_charAt_3b067 12 = .ok (.iand, 1) := by decide +kernel
theorem dJ1_charAt_3b067_13 : decode cJ1_charAt_3b067 13 = .ok (.i2c, 1) := by decide +kernel
theorem dJ1_charAt_3b067_14 : decode cJ1_charAt_3b067 14 = .ok (.ireturn, 1) := by decide +kernel
theorem dJ2_getChar_3b067_0 : decode cJ2_getChar_3b067 0 = .ok (.getstatic 44, 3) := by decide +kernel
theorem dJ2_getChar_3b067_3 : decode cJ2_getChar_3b067 3 = .ok (.ifCond .ne 25, 3) := by decide +kernel
theorem dJ2_getChar_3b067_6 : decode cJ2_getChar_3b067 6 = .ok (.iload_n 1, 1) := by decide +kernel
theorem dJ2_getChar_3b067_7 : decode cJ2_getChar_3b067 7 = .ok (.ifCond .lt 11, 3) := by decide +kernel
theorem dJ2_getChar_3b067_10 : decode cJ2_getChar_3b067 10 = .ok (.iload_n 1, 1) := by decide +kernel
theorem dJ2_getChar_3b067_11 : decode cJ2_getChar_3b067 11 = .ok (.aload_n 0, 1) := by decide +kernel
theorem dJ2_getChar_3b067_12 : decode cJ2_getChar_3b067 12 = .ok (.invokestatic 48, 3) := by decide +kernel
theorem dJ2_getChar_3b067_15 : decode cJ2_getChar_3b067 15 = .ok (.if_icmp .lt 13, 3) := by decide +kernel
theorem dJ2_getChar_3b067_18 : decode cJ2_getChar_3b067 18 = .ok (.new 52, 3) := by decide +kernel
theorem dJ2_getChar_3b067_21 : decode cJ2_getChar_3b067 21 = .ok (.dup, 1) := by decide +kernel
theorem dJ2_getChar_3b067_22 : decode cJ2_getChar_3b067 22 = .ok (.ldc 54, 2) := by decide +kernel
theorem dJ2_getChar_3b067_24 : decode cJ2_getChar_3b067 24 = .ok (.invokespecial 56, 3) := by decide +kernel
theorem dJ2_getChar_3b067_27 : decode cJ2_getChar_3b067 27 = .ok (.athrow, 1) := by decide +kernel
theorem dJ2_getChar_3b067_28 : decode cJ2_getChar_3b067 28 = .ok (.iload_n 1, 1) := by decide +kernel
theorem dJ2_getChar_3b067_29 : decode cJ2_getChar_3b067 29 = .ok (.iconst 1, 1) := by decide +kernel
theorem dJ2_getChar_3b067_30 : decode cJ2_getChar_3b067 30 = .ok (.ishl, 1) := by decide +kernel
theorem dJ2_getChar_3b067_31 : decode cJ2_getChar_3b067 31 = .ok (.istore_n 1, 1) := by decide +kernel
theorem dJ2_getChar_3b067_32 : decode cJ2_getChar_3b067 32 = .ok (.aload_n 0, 1) := by decide +kernel
theorem dJ2_getChar_3b067_33 : decode cJ2_getChar_3b067 33 = .ok (.iload_n 1, 1) := by decide +kernel
theorem dJ2_getChar_3b067_34 : decode cJ2_getChar_3b067 34 = .ok (.iinc 1 1, 3) := by decide +kernel
theorem dJ2_getChar_3b067_37 : decode cJ2_getChar_3b067 37 = .ok (.baload, 1) := by decide +kernel
theorem dJ2_getChar_3b067_38 : decode cJ2_getChar_3b067 38 = .ok (.sipush 255, 3) := by decide +kernel
theorem dJ2_getChar_3b067_41 : decode cJ2_getChar_3b067 41 = .ok (.iand, 1) := by decide +kernel
theorem dJ2_getChar_3b067_42 : decode cJ2_getChar_3b067 42 = .ok (.getstatic 59, 3) := by decide +kernel
theorem dJ2_getChar_3b067_45 : decode cJ2_getChar_3b067 45 = .ok (.ishl, 1) := by decide +kernel
theorem dJ2_getChar_3b067_46 : decode cJ2_getChar_3b067 46 = .ok (.aload_n 0, 1) := by decide +kernel
theorem dJ2_getChar_3b067_47 : decode cJ2_getChar_3b067 47 = .ok (.iload_n 1, 1) := by decide +kernel
theorem dJ2_getChar_3b067_48 : decode cJ2_getChar_3b067 48 = .ok (.baload, 1) := by decide +kernel
theorem dJ2_getChar_3b067_49 : decode cJ2_getChar_3b067 49 = .ok (.sipush 255, 3) := by decide +kernel
theorem dJ2_getChar_3b067_52 : decode cJ2_getChar_3b067 52 = .ok (.iand, 1) := by decide +kernel
theorem dJ2_getChar_3b067_53 : decode cJ2_getChar_3b067 53 = .ok (.getstatic 63, 3) := by decide +kernel
theorem dJ2_getChar_3b067_56 : decode cJ2_getChar_3b067 56 = .ok (.ishl, 1) := by decide +kernel
theorem dJ2_getChar_3b067_57 : decode cJ2_getChar_3b067 57 = .ok (.ior, 1) := by decide +kernel
theorem dJ2_getChar_3b067_58 : decode cJ2_getChar_3b067 58 = .ok (.i2c, 1) := by decide +kernel
theorem dJ2_getChar_3b067_59 : decode cJ2_getChar_3b067 59 = .ok (.ireturn, 1) := by decide +kernel
theorem dJ2_length_9d52b_0 : decode cJ2_length_9d52b 0 = .ok (.aload_n 0, 1) := by decide +kernel
theorem dJ2_length_9d52b_1 : decode cJ2_length_9d52b 1 = .ok (.arraylength, 1) := by decide +kernel
theorem dJ2_length_9d52b_2 : decode cJ2_length_9d52b 2 = .ok (.iconst 1, 1) := by decide +kernel
theorem dJ2_length_9d52b_3 : decode cJ2_length_9d52b 3 = .ok (.ishr, 1) := by decide +kernel
theorem dJ2_length_9d52b_4 : decode cJ2_length_9d52b 4 = .ok (.ireturn, 1) := by decide +kernel
theorem dJ2_charAt_3b067_0 : decode cJ2_charAt_3b067 0 = .ok (.iload_n 1, 1) := by decide +kernel
theorem dJ2_charAt_3b067_1 : decode cJ2_charAt_3b067 1 = .ok (.aload_n 0, 1) := by decide +kernel
theorem dJ2_charAt_3b067_2 : decode cJ2_charAt_3b067 2 = .ok (.invokestatic 67, 3) := by decide +kernel
theorem dJ2_charAt_3b067_5 : decode cJ2_charAt_3b067 5 = .ok (.aload_n 0, 1) := by decide +kernel
theorem dJ2_charAt_3b067_6 : decode cJ2_charAt_3b067 6 = .ok (.iload_n 1, 1) := by decide +kernel
theorem dJ2_charAt_3b067_7 : decode cJ2_charAt_3b067 7 = .ok (.invokestatic 71, 3) := by decide +kernel
theorem dJ2_charAt_3b067_10 : decode cJ2_charAt_3b067 10 = .ok (.ireturn, 1) := by decide +kernel
theorem dJ2_checkIndex_2214a_0 : decode cJ2_checkIndex_2214a 0 = .ok (.iload_n 0, 1) := by decide +kernel
theorem dJ2_checkIndex_2214a_1 : decode cJ2_checkIndex_2214a 1 = .ok (.aload_n 1, 1) := by decide +kernel
theorem dJ2_checkIndex_2214a_2 : decode cJ2_checkIndex_2214a 2 = .ok (.invokestatic 48, 3) := by decide +kernel
theorem dJ2_checkIndex_2214a_5 : decode cJ2_checkIndex_2214a 5 = .ok (.invokestatic 414, 3) := by decide +kernel
theorem dJ2_checkIndex_2214a_8 : decode cJ2_checkIndex_2214a 8 = .ok (.return_, 1) := by decide +kernel
theorem dJ7_fill_53178_0 : decode cJ7_fill_53178 0 = .ok (.iconst 0, 1) := by decide +kernel
theorem dJ7_fill_53178_1 : decode cJ7_fill_53178 1 = .ok (.istore_n 2, 1) := by decide +kernel
theorem dJ7_fill_53178_2 : decode cJ7_fill_53178 2 = .ok (.aload_n 0, 1) := by decide +kernel
theorem dJ7_fill_53178_3 : decode cJ7_fill_53178 3 = .ok (.arraylength, 1) := by decide +kernel
theorem dJ7_fill_53178_4 : decode cJ7_fill_53178 4 = .ok (.istore_n 3, 1) := by decide +kernel
theorem dJ7_fill_53178_5 : decode cJ7_fill_53178 5 = .ok (.iload_n 2, 1) := by decide +kernel
theorem dJ7_fill_53178_6 : decode cJ7_fill_53178 6 = .ok (.iload_n 3, 1) := by decide +kernel
theorem dJ7_fill_53178_7 : decode cJ7_fill_53178 7 = .ok (.if_icmp .ge 13, 3) := by decide +kernel
theorem dJ7_fill_53178_10 : decode cJ7_fill_53178 10 = .ok (.aload_n 0, 1) := by decide +kernel
theorem dJ7_fill_53178_11 : decode cJ7_fill_53178 11 = .ok (.iload_n 2, 1) := by decide +kernel
theorem dJ7_fill_53178_12 : decode cJ7_fill_53178 12 = .ok (.iload_n 1, 1) := by decide +kernel
theorem dJ7_fill_53178_13 : decode cJ7_fill_53178 13 = .ok (.iastore, 1) := by decide +kernel
theorem dJ7_fill_53178_14 : decode cJ7_fill_53178 14 = .ok (.iinc 2 1, 3) := by decide +kernel
theorem dJ7_fill_53178_17 : decode cJ7_fill_53178 17 = .ok (.goto (-12), 3) := by decide +kernel
theorem dJ7_fill_53178_20 : decode cJ7_fill_53178 20 = .ok (.return_, 1) := by decide +kernel
theorem dJ3_checkIndex_8e157_0 : decode cJ3_checkIndex_8e157 0 = .ok (.iload_n 0, 1) := by decide +kernel
theorem dJ3_checkIndex_8e157_1 : decode cJ3_checkIndex_8e157 1 = .ok (.ifCond .lt 8, 3) := by decide +kernel
theorem dJ3_checkIndex_8e157_4 : decode cJ3_checkIndex_8e157 4 = .ok (.iload_n 0, 1) := by decide +kernel
theorem dJ3_checkIndex_8e157_5 : decode cJ3_checkIndex_8e157 5 = .ok (.iload_n 1, 1) := by decide +kernel
theorem dJ3_checkIndex_8e157_6 : decode cJ3_checkIndex_8e157 6 = .ok (.if_icmp .lt 10, 3) := by decide +kernel
theorem dJ3_checkIndex_8e157_9 : decode cJ3_checkIndex_8e157 9 = .ok (.aload_n 2, 1) := by decide +kernel
theorem dJ3_checkIndex_8e157_10 : decode cJ3_checkIndex_8e157 10 = .ok (.iload_n 0, 1) := by decide +kernel
theorem dJ3_checkIndex_8e157_11 : decode cJ3_checkIndex_8e157 11 = .ok (.iload_n 1, 1) := by decide +kernel
theorem dJ3_checkIndex_8e157_12 : decode cJ3_checkIndex_8e157 12 = .ok (.invokestatic 95, 3) := by decide +kernel
theorem dJ3_checkIndex_8e157_15 : decode cJ3_checkIndex_8e157 15 = .ok (.athrow, 1) := by decide +kernel
theorem dJ3_checkIndex_8e157_16 : decode cJ3_checkIndex_8e157 16 = .ok (.iload_n 0, 1) := by decide +kernel
theorem dJ3_checkIndex_8e157_17 : decode cJ3_checkIndex_8e157 17 = .ok (.ireturn, 1) := by decide +kernel
end
section
theorem dX9_init_0 : decode cX9_init 0 = .ok (.aload_n 0, 1) := by decide +kernel
theorem dX9_init_1 : decode cX9_init 1 = .ok (.invokespecial 3, 3) := by decide +kernel
theorem dX9_init_4 : decode cX9_init 4 = .ok (.aload_n 0, 1) := by decide +kernel
theorem dX9_init_5 : decode cX9_init 5 = .ok (.sipush 356, 3) := by decide +kernel
theorem dX9_init_8 : decode cX9_init 8 = .ok (.newarray .int, 2) := by decide +kernel
theorem dX9_init_10 : decode cX9_init 10 = .ok (.putfield 9, 3) := by decide +kernel
theorem dX9_init_13 : decode cX9_init 13 = .ok (.aload_n 0, 1) := by decide +kernel
theorem dX9_init_14 : decode cX9_init 14 = .ok (.sipush 356, 3) := by decide +kernel
theorem dX9_init_17 : decode cX9_init 17 = .ok (.newarray .int, 2) := by decide +kernel
theorem dX9_init_19 : decode cX9_init 19 = .ok (.putfield 13, 3) := by decide +kernel
theorem dX9_init_22 : decode cX9_init 22 = .ok (.aload_n 0, 1) := by decide +kernel
theorem dX9_init_23 : decode cX9_init 23 = .ok (.sipush 1120, 3) := by decide +kernel
theorem dX9_init_26 : decode cX9_init 26 = .ok (.newarray .int, 2) := by decide +kernel
theorem dX9_init_28 : decode cX9_init 28 = .ok (.putfield 16, 3) := by decide +kernel
theorem dX9_init_31 : decode cX9_init 31 = .ok (.aload_n 0, 1) := by decide +kernel
theorem dX9_init_32 : decode cX9_init 32 = .ok (.sipush 960, 3) := by decide +kernel
theorem dX9_init_35 : decode cX9_init 35 = .ok (.newarray .int, 2) := by decide +kernel
theorem dX9_init_37 : decode cX9_init 37 = .ok (.putfield 19, 3) := by decide +kernel
theorem dX9_init_40 : decode cX9_init 40 = .ok (.aload_n 0, 1) := by decide +kernel
theorem dX9_init_41 : decode cX9_init 41 = .ok (.bipush 6, 2) := by decide +kernel
theorem dX9_init_43 : decode cX9_init 43 = .ok (.newarray .int, 2) := by decide +kernel
theorem dX9_init_45 : decode cX9_init 45 = .ok (.putfield 22, 3) := by decide +kernel
theorem dX9_init_48 : decode cX9_init 48 = .ok (.aload_n 0, 1) := by decide +kernel
theorem dX9_init_49 : decode cX9_init 49 = .ok (.bipush 6, 2) := by decide +kernel
theorem dX9_init_51 : decode cX9_init 51 = .ok (.newarray .int, 2) := by decide +kernel
theorem dX9_init_53 : decode cX9_init 53 = .ok (.putfield 25, 3) := by decide +kernel
theorem dX9_init_56 : decode cX9_init 56 = .ok (.aload_n 0, 1) := by decide +kernel
theorem dX9_init_57 : decode cX9_init 57 = .ok (.bipush 6, 2) := by decide +kernel
theorem dX9_init_59 : decode cX9_init 59 = .ok (.newarray .int, 2) := by decide +kernel
theorem dX9_init_61 : decode cX9_init 61 = .ok (.putfield 28, 3) := by decide +kernel
theorem dX9_init_64 : decode cX9_init 64 = .ok (.aload_n 0, 1) := by decide +kernel
theorem dX9_init_65 : decode cX9_init 65 = .ok (.bipush 6, 2) := by decide +kernel
theorem dX9_init_67 : decode cX9_init 67 = .ok (.newarray .int, 2) := by decide +kernel
theorem dX9_init_69 : decode cX9_init 69 = .ok (.putfield 31, 3) := by decide +kernel
theorem dX9_init_72 : decode cX9_init 72 = .ok (.aload_n 0, 1) := by decide +kernel
theorem dX9_init_73 : decode cX9_init 73 = .ok (.bipush 6, 2) := by decide +kernel
theorem dX9_init_75 : decode cX9_init 75 = .ok (.newarray .int, 2) := by decide +kernel
theorem dX9_init_77 : decode cX9_init 77 = .ok (.putfield 34, 3) := by decide +kernel
theorem dX9_init_80 : decode cX9_init 80 = .ok (.aload_n 0, 1) := by decide +kernel
theorem dX9_init_81 : decode cX9_init 81 = .ok (.sipush 910, 3) := by decide +kernel
theorem dX9_init_84 : decode cX9_init 84 = .ok (.newarray .int, 2) := by decide +kernel
theorem dX9_init_86 : decode cX9_init 86 = .ok (.putfield 37, 3) := by decide +kernel
theorem dX9_init_89 : decode cX9_init 89 = .ok (.aload_n 0, 1) := by decide +kernel
theorem dX9_init_90 : decode cX9_init 90 = .ok (.sipush 780, 3) := by decide +kernel
theorem dX9_init_93 : decode cX9_init 93 = .ok (.newarray .int, 2) := by decide +kernel
theorem dX9_init_95 : decode cX9_init 95 = .ok (.putfield 40, 3) := by decide +kernel
theorem dX9_init_98 : decode cX9_init 98 = .ok (.aload_n 0, 1) := by decide +kernel
theorem dX9_init_99 : decode cX9_init 99 = .ok (.bipush 35, 2) := by decide +kernel
theorem dX9_init_101 : decode cX9_init 101 = .ok (.newarray .int, 2) := by decide +kernel
theorem dX9_init_103 : decode cX9_init 103 = .ok (.putfield 43, 3) := by decide +kernel
theorem dX9_init_106 : decode cX9_init 106 = .ok (.aload_n 0, 1) := by decide +kernel
theorem dX9_init_107 : decode cX9_init 107 = .ok (.bipush 30, 2) := by decide +kernel
theorem dX9_init_109 : decode cX9_init 109 = .ok (.newarray .int, 2) := by decide +kernel
theorem dX9_init_111 : decode cX9_init 111 = .ok (.putfield 46, 3) := by decide +kernel
theorem dX9_init_114 : decode cX9_init 114 = .ok (.aload_n 0, 1) := by decide +kernel
theorem dX9_init_115 : decode cX9_init 115 = .ok (.bipush 9, 2) := by decide +kernel
theorem dX9_init_117 : decode cX9_init 117 = .ok (.newarray .int, 2) := by decide +kernel
theorem dX9_init_119 : decode cX9_init 119 = .ok (.putfield 49, 3) := by decide +kernel
theorem dX9_init_122 : decode cX9_init 122 = .ok (.aload_n 0, 1) := by decide +kernel
theorem dX9_init_123 : decode cX9_init 123 = .ok (.bipush 9, 2) := by decide +kernel
theorem dX9_init_125 : decode cX9_init 125 = .ok (.newarray .boolean, 2) := by decide +kernel
theorem dX9_init_127 : decode cX9_init 127 = .ok (.putfield 52, 3) := by decide +kernel
theorem dX9_init_130 : decode cX9_init 130 = .ok (.aload_n 0, 1) := by decide +kernel
theorem dX9_init_131 : decode cX9_init 131 = .ok (.sipush 200, 3) := by decide +kernel
theorem dX9_init_134 : decode cX9_init 134 = .ok (.newarray .int, 2) := by decide +kernel
theorem dX9_init_136 : decode cX9_init 136 = .ok (.putfield 56, 3) := by decide +kernel
theorem dX9_init_139 : decode cX9_init 139 = .ok (.aload_n 0, 1) := by decide +kernel
theorem dX9_init_140 : decode cX9_init 140 = .ok (.sipush 200, 3) := by decide +kernel
theorem dX9_init_143 : decode cX9_init 143 = .ok (.newarray .int, 2) := by decide +kernel
theorem dX9_init_145 : decode cX9_init 145 = .ok (.putfield 59, 3) := by decide +kernel
theorem dX9_init_148 : decode cX9_init 148 = .ok (.aload_n 0, 1) := by decide +kernel
theorem dX9_init_149 : decode cX9_init 149 = .ok (.bipush 32, 2) := by decide +kernel
theorem dX9_init_151 : decode cX9_init 151 = .ok (.newarray .int, 2) := by decide +kernel
theorem dX9_init_153 : decode cX9_init 153 = .ok (.putfield 62, 3) := by decide +kernel
theorem dX9_init_156 : decode cX9_init 156 = .ok (.aload_n 0, 1) := by decide +kernel
theorem dX9_init_157 : decode cX9_init 157 = .ok (.sipush 200, 3) := by decide +kernel
theorem dX9_init_160 : decode cX9_init 160 = .ok (.newarray .int, 2) := by decide +kernel
theorem dX9_init_162 : decode cX9_init 162 = .ok (.putfield 65, 3) := by decide +kernel
theorem dX9_init_165 : decode cX9_init 165 = .ok (.aload_n 0, 1) := by decide +kernel
theorem dX9_init_166 : decode cX9_init 166 = .ok (.bipush 6, 2) := by decide +kernel
theorem dX9_init_168 : decode cX9_init 168 = .ok (.newarray .int, 2) := by decide +kernel
theorem dX9_init_170 : decode cX9_init 170 = .ok (.putfield 68, 3) := by decide +kernel
theorem dX9_init_173 : decode cX9_init 173 = .ok (.aload_n 0, 1) := by decide +kernel
theorem dX9_init_174 : decode cX9_init 174 = .ok (.bipush 6, 2) := by decide +kernel
theorem dX9_init_176 : decode cX9_init 176 = .ok (.newarray .int, 2) := by decide +kernel
theorem dX9_init_178 : decode cX9_init 178 = .ok (.putfield 71, 3) := by decide +kernel
theorem dX9_init_181 : decode cX9_init 181 = .ok (.aload_n 0, 1) := by decide +kernel
theorem dX9_init_182 : decode cX9_init 182 = .ok (.bipush 6, 2) := by decide +kernel
theorem dX9_init_184 : decode cX9_init 184 = .ok (.newarray .int, 2) := by decide +kernel
theorem dX9_init_186 : decode cX9_init 186 = .ok (.putfield 74, 3) := by decide +kernel
theorem dX9_init_189 : decode cX9_init 189 = .ok (.aload_n 0, 1) := by decide +kernel
theorem dX9_init_190 : decode cX9_init 190 = .ok (.bipush 6, 2) := by decide +kernel
theorem dX9_init_192 : decode cX9_init 192 = .ok (.newarray .int, 2) := by decide +kernel
theorem dX9_init_194 : decode cX9_init 194 = .ok (.putfield 77, 3) := by decide +kernel
theorem dX9_init_197 : decode cX9_init 197 = .ok (.aload_n 0, 1) := by decide +kernel
theorem dX9_init_198 : decode cX9_init 198 = .ok (.bipush 18, 2) := by decide +kernel
theorem dX9_init_200 : decode cX9_init 200 = .ok (.newarray .int, 2) := by decide +kernel
theorem dX9_init_202 : decode cX9_init 202 = .ok (.putfield 80, 3) := by decide +kernel
theorem dX9_init_205 : decode cX9_init 205 = .ok (.aload_n 0, 1) := by decide +kernel
theorem dX9_init_206 : decode cX9_init 206 = .ok (.iconst 4, 1) := by decide +kernel
theorem dX9_init_207 : decode cX9_init 207 = .ok (.newarray .int, 2) := by decide +kernel
theorem dX9_init_209 : decode cX9_init 209 = .ok (.dup, 1) := by decide +kernel
theorem dX9_init_210 : decode cX9_init 210 = .ok (.iconst 0, 1) := by decide +kernel
theorem dX9_init_211 : decode cX9_init 211 = .ok (.iconst (-1), 1) := by decide +kernel
theorem dX9_init_212 : decode cX9_init 212 = .ok (.iastore, 1) := by decide +kernel
theorem dX9_init_213 : decode cX9_init 213 = .ok (.dup, 1) := by decide +kernel
theorem dX9_init_214 : decode cX9_init 214 = .ok (.iconst 1, 1) := by decide +kernel
theorem dX9_init_215 : decode cX9_init 215 = .ok (.iconst (-1), 1) := by decide +kernel
theorem dX9_init_216 : decode cX9_init 216 = .ok (.iastore, 1) := by decide +kernel
theorem dX9_init_217 : decode cX9_init 217 = .ok (.dup, 1) := by decide +kernel
theorem dX9_init_218 : decode cX9_init 218 = .ok (.iconst 2, 1) := by decide +kernel
theorem dX9_init_219 : decode cX9_init 219 = .ok (.iconst (-1), 1) := by decide +kernel
theorem dX9_init_220 : decode cX9_init 220 = .ok (.iastore, 1) := by decide +kernel
theorem dX9_init_221 : decode cX9_init 221 = .ok (.dup, 1) := by decide +kernel
theorem dX9_init_222 : decode cX9_init 222 = .ok (.iconst 3, 1) := by decide +kernel
theorem dX9_init_223 : decode cX9_init 223 = .ok (.iconst (-1), 1) := by decide +kernel
theorem dX9_init_224 : decode cX9_init 224 = .ok (.iastore, 1) := by decide +kernel
theorem dX9_init_225 : decode cX9_init 225 = .ok (.putfield 83, 3) := by decide +kernel
theorem dX9_init_228 : decode cX9_init 228 = .ok (.aload_n 0, 1) := by decide +kernel
theorem dX9_init_229 : decode cX9_init 229 = .ok (.iconst 4, 1) := by decide +kernel
theorem dX9_init_230 : decode cX9_init 230 = .ok (.newarray .int, 2) := by decide +kernel
theorem dX9_init_232 : decode cX9_init 232 = .ok (.putfield 86, 3) := by decide +kernel
theorem dX9_init_235 : decode cX9_init 235 = .ok (.aload_n 0, 1) := by decide +kernel
theorem dX9_init_236 : decode cX9_init 236 = .ok (.sipush 160, 3) := by decide +kernel
theorem dX9_init_239 : decode cX9_init 239 = .ok (.newarray .int, 2) := by decide +kernel
theorem dX9_init_241 : decode cX9_init 241 = .ok (.putfield 89, 3) := by decide +kernel
theorem dX9_init_244 : decode cX9_init 244 = .ok (.aload_n 0, 1) := by decide +kernel
theorem dX9_init_245 : decode cX9_init 245 = .ok (.iconst 4, 1) := by decide +kernel
theorem dX9_init_246 : decode cX9_init 246 = .ok (.newarray .int, 2) := by decide +kernel
theorem dX9_init_248 : decode cX9_init 248 = .ok (.putfield 92, 3) := by decide +kernel
theorem dX9_init_251 : decode cX9_init 251 = .ok (.aload_n 0, 1) := by decide +kernel
theorem dX9_init_252 : decode cX9_init 252 = .ok (.iconst 4, 1) := by decide +kernel
theorem dX9_init_253 : decode cX9_init 253 = .ok (.newarray .int, 2) := by decide +kernel
theorem dX9_init_255 : decode cX9_init 255 = .ok (.putfield 95, 3) := by decide +kernel
theorem dX9_init_258 : decode cX9_init 258 = .ok (.aload_n 0, 1) := by decide +kernel
theorem dX9_init_259 : decode cX9_init 259 = .ok (.iconst 4, 1) := by decide +kernel
theorem dX9_init_260 : decode cX9_init 260 = .ok (.newarray .int, 2) := by decide +kernel
theorem dX9_init_262 : decode cX9_init 262 = .ok (.putfield 98, 3) := by decide +kernel
theorem dX9_init_265 : decode cX9_init 265 = .ok (.aload_n 0, 1) := by decide +kernel
theorem dX9_init_266 : decode cX9_init 266 = .ok (.bipush 30, 2) := by decide +kernel
theorem dX9_init_268 : decode cX9_init 268 = .ok (.newarray .int, 2) := by decide +kernel
theorem dX9_init_270 : decode cX9_init 270 = .ok (.putfield 101, 3) := by decide +kernel
theorem dX9_init_273 : decode cX9_init 273 = .ok (.aload_n 0, 1) := by decide +kernel
theorem dX9_init_274 : decode cX9_init 274 = .ok (.getfield 9, 3) := by decide +kernel
theorem dX9_init_277 : decode cX9_init 277 = .ok (.iconst 4, 1) := by decide +kernel
theorem dX9_init_278 : decode cX9_init 278 = .ok (.iconst (-1), 1) := by decide +kernel
theorem dX9_init_279 : decode cX9_init 279 = .ok (.iastore, 1) := by decide +kernel
theorem dX9_init_280 : decode cX9_init 280 = .ok (.return_, 1) := by decide +kernel
theorem dX9_in_0 : decode cX9_in 0 = .ok (.iload_n 0, 1) := by decide +kernel
theorem dX9_in_1 : decode cX9_in 1 = .ok (.iload_n 1, 1) := by decide +kernel
theorem dX9_in_2 : decode cX9_in 2 = .ok (.if_icmp .lt 12, 3) := by decide +kernel
theorem dX9_in_5 : decode cX9_in 5 = .ok (.iload_n 0, 1) := by decide +kernel
theorem dX9_in_6 : decode cX9_in 6 = .ok (.iload_n 2, 1) := by decide +kernel
theorem dX9_in_7 : decode cX9_in 7 = .ok (.if_icmp .gt 7, 3) := by decide +kernel
theorem dX9_in_10 : decode cX9_in 10 = .ok (.iconst 1, 1) := by decide +kernel
theorem dX9_in_11 : decode cX9_in 11 = .ok (.goto 4, 3) := by decide +kernel
theorem dX9_in_14 : decode cX9_in 14 = .ok (.iconst 0, 1) := by decide +kernel
theorem dX9_in_15 : decode cX9_in 15 = .ok (.ireturn, 1) := by decide +kernel
theorem dX9_isVillage_0 : decode cX9_isVillage 0 = .ok (.iload_n 1, 1) := by decide +kernel
theorem dX9_isVillage_1 : decode cX9_isVillage 1 = .ok (.iconst 0, 1) := by decide +kernel
theorem dX9_isVillage_2 : decode cX9_isVillage 2 = .ok (.aload_n 0, 1) := by decide +kernel
theorem dX9_isVillage_3 : decode cX9_isVillage 3 = .ok (.getfield 9, 3) := by decide +kernel
theorem dX9_isVillage_6 : decode cX9_isVillage 6 = .ok (.iconst 0, 1) := by decide +kernel
theorem dX9_isVillage_7 : decode cX9_isVillage 7 = .ok (.iaload, 1) := by decide +kernel
theorem dX9_isVillage_8 : decode cX9_isVillage 8 = .ok (.iconst 1, 1) := by decide +kernel
theorem dX9_isVillage_9 : decode cX9_isVillage 9 = .ok (.isub, 1) := by decide +kernel
theorem dX9_isVillage_10 : decode cX9_isVillage 10 = .ok (.invokestatic 104, 3) := by decide +kernel
theorem dX9_isVillage_13 : decode cX9_isVillage 13 = .ok (.ireturn, 1) := by decide +kernel
theorem dX9_at_0 : decode cX9_at 0 = .ok (.bipush 10, 2) := by decide +kernel
theorem dX9_at_2 : decode cX9_at 2 = .ok (.bipush 18, 2) := by decide +kernel
theorem dX9_at_4 : decode cX9_at 4 = .ok (.iload_n 0, 1) := by decide +kernel
theorem dX9_at_5 : decode cX9_at 5 = .ok (.imul, 1) := by decide +kernel
theorem dX9_at_6 : decode cX9_at 6 = .ok (.iadd, 1) := by decide +kernel
theorem dX9_at_7 : decode cX9_at 7 = .ok (.iload_n 1, 1) := by decide +kernel
theorem dX9_at_8 : decode cX9_at 8 = .ok (.iadd, 1) := by decide +kernel
theorem dX9_at_9 : decode cX9_at 9 = .ok (.ireturn, 1) := by decide +kernel
theorem dX9_of_0 : decode cX9_of 0 = .ok (.aload_n 0, 1) := by decide +kernel
theorem dX9_of_1 : decode cX9_of 1 = .ok (.getfield 9, 3) := by decide +kernel
theorem dX9_of_4 : decode cX9_of 4 = .ok (.iload_n 1, 1) := by decide +kernel
theorem dX9_of_5 : decode cX9_of 5 = .ok (.iload_n 2, 1) := by decide +kernel
theorem dX9_of_6 : decode cX9_of 6 = .ok (.invokestatic 108, 3) := by decide +kernel
theorem dX9_of_9 : decode cX9_of 9 = .ok (.iaload, 1) := by decide +kernel
theorem dX9_of_10 : decode cX9_of 10 = .ok (.ireturn, 1) := by decide +kernel
theorem dX9_village_0 : decode cX9_village 0 = .ok (.iload_n 1, 1) := by decide +kernel
theorem dX9_village_1 : decode cX9_village 1 = .ok (.iconst 0, 1) := by decide +kernel
theorem dX9_village_2 : decode cX9_village 2 = .ok (.bipush 12, 2) := by decide +kernel
theorem dX9_village_4 : decode cX9_village 4 = .ok (.invokestatic 104, 3) := by decide +kernel
theorem dX9_village_7 : decode cX9_village 7 = .ok (.ifCond .ne 5, 3) := by decide +kernel
theorem dX9_village_10 : decode cX9_village 10 = .ok (.iconst (-1), 1) := by decide +kernel
theorem dX9_village_11 : decode cX9_village 11 = .ok (.ireturn, 1) := by decide +kernel
theorem dX9_village_12 : decode cX9_village 12 = .ok (.aload_n 0, 1) := by decide +kernel
theorem dX9_village_13 : decode cX9_village 13 = .ok (.getfield 9, 3) := by decide +kernel
theorem dX9_village_16 : decode cX9_village 16 = .ok (.iconst 0, 1) := by decide +kernel
theorem dX9_village_17 : decode cX9_village 17 = .ok (.iaload, 1) := by decide +kernel
theorem dX9_village_18 : decode cX9_village 18 = .ok (.istore_n 2, 1) := by decide +kernel
theorem dX9_village_19 : decode cX9_village 19 = .ok (.iload_n 2, 1) := by decide +kernel
theorem dX9_village_20 : decode cX9_village 20 = .ok (.bipush 6, 2) := by decide +kernel
theorem dX9_village_22 : decode cX9_village 22 = .ok (.if_icmp .ne 6, 3) := by decide +kernel
theorem dX9_village_25 : decode cX9_village 25 = .ok (.bipush (-2), 2) := by decide +kernel
theorem dX9_village_27 : decode cX9_village 27 = .ok (.ireturn, 1) := by decide +kernel
theorem dX9_village_28 : decode cX9_village 28 = .ok (.iconst 0, 1) := by decide +kernel
theorem dX9_village_29 : decode cX9_village 29 = .ok (.istore_n 3, 1) := by decide +kernel
theorem dX9_village_30 : decode cX9_village 30 = .ok (.iload_n 3, 1) := by decide +kernel
theorem dX9_village_31 : decode cX9_village 31 = .ok (.bipush 18, 2) := by decide +kernel
theorem dX9_village_33 : decode cX9_village 33 = .ok (.if_icmp .ge 20, 3) := by decide +kernel
theorem dX9_village_36 : decode cX9_village 36 = .ok (.aload_n 0, 1) := by decide +kernel
theorem dX9_village_37 : decode cX9_village 37 = .ok (.getfield 9, 3) := by decide +kernel
theorem dX9_village_40 : decode cX9_village 40 = .ok (.iload_n 2, 1) := by decide +kernel
theorem dX9_village_41 : decode cX9_village 41 = .ok (.iload_n 3, 1) := by decide +kernel
theorem dX9_village_42 : decode cX9_village 42 = .ok (.invokestatic 108, 3) := by decide +kernel
theorem dX9_village_45 : decode cX9_village 45 = .ok (.iconst 0, 1) := by decide +kernel
theorem dX9_village_46 : decode cX9_village 46 = .ok (.iastore, 1) := by decide +kernel
theorem dX9_village_47 : decode cX9_village 47 = .ok (.iinc 3 1, 3) := by decide +kernel
theorem dX9_village_50 : decode cX9_village 50 = .ok (.goto (-20), 3) := by decide +kernel
theorem dX9_village_53 : decode cX9_village 53 = .ok (.aload_n 0, 1) := by decide +kernel
theorem dX9_village_54 : decode cX9_village 54 = .ok (.getfield 9, 3) := by decide +kernel
theorem dX9_village_57 : decode cX9_village 57 = .ok (.iload_n 2, 1) := by decide +kernel
theorem dX9_village_58 : decode cX9_village 58 = .ok (.iconst 0, 1) := by decide +kernel
theorem dX9_village_59 : decode cX9_village 59 = .ok (.invokestatic 108, 3) := by decide +kernel
theorem dX9_village_62 : decode cX9_village 62 = .ok (.iload_n 1, 1) := by decide +kernel
theorem dX9_village_63 : decode cX9_village 63 = .ok (.iastore, 1) := by decide +kernel
theorem dX9_village_64 : decode cX9_village 64 = .ok (.aload_n 0, 1) := by decide +kernel
theorem dX9_village_65 : decode cX9_village 65 = .ok (.getfield 9, 3) := by decide +kernel
theorem dX9_village_68 : decode cX9_village 68 = .ok (.iload_n 2, 1) := by decide +kernel
theorem dX9_village_69 : decode cX9_village 69 = .ok (.iconst 1, 1) := by decide +kernel
theorem dX9_village_70 : decode cX9_village 70 = .ok (.invokestatic 108, 3) := by decide +kernel
theorem dX9_village_73 : decode cX9_village 73 = .ok (.bipush 99, 2) := by decide +kernel
theorem dX9_village_75 : decode cX9_village 75 = .ok (.iastore, 1) := by decide +kernel
theorem dX9_village_76 : decode cX9_village 76 = .ok (.aload_n 0, 1) := by decide +kernel
theorem dX9_village_77 : decode cX9_village 77 = .ok (.getfield 9, 3) := by decide +kernel
theorem dX9_village_80 : decode cX9_village 80 = .ok (.iload_n 2, 1) := by decide +kernel
theorem dX9_village_81 : decode cX9_village 81 = .ok (.iconst 4, 1) := by decide +kernel
theorem dX9_village_82 : decode cX9_village 82 = .ok (.invokestatic 108, 3) := by decide +kernel
theorem dX9_village_85 : decode cX9_village 85 = .ok (.bipush 99, 2) := by decide +kernel
theorem dX9_village_87 : decode cX9_village 87 = .ok (.iastore, 1) := by decide +kernel
theorem dX9_village_88 : decode cX9_village 88 = .ok (.aload_n 0, 1) := by decide +kernel
theorem dX9_village_89 : decode cX9_village 89 = .ok (.getfield 9, 3) := by decide +kernel
theorem dX9_village_92 : decode cX9_village 92 = .ok (.iload_n 2, 1) := by decide +kernel
theorem dX9_village_93 : decode cX9_village 93 = .ok (.iconst 5, 1) := by decide +kernel
theorem dX9_village_94 : decode cX9_village 94 = .ok (.invokestatic 108, 3) := by decide +kernel
theorem dX9_village_97 : decode cX9_village 97 = .ok (.iconst 1, 1) := by decide +kernel
theorem dX9_village_98 : decode cX9_village 98 = .ok (.iastore, 1) := by decide +kernel
theorem dX9_village_99 : decode cX9_village 99 = .ok (.aload_n 0, 1) := by decide +kernel
theorem dX9_village_100 : decode cX9_village 100 = .ok (.getfield 9, 3) := by decide +kernel
theorem dX9_village_103 : decode cX9_village 103 = .ok (.iconst 0, 1) := by decide +kernel
theorem dX9_village_104 : decode cX9_village 104 = .ok (.dup2, 1) := by decide +kernel
theorem dX9_village_105 : decode cX9_village 105 = .ok (.iaload, 1) := by decide +kernel
theorem dX9_village_106 : decode cX9_village 106 = .ok (.iconst 1, 1) := by decide +kernel
theorem dX9_village_107 : decode cX9_village 107 = .ok (.iadd, 1) := by decide +kernel
theorem dX9_village_108 : decode cX9_village 108 = .ok (.iastore, 1) := by decide +kernel
theorem dX9_village_109 : decode cX9_village 109 = .ok (.iload_n 2, 1) := by decide +kernel
theorem dX9_village_110 : decode cX9_village 110 = .ok (.ireturn, 1) := by decide +kernel
theorem dX9_villageOf_0 : decode cX9_villageOf 0 = .ok (.aload_n 0, 1) := by decide +kernel
theorem dX9_villageOf_1 : decode cX9_villageOf 1 = .ok (.iload_n 1, 1) := by decide +kernel
theorem dX9_villageOf_2 : decode cX9_villageOf 2 = .ok (.invokevirtual 112, 3) := by decide +kernel
theorem dX9_villageOf_5 : decode cX9_villageOf 5 = .ok (.ifCond .eq 21, 3) := by decide +kernel
theorem dX9_villageOf_8 : decode cX9_villageOf 8 = .ok (.iload_n 2, 1) := by decide +kernel
theorem dX9_villageOf_9 : decode cX9_villageOf 9 = .ok (.iconst 0, 1) := by decide +kernel
theorem dX9_villageOf_10 : decode cX9_villageOf 10 = .ok (.iconst 5, 1) := by decide +kernel
theorem dX9_villageOf_11 : decode cX9_villageOf 11 = .ok (.invokestatic 104, 3) := by decide +kernel
theorem dX9_villageOf_14 : decode cX9_villageOf 14 = .ok (.ifCond .eq 12, 3) := by decide +kernel
theorem dX9_villageOf_17 : decode cX9_villageOf 17 = .ok (.aload_n 0, 1) := by decide +kernel
theorem dX9_villageOf_18 : decode cX9_villageOf 18 = .ok (.iload_n 1, 1) := by decide +kernel
theorem dX9_villageOf_19 : decode cX9_villageOf 19 = .ok (.iload_n 2, 1) := by decide +kernel
theorem dX9_villageOf_20 : decode cX9_villageOf 20 = .ok (.invokevirtual 116, 3) := by decide +kernel
theorem dX9_villageOf_23 : decode cX9_villageOf 23 = .ok (.goto 4, 3) := by decide +kernel
theorem dX9_villageOf_26 : decode cX9_villageOf 26 = .ok (.iconst (-1), 1) := by decide +kernel
theorem dX9_villageOf_27 : decode cX9_villageOf 27 = .ok (.ireturn, 1) := by decide +kernel
theorem dX9_fits_0 : decode cX9_fits 0 = .ok (.iload_n 0, 1) := by decide +kernel
theorem dX9_fits_1 : decode cX9_fits 1 = .ok (.tableswitch 67 0 4 #[35, 43, 51, 59, 43], 35) := by decide +kernel
theorem dX9_fits_36 : decode cX9_fits 36 = .ok (.iload_n 1, 1) := by decide +kernel
theorem dX9_fits_37 : decode cX9_fits 37 = .ok (.iconst 0, 1) := by decide +kernel
theorem dX9_fits_38 : decode cX9_fits 38 = .ok (.bipush 12, 2) := by decide +kernel
theorem dX9_fits_40 : decode cX9_fits 40 = .ok (.invokestatic 104, 3) := by decide +kernel
theorem dX9_fits_43 : decode cX9_fits 43 = .ok (.ireturn, 1) := by decide +kernel
theorem dX9_fits_44 : decode cX9_fits 44 = .ok (.iload_n 1, 1) := by decide +kernel
theorem dX9_fits_45 : decode cX9_fits 45 = .ok (.iconst 0, 1) := by decide +kernel
theorem dX9_fits_46 : decode cX9_fits 46 = .ok (.bipush 99, 2) := by decide +kernel
theorem dX9_fits_48 : decode cX9_fits 48 = .ok (.invokestatic 104, 3) := by decide +kernel
theorem dX9_fits_51 : decode cX9_fits 51 = .ok (.ireturn, 1) := by decide +kernel
theorem dX9_fits_52 : decode cX9_fits 52 = .ok (.iload_n 1, 1) := by decide +kernel
theorem dX9_fits_53 : decode cX9_fits 53 = .ok (.iconst 0, 1) := by decide +kernel
theorem dX9_fits_54 : decode cX9_fits 54 = .ok (.bipush 9, 2) := by decide +kernel
theorem dX9_fits_56 : decode cX9_fits 56 = .ok (.invokestatic 104, 3) := by decide +kernel
theorem dX9_fits_59 : decode cX9_fits 59 = .ok (.ireturn, 1) := by decide +kernel
theorem dX9_fits_60 : decode cX9_fits 60 = .ok (.iload_n 1, 1) := by decide +kernel
theorem dX9_fits_61 : decode cX9_fits 61 = .ok (.iconst 0, 1) := by decide +kernel
theorem dX9_fits_62 : decode cX9_fits 62 = .ok (.bipush 20, 2) := by decide +kernel
theorem dX9_fits_64 : decode cX9_fits 64 = .ok (.invokestatic 104, 3) := by decide +kernel
theorem dX9_fits_67 : decode cX9_fits 67 = .ok (.ireturn, 1) := by decide +kernel
theorem dX9_fits_68 : decode cX9_fits 68 = .ok (.iload_n 1, 1) := by decide +kernel
theorem dX9_fits_69 : decode cX9_fits 69 = .ok (.iconst 1, 1) := by decide +kernel
theorem dX9_fits_70 : decode cX9_fits 70 = .ok (.bipush 9, 2) := by decide +kernel
theorem dX9_fits_72 : decode cX9_fits 72 = .ok (.invokestatic 104, 3) := by decide +kernel
theorem dX9_fits_75 : decode cX9_fits 75 = .ok (.ireturn, 1) := by decide +kernel
theorem dX9_set_0 : decode cX9_set 0 = .ok (.aload_n 0, 1) := by decide +kernel
theorem dX9_set_1 : decode cX9_set 1 = .ok (.iload_n 1, 1) := by decide +kernel
theorem dX9_set_2 : decode cX9_set 2 = .ok (.invokevirtual 112, 3) := by decide +kernel
theorem dX9_set_5 : decode cX9_set 5 = .ok (.ifCond .eq 20, 3) := by decide +kernel
theorem dX9_set_8 : decode cX9_set 8 = .ok (.iload_n 2, 1) := by decide +kernel
theorem dX9_set_9 : decode cX9_set 9 = .ok (.iconst 0, 1) := by decide +kernel
theorem dX9_set_10 : decode cX9_set 10 = .ok (.iconst 5, 1) := by decide +kernel
theorem dX9_set_11 : decode cX9_set 11 = .ok (.invokestatic 104, 3) := by decide +kernel
theorem dX9_set_14 : decode cX9_set 14 = .ok (.ifCond .eq 11, 3) := by decide +kernel
theorem dX9_set_17 : decode cX9_set 17 = .ok (.iload_n 2, 1) := by decide +kernel
theorem dX9_set_18 : decode cX9_set 18 = .ok (.iload_n 3, 1) := by decide +kernel
theorem dX9_set_19 : decode cX9_set 19 = .ok (.invokestatic 119, 3) := by decide +kernel
theorem dX9_set_22 : decode cX9_set 22 = .ok (.ifCond .ne 5, 3) := by decide +kernel
theorem dX9_set_25 : decode cX9_set 25 = .ok (.iconst (-1), 1) := by decide +kernel
theorem dX9_set_26 : decode cX9_set 26 = .ok (.ireturn, 1) := by decide +kernel
theorem dX9_set_27 : decode cX9_set 27 = .ok (.aload_n 0, 1) := by decide +kernel
theorem dX9_set_28 : decode cX9_set 28 = .ok (.iload_n 1, 1) := by decide +kernel
theorem dX9_set_29 : decode cX9_set 29 = .ok (.iload_n 2, 1) := by decide +kernel
theorem dX9_set_30 : decode cX9_set 30 = .ok (.invokevirtual 116, 3) := by decide +kernel
theorem dX9_set_33 : decode cX9_set 33 = .ok (.istore 4, 2) := by decide +kernel
theorem dX9_set_35 : decode cX9_set 35 = .ok (.aload_n 0, 1) := by decide +kernel
theorem dX9_set_36 : decode cX9_set 36 = .ok (.getfield 9, 3) := by decide +kernel
theorem dX9_set_39 : decode cX9_set 39 = .ok (.iload_n 1, 1) := by decide +kernel
theorem dX9_set_40 : decode cX9_set 40 = .ok (.iload_n 2, 1) := by decide +kernel
theorem dX9_set_41 : decode cX9_set 41 = .ok (.invokestatic 108, 3) := by decide +kernel
theorem dX9_set_44 : decode cX9_set 44 = .ok (.iload_n 3, 1) := by decide +kernel
theorem dX9_set_45 : decode cX9_set 45 = .ok (.iastore, 1) := by decide +kernel
theorem dX9_set_46 : decode cX9_set 46 = .ok (.iload 4, 2) := by decide +kernel
theorem dX9_set_48 : decode cX9_set 48 = .ok (.ireturn, 1) := by decide +kernel
theorem dX9_first_0 : decode cX9_first 0 = .ok (.iconst 0, 1) := by decide +kernel
theorem dX9_first_1 : decode cX9_first 1 = .ok (.istore_n 3, 1) := by decide +kernel
theorem dX9_first_2 : decode cX9_first 2 = .ok (.iconst 0, 1) := by decide +kernel
theorem dX9_first_3 : decode cX9_first 3 = .ok (.istore 4, 2) := by decide +kernel
theorem dX9_first_5 : decode cX9_first 5 = .ok (.iload 4, 2) := by decide +kernel
theorem dX9_first_7 : decode cX9_first 7 = .ok (.iload_n 2, 1) := by decide +kernel
theorem dX9_first_8 : decode cX9_first 8 = .ok (.if_icmp .ge 22, 3) := by decide +kernel
theorem dX9_first_11 : decode cX9_first 11 = .ok (.iload_n 3, 1) := by decide +kernel
theorem dX9_first_12 : decode cX9_first 12 = .ok (.aload_n 0, 1) := by decide +kernel
theorem dX9_first_13 : decode cX9_first 13 = .ok (.iload_n 1, 1) := by decide +kernel
theorem dX9_first_14 : decode cX9_first 14 = .ok (.bipush 6, 2) := by decide +kernel
theorem dX9_first_16 : decode cX9_first 16 = .ok (.iload 4, 2) := by decide +kernel
theorem dX9_first_18 : decode cX9_first 18 = .ok (.iadd, 1) := by decide +kernel
theorem dX9_first_19 : decode cX9_first 19 = .ok (.invokevirtual 116, 3) := by decide +kernel
theorem dX9_first_22 : decode cX9_first 22 = .ok (.iadd, 1) := by decide +kernel
theorem dX9_first_23 : decode cX9_first 23 = .ok (.istore_n 3, 1) := by decide +kernel
theorem dX9_first_24 : decode cX9_first 24 = .ok (.iinc 4 1, 3) := by decide +kernel
theorem dX9_first_27 : decode cX9_first 27 = .ok (.goto (-22), 3) := by decide +kernel
theorem dX9_first_30 : decode cX9_first 30 = .ok (.iload_n 3, 1) := by decide +kernel
theorem dX9_first_31 : decode cX9_first 31 = .ok (.ireturn, 1) := by decide +kernel
theorem dX9_worth_0 : decode cX9_worth 0 = .ok (.aload_n 0, 1) := by decide +kernel
theorem dX9_worth_1 : decode cX9_worth 1 = .ok (.iload_n 1, 1) := by decide +kernel
theorem dX9_worth_2 : decode cX9_worth 2 = .ok (.invokevirtual 112, 3) := by decide +kernel
theorem dX9_worth_5 : decode cX9_worth 5 = .ok (.ifCond .eq 22, 3) := by decide +kernel
theorem dX9_worth_8 : decode cX9_worth 8 = .ok (.iload_n 2, 1) := by decide +kernel
theorem dX9_worth_9 : decode cX9_worth 9 = .ok (.iconst 0, 1) := by decide +kernel
theorem dX9_worth_10 : decode cX9_worth 10 = .ok (.bipush 12, 2) := by decide +kernel
theorem dX9_worth_12 : decode cX9_worth 12 = .ok (.invokestatic 104, 3) := by decide +kernel
theorem dX9_worth_15 : decode cX9_worth 15 = .ok (.ifCond .eq 12, 3) := by decide +kernel
theorem dX9_worth_18 : decode cX9_worth 18 = .ok (.aload_n 0, 1) := by decide +kernel
theorem dX9_worth_19 : decode cX9_worth 19 = .ok (.iload_n 1, 1) := by decide +kernel
theorem dX9_worth_20 : decode cX9_worth 20 = .ok (.iload_n 2, 1) := by decide +kernel
theorem dX9_worth_21 : decode cX9_worth 21 = .ok (.invokevirtual 123, 3) := by decide +kernel
theorem dX9_worth_24 : decode cX9_worth 24 = .ok (.goto 4, 3) := by decide +kernel
theorem dX9_worth_27 : decode cX9_worth 27 = .ok (.iconst (-1), 1) := by decide +kernel
theorem dX9_worth_28 : decode cX9_worth 28 = .ok (.ireturn, 1) := by decide +kernel
theorem dX9_flows_0 : decode cX9_flows 0 = .ok (.iconst 0, 1) := by decide +kernel
theorem dX9_flows_1 : decode cX9_flows 1 = .ok (.istore_n 2, 1) := by decide +kernel
theorem dX9_flows_2 : decode cX9_flows 2 = .ok (.iload_n 2, 1) := by decide +kernel
theorem dX9_flows_3 : decode cX9_flows 3 = .ok (.aload_n 0, 1) := by decide +kernel
theorem dX9_flows_4 : decode cX9_flows 4 = .ok (.getfield 9, 3) := by decide +kernel
theorem dX9_flows_7 : decode cX9_flows 7 = .ok (.iconst 0, 1) := by decide +kernel
theorem dX9_flows_8 : decode cX9_flows 8 = .ok (.iaload, 1) := by decide +kernel
theorem dX9_flows_9 : decode cX9_flows 9 = .ok (.if_icmp .ge 26, 3) := by decide +kernel
theorem dX9_flows_12 : decode cX9_flows 12 = .ok (.aload_n 0, 1) := by decide +kernel
theorem dX9_flows_13 : decode cX9_flows 13 = .ok (.getfield 22, 3) := by decide +kernel
theorem dX9_flows_16 : decode cX9_flows 16 = .ok (.iload_n 2, 1) := by decide +kernel
theorem dX9_flows_17 : decode cX9_flows 17 = .ok (.aload_n 0, 1) := by decide +kernel
theorem dX9_flows_18 : decode cX9_flows 18 = .ok (.iload_n 2, 1) := by decide +kernel
theorem dX9_flows_19 : decode cX9_flows 19 = .ok (.iconst 0, 1) := by decide +kernel
theorem dX9_flows_20 : decode cX9_flows 20 = .ok (.invokevirtual 116, 3) := by decide +kernel
theorem dX9_flows_23 : decode cX9_flows 23 = .ok (.iload_n 1, 1) := by decide +kernel
theorem dX9_flows_24 : decode cX9_flows 24 = .ok (.imul, 1) := by decide +kernel
theorem dX9_flows_25 : decode cX9_flows 25 = .ok (.bipush 10, 2) := by decide +kernel
theorem dX9_flows_27 : decode cX9_flows 27 = .ok (.idiv, 1) := by decide +kernel
theorem dX9_flows_28 : decode cX9_flows 28 = .ok (.iastore, 1) := by decide +kernel
theorem dX9_flows_29 : decode cX9_flows 29 = .ok (.iinc 2 1, 3) := by decide +kernel
theorem dX9_flows_32 : decode cX9_flows 32 = .ok (.goto (-30), 3) := by decide +kernel
theorem dX9_flows_35 : decode cX9_flows 35 = .ok (.return_, 1) := by decide +kernel
theorem dX9_harm_0 : decode cX9_harm 0 = .ok (.iload_n 2, 1) := by decide +kernel
theorem dX9_harm_1 : decode cX9_harm 1 = .ok (.aload_n 0, 1) := by decide +kernel
theorem dX9_harm_2 : decode cX9_harm 2 = .ok (.iload_n 1, 1) := by decide +kernel
theorem dX9_harm_3 : decode cX9_harm 3 = .ok (.iconst 1, 1) := by decide +kernel
theorem dX9_harm_4 : decode cX9_harm 4 = .ok (.invokevirtual 116, 3) := by decide +kernel
theorem dX9_harm_7 : decode cX9_harm 7 = .ok (.isub, 1) := by decide +kernel
theorem dX9_harm_8 : decode cX9_harm 8 = .ok (.istore_n 3, 1) := by decide +kernel
theorem dX9_harm_9 : decode cX9_harm 9 = .ok (.iload_n 3, 1) := by decide +kernel
theorem dX9_harm_10 : decode cX9_harm 10 = .ok (.ifCond .le 14, 3) := by decide +kernel
theorem dX9_harm_13 : decode cX9_harm 13 = .ok (.iload_n 3, 1) := by decide +kernel
theorem dX9_harm_14 : decode cX9_harm 14 = .ok (.aload_n 0, 1) := by decide +kernel
theorem dX9_harm_15 : decode cX9_harm 15 = .ok (.iload_n 1, 1) := by decide +kernel
theorem dX9_harm_16 : decode cX9_harm 16 = .ok (.iconst 2, 1) := by decide +kernel
theorem dX9_harm_17 : decode cX9_harm 17 = .ok (.invokevirtual 116, 3) := by decide +kernel
theorem dX9_harm_20 : decode cX9_harm 20 = .ok (.imul, 1) := by decide +kernel
theorem dX9_harm_21 : decode cX9_harm 21 = .ok (.goto 4, 3) := by decide +kernel
theorem dX9_harm_24 : decode cX9_harm 24 = .ok (.iconst 0, 1) := by decide +kernel
theorem dX9_harm_25 : decode cX9_harm 25 = .ok (.ireturn, 1) := by decide +kernel
theorem dX9_mostOf_0 : decode cX9_mostOf 0 = .ok (.iconst 0, 1) := by decide +kernel
theorem dX9_mostOf_1 : decode cX9_mostOf 1 = .ok (.istore_n 3, 1) := by decide +kernel
theorem dX9_mostOf_2 : decode cX9_mostOf 2 = .ok (.iload_n 1, 1) := by decide +kernel
theorem dX9_mostOf_3 : decode cX9_mostOf 3 = .ok (.istore 4, 2) := by decide +kernel
theorem dX9_mostOf_5 : decode cX9_mostOf 5 = .ok (.iload 4, 2) := by decide +kernel
theorem dX9_mostOf_7 : decode cX9_mostOf 7 = .ok (.iload_n 2, 1) := by decide +kernel
theorem dX9_mostOf_8 : decode cX9_mostOf 8 = .ok (.if_icmp .gt 19, 3) := by decide +kernel
theorem dX9_mostOf_11 : decode cX9_mostOf 11 = .ok (.iload_n 3, 1) := by decide +kernel
theorem dX9_mostOf_12 : decode cX9_mostOf 12 = .ok (.aload_n 0, 1) := by decide +kernel
theorem dX9_mostOf_13 : decode cX9_mostOf 13 = .ok (.getfield 22, 3) := by decide +kernel
theorem dX9_mostOf_16 : decode cX9_mostOf 16 = .ok (.iload 4, 2) := by decide +kernel
theorem dX9_mostOf_18 : decode cX9_mostOf 18 = .ok (.iaload, 1) := by decide +kernel
theorem dX9_mostOf_19 : decode cX9_mostOf 19 = .ok (.iadd, 1) := by decide +kernel
theorem dX9_mostOf_20 : decode cX9_mostOf 20 = .ok (.istore_n 3, 1) := by decide +kernel
theorem dX9_mostOf_21 : decode cX9_mostOf 21 = .ok (.iinc 4 1, 3) := by decide +kernel
theorem dX9_mostOf_24 : decode cX9_mostOf 24 = .ok (.goto (-19), 3) := by decide +kernel
theorem dX9_mostOf_27 : decode cX9_mostOf 27 = .ok (.iconst 0, 1) := by decide +kernel
theorem dX9_mostOf_28 : decode cX9_mostOf 28 = .ok (.istore 4, 2) := by decide +kernel
theorem dX9_mostOf_30 : decode cX9_mostOf 30 = .ok (.iload 4, 2) := by decide +kernel
theorem dX9_mostOf_32 : decode cX9_mostOf 32 = .ok (.iload_n 3, 1) := by decide +kernel
theorem dX9_mostOf_33 : decode cX9_mostOf 33 = .ok (.if_icmp .gt 25, 3) := by decide +kernel
theorem dX9_mostOf_36 : decode cX9_mostOf 36 = .ok (.aload_n 0, 1) := by decide +kernel
theorem dX9_mostOf_37 : decode cX9_mostOf 37 = .ok (.getfield 16, 3) := by decide +kernel
theorem dX9_mostOf_40 : decode cX9_mostOf 40 = .ok (.sipush 160, 3) := by decide +kernel
theorem dX9_mostOf_43 : decode cX9_mostOf 43 = .ok (.iload_n 2, 1) := by decide +kernel
theorem dX9_mostOf_44 : decode cX9_mostOf 44 = .ok (.iconst 1, 1) := by decide +kernel
theorem dX9_mostOf_45 : decode cX9_mostOf 45 = .ok (.iadd, 1) := by decide +kernel
theorem dX9_mostOf_46 : decode cX9_mostOf 46 = .ok (.imul, 1) := by decide +kernel
theorem dX9_mostOf_47 : decode cX9_mostOf 47 = .ok (.iload 4, 2) := by decide +kernel
theorem dX9_mostOf_49 : decode cX9_mostOf 49 = .ok (.iadd, 1) := by decide +kernel
theorem dX9_mostOf_50 : decode cX9_mostOf 50 = .ok (.iconst 0, 1) := by decide +kernel
theorem dX9_mostOf_51 : decode cX9_mostOf 51 = .ok (.iastore, 1) := by decide +kernel
theorem dX9_mostOf_52 : decode cX9_mostOf 52 = .ok (.iinc 4 1, 3) := by decide +kernel
theorem dX9_mostOf_55 : decode cX9_mostOf 55 = .ok (.goto (-25), 3) := by decide +kernel
theorem dX9_mostOf_58 : decode cX9_mostOf 58 = .ok (.iload_n 2, 1) := by decide +kernel
theorem dX9_mostOf_59 : decode cX9_mostOf 59 = .ok (.istore 4, 2) := by decide +kernel
theorem dX9_mostOf_61 : decode cX9_mostOf 61 = .ok (.iload 4, 2) := by decide +kernel
theorem dX9_mostOf_63 : decode cX9_mostOf 63 = .ok (.iload_n 1, 1) := by decide +kernel
theorem dX9_mostOf_64 : decode cX9_mostOf 64 = .ok (.if_icmp .lt 189, 3) := by decide +kernel
theorem dX9_mostOf_67 : decode cX9_mostOf 67 = .ok (.iload 4, 2) := by decide +kernel
theorem dX9_mostOf_69 : decode cX9_mostOf 69 = .ok (.iload_n 2, 1) := by decide +kernel
theorem dX9_mostOf_70 : decode cX9_mostOf 70 = .ok (.if_icmp .ge 15, 3) := by decide +kernel
theorem dX9_mostOf_73 : decode cX9_mostOf 73 = .ok (.aload_n 0, 1) := by decide +kernel
theorem dX9_mostOf_74 : decode cX9_mostOf 74 = .ok (.getfield 22, 3) := by decide +kernel
theorem dX9_mostOf_77 : decode cX9_mostOf 77 = .ok (.iload 4, 2) := by decide +kernel
theorem dX9_mostOf_79 : decode cX9_mostOf 79 = .ok (.iconst 1, 1) := by decide +kernel
theorem dX9_mostOf_80 : decode cX9_mostOf 80 = .ok (.iadd, 1) := by decide +kernel
theorem dX9_mostOf_81 : decode cX9_mostOf 81 = .ok (.iaload, 1) := by decide +kernel
theorem dX9_mostOf_82 : decode cX9_mostOf 82 = .ok (.goto 4, 3) := by decide +kernel
theorem dX9_mostOf_85 : decode cX9_mostOf 85 = .ok (.iconst 0, 1) := by decide +kernel
theorem dX9_mostOf_86 : decode cX9_mostOf 86 = .ok (.istore 5, 2) := by decide +kernel
theorem dX9_mostOf_88 : decode cX9_mostOf 88 = .ok (.iload_n 3, 1) := by decide +kernel
theorem dX9_mostOf_89 : decode cX9_mostOf 89 = .ok (.iload 4, 2) := by decide +kernel
theorem dX9_mostOf_91 : decode cX9_mostOf 91 = .ok (.iload_n 2, 1) := by decide +kernel
theorem dX9_mostOf_92 : decode cX9_mostOf 92 = .ok (.if_icmp .ge 8, 3) := by decide +kernel
theorem dX9_mostOf_95 : decode cX9_mostOf 95 = .ok (.iload 5, 2) := by decide +kernel
theorem dX9_mostOf_97 : decode cX9_mostOf 97 = .ok (.goto 4, 3) := by decide +kernel
theorem dX9_mostOf_100 : decode cX9_mostOf 100 = .ok (.iconst 0, 1) := by decide +kernel
theorem dX9_mostOf_101 : decode cX9_mostOf 101 = .ok (.isub, 1) := by decide +kernel
theorem dX9_mostOf_102 : decode cX9_mostOf 102 = .ok (.istore_n 3, 1) := by decide +kernel
theorem dX9_mostOf_103 : decode cX9_mostOf 103 = .ok (.iconst 0, 1) := by decide +kernel
theorem dX9_mostOf_104 : decode cX9_mostOf 104 = .ok (.istore 6, 2) := by decide +kernel
theorem dX9_mostOf_106 : decode cX9_mostOf 106 = .ok (.iload 6, 2) := by decide +kernel
theorem dX9_mostOf_108 : decode cX9_mostOf 108 = .ok (.iload_n 3, 1) := by decide +kernel
theorem dX9_mostOf_109 : decode cX9_mostOf 109 = .ok (.if_icmp .gt 138, 3) := by decide +kernel
theorem dX9_mostOf_112 : decode cX9_mostOf 112 = .ok (.iconst 0, 1) := by decide +kernel
theorem dX9_mostOf_113 : decode cX9_mostOf 113 = .ok (.istore 7, 2) := by decide +kernel
theorem dX9_mostOf_115 : decode cX9_mostOf 115 = .ok (.iconst 0, 1) := by decide +kernel
theorem dX9_mostOf_116 : decode cX9_mostOf 116 = .ok (.istore 8, 2) := by decide +kernel
theorem dX9_mostOf_118 : decode cX9_mostOf 118 = .ok (.iload 8, 2) := by decide +kernel
theorem dX9_mostOf_120 : decode cX9_mostOf 120 = .ok (.bipush 12, 2) := by decide +kernel
theorem dX9_mostOf_122 : decode cX9_mostOf 122 = .ok (.if_icmp .gt 103, 3) := by decide +kernel
theorem dX9_mostOf_125 : decode cX9_mostOf 125 = .ok (.iload 8, 2) := by decide +kernel
theorem dX9_mostOf_127 : decode cX9_mostOf 127 = .ok (.iload 6, 2) := by decide +kernel
theorem dX9_mostOf_129 : decode cX9_mostOf 129 = .ok (.if_icmp .gt 96, 3) := by decide +kernel
theorem dX9_mostOf_132 : decode cX9_mostOf 132 = .ok (.aload_n 0, 1) := by decide +kernel
theorem dX9_mostOf_133 : decode cX9_mostOf 133 = .ok (.iload 4, 2) := by decide +kernel
theorem dX9_mostOf_135 : decode cX9_mostOf 135 = .ok (.iload 8, 2) := by decide +kernel
theorem dX9_mostOf_137 : decode cX9_mostOf 137 = .ok (.invokevirtual 123, 3) := by decide +kernel
theorem dX9_mostOf_140 : decode cX9_mostOf 140 = .ok (.aload_n 0, 1) := by decide +kernel
theorem dX9_mostOf_141 : decode cX9_mostOf 141 = .ok (.iload 4, 2) := by decide +kernel
theorem dX9_mostOf_143 : decode cX9_mostOf 143 = .ok (.iload 6, 2) := by decide +kernel
theorem dX9_mostOf_145 : decode cX9_mostOf 145 = .ok (.iload 8, 2) := by decide +kernel
theorem dX9_mostOf_147 : decode cX9_mostOf 147 = .ok (.isub, 1) := by decide +kernel
theorem dX9_mostOf_148 : decode cX9_mostOf 148 = .ok (.invokevirtual 126, 3) := by decide +kernel
theorem dX9_mostOf_151 : decode cX9_mostOf 151 = .ok (.isub, 1) := by decide +kernel
theorem dX9_mostOf_152 : decode cX9_mostOf 152 = .ok (.aload_n 0, 1) := by decide +kernel
theorem dX9_mostOf_153 : decode cX9_mostOf 153 = .ok (.getfield 16, 3) := by decide +kernel
theorem dX9_mostOf_156 : decode cX9_mostOf 156 = .ok (.sipush 160, 3) := by decide +kernel
theorem dX9_mostOf_159 : decode cX9_mostOf 159 = .ok (.iload 4, 2) := by decide +kernel
theorem dX9_mostOf_161 : decode cX9_mostOf 161 = .ok (.iconst 1, 1) := by decide +kernel
theorem dX9_mostOf_162 : decode cX9_mostOf 162 = .ok (.iadd, 1) := by decide +kernel
theorem dX9_mostOf_163 : decode cX9_mostOf 163 = .ok (.imul, 1) := by decide +kernel
theorem dX9_mostOf_164 : decode cX9_mostOf 164 = .ok (.iload 4, 2) := by decide +kernel
theorem dX9_mostOf_166 : decode cX9_mostOf 166 = .ok (.iload_n 2, 1) := by decide +kernel
theorem dX9_mostOf_167 : decode cX9_mostOf 167 = .ok (.if_icmp .ge 14, 3) := by decide +kernel
theorem dX9_mostOf_170 : decode cX9_mostOf 170 = .ok (.iload 6, 2) := by decide +kernel
theorem dX9_mostOf_172 : decode cX9_mostOf 172 = .ok (.iload 8, 2) := by decide +kernel
theorem dX9_mostOf_174 : decode cX9_mostOf 174 = .ok (.isub, 1) := by decide +kernel
theorem dX9_mostOf_175 : decode cX9_mostOf 175 = .ok (.iload 5, 2) := by decide +kernel
theorem dX9_mostOf_177 : decode cX9_mostOf 177 = .ok (.iadd, 1) := by decide +kernel
theorem dX9_mostOf_178 : decode cX9_mostOf 178 = .ok (.goto 4, 3) := by decide +kernel
theorem dX9_mostOf_181 : decode cX9_mostOf 181 = .ok (.iconst 0, 1) := by decide +kernel
theorem dX9_mostOf_182 : decode cX9_mostOf 182 = .ok (.iadd, 1) := by decide +kernel
theorem dX9_mostOf_183 : decode cX9_mostOf 183 = .ok (.iaload, 1) := by decide +kernel
theorem dX9_mostOf_184 : decode cX9_mostOf 184 = .ok (.iadd, 1) := by decide +kernel
theorem dX9_mostOf_185 : decode cX9_mostOf 185 = .ok (.istore 9, 2) := by decide +kernel
theorem dX9_mostOf_187 : decode cX9_mostOf 187 = .ok (.iload 8, 2) := by decide +kernel
theorem dX9_mostOf_189 : decode cX9_mostOf 189 = .ok (.ifCond .eq 10, 3) := by decide +kernel
theorem dX9_mostOf_192 : decode cX9_mostOf 192 = .ok (.iload 9, 2) := by decide +kernel
theorem dX9_mostOf_194 : decode cX9_mostOf 194 = .ok (.iload 7, 2) := by decide +kernel
theorem dX9_mostOf_196 : decode cX9_mostOf 196 = .ok (.if_icmp .le 23, 3) := by decide +kernel
theorem dX9_mostOf_199 : decode cX9_mostOf 199 = .ok (.iload 9, 2) := by decide +kernel
theorem dX9_mostOf_201 : decode cX9_mostOf 201 = .ok (.istore 7, 2) := by decide +kernel
theorem dX9_mostOf_203 : decode cX9_mostOf 203 = .ok (.aload_n 0, 1) := by decide +kernel
theorem dX9_mostOf_204 : decode cX9_mostOf 204 = .ok (.getfield 19, 3) := by decide +kernel
theorem dX9_mostOf_207 : decode cX9_mostOf 207 = .ok (.sipush 160, 3) := by decide +kernel
theorem dX9_mostOf_210 : decode cX9_mostOf 210 = .ok (.iload 4, 2) := by decide +kernel
theorem dX9_mostOf_212 : decode cX9_mostOf 212 = .ok (.imul, 1) := by decide +kernel
theorem dX9_mostOf_213 : decode cX9_mostOf 213 = .ok (.iload 6, 2) := by decide +kernel
theorem dX9_mostOf_215 : decode cX9_mostOf 215 = .ok (.iadd, 1) := by decide +kernel
theorem dX9_mostOf_216 : decode cX9_mostOf 216 = .ok (.iload 8, 2) := by decide +kernel
theorem dX9_mostOf_218 : decode cX9_mostOf 218 = .ok (.iastore, 1) := by decide +kernel
theorem dX9_mostOf_219 : decode cX9_mostOf 219 = .ok (.iinc 8 1, 3) := by decide +kernel
theorem dX9_mostOf_222 : decode cX9_mostOf 222 = .ok (.goto (-104), 3) := by decide +kernel
theorem dX9_mostOf_225 : decode cX9_mostOf 225 = .ok (.aload_n 0, 1) := by decide +kernel
theorem dX9_mostOf_226 : decode cX9_mostOf 226 = .ok (.getfield 16, 3) := by decide +kernel
theorem dX9_mostOf_229 : decode cX9_mostOf 229 = .ok (.sipush 160, 3) := by decide +kernel
theorem dX9_mostOf_232 : decode cX9_mostOf 232 = .ok (.iload 4, 2) := by decide +kernel
theorem dX9_mostOf_234 : decode cX9_mostOf 234 = .ok (.imul, 1) := by decide +kernel
theorem dX9_mostOf_235 : decode cX9_mostOf 235 = .ok (.iload 6, 2) := by decide +kernel
theorem dX9_mostOf_237 : decode cX9_mostOf 237 = .ok (.iadd, 1) := by decide +kernel
theorem dX9_mostOf_238 : decode cX9_mostOf 238 = .ok (.iload 7, 2) := by decide +kernel
theorem dX9_mostOf_240 : decode cX9_mostOf 240 = .ok (.iastore, 1) := by decide +kernel
theorem dX9_mostOf_241 : decode cX9_mostOf 241 = .ok (.iinc 6 1, 3) := by decide +kernel
theorem dX9_mostOf_244 : decode cX9_mostOf 244 = .ok (.goto (-138), 3) := by decide +kernel
theorem dX9_mostOf_247 : decode cX9_mostOf 247 = .ok (.iinc 4 (-1), 3) := by decide +kernel
theorem dX9_mostOf_250 : decode cX9_mostOf 250 = .ok (.goto (-189), 3) := by decide +kernel
theorem dX9_mostOf_253 : decode cX9_mostOf 253 = .ok (.aload_n 0, 1) := by decide +kernel
theorem dX9_mostOf_254 : decode cX9_mostOf 254 = .ok (.getfield 16, 3) := by decide +kernel
theorem dX9_mostOf_257 : decode cX9_mostOf 257 = .ok (.sipush 160, 3) := by decide +kernel
theorem dX9_mostOf_260 : decode cX9_mostOf 260 = .ok (.iload_n 1, 1) := by decide +kernel
theorem dX9_mostOf_261 : decode cX9_mostOf 261 = .ok (.imul, 1) := by decide +kernel
theorem dX9_mostOf_262 : decode cX9_mostOf 262 = .ok (.aload_n 0, 1) := by decide +kernel
theorem dX9_mostOf_263 : decode cX9_mostOf 263 = .ok (.getfield 22, 3) := by decide +kernel
theorem dX9_mostOf_266 : decode cX9_mostOf 266 = .ok (.iload_n 1, 1) := by decide +kernel
theorem dX9_mostOf_267 : decode cX9_mostOf 267 = .ok (.iaload, 1) := by decide +kernel
theorem dX9_mostOf_268 : decode cX9_mostOf 268 = .ok (.iadd, 1) := by decide +kernel
theorem dX9_mostOf_269 : decode cX9_mostOf 269 = .ok (.iaload, 1) := by decide +kernel
theorem dX9_mostOf_270 : decode cX9_mostOf 270 = .ok (.ireturn, 1) := by decide +kernel
theorem dX9_bestOf_0 : decode cX9_bestOf 0 = .ok (.aload_n 0, 1) := by decide +kernel
theorem dX9_bestOf_1 : decode cX9_bestOf 1 = .ok (.getfield 9, 3) := by decide +kernel
theorem dX9_bestOf_4 : decode cX9_bestOf 4 = .ok (.iconst 0, 1) := by decide +kernel
theorem dX9_bestOf_5 : decode cX9_bestOf 5 = .ok (.iaload, 1) := by decide +kernel
theorem dX9_bestOf_6 : decode cX9_bestOf 6 = .ok (.ifCond .ne 5, 3) := by decide +kernel
theorem dX9_bestOf_9 : decode cX9_bestOf 9 = .ok (.iconst 0, 1) := by decide +kernel
theorem dX9_bestOf_10 : decode cX9_bestOf 10 = .ok (.ireturn, 1) := by decide +kernel
theorem dX9_bestOf_11 : decode cX9_bestOf 11 = .ok (.aload_n 0, 1) := by decide +kernel
theorem dX9_bestOf_12 : decode cX9_bestOf 12 = .ok (.iload_n 1, 1) := by decide +kernel
theorem dX9_bestOf_13 : decode cX9_bestOf 13 = .ok (.invokevirtual 129, 3) := by decide +kernel
theorem dX9_bestOf_16 : decode cX9_bestOf 16 = .ok (.aload_n 0, 1) := by decide +kernel
theorem dX9_bestOf_17 : decode cX9_bestOf 17 = .ok (.iconst 0, 1) := by decide +kernel
theorem dX9_bestOf_18 : decode cX9_bestOf 18 = .ok (.aload_n 0, 1) := by decide +kernel
theorem dX9_bestOf_19 : decode cX9_bestOf 19 = .ok (.getfield 9, 3) := by decide +kernel
theorem dX9_bestOf_22 : decode cX9_bestOf 22 = .ok (.iconst 0, 1) := by decide +kernel
theorem dX9_bestOf_23 : decode cX9_bestOf 23 = .ok (.iaload, 1) := by decide +kernel
theorem dX9_bestOf_24 : decode cX9_bestOf 24 = .ok (.iconst 1, 1) := by decide +kernel
theorem dX9_bestOf_25 : decode cX9_bestOf 25 = .ok (.isub, 1) := by decide +kernel
theorem dX9_bestOf_26 : decode cX9_bestOf 26 = .ok (.invokevirtual 133, 3) := by decide +kernel
theorem dX9_bestOf_29 : decode cX9_bestOf 29 = .ok (.ireturn, 1) := by decide +kernel
theorem dX9_best_0 : decode cX9_best 0 = .ok (.iload_n 1, 1) := by decide +kernel
theorem dX9_best_1 : decode cX9_best 1 = .ok (.iconst 0, 1) := by decide +kernel
theorem dX9_best_2 : decode cX9_best 2 = .ok (.bipush 20, 2) := by decide +kernel
theorem dX9_best_4 : decode cX9_best 4 = .ok (.invokestatic 104, 3) := by decide +kernel
theorem dX9_best_7 : decode cX9_best 7 = .ok (.ifCond .eq 11, 3) := by decide +kernel
theorem dX9_best_10 : decode cX9_best 10 = .ok (.aload_n 0, 1) := by decide +kernel
theorem dX9_best_11 : decode cX9_best 11 = .ok (.iload_n 1, 1) := by decide +kernel
theorem dX9_best_12 : decode cX9_best 12 = .ok (.invokevirtual 136, 3) := by decide +kernel
theorem dX9_best_15 : decode cX9_best 15 = .ok (.goto 5, 3) := by decide +kernel
theorem dX9_best_18 : decode cX9_best 18 = .ok (.ldc 140, 2) := by decide +kernel
theorem dX9_best_20 : decode cX9_best 20 = .ok (.ireturn, 1) := by decide +kernel
theorem dX9_findBest_0 : decode cX9_findBest 0 = .ok (.aload_n 0, 1) := by decide +kernel
theorem dX9_findBest_1 : decode cX9_findBest 1 = .ok (.bipush 10, 2) := by decide +kernel
theorem dX9_findBest_3 : decode cX9_findBest 3 = .ok (.invokevirtual 136, 3) := by decide +kernel
theorem dX9_findBest_6 : decode cX9_findBest 6 = .ok (.istore_n 1, 1) := by decide +kernel
theorem dX9_findBest_7 : decode cX9_findBest 7 = .ok (.iconst 0, 1) := by decide +kernel
theorem dX9_findBest_8 : decode cX9_findBest 8 = .ok (.istore_n 2, 1) := by decide +kernel
theorem dX9_findBest_9 : decode cX9_findBest 9 = .ok (.iconst 0, 1) := by decide +kernel
theorem dX9_findBest_10 : decode cX9_findBest 10 = .ok (.istore_n 3, 1) := by decide +kernel
theorem dX9_findBest_11 : decode cX9_findBest 11 = .ok (.iload_n 3, 1) := by decide +kernel
theorem dX9_findBest_12 : decode cX9_findBest 12 = .ok (.aload_n 0, 1) := by decide +kernel
theorem dX9_findBest_13 : decode cX9_findBest 13 = .ok (.getfield 9, 3) := by decide +kernel
theorem dX9_findBest_16 : decode cX9_findBest 16 = .ok (.iconst 0, 1) := by decide +kernel
theorem dX9_findBest_17 : decode cX9_findBest 17 = .ok (.iaload, 1) := by decide +kernel
theorem dX9_findBest_18 : decode cX9_findBest 18 = .ok (.if_icmp .ge 89, 3) := by decide +kernel
theorem dX9_findBest_21 : decode cX9_findBest 21 = .ok (.iload_n 2, 1) := by decide +kernel
theorem dX9_findBest_22 : decode cX9_findBest 22 = .ok (.aload_n 0, 1) := by decide +kernel
theorem dX9_findBest_23 : decode cX9_findBest 23 = .ok (.getfield 22, 3) := by decide +kernel
theorem dX9_findBest_26 : decode cX9_findBest 26 = .ok (.iload_n 3, 1) := by decide +kernel
theorem dX9_findBest_27 : decode cX9_findBest 27 = .ok (.iaload, 1) := by decide +kernel
theorem dX9_findBest_28 : decode cX9_findBest 28 = .ok (.iadd, 1) := by decide +kernel
theorem dX9_findBest_29 : decode cX9_findBest 29 = .ok (.istore 4, 2) := by decide +kernel
theorem dX9_findBest_31 : decode cX9_findBest 31 = .ok (.aload_n 0, 1) := by decide +kernel
theorem dX9_findBest_32 : decode cX9_findBest 32 = .ok (.getfield 25, 3) := by decide +kernel
theorem dX9_findBest_35 : decode cX9_findBest 35 = .ok (.iload_n 3, 1) := by decide +kernel
theorem dX9_findBest_36 : decode cX9_findBest 36 = .ok (.aload_n 0, 1) := by decide +kernel
theorem dX9_findBest_37 : decode cX9_findBest 37 = .ok (.getfield 19, 3) := by decide +kernel
theorem dX9_findBest_40 : decode cX9_findBest 40 = .ok (.sipush 160, 3) := by decide +kernel
theorem dX9_findBest_43 : decode cX9_findBest 43 = .ok (.iload_n 3, 1) := by decide +kernel
theorem dX9_findBest_44 : decode cX9_findBest 44 = .ok (.imul, 1) := by decide +kernel
theorem dX9_findBest_45 : decode cX9_findBest 45 = .ok (.iload 4, 2) := by decide +kernel
theorem dX9_findBest_47 : decode cX9_findBest 47 = .ok (.iadd, 1) := by decide +kernel
theorem dX9_findBest_48 : decode cX9_findBest 48 = .ok (.iaload, 1) := by decide +kernel
theorem dX9_findBest_49 : decode cX9_findBest 49 = .ok (.iastore, 1) := by decide +kernel
theorem dX9_findBest_50 : decode cX9_findBest 50 = .ok (.aload_n 0, 1) := by decide +kernel
theorem dX9_findBest_51 : decode cX9_findBest 51 = .ok (.getfield 28, 3) := by decide +kernel
theorem dX9_findBest_54 : decode cX9_findBest 54 = .ok (.iload_n 3, 1) := by decide +kernel
theorem dX9_findBest_55 : decode cX9_findBest 55 = .ok (.iload 4, 2) := by decide +kernel
theorem dX9_findBest_57 : decode cX9_findBest 57 = .ok (.aload_n 0, 1) := by decide +kernel
theorem dX9_findBest_58 : decode cX9_findBest 58 = .ok (.getfield 25, 3) := by decide +kernel
theorem dX9_findBest_61 : decode cX9_findBest 61 = .ok (.iload_n 3, 1) := by decide +kernel
theorem dX9_findBest_62 : decode cX9_findBest 62 = .ok (.iaload, 1) := by decide +kernel
theorem dX9_findBest_63 : decode cX9_findBest 63 = .ok (.isub, 1) := by decide +kernel
theorem dX9_findBest_64 : decode cX9_findBest 64 = .ok (.iastore, 1) := by decide +kernel
theorem dX9_findBest_65 : decode cX9_findBest 65 = .ok (.aload_n 0, 1) := by decide +kernel
theorem dX9_findBest_66 : decode cX9_findBest 66 = .ok (.getfield 31, 3) := by decide +kernel
theorem dX9_findBest_69 : decode cX9_findBest 69 = .ok (.iload_n 3, 1) := by decide +kernel
theorem dX9_findBest_70 : decode cX9_findBest 70 = .ok (.aload_n 0, 1) := by decide +kernel
theorem dX9_findBest_71 : decode cX9_findBest 71 = .ok (.iload_n 3, 1) := by decide +kernel
theorem dX9_findBest_72 : decode cX9_findBest 72 = .ok (.aload_n 0, 1) := by decide +kernel
theorem dX9_findBest_73 : decode cX9_findBest 73 = .ok (.getfield 25, 3) := by decide +kernel
theorem dX9_findBest_76 : decode cX9_findBest 76 = .ok (.iload_n 3, 1) := by decide +kernel
theorem dX9_findBest_77 : decode cX9_findBest 77 = .ok (.iaload, 1) := by decide +kernel
theorem dX9_findBest_78 : decode cX9_findBest 78 = .ok (.invokevirtual 123, 3) := by decide +kernel
theorem dX9_findBest_81 : decode cX9_findBest 81 = .ok (.aload_n 0, 1) := by decide +kernel
theorem dX9_findBest_82 : decode cX9_findBest 82 = .ok (.iload_n 3, 1) := by decide +kernel
theorem dX9_findBest_83 : decode cX9_findBest 83 = .ok (.aload_n 0, 1) := by decide +kernel
theorem dX9_findBest_84 : decode cX9_findBest 84 = .ok (.getfield 28, 3) := by decide +kernel
theorem dX9_findBest_87 : decode cX9_findBest 87 = .ok (.iload_n 3, 1) := by decide +kernel
theorem dX9_findBest_88 : decode cX9_findBest 88 = .ok (.iaload, 1) := by decide +kernel
theorem dX9_findBest_89 : decode cX9_findBest 89 = .ok (.invokevirtual 126, 3) := by decide +kernel
theorem dX9_findBest_92 : decode cX9_findBest 92 = .ok (.isub, 1) := by decide +kernel
theorem dX9_findBest_93 : decode cX9_findBest 93 = .ok (.iastore, 1) := by decide +kernel
theorem dX9_findBest_94 : decode cX9_findBest 94 = .ok (.aload_n 0, 1) := by decide +kernel
theorem dX9_findBest_95 : decode cX9_findBest 95 = .ok (.getfield 28, 3) := by decide +kernel
theorem dX9_findBest_98 : decode cX9_findBest 98 = .ok (.iload_n 3, 1) := by decide +kernel
theorem dX9_findBest_99 : decode cX9_findBest 99 = .ok (.iaload, 1) := by decide +kernel
theorem dX9_findBest_100 : decode cX9_findBest 100 = .ok (.istore_n 2, 1) := by decide +kernel
theorem dX9_findBest_101 : decode cX9_findBest 101 = .ok (.iinc 3 1, 3) := by decide +kernel
theorem dX9_findBest_104 : decode cX9_findBest 104 = .ok (.goto (-93), 3) := by decide +kernel
theorem dX9_findBest_107 : decode cX9_findBest 107 = .ok (.iload_n 1, 1) := by decide +kernel
theorem dX9_findBest_108 : decode cX9_findBest 108 = .ok (.ireturn, 1) := by decide +kernel
theorem dX9_use_0 : decode cX9_use 0 = .ok (.aload_n 0, 1) := by decide +kernel
theorem dX9_use_1 : decode cX9_use 1 = .ok (.iload_n 1, 1) := by decide +kernel
theorem dX9_use_2 : decode cX9_use 2 = .ok (.invokevirtual 112, 3) := by decide +kernel
theorem dX9_use_5 : decode cX9_use 5 = .ok (.ifCond .eq 12, 3) := by decide +kernel
theorem dX9_use_8 : decode cX9_use 8 = .ok (.iload_n 2, 1) := by decide +kernel
theorem dX9_use_9 : decode cX9_use 9 = .ok (.iconst 0, 1) := by decide +kernel
theorem dX9_use_10 : decode cX9_use 10 = .ok (.iconst 2, 1) := by decide +kernel
theorem dX9_use_11 : decode cX9_use 11 = .ok (.invokestatic 104, 3) := by decide +kernel
theorem dX9_use_14 : decode cX9_use 14 = .ok (.ifCond .ne 6, 3) := by decide +kernel
theorem dX9_use_17 : decode cX9_use 17 = .ok (.ldc 140, 2) := by decide +kernel
theorem dX9_use_19 : decode cX9_use 19 = .ok (.ireturn, 1) := by decide +kernel
theorem dX9_use_20 : decode cX9_use 20 = .ok (.aload_n 0, 1) := by decide +kernel
theorem dX9_use_21 : decode cX9_use 21 = .ok (.invokevirtual 141, 3) := by decide +kernel
theorem dX9_use_24 : decode cX9_use 24 = .ok (.istore_n 3, 1) := by decide +kernel
theorem dX9_use_25 : decode cX9_use 25 = .ok (.iload_n 2, 1) := by decide +kernel
theorem dX9_use_26 : decode cX9_use 26 = .ok (.ifCond .ne 12, 3) := by decide +kernel
theorem dX9_use_29 : decode cX9_use 29 = .ok (.aload_n 0, 1) := by decide +kernel
theorem dX9_use_30 : decode cX9_use 30 = .ok (.getfield 25, 3) := by decide +kernel
theorem dX9_use_33 : decode cX9_use 33 = .ok (.iload_n 1, 1) := by decide +kernel
theorem dX9_use_34 : decode cX9_use 34 = .ok (.iaload, 1) := by decide +kernel
theorem dX9_use_35 : decode cX9_use 35 = .ok (.goto 23, 3) := by decide +kernel
theorem dX9_use_38 : decode cX9_use 38 = .ok (.iload_n 2, 1) := by decide +kernel
theorem dX9_use_39 : decode cX9_use 39 = .ok (.iconst 1, 1) := by decide +kernel
theorem dX9_use_40 : decode cX9_use 40 = .ok (.if_icmp .ne 12, 3) := by decide +kernel
theorem dX9_use_43 : decode cX9_use 43 = .ok (.aload_n 0, 1) := by decide +kernel
theorem dX9_use_44 : decode cX9_use 44 = .ok (.getfield 28, 3) := by decide +kernel
theorem dX9_use_47 : decode cX9_use 47 = .ok (.iload_n 1, 1) := by decide +kernel
theorem dX9_use_48 : decode cX9_use 48 = .ok (.iaload, 1) := by decide +kernel
theorem dX9_use_49 : decode cX9_use 49 = .ok (.goto 9, 3) := by decide +kernel
theorem dX9_use_52 : decode cX9_use 52 = .ok (.aload_n 0, 1) := by decide +kernel
theorem dX9_use_53 : decode cX9_use 53 = .ok (.getfield 31, 3) := by decide +kernel
theorem dX9_use_56 : decode cX9_use 56 = .ok (.iload_n 1, 1) := by decide +kernel
theorem dX9_use_57 : decode cX9_use 57 = .ok (.iaload, 1) := by decide +kernel
theorem dX9_use_58 : decode cX9_use 58 = .ok (.ireturn, 1) := by decide +kernel
theorem dX9_price_0 : decode cX9_price 0 = .ok (.aload_n 0, 1) := by decide +kernel
theorem dX9_price_1 : decode cX9_price 1 = .ok (.iload_n 1, 1) := by decide +kernel
theorem dX9_price_2 : decode cX9_price 2 = .ok (.invokevirtual 112, 3) := by decide +kernel
theorem dX9_price_5 : decode cX9_price 5 = .ok (.ifCond .ne 6, 3) := by decide +kernel
theorem dX9_price_8 : decode cX9_price 8 = .ok (.ldc 140, 2) := by decide +kernel
theorem dX9_price_10 : decode cX9_price 10 = .ok (.ireturn, 1) := by decide +kernel
theorem dX9_price_11 : decode cX9_price 11 = .ok (.aload_n 0, 1) := by decide +kernel
theorem dX9_price_12 : decode cX9_price 12 = .ok (.bipush 10, 2) := by decide +kernel
theorem dX9_price_14 : decode cX9_price 14 = .ok (.invokevirtual 136, 3) := by decide +kernel
theorem dX9_price_17 : decode cX9_price 17 = .ok (.istore_n 2, 1) := by decide +kernel
theorem dX9_price_18 : decode cX9_price 18 = .ok (.aload_n 0, 1) := by decide +kernel
theorem dX9_price_19 : decode cX9_price 19 = .ok (.getfield 22, 3) := by decide +kernel
theorem dX9_price_22 : decode cX9_price 22 = .ok (.iload_n 1, 1) := by decide +kernel
theorem dX9_price_23 : decode cX9_price 23 = .ok (.dup2, 1) := by decide +kernel
theorem dX9_price_24 : decode cX9_price 24 = .ok (.iaload, 1) := by decide +kernel
theorem dX9_price_25 : decode cX9_price 25 = .ok (.iconst 1, 1) := by decide +kernel
theorem dX9_price_26 : decode cX9_price 26 = .ok (.iadd, 1) := by decide +kernel
theorem dX9_price_27 : decode cX9_price 27 = .ok (.iastore, 1) := by decide +kernel
theorem dX9_price_28 : decode cX9_price 28 = .ok (.aload_n 0, 1) := by decide +kernel
theorem dX9_price_29 : decode cX9_price 29 = .ok (.iconst 0, 1) := by decide +kernel
theorem dX9_price_30 : decode cX9_price 30 = .ok (.aload_n 0, 1) := by decide +kernel
theorem dX9_price_31 : decode cX9_price 31 = .ok (.getfield 9, 3) := by decide +kernel
theorem dX9_price_34 : decode cX9_price 34 = .ok (.iconst 0, 1) := by decide +kernel
theorem dX9_price_35 : decode cX9_price 35 = .ok (.iaload, 1) := by decide +kernel
theorem dX9_price_36 : decode cX9_price 36 = .ok (.iconst 1, 1) := by decide +kernel
theorem dX9_price_37 : decode cX9_price 37 = .ok (.isub, 1) := by decide +kernel
theorem dX9_price_38 : decode cX9_price 38 = .ok (.invokevirtual 133, 3) := by decide +kernel
theorem dX9_price_41 : decode cX9_price 41 = .ok (.iload_n 2, 1) := by decide +kernel
theorem dX9_price_42 : decode cX9_price 42 = .ok (.isub, 1) := by decide +kernel
theorem dX9_price_43 : decode cX9_price 43 = .ok (.ireturn, 1) := by decide +kernel
theorem dX9_runOf_0 : decode cX9_runOf 0 = .ok (.aload_n 0, 1) := by decide +kernel
theorem dX9_runOf_1 : decode cX9_runOf 1 = .ok (.bipush 10, 2) := by decide +kernel
theorem dX9_runOf_3 : decode cX9_runOf 3 = .ok (.invokevirtual 129, 3) := by decide +kernel
theorem dX9_runOf_6 : decode cX9_runOf 6 = .ok (.aload_n 0, 1) := by decide +kernel
theorem dX9_runOf_7 : decode cX9_runOf 7 = .ok (.iload_n 1, 1) := by decide +kernel
theorem dX9_runOf_8 : decode cX9_runOf 8 = .ok (.iload_n 2, 1) := by decide +kernel
theorem dX9_runOf_9 : decode cX9_runOf 9 = .ok (.invokevirtual 133, 3) := by decide +kernel
theorem dX9_runOf_12 : decode cX9_runOf 12 = .ok (.ireturn, 1) := by decide +kernel
theorem dX9_run_0 : decode cX9_run 0 = .ok (.aload_n 0, 1) := by decide +kernel
theorem dX9_run_1 : decode cX9_run 1 = .ok (.iload_n 1, 1) := by decide +kernel
theorem dX9_run_2 : decode cX9_run 2 = .ok (.invokevirtual 112, 3) := by decide +kernel
theorem dX9_run_5 : decode cX9_run 5 = .ok (.ifCond .eq 25, 3) := by decide +kernel
theorem dX9_run_8 : decode cX9_run 8 = .ok (.aload_n 0, 1) := by decide +kernel
theorem dX9_run_9 : decode cX9_run 9 = .ok (.iload_n 2, 1) := by decide +kernel
theorem dX9_run_10 : decode cX9_run 10 = .ok (.invokevirtual 112, 3) := by decide +kernel
theorem dX9_run_13 : decode cX9_run 13 = .ok (.ifCond .eq 17, 3) := by decide +kernel
theorem dX9_run_16 : decode cX9_run 16 = .ok (.iload_n 1, 1) := by decide +kernel
theorem dX9_run_17 : decode cX9_run 17 = .ok (.iload_n 2, 1) := by decide +kernel
theorem dX9_run_18 : decode cX9_run 18 = .ok (.if_icmp .gt 12, 3) := by decide +kernel
theorem dX9_run_21 : decode cX9_run 21 = .ok (.aload_n 0, 1) := by decide +kernel
theorem dX9_run_22 : decode cX9_run 22 = .ok (.iload_n 1, 1) := by decide +kernel
theorem dX9_run_23 : decode cX9_run 23 = .ok (.iload_n 2, 1) := by decide +kernel
theorem dX9_run_24 : decode cX9_run 24 = .ok (.invokevirtual 145, 3) := by decide +kernel
theorem dX9_run_27 : decode cX9_run 27 = .ok (.goto 5, 3) := by decide +kernel
theorem dX9_run_30 : decode cX9_run 30 = .ok (.ldc 140, 2) := by decide +kernel
theorem dX9_run_32 : decode cX9_run 32 = .ok (.ireturn, 1) := by decide +kernel
theorem dX9_mostFor_0 : decode cX9_mostFor 0 = .ok (.iconst 0, 1) := by decide +kernel
theorem dX9_mostFor_1 : decode cX9_mostFor 1 = .ok (.istore_n 2, 1) := by decide +kernel
theorem dX9_mostFor_2 : decode cX9_mostFor 2 = .ok (.iconst 0, 1) := by decide +kernel
theorem dX9_mostFor_3 : decode cX9_mostFor 3 = .ok (.istore_n 3, 1) := by decide +kernel
theorem dX9_mostFor_4 : decode cX9_mostFor 4 = .ok (.iload_n 3, 1) := by decide +kernel
theorem dX9_mostFor_5 : decode cX9_mostFor 5 = .ok (.iload_n 1, 1) := by decide +kernel
theorem dX9_mostFor_6 : decode cX9_mostFor 6 = .ok (.if_icmp .gt 18, 3) := by decide +kernel
theorem dX9_mostFor_9 : decode cX9_mostFor 9 = .ok (.iload_n 2, 1) := by decide +kernel
theorem dX9_mostFor_10 : decode cX9_mostFor 10 = .ok (.aload_n 0, 1) := by decide +kernel
theorem dX9_mostFor_11 : decode cX9_mostFor 11 = .ok (.iload_n 3, 1) := by decide +kernel
theorem dX9_mostFor_12 : decode cX9_mostFor 12 = .ok (.iconst 0, 1) := by decide +kernel
theorem dX9_mostFor_13 : decode cX9_mostFor 13 = .ok (.invokevirtual 116, 3) := by decide +kernel
theorem dX9_mostFor_16 : decode cX9_mostFor 16 = .ok (.iadd, 1) := by decide +kernel
theorem dX9_mostFor_17 : decode cX9_mostFor 17 = .ok (.istore_n 2, 1) := by decide +kernel
theorem dX9_mostFor_18 : decode cX9_mostFor 18 = .ok (.iinc 3 1, 3) := by decide +kernel
theorem dX9_mostFor_21 : decode cX9_mostFor 21 = .ok (.goto (-17), 3) := by decide +kernel
theorem dX9_mostFor_24 : decode cX9_mostFor 24 = .ok (.aload_n 0, 1) := by decide +kernel
theorem dX9_mostFor_25 : decode cX9_mostFor 25 = .ok (.iload_n 1, 1) := by decide +kernel
theorem dX9_mostFor_26 : decode cX9_mostFor 26 = .ok (.iload_n 2, 1) := by decide +kernel
theorem dX9_mostFor_27 : decode cX9_mostFor 27 = .ok (.bipush 12, 2) := by decide +kernel
theorem dX9_mostFor_29 : decode cX9_mostFor 29 = .ok (.if_icmp .ge 7, 3) := by decide +kernel
theorem dX9_mostFor_32 : decode cX9_mostFor 32 = .ok (.iload_n 2, 1) := by decide +kernel
theorem dX9_mostFor_33 : decode cX9_mostFor 33 = .ok (.goto 5, 3) := by decide +kernel
theorem dX9_mostFor_36 : decode cX9_mostFor 36 = .ok (.bipush 12, 2) := by decide +kernel
theorem dX9_mostFor_38 : decode cX9_mostFor 38 = .ok (.invokevirtual 123, 3) := by decide +kernel
theorem dX9_mostFor_41 : decode cX9_mostFor 41 = .ok (.ireturn, 1) := by decide +kernel
theorem dX9_most_0 : decode cX9_most 0 = .ok (.aload_n 0, 1) := by decide +kernel
theorem dX9_most_1 : decode cX9_most 1 = .ok (.iload_n 1, 1) := by decide +kernel
theorem dX9_most_2 : decode cX9_most 2 = .ok (.invokevirtual 112, 3) := by decide +kernel
theorem dX9_most_5 : decode cX9_most 5 = .ok (.ifCond .eq 11, 3) := by decide +kernel
theorem dX9_most_8 : decode cX9_most 8 = .ok (.aload_n 0, 1) := by decide +kernel
theorem dX9_most_9 : decode cX9_most 9 = .ok (.iload_n 1, 1) := by decide +kernel
theorem dX9_most_10 : decode cX9_most 10 = .ok (.invokevirtual 148, 3) := by decide +kernel
theorem dX9_most_13 : decode cX9_most 13 = .ok (.goto 4, 3) := by decide +kernel
theorem dX9_most_16 : decode cX9_most 16 = .ok (.iconst (-1), 1) := by decide +kernel
theorem dX9_most_17 : decode cX9_most 17 = .ok (.ireturn, 1) := by decide +kernel
theorem dX9_canUse_0 : decode cX9_canUse 0 = .ok (.iconst 0, 1) := by decide +kernel
theorem dX9_canUse_1 : decode cX9_canUse 1 = .ok (.istore_n 3, 1) := by decide +kernel
theorem dX9_canUse_2 : decode cX9_canUse 2 = .ok (.iload_n 3, 1) := by decide +kernel
theorem dX9_canUse_3 : decode cX9_canUse 3 = .ok (.bipush 12, 2) := by decide +kernel
theorem dX9_canUse_5 : decode cX9_canUse 5 = .ok (.if_icmp .ge 26, 3) := by decide +kernel
theorem dX9_canUse_8 : decode cX9_canUse 8 = .ok (.iload_n 3, 1) := by decide +kernel
theorem dX9_canUse_9 : decode cX9_canUse 9 = .ok (.iload_n 2, 1) := by decide +kernel
theorem dX9_canUse_10 : decode cX9_canUse 10 = .ok (.if_icmp .ge 21, 3) := by decide +kernel
theorem dX9_canUse_13 : decode cX9_canUse 13 = .ok (.aload_n 0, 1) := by decide +kernel
theorem dX9_canUse_14 : decode cX9_canUse 14 = .ok (.iload_n 1, 1) := by decide +kernel
theorem dX9_canUse_15 : decode cX9_canUse 15 = .ok (.bipush 6, 2) := by decide +kernel
theorem dX9_canUse_17 : decode cX9_canUse 17 = .ok (.iload_n 3, 1) := by decide +kernel
theorem dX9_canUse_18 : decode cX9_canUse 18 = .ok (.iadd, 1) := by decide +kernel
theorem dX9_canUse_19 : decode cX9_canUse 19 = .ok (.invokevirtual 116, 3) := by decide +kernel
theorem dX9_canUse_22 : decode cX9_canUse 22 = .ok (.ifCond .le 9, 3) := by decide +kernel
theorem dX9_canUse_25 : decode cX9_canUse 25 = .ok (.iinc 3 1, 3) := by decide +kernel
theorem dX9_canUse_28 : decode cX9_canUse 28 = .ok (.goto (-26), 3) := by decide +kernel
theorem dX9_canUse_31 : decode cX9_canUse 31 = .ok (.iload_n 3, 1) := by decide +kernel
theorem dX9_canUse_32 : decode cX9_canUse 32 = .ok (.ireturn, 1) := by decide +kernel
theorem dX9_findShares_0 : decode cX9_findShares 0 = .ok (.aload_n 0, 1) := by decide +kernel
theorem dX9_findShares_1 : decode cX9_findShares 1 = .ok (.getfield 9, 3) := by decide +kernel
theorem dX9_findShares_4 : decode cX9_findShares 4 = .ok (.iconst 0, 1) := by decide +kernel
theorem dX9_findShares_5 : decode cX9_findShares 5 = .ok (.iaload, 1) := by decide +kernel
theorem dX9_findShares_6 : decode cX9_findShares 6 = .ok (.istore_n 2, 1) := by decide +kernel
theorem dX9_findShares_7 : decode cX9_findShares 7 = .ok (.aload_n 0, 1) := by decide +kernel
theorem dX9_findShares_8 : decode cX9_findShares 8 = .ok (.invokevirtual 141, 3) := by decide +kernel
theorem dX9_findShares_11 : decode cX9_findShares 11 = .ok (.istore_n 3, 1) := by decide +kernel
theorem dX9_findShares_12 : decode cX9_findShares 12 = .ok (.iconst 0, 1) := by decide +kernel
theorem dX9_findShares_13 : decode cX9_findShares 13 = .ok (.istore 4, 2) := by decide +kernel
theorem dX9_findShares_15 : decode cX9_findShares 15 = .ok (.iconst 0, 1) := by decide +kernel
theorem dX9_findShares_16 : decode cX9_findShares 16 = .ok (.istore 5, 2) := by decide +kernel
theorem dX9_findShares_18 : decode cX9_findShares 18 = .ok (.iload 5, 2) := by decide +kernel
theorem dX9_findShares_20 : decode cX9_findShares 20 = .ok (.iload_n 2, 1) := by decide +kernel
theorem dX9_findShares_21 : decode cX9_findShares 21 = .ok (.if_icmp .ge 210, 3) := by decide +kernel
theorem dX9_findShares_24 : decode cX9_findShares 24 = .ok (.iload_n 1, 1) := by decide +kernel
theorem dX9_findShares_25 : decode cX9_findShares 25 = .ok (.ifCond .ne 62, 3) := by decide +kernel
theorem dX9_findShares_28 : decode cX9_findShares 28 = .ok (.iload 4, 2) := by decide +kernel
theorem dX9_findShares_30 : decode cX9_findShares 30 = .ok (.aload_n 0, 1) := by decide +kernel
theorem dX9_findShares_31 : decode cX9_findShares 31 = .ok (.iload 5, 2) := by decide +kernel
theorem dX9_findShares_33 : decode cX9_findShares 33 = .ok (.iconst 0, 1) := by decide +kernel
theorem dX9_findShares_34 : decode cX9_findShares 34 = .ok (.invokevirtual 116, 3) := by decide +kernel
theorem dX9_findShares_37 : decode cX9_findShares 37 = .ok (.iadd, 1) := by decide +kernel
theorem dX9_findShares_38 : decode cX9_findShares 38 = .ok (.istore 6, 2) := by decide +kernel
theorem dX9_findShares_40 : decode cX9_findShares 40 = .ok (.aload_n 0, 1) := by decide +kernel
theorem dX9_findShares_41 : decode cX9_findShares 41 = .ok (.iload 5, 2) := by decide +kernel
theorem dX9_findShares_43 : decode cX9_findShares 43 = .ok (.iload 6, 2) := by decide +kernel
theorem dX9_findShares_45 : decode cX9_findShares 45 = .ok (.invokevirtual 151, 3) := by decide +kernel
theorem dX9_findShares_48 : decode cX9_findShares 48 = .ok (.istore 7, 2) := by decide +kernel
theorem dX9_findShares_50 : decode cX9_findShares 50 = .ok (.aload_n 0, 1) := by decide +kernel
theorem dX9_findShares_51 : decode cX9_findShares 51 = .ok (.getfield 34, 3) := by decide +kernel
theorem dX9_findShares_54 : decode cX9_findShares 54 = .ok (.iload 5, 2) := by decide +kernel
theorem dX9_findShares_56 : decode cX9_findShares 56 = .ok (.aload_n 0, 1) := by decide +kernel
theorem dX9_findShares_57 : decode cX9_findShares 57 = .ok (.iload 5, 2) := by decide +kernel
theorem dX9_findShares_59 : decode cX9_findShares 59 = .ok (.iload 7, 2) := by decide +kernel
theorem dX9_findShares_61 : decode cX9_findShares 61 = .ok (.invokevirtual 123, 3) := by decide +kernel
theorem dX9_findShares_64 : decode cX9_findShares 64 = .ok (.aload_n 0, 1) := by decide +kernel
theorem dX9_findShares_65 : decode cX9_findShares 65 = .ok (.iload 5, 2) := by decide +kernel
theorem dX9_findShares_67 : decode cX9_findShares 67 = .ok (.iload 6, 2) := by decide +kernel
theorem dX9_findShares_69 : decode cX9_findShares 69 = .ok (.iload 7, 2) := by decide +kernel
theorem dX9_findShares_71 : decode cX9_findShares 71 = .ok (.isub, 1) := by decide +kernel
theorem dX9_findShares_72 : decode cX9_findShares 72 = .ok (.invokevirtual 126, 3) := by decide +kernel
theorem dX9_findShares_75 : decode cX9_findShares 75 = .ok (.isub, 1) := by decide +kernel
theorem dX9_findShares_76 : decode cX9_findShares 76 = .ok (.iastore, 1) := by decide +kernel
theorem dX9_findShares_77 : decode cX9_findShares 77 = .ok (.iload 6, 2) := by decide +kernel
theorem dX9_findShares_79 : decode cX9_findShares 79 = .ok (.iload 7, 2) := by decide +kernel
theorem dX9_findShares_81 : decode cX9_findShares 81 = .ok (.isub, 1) := by decide +kernel
theorem dX9_findShares_82 : decode cX9_findShares 82 = .ok (.istore 4, 2) := by decide +kernel
theorem dX9_findShares_84 : decode cX9_findShares 84 = .ok (.goto 141, 3) := by decide +kernel
theorem dX9_findShares_87 : decode cX9_findShares 87 = .ok (.iload_n 1, 1) := by decide +kernel
theorem dX9_findShares_88 : decode cX9_findShares 88 = .ok (.iconst 1, 1) := by decide +kernel
theorem dX9_findShares_89 : decode cX9_findShares 89 = .ok (.if_icmp .ne 39, 3) := by decide +kernel
theorem dX9_findShares_92 : decode cX9_findShares 92 = .ok (.aload_n 0, 1) := by decide +kernel
theorem dX9_findShares_93 : decode cX9_findShares 93 = .ok (.getfield 34, 3) := by decide +kernel
theorem dX9_findShares_96 : decode cX9_findShares 96 = .ok (.iload 5, 2) := by decide +kernel
theorem dX9_findShares_98 : decode cX9_findShares 98 = .ok (.aload_n 0, 1) := by decide +kernel
theorem dX9_findShares_99 : decode cX9_findShares 99 = .ok (.iconst 0, 1) := by decide +kernel
theorem dX9_findShares_100 : decode cX9_findShares 100 = .ok (.iload 5, 2) := by decide +kernel
theorem dX9_findShares_102 : decode cX9_findShares 102 = .ok (.invokevirtual 145, 3) := by decide +kernel
theorem dX9_findShares_105 : decode cX9_findShares 105 = .ok (.iload 5, 2) := by decide +kernel
theorem dX9_findShares_107 : decode cX9_findShares 107 = .ok (.ifCond .le 15, 3) := by decide +kernel
theorem dX9_findShares_110 : decode cX9_findShares 110 = .ok (.aload_n 0, 1) := by decide +kernel
theorem dX9_findShares_111 : decode cX9_findShares 111 = .ok (.iconst 0, 1) := by decide +kernel
theorem dX9_findShares_112 : decode cX9_findShares 112 = .ok (.iload 5, 2) := by decide +kernel
theorem dX9_findShares_114 : decode cX9_findShares 114 = .ok (.iconst 1, 1) := by decide +kernel
theorem dX9_findShares_115 : decode cX9_findShares 115 = .ok (.isub, 1) := by decide +kernel
theorem dX9_findShares_116 : decode cX9_findShares 116 = .ok (.invokevirtual 145, 3) := by decide +kernel
theorem dX9_findShares_119 : decode cX9_findShares 119 = .ok (.goto 4, 3) := by decide +kernel
theorem dX9_findShares_122 : decode cX9_findShares 122 = .ok (.iconst 0, 1) := by decide +kernel
theorem dX9_findShares_123 : decode cX9_findShares 123 = .ok (.isub, 1) := by decide +kernel
theorem dX9_findShares_124 : decode cX9_findShares 124 = .ok (.iastore, 1) := by decide +kernel
theorem dX9_findShares_125 : decode cX9_findShares 125 = .ok (.goto 100, 3) := by decide +kernel
theorem dX9_findShares_128 : decode cX9_findShares 128 = .ok (.iload_n 1, 1) := by decide +kernel
theorem dX9_findShares_129 : decode cX9_findShares 129 = .ok (.iconst 2, 1) := by decide +kernel
theorem dX9_findShares_130 : decode cX9_findShares 130 = .ok (.if_icmp .ne 46, 3) := by decide +kernel
theorem dX9_findShares_133 : decode cX9_findShares 133 = .ok (.aload_n 0, 1) := by decide +kernel
theorem dX9_findShares_134 : decode cX9_findShares 134 = .ok (.getfield 34, 3) := by decide +kernel
theorem dX9_findShares_137 : decode cX9_findShares 137 = .ok (.iload 5, 2) := by decide +kernel
theorem dX9_findShares_139 : decode cX9_findShares 139 = .ok (.aload_n 0, 1) := by decide +kernel
theorem dX9_findShares_140 : decode cX9_findShares 140 = .ok (.iload 5, 2) := by decide +kernel
theorem dX9_findShares_142 : decode cX9_findShares 142 = .ok (.iload_n 2, 1) := by decide +kernel
theorem dX9_findShares_143 : decode cX9_findShares 143 = .ok (.iconst 1, 1) := by decide +kernel
theorem dX9_findShares_144 : decode cX9_findShares 144 = .ok (.isub, 1) := by decide +kernel
theorem dX9_findShares_145 : decode cX9_findShares 145 = .ok (.invokevirtual 145, 3) := by decide +kernel
theorem dX9_findShares_148 : decode cX9_findShares 148 = .ok (.iload 5, 2) := by decide +kernel
theorem dX9_findShares_150 : decode cX9_findShares 150 = .ok (.iload_n 2, 1) := by decide +kernel
theorem dX9_findShares_151 : decode cX9_findShares 151 = .ok (.iconst 1, 1) := by decide +kernel
theorem dX9_findShares_152 : decode cX9_findShares 152 = .ok (.isub, 1) := by decide +kernel
theorem dX9_findShares_153 : decode cX9_findShares 153 = .ok (.if_icmp .ge 17, 3) := by decide +kernel
theorem dX9_findShares_156 : decode cX9_findShares 156 = .ok (.aload_n 0, 1) := by decide +kernel
theorem dX9_findShares_157 : decode cX9_findShares 157 = .ok (.iload 5, 2) := by decide +kernel
theorem dX9_findShares_159 : decode cX9_findShares 159 = .ok (.iconst 1, 1) := by decide +kernel
theorem dX9_findShares_160 : decode cX9_findShares 160 = .ok (.iadd, 1) := by decide +kernel
theorem dX9_findShares_161 : decode cX9_findShares 161 = .ok (.iload_n 2, 1) := by decide +kernel
theorem dX9_findShares_162 : decode cX9_findShares 162 = .ok (.iconst 1, 1) := by decide +kernel
theorem dX9_findShares_163 : decode cX9_findShares 163 = .ok (.isub, 1) := by decide +kernel
theorem dX9_findShares_164 : decode cX9_findShares 164 = .ok (.invokevirtual 145, 3) := by decide +kernel
theorem dX9_findShares_167 : decode cX9_findShares 167 = .ok (.goto 4, 3) := by decide +kernel
theorem dX9_findShares_170 : decode cX9_findShares 170 = .ok (.iconst 0, 1) := by decide +kernel
theorem dX9_findShares_171 : decode cX9_findShares 171 = .ok (.isub, 1) := by decide +kernel
theorem dX9_findShares_172 : decode cX9_findShares 172 = .ok (.iastore, 1) := by decide +kernel
theorem dX9_findShares_173 : decode cX9_findShares 173 = .ok (.goto 52, 3) := by decide +kernel
theorem dX9_findShares_176 : decode cX9_findShares 176 = .ok (.iload_n 3, 1) := by decide +kernel
theorem dX9_findShares_177 : decode cX9_findShares 177 = .ok (.iload_n 2, 1) := by decide +kernel
theorem dX9_findShares_178 : decode cX9_findShares 178 = .ok (.idiv, 1) := by decide +kernel
theorem dX9_findShares_179 : decode cX9_findShares 179 = .ok (.istore 6, 2) := by decide +kernel
theorem dX9_findShares_181 : decode cX9_findShares 181 = .ok (.iload 6, 2) := by decide +kernel
theorem dX9_findShares_183 : decode cX9_findShares 183 = .ok (.iload 6, 2) := by decide +kernel
theorem dX9_findShares_185 : decode cX9_findShares 185 = .ok (.iload_n 2, 1) := by decide +kernel
theorem dX9_findShares_186 : decode cX9_findShares 186 = .ok (.imul, 1) := by decide +kernel
theorem dX9_findShares_187 : decode cX9_findShares 187 = .ok (.iload_n 3, 1) := by decide +kernel
theorem dX9_findShares_188 : decode cX9_findShares 188 = .ok (.if_icmp .le 7, 3) := by decide +kernel
theorem dX9_findShares_191 : decode cX9_findShares 191 = .ok (.iconst 1, 1) := by decide +kernel
theorem dX9_findShares_192 : decode cX9_findShares 192 = .ok (.goto 4, 3) := by decide +kernel
theorem dX9_findShares_195 : decode cX9_findShares 195 = .ok (.iconst 0, 1) := by decide +kernel
theorem dX9_findShares_196 : decode cX9_findShares 196 = .ok (.isub, 1) := by decide +kernel
theorem dX9_findShares_197 : decode cX9_findShares 197 = .ok (.istore 6, 2) := by decide +kernel
theorem dX9_findShares_199 : decode cX9_findShares 199 = .ok (.aload_n 0, 1) := by decide +kernel
theorem dX9_findShares_200 : decode cX9_findShares 200 = .ok (.getfield 34, 3) := by decide +kernel
theorem dX9_findShares_203 : decode cX9_findShares 203 = .ok (.iload 5, 2) := by decide +kernel
theorem dX9_findShares_205 : decode cX9_findShares 205 = .ok (.iload 6, 2) := by decide +kernel
theorem dX9_findShares_207 : decode cX9_findShares 207 = .ok (.iload 5, 2) := by decide +kernel
theorem dX9_findShares_209 : decode cX9_findShares 209 = .ok (.iload_n 3, 1) := by decide +kernel
theorem dX9_findShares_210 : decode cX9_findShares 210 = .ok (.iload 6, 2) := by decide +kernel
theorem dX9_findShares_212 : decode cX9_findShares 212 = .ok (.iload_n 2, 1) := by decide +kernel
theorem dX9_findShares_213 : decode cX9_findShares 213 = .ok (.imul, 1) := by decide +kernel
theorem dX9_findShares_214 : decode cX9_findShares 214 = .ok (.isub, 1) := by decide +kernel
theorem dX9_findShares_215 : decode cX9_findShares 215 = .ok (.if_icmp .ge 7, 3) := by decide +kernel
theorem dX9_findShares_218 : decode cX9_findShares 218 = .ok (.iconst 1, 1) := by decide +kernel
theorem dX9_findShares_219 : decode cX9_findShares 219 = .ok (.goto 4, 3) := by decide +kernel
theorem dX9_findShares_222 : decode cX9_findShares 222 = .ok (.iconst 0, 1) := by decide +kernel
theorem dX9_findShares_223 : decode cX9_findShares 223 = .ok (.iadd, 1) := by decide +kernel
theorem dX9_findShares_224 : decode cX9_findShares 224 = .ok (.iastore, 1) := by decide +kernel
theorem dX9_findShares_225 : decode cX9_findShares 225 = .ok (.iinc 5 1, 3) := by decide +kernel
theorem dX9_findShares_228 : decode cX9_findShares 228 = .ok (.goto (-210), 3) := by decide +kernel
theorem dX9_findShares_231 : decode cX9_findShares 231 = .ok (.return_, 1) := by decide +kernel
theorem dX9_share_0 : decode cX9_share 0 = .ok (.iload_n 1, 1) := by decide +kernel
theorem dX9_share_1 : decode cX9_share 1 = .ok (.iconst 0, 1) := by decide +kernel
theorem dX9_share_2 : decode cX9_share 2 = .ok (.iconst 3, 1) := by decide +kernel
theorem dX9_share_3 : decode cX9_share 3 = .ok (.invokestatic 104, 3) := by decide +kernel
theorem dX9_share_6 : decode cX9_share 6 = .ok (.ifCond .eq 20, 3) := by decide +kernel
theorem dX9_share_9 : decode cX9_share 9 = .ok (.aload_n 0, 1) := by decide +kernel
theorem dX9_share_10 : decode cX9_share 10 = .ok (.iload_n 2, 1) := by decide +kernel
theorem dX9_share_11 : decode cX9_share 11 = .ok (.invokevirtual 112, 3) := by decide +kernel
theorem dX9_share_14 : decode cX9_share 14 = .ok (.ifCond .eq 12, 3) := by decide +kernel
theorem dX9_share_17 : decode cX9_share 17 = .ok (.iload_n 3, 1) := by decide +kernel
theorem dX9_share_18 : decode cX9_share 18 = .ok (.iconst 0, 1) := by decide +kernel
theorem dX9_share_19 : decode cX9_share 19 = .ok (.iconst 1, 1) := by decide +kernel
theorem dX9_share_20 : decode cX9_share 20 = .ok (.invokestatic 104, 3) := by decide +kernel
theorem dX9_share_23 : decode cX9_share 23 = .ok (.ifCond .ne 6, 3) := by decide +kernel
theorem dX9_share_26 : decode cX9_share 26 = .ok (.ldc 140, 2) := by decide +kernel
theorem dX9_share_28 : decode cX9_share 28 = .ok (.ireturn, 1) := by decide +kernel
theorem dX9_share_29 : decode cX9_share 29 = .ok (.aload_n 0, 1) := by decide +kernel
theorem dX9_share_30 : decode cX9_share 30 = .ok (.iload_n 1, 1) := by decide +kernel
theorem dX9_share_31 : decode cX9_share 31 = .ok (.invokevirtual 154, 3) := by decide +kernel
theorem dX9_share_34 : decode cX9_share 34 = .ok (.iload_n 3, 1) := by decide +kernel
theorem dX9_share_35 : decode cX9_share 35 = .ok (.ifCond .ne 12, 3) := by decide +kernel
theorem dX9_share_38 : decode cX9_share 38 = .ok (.aload_n 0, 1) := by decide +kernel
theorem dX9_share_39 : decode cX9_share 39 = .ok (.getfield 34, 3) := by decide +kernel
theorem dX9_share_42 : decode cX9_share 42 = .ok (.iload_n 2, 1) := by decide +kernel
theorem dX9_share_43 : decode cX9_share 43 = .ok (.iaload, 1) := by decide +kernel
theorem dX9_share_44 : decode cX9_share 44 = .ok (.goto 24, 3) := by decide +kernel
theorem dX9_share_47 : decode cX9_share 47 = .ok (.iload_n 1, 1) := by decide +kernel
theorem dX9_share_48 : decode cX9_share 48 = .ok (.ifCond .ne 7, 3) := by decide +kernel
theorem dX9_share_51 : decode cX9_share 51 = .ok (.iconst 0, 1) := by decide +kernel
theorem dX9_share_52 : decode cX9_share 52 = .ok (.goto 16, 3) := by decide +kernel
theorem dX9_share_55 : decode cX9_share 55 = .ok (.aload_n 0, 1) := by decide +kernel
theorem dX9_share_56 : decode cX9_share 56 = .ok (.getfield 34, 3) := by decide +kernel
theorem dX9_share_59 : decode cX9_share 59 = .ok (.iload_n 2, 1) := by decide +kernel
theorem dX9_share_60 : decode cX9_share 60 = .ok (.iaload, 1) := by decide +kernel
theorem dX9_share_61 : decode cX9_share 61 = .ok (.aload_n 0, 1) := by decide +kernel
theorem dX9_share_62 : decode cX9_share 62 = .ok (.getfield 31, 3) := by decide +kernel
theorem dX9_share_65 : decode cX9_share 65 = .ok (.iload_n 2, 1) := by decide +kernel
theorem dX9_share_66 : decode cX9_share 66 = .ok (.iaload, 1) := by decide +kernel
theorem dX9_share_67 : decode cX9_share 67 = .ok (.isub, 1) := by decide +kernel
theorem dX9_share_68 : decode cX9_share 68 = .ok (.ireturn, 1) := by decide +kernel
theorem dX9_breakOf_0 : decode cX9_breakOf 0 = .ok (.aload_n 0, 1) := by decide +kernel
theorem dX9_breakOf_1 : decode cX9_breakOf 1 = .ok (.getfield 9, 3) := by decide +kernel
theorem dX9_breakOf_4 : decode cX9_breakOf 4 = .ok (.iconst 0, 1) := by decide +kernel
theorem dX9_breakOf_5 : decode cX9_breakOf 5 = .ok (.iaload, 1) := by decide +kernel
theorem dX9_breakOf_6 : decode cX9_breakOf 6 = .ok (.istore_n 1, 1) := by decide +kernel
theorem dX9_breakOf_7 : decode cX9_breakOf 7 = .ok (.iconst 0, 1) := by decide +kernel
theorem dX9_breakOf_8 : decode cX9_breakOf 8 = .ok (.istore_n 2, 1) := by decide +kernel
theorem dX9_breakOf_9 : decode cX9_breakOf 9 = .ok (.iload_n 2, 1) := by decide +kernel
theorem dX9_breakOf_10 : decode cX9_breakOf 10 = .ok (.iload_n 1, 1) := by decide +kernel
theorem dX9_breakOf_11 : decode cX9_breakOf 11 = .ok (.if_icmp .ge 58, 3) := by decide +kernel
theorem dX9_breakOf_14 : decode cX9_breakOf 14 = .ok (.iconst 0, 1) := by decide +kernel
theorem dX9_breakOf_15 : decode cX9_breakOf 15 = .ok (.istore_n 3, 1) := by decide +kernel
theorem dX9_breakOf_16 : decode cX9_breakOf 16 = .ok (.iload_n 2, 1) := by decide +kernel
theorem dX9_breakOf_17 : decode cX9_breakOf 17 = .ok (.istore 4, 2) := by decide +kernel
theorem dX9_breakOf_19 : decode cX9_breakOf 19 = .ok (.iload 4, 2) := by decide +kernel
theorem dX9_breakOf_21 : decode cX9_breakOf 21 = .ok (.iload_n 1, 1) := by decide +kernel
theorem dX9_breakOf_22 : decode cX9_breakOf 22 = .ok (.if_icmp .ge 41, 3) := by decide +kernel
theorem dX9_breakOf_25 : decode cX9_breakOf 25 = .ok (.iload_n 3, 1) := by decide +kernel
theorem dX9_breakOf_26 : decode cX9_breakOf 26 = .ok (.aload_n 0, 1) := by decide +kernel
theorem dX9_breakOf_27 : decode cX9_breakOf 27 = .ok (.getfield 34, 3) := by decide +kernel
theorem dX9_breakOf_30 : decode cX9_breakOf 30 = .ok (.iload 4, 2) := by decide +kernel
theorem dX9_breakOf_32 : decode cX9_breakOf 32 = .ok (.iaload, 1) := by decide +kernel
theorem dX9_breakOf_33 : decode cX9_breakOf 33 = .ok (.iadd, 1) := by decide +kernel
theorem dX9_breakOf_34 : decode cX9_breakOf 34 = .ok (.istore_n 3, 1) := by decide +kernel
theorem dX9_breakOf_35 : decode cX9_breakOf 35 = .ok (.iload_n 3, 1) := by decide +kernel
theorem dX9_breakOf_36 : decode cX9_breakOf 36 = .ok (.aload_n 0, 1) := by decide +kernel
theorem dX9_breakOf_37 : decode cX9_breakOf 37 = .ok (.iload_n 2, 1) := by decide +kernel
theorem dX9_breakOf_38 : decode cX9_breakOf 38 = .ok (.iload 4, 2) := by decide +kernel
theorem dX9_breakOf_40 : decode cX9_breakOf 40 = .ok (.invokevirtual 145, 3) := by decide +kernel
theorem dX9_breakOf_43 : decode cX9_breakOf 43 = .ok (.if_icmp .ge 14, 3) := by decide +kernel
theorem dX9_breakOf_46 : decode cX9_breakOf 46 = .ok (.bipush 100, 2) := by decide +kernel
theorem dX9_breakOf_48 : decode cX9_breakOf 48 = .ok (.bipush 10, 2) := by decide +kernel
theorem dX9_breakOf_50 : decode cX9_breakOf 50 = .ok (.iload_n 2, 1) := by decide +kernel
theorem dX9_breakOf_51 : decode cX9_breakOf 51 = .ok (.imul, 1) := by decide +kernel
theorem dX9_breakOf_52 : decode cX9_breakOf 52 = .ok (.iadd, 1) := by decide +kernel
theorem dX9_breakOf_53 : decode cX9_breakOf 53 = .ok (.iload 4, 2) := by decide +kernel
theorem dX9_breakOf_55 : decode cX9_breakOf 55 = .ok (.iadd, 1) := by decide +kernel
theorem dX9_breakOf_56 : decode cX9_breakOf 56 = .ok (.ireturn, 1) := by decide +kernel
theorem dX9_breakOf_57 : decode cX9_breakOf 57 = .ok (.iinc 4 1, 3) := by decide +kernel
theorem dX9_breakOf_60 : decode cX9_breakOf 60 = .ok (.goto (-41), 3) := by decide +kernel
theorem dX9_breakOf_63 : decode cX9_breakOf 63 = .ok (.iinc 2 1, 3) := by decide +kernel
theorem dX9_breakOf_66 : decode cX9_breakOf 66 = .ok (.goto (-57), 3) := by decide +kernel
theorem dX9_breakOf_69 : decode cX9_breakOf 69 = .ok (.iconst 0, 1) := by decide +kernel
theorem dX9_breakOf_70 : decode cX9_breakOf 70 = .ok (.istore_n 2, 1) := by decide +kernel
theorem dX9_breakOf_71 : decode cX9_breakOf 71 = .ok (.iload_n 2, 1) := by decide +kernel
theorem dX9_breakOf_72 : decode cX9_breakOf 72 = .ok (.iload_n 1, 1) := by decide +kernel
theorem dX9_breakOf_73 : decode cX9_breakOf 73 = .ok (.if_icmp .ge 29, 3) := by decide +kernel
theorem dX9_breakOf_76 : decode cX9_breakOf 76 = .ok (.aload_n 0, 1) := by decide +kernel
theorem dX9_breakOf_77 : decode cX9_breakOf 77 = .ok (.getfield 34, 3) := by decide +kernel
theorem dX9_breakOf_80 : decode cX9_breakOf 80 = .ok (.iload_n 2, 1) := by decide +kernel
theorem dX9_breakOf_81 : decode cX9_breakOf 81 = .ok (.iaload, 1) := by decide +kernel
theorem dX9_breakOf_82 : decode cX9_breakOf 82 = .ok (.aload_n 0, 1) := by decide +kernel
theorem dX9_breakOf_83 : decode cX9_breakOf 83 = .ok (.iload_n 2, 1) := by decide +kernel
theorem dX9_breakOf_84 : decode cX9_breakOf 84 = .ok (.invokevirtual 148, 3) := by decide +kernel
theorem dX9_breakOf_87 : decode cX9_breakOf 87 = .ok (.if_icmp .le 9, 3) := by decide +kernel
theorem dX9_breakOf_90 : decode cX9_breakOf 90 = .ok (.sipush 200, 3) := by decide +kernel
theorem dX9_breakOf_93 : decode cX9_breakOf 93 = .ok (.iload_n 2, 1) := by decide +kernel
theorem dX9_breakOf_94 : decode cX9_breakOf 94 = .ok (.iadd, 1) := by decide +kernel
theorem dX9_breakOf_95 : decode cX9_breakOf 95 = .ok (.ireturn, 1) := by decide +kernel
theorem dX9_breakOf_96 : decode cX9_breakOf 96 = .ok (.iinc 2 1, 3) := by decide +kernel
theorem dX9_breakOf_99 : decode cX9_breakOf 99 = .ok (.goto (-28), 3) := by decide +kernel
theorem dX9_breakOf_102 : decode cX9_breakOf 102 = .ok (.iconst 0, 1) := by decide +kernel
theorem dX9_breakOf_103 : decode cX9_breakOf 103 = .ok (.ireturn, 1) := by decide +kernel
theorem dX9_broken_0 : decode cX9_broken 0 = .ok (.iload_n 1, 1) := by decide +kernel
theorem dX9_broken_1 : decode cX9_broken 1 = .ok (.iconst 0, 1) := by decide +kernel
theorem dX9_broken_2 : decode cX9_broken 2 = .ok (.iconst 3, 1) := by decide +kernel
theorem dX9_broken_3 : decode cX9_broken 3 = .ok (.invokestatic 104, 3) := by decide +kernel
theorem dX9_broken_6 : decode cX9_broken 6 = .ok (.ifCond .ne 5, 3) := by decide +kernel
theorem dX9_broken_9 : decode cX9_broken 9 = .ok (.iconst (-1), 1) := by decide +kernel
theorem dX9_broken_10 : decode cX9_broken 10 = .ok (.ireturn, 1) := by decide +kernel
theorem dX9_broken_11 : decode cX9_broken 11 = .ok (.aload_n 0, 1) := by decide +kernel
theorem dX9_broken_12 : decode cX9_broken 12 = .ok (.iload_n 1, 1) := by decide +kernel
theorem dX9_broken_13 : decode cX9_broken 13 = .ok (.invokevirtual 154, 3) := by decide +kernel
theorem dX9_broken_16 : decode cX9_broken 16 = .ok (.aload_n 0, 1) := by decide +kernel
theorem dX9_broken_17 : decode cX9_broken 17 = .ok (.invokevirtual 157, 3) := by decide +kernel
theorem dX9_broken_20 : decode cX9_broken 20 = .ok (.ireturn, 1) := by decide +kernel
theorem dX9_findCleaning_0 : decode cX9_findCleaning 0 = .ok (.aload_n 0, 1) := by decide +kernel
theorem dX9_findCleaning_1 : decode cX9_findCleaning 1 = .ok (.getfield 9, 3) := by decide +kernel
theorem dX9_findCleaning_4 : decode cX9_findCleaning 4 = .ok (.iconst 0, 1) := by decide +kernel
theorem dX9_findCleaning_5 : decode cX9_findCleaning 5 = .ok (.iaload, 1) := by decide +kernel
theorem dX9_findCleaning_6 : decode cX9_findCleaning 6 = .ok (.istore_n 1, 1) := by decide +kernel
theorem dX9_findCleaning_7 : decode cX9_findCleaning 7 = .ok (.iconst 0, 1) := by decide +kernel
theorem dX9_findCleaning_8 : decode cX9_findCleaning 8 = .ok (.istore_n 2, 1) := by decide +kernel
theorem dX9_findCleaning_9 : decode cX9_findCleaning 9 = .ok (.iconst 0, 1) := by decide +kernel
theorem dX9_findCleaning_10 : decode cX9_findCleaning 10 = .ok (.istore_n 3, 1) := by decide +kernel
theorem dX9_findCleaning_11 : decode cX9_findCleaning 11 = .ok (.iload_n 3, 1) := by decide +kernel
theorem dX9_findCleaning_12 : decode cX9_findCleaning 12 = .ok (.iload_n 1, 1) := by decide +kernel
theorem dX9_findCleaning_13 : decode cX9_findCleaning 13 = .ok (.if_icmp .ge 18, 3) := by decide +kernel
theorem dX9_findCleaning_16 : decode cX9_findCleaning 16 = .ok (.iload_n 2, 1) := by decide +kernel
theorem dX9_findCleaning_17 : decode cX9_findCleaning 17 = .ok (.aload_n 0, 1) := by decide +kernel
theorem dX9_findCleaning_18 : decode cX9_findCleaning 18 = .ok (.iload_n 3, 1) := by decide +kernel
theorem dX9_findCleaning_19 : decode cX9_findCleaning 19 = .ok (.iconst 3, 1) := by decide +kernel
theorem dX9_findCleaning_20 : decode cX9_findCleaning 20 = .ok (.invokevirtual 116, 3) := by decide +kernel
theorem dX9_findCleaning_23 : decode cX9_findCleaning 23 = .ok (.iadd, 1) := by decide +kernel
theorem dX9_findCleaning_24 : decode cX9_findCleaning 24 = .ok (.istore_n 2, 1) := by decide +kernel
theorem dX9_findCleaning_25 : decode cX9_findCleaning 25 = .ok (.iinc 3 1, 3) := by decide +kernel
theorem dX9_findCleaning_28 : decode cX9_findCleaning 28 = .ok (.goto (-17), 3) := by decide +kernel
theorem dX9_findCleaning_31 : decode cX9_findCleaning 31 = .ok (.iconst 0, 1) := by decide +kernel
theorem dX9_findCleaning_32 : decode cX9_findCleaning 32 = .ok (.istore_n 3, 1) := by decide +kernel
theorem dX9_findCleaning_33 : decode cX9_findCleaning 33 = .ok (.iload_n 3, 1) := by decide +kernel
theorem dX9_findCleaning_34 : decode cX9_findCleaning 34 = .ok (.iload_n 2, 1) := by decide +kernel
theorem dX9_findCleaning_35 : decode cX9_findCleaning 35 = .ok (.if_icmp .gt 22, 3) := by decide +kernel
theorem dX9_findCleaning_38 : decode cX9_findCleaning 38 = .ok (.aload_n 0, 1) := by decide +kernel
theorem dX9_findCleaning_39 : decode cX9_findCleaning 39 = .ok (.getfield 37, 3) := by decide +kernel
theorem dX9_findCleaning_42 : decode cX9_findCleaning 42 = .ok (.sipush 130, 3) := by decide +kernel
theorem dX9_findCleaning_45 : decode cX9_findCleaning 45 = .ok (.iload_n 1, 1) := by decide +kernel
theorem dX9_findCleaning_46 : decode cX9_findCleaning 46 = .ok (.imul, 1) := by decide +kernel
theorem dX9_findCleaning_47 : decode cX9_findCleaning 47 = .ok (.iload_n 3, 1) := by decide +kernel
theorem dX9_findCleaning_48 : decode cX9_findCleaning 48 = .ok (.iadd, 1) := by decide +kernel
theorem dX9_findCleaning_49 : decode cX9_findCleaning 49 = .ok (.iconst 0, 1) := by decide +kernel
theorem dX9_findCleaning_50 : decode cX9_findCleaning 50 = .ok (.iastore, 1) := by decide +kernel
theorem dX9_findCleaning_51 : decode cX9_findCleaning 51 = .ok (.iinc 3 1, 3) := by decide +kernel
theorem dX9_findCleaning_54 : decode cX9_findCleaning 54 = .ok (.goto (-21), 3) := by decide +kernel
theorem dX9_findCleaning_57 : decode cX9_findCleaning 57 = .ok (.iload_n 1, 1) := by decide +kernel
theorem dX9_findCleaning_58 : decode cX9_findCleaning 58 = .ok (.iconst 1, 1) := by decide +kernel
theorem dX9_findCleaning_59 : decode cX9_findCleaning 59 = .ok (.isub, 1) := by decide +kernel
theorem dX9_findCleaning_60 : decode cX9_findCleaning 60 = .ok (.istore_n 3, 1) := by decide +kernel
theorem dX9_findCleaning_61 : decode cX9_findCleaning 61 = .ok (.iload_n 3, 1) := by decide +kernel
theorem dX9_findCleaning_62 : decode cX9_findCleaning 62 = .ok (.ifCond .lt 199, 3) := by decide +kernel
theorem dX9_findCleaning_65 : decode cX9_findCleaning 65 = .ok (.iconst 0, 1) := by decide +kernel
theorem dX9_findCleaning_66 : decode cX9_findCleaning 66 = .ok (.istore 4, 2) := by decide +kernel
theorem dX9_findCleaning_68 : decode cX9_findCleaning 68 = .ok (.iload 4, 2) := by decide +kernel
theorem dX9_findCleaning_70 : decode cX9_findCleaning 70 = .ok (.iload_n 2, 1) := by decide +kernel
theorem dX9_findCleaning_71 : decode cX9_findCleaning 71 = .ok (.aload_n 0, 1) := by decide +kernel
theorem dX9_findCleaning_72 : decode cX9_findCleaning 72 = .ok (.iload_n 3, 1) := by decide +kernel
theorem dX9_findCleaning_73 : decode cX9_findCleaning 73 = .ok (.iconst 3, 1) := by decide +kernel
theorem dX9_findCleaning_74 : decode cX9_findCleaning 74 = .ok (.invokevirtual 116, 3) := by decide +kernel
theorem dX9_findCleaning_77 : decode cX9_findCleaning 77 = .ok (.isub, 1) := by decide +kernel
theorem dX9_findCleaning_78 : decode cX9_findCleaning 78 = .ok (.if_icmp .gt 177, 3) := by decide +kernel
theorem dX9_findCleaning_81 : decode cX9_findCleaning 81 = .ok (.iload 4, 2) := by decide +kernel
theorem dX9_findCleaning_83 : decode cX9_findCleaning 83 = .ok (.aload_n 0, 1) := by decide +kernel
theorem dX9_findCleaning_84 : decode cX9_findCleaning 84 = .ok (.iload_n 3, 1) := by decide +kernel
theorem dX9_findCleaning_85 : decode cX9_findCleaning 85 = .ok (.iconst 3, 1) := by decide +kernel
theorem dX9_findCleaning_86 : decode cX9_findCleaning 86 = .ok (.invokevirtual 116, 3) := by decide +kernel
theorem dX9_findCleaning_89 : decode cX9_findCleaning 89 = .ok (.iadd, 1) := by decide +kernel
theorem dX9_findCleaning_90 : decode cX9_findCleaning 90 = .ok (.istore 5, 2) := by decide +kernel
theorem dX9_findCleaning_92 : decode cX9_findCleaning 92 = .ok (.iconst (-1), 1) := by decide +kernel
theorem dX9_findCleaning_93 : decode cX9_findCleaning 93 = .ok (.istore 6, 2) := by decide +kernel
theorem dX9_findCleaning_95 : decode cX9_findCleaning 95 = .ok (.iconst 0, 1) := by decide +kernel
theorem dX9_findCleaning_96 : decode cX9_findCleaning 96 = .ok (.istore 7, 2) := by decide +kernel
theorem dX9_findCleaning_98 : decode cX9_findCleaning 98 = .ok (.iload 7, 2) := by decide +kernel
theorem dX9_findCleaning_100 : decode cX9_findCleaning 100 = .ok (.iload 5, 2) := by decide +kernel
theorem dX9_findCleaning_102 : decode cX9_findCleaning 102 = .ok (.if_icmp .gt 132, 3) := by decide +kernel
theorem dX9_findCleaning_105 : decode cX9_findCleaning 105 = .ok (.iload_n 3, 1) := by decide +kernel
theorem dX9_findCleaning_106 : decode cX9_findCleaning 106 = .ok (.iload_n 1, 1) := by decide +kernel
theorem dX9_findCleaning_107 : decode cX9_findCleaning 107 = .ok (.iconst 1, 1) := by decide +kernel
theorem dX9_findCleaning_108 : decode cX9_findCleaning 108 = .ok (.isub, 1) := by decide +kernel
theorem dX9_findCleaning_109 : decode cX9_findCleaning 109 = .ok (.if_icmp .eq 37, 3) := by decide +kernel
theorem dX9_findCleaning_112 : decode cX9_findCleaning 112 = .ok (.iload 5, 2) := by decide +kernel
theorem dX9_findCleaning_114 : decode cX9_findCleaning 114 = .ok (.iload 7, 2) := by decide +kernel
theorem dX9_findCleaning_116 : decode cX9_findCleaning 116 = .ok (.isub, 1) := by decide +kernel
theorem dX9_findCleaning_117 : decode cX9_findCleaning 117 = .ok (.aload_n 0, 1) := by decide +kernel
theorem dX9_findCleaning_118 : decode cX9_findCleaning 118 = .ok (.iload_n 3, 1) := by decide +kernel
theorem dX9_findCleaning_119 : decode cX9_findCleaning 119 = .ok (.iconst 1, 1) := by decide +kernel
theorem dX9_findCleaning_120 : decode cX9_findCleaning 120 = .ok (.iadd, 1) := by decide +kernel
theorem dX9_findCleaning_121 : decode cX9_findCleaning 121 = .ok (.iconst 4, 1) := by decide +kernel
theorem dX9_findCleaning_122 : decode cX9_findCleaning 122 = .ok (.invokevirtual 116, 3) := by decide +kernel
theorem dX9_findCleaning_125 : decode cX9_findCleaning 125 = .ok (.if_icmp .gt 25, 3) := by decide +kernel
theorem dX9_findCleaning_128 : decode cX9_findCleaning 128 = .ok (.iload 5, 2) := by decide +kernel
theorem dX9_findCleaning_130 : decode cX9_findCleaning 130 = .ok (.iload 7, 2) := by decide +kernel
theorem dX9_findCleaning_132 : decode cX9_findCleaning 132 = .ok (.isub, 1) := by decide +kernel
theorem dX9_findCleaning_133 : decode cX9_findCleaning 133 = .ok (.iload_n 2, 1) := by decide +kernel
theorem dX9_findCleaning_134 : decode cX9_findCleaning 134 = .ok (.aload_n 0, 1) := by decide +kernel
theorem dX9_findCleaning_135 : decode cX9_findCleaning 135 = .ok (.iload_n 3, 1) := by decide +kernel
theorem dX9_findCleaning_136 : decode cX9_findCleaning 136 = .ok (.iconst 1, 1) := by decide +kernel
theorem dX9_findCleaning_137 : decode cX9_findCleaning 137 = .ok (.iadd, 1) := by decide +kernel
theorem dX9_findCleaning_138 : decode cX9_findCleaning 138 = .ok (.iconst 3, 1) := by decide +kernel
theorem dX9_findCleaning_139 : decode cX9_findCleaning 139 = .ok (.invokevirtual 116, 3) := by decide +kernel
theorem dX9_findCleaning_142 : decode cX9_findCleaning 142 = .ok (.isub, 1) := by decide +kernel
theorem dX9_findCleaning_143 : decode cX9_findCleaning 143 = .ok (.if_icmp .gt 7, 3) := by decide +kernel
theorem dX9_findCleaning_146 : decode cX9_findCleaning 146 = .ok (.iconst 1, 1) := by decide +kernel
theorem dX9_findCleaning_147 : decode cX9_findCleaning 147 = .ok (.goto 4, 3) := by decide +kernel
theorem dX9_findCleaning_150 : decode cX9_findCleaning 150 = .ok (.iconst 0, 1) := by decide +kernel
theorem dX9_findCleaning_151 : decode cX9_findCleaning 151 = .ok (.istore 8, 2) := by decide +kernel
theorem dX9_findCleaning_153 : decode cX9_findCleaning 153 = .ok (.iload 8, 2) := by decide +kernel
theorem dX9_findCleaning_155 : decode cX9_findCleaning 155 = .ok (.ifCond .eq 34, 3) := by decide +kernel
theorem dX9_findCleaning_158 : decode cX9_findCleaning 158 = .ok (.iload 7, 2) := by decide +kernel
theorem dX9_findCleaning_160 : decode cX9_findCleaning 160 = .ok (.aload_n 0, 1) := by decide +kernel
theorem dX9_findCleaning_161 : decode cX9_findCleaning 161 = .ok (.iload_n 3, 1) := by decide +kernel
theorem dX9_findCleaning_162 : decode cX9_findCleaning 162 = .ok (.iconst 5, 1) := by decide +kernel
theorem dX9_findCleaning_163 : decode cX9_findCleaning 163 = .ok (.invokevirtual 116, 3) := by decide +kernel
theorem dX9_findCleaning_166 : decode cX9_findCleaning 166 = .ok (.imul, 1) := by decide +kernel
theorem dX9_findCleaning_167 : decode cX9_findCleaning 167 = .ok (.aload_n 0, 1) := by decide +kernel
theorem dX9_findCleaning_168 : decode cX9_findCleaning 168 = .ok (.getfield 37, 3) := by decide +kernel
theorem dX9_findCleaning_171 : decode cX9_findCleaning 171 = .ok (.sipush 130, 3) := by decide +kernel
theorem dX9_findCleaning_174 : decode cX9_findCleaning 174 = .ok (.iload_n 3, 1) := by decide +kernel
theorem dX9_findCleaning_175 : decode cX9_findCleaning 175 = .ok (.iconst 1, 1) := by decide +kernel
theorem dX9_findCleaning_176 : decode cX9_findCleaning 176 = .ok (.iadd, 1) := by decide +kernel
theorem dX9_findCleaning_177 : decode cX9_findCleaning 177 = .ok (.imul, 1) := by decide +kernel
theorem dX9_findCleaning_178 : decode cX9_findCleaning 178 = .ok (.iload 5, 2) := by decide +kernel
theorem dX9_findCleaning_180 : decode cX9_findCleaning 180 = .ok (.iadd, 1) := by decide +kernel
theorem dX9_findCleaning_181 : decode cX9_findCleaning 181 = .ok (.iload 7, 2) := by decide +kernel
theorem dX9_findCleaning_183 : decode cX9_findCleaning 183 = .ok (.isub, 1) := by decide +kernel
theorem dX9_findCleaning_184 : decode cX9_findCleaning 184 = .ok (.iaload, 1) := by decide +kernel
theorem dX9_findCleaning_185 : decode cX9_findCleaning 185 = .ok (.iadd, 1) := by decide +kernel
theorem dX9_findCleaning_186 : decode cX9_findCleaning 186 = .ok (.goto 4, 3) := by decide +kernel
theorem dX9_findCleaning_189 : decode cX9_findCleaning 189 = .ok (.iconst (-1), 1) := by decide +kernel
theorem dX9_findCleaning_190 : decode cX9_findCleaning 190 = .ok (.istore 9, 2) := by decide +kernel
theorem dX9_findCleaning_192 : decode cX9_findCleaning 192 = .ok (.iload 8, 2) := by decide +kernel
theorem dX9_findCleaning_194 : decode cX9_findCleaning 194 = .ok (.ifCond .eq 34, 3) := by decide +kernel
theorem dX9_findCleaning_197 : decode cX9_findCleaning 197 = .ok (.iload 6, 2) := by decide +kernel
theorem dX9_findCleaning_199 : decode cX9_findCleaning 199 = .ok (.ifCond .lt 10, 3) := by decide +kernel
theorem dX9_findCleaning_202 : decode cX9_findCleaning 202 = .ok (.iload 9, 2) := by decide +kernel
theorem dX9_findCleaning_204 : decode cX9_findCleaning 204 = .ok (.iload 6, 2) := by decide +kernel
theorem dX9_findCleaning_206 : decode cX9_findCleaning 206 = .ok (.if_icmp .ge 22, 3) := by decide +kernel
theorem dX9_findCleaning_209 : decode cX9_findCleaning 209 = .ok (.iload 9, 2) := by decide +kernel
theorem dX9_findCleaning_211 : decode cX9_findCleaning 211 = .ok (.istore 6, 2) := by decide +kernel
theorem dX9_findCleaning_213 : decode cX9_findCleaning 213 = .ok (.aload_n 0, 1) := by decide +kernel
theorem dX9_findCleaning_214 : decode cX9_findCleaning 214 = .ok (.getfield 40, 3) := by decide +kernel
theorem dX9_findCleaning_217 : decode cX9_findCleaning 217 = .ok (.sipush 130, 3) := by decide +kernel
theorem dX9_findCleaning_220 : decode cX9_findCleaning 220 = .ok (.iload_n 3, 1) := by decide +kernel
theorem dX9_findCleaning_221 : decode cX9_findCleaning 221 = .ok (.imul, 1) := by decide +kernel
theorem dX9_findCleaning_222 : decode cX9_findCleaning 222 = .ok (.iload 4, 2) := by decide +kernel
theorem dX9_findCleaning_224 : decode cX9_findCleaning 224 = .ok (.iadd, 1) := by decide +kernel
theorem dX9_findCleaning_225 : decode cX9_findCleaning 225 = .ok (.iload 7, 2) := by decide +kernel
theorem dX9_findCleaning_227 : decode cX9_findCleaning 227 = .ok (.iastore, 1) := by decide +kernel
theorem dX9_findCleaning_228 : decode cX9_findCleaning 228 = .ok (.iinc 7 1, 3) := by decide +kernel
theorem dX9_findCleaning_231 : decode cX9_findCleaning 231 = .ok (.goto (-133), 3) := by decide +kernel
theorem dX9_findCleaning_234 : decode cX9_findCleaning 234 = .ok (.aload_n 0, 1) := by decide +kernel
theorem dX9_findCleaning_235 : decode cX9_findCleaning 235 = .ok (.getfield 37, 3) := by decide +kernel
theorem dX9_findCleaning_238 : decode cX9_findCleaning 238 = .ok (.sipush 130, 3) := by decide +kernel
theorem dX9_findCleaning_241 : decode cX9_findCleaning 241 = .ok (.iload_n 3, 1) := by decide +kernel
theorem dX9_findCleaning_242 : decode cX9_findCleaning 242 = .ok (.imul, 1) := by decide +kernel
theorem dX9_findCleaning_243 : decode cX9_findCleaning 243 = .ok (.iload 4, 2) := by decide +kernel
theorem dX9_findCleaning_245 : decode cX9_findCleaning 245 = .ok (.iadd, 1) := by decide +kernel
theorem dX9_findCleaning_246 : decode cX9_findCleaning 246 = .ok (.iload 6, 2) := by decide +kernel
theorem dX9_findCleaning_248 : decode cX9_findCleaning 248 = .ok (.iastore, 1) := by decide +kernel
theorem dX9_findCleaning_249 : decode cX9_findCleaning 249 = .ok (.iinc 4 1, 3) := by decide +kernel
theorem dX9_findCleaning_252 : decode cX9_findCleaning 252 = .ok (.goto (-184), 3) := by decide +kernel
theorem dX9_findCleaning_255 : decode cX9_findCleaning 255 = .ok (.iinc 3 (-1), 3) := by decide +kernel
theorem dX9_findCleaning_258 : decode cX9_findCleaning 258 = .ok (.goto (-197), 3) := by decide +kernel
theorem dX9_findCleaning_261 : decode cX9_findCleaning 261 = .ok (.return_, 1) := by decide +kernel
theorem dX9_cleaning_0 : decode cX9_cleaning 0 = .ok (.iload_n 1, 1) := by decide +kernel
theorem dX9_cleaning_1 : decode cX9_cleaning 1 = .ok (.iconst (-1), 1) := by decide +kernel
theorem dX9_cleaning_2 : decode cX9_cleaning 2 = .ok (.if_icmp .eq 13, 3) := by decide +kernel
theorem dX9_cleaning_5 : decode cX9_cleaning 5 = .ok (.aload_n 0, 1) := by decide +kernel
theorem dX9_cleaning_6 : decode cX9_cleaning 6 = .ok (.iload_n 1, 1) := by decide +kernel
theorem dX9_cleaning_7 : decode cX9_cleaning 7 = .ok (.invokevirtual 112, 3) := by decide +kernel
theorem dX9_cleaning_10 : decode cX9_cleaning 10 = .ok (.ifCond .ne 5, 3) := by decide +kernel
theorem dX9_cleaning_13 : decode cX9_cleaning 13 = .ok (.iconst (-1), 1) := by decide +kernel
theorem dX9_cleaning_14 : decode cX9_cleaning 14 = .ok (.ireturn, 1) := by decide +kernel
theorem dX9_cleaning_15 : decode cX9_cleaning 15 = .ok (.aload_n 0, 1) := by decide +kernel
theorem dX9_cleaning_16 : decode cX9_cleaning 16 = .ok (.invokevirtual 160, 3) := by decide +kernel
theorem dX9_cleaning_19 : decode cX9_cleaning 19 = .ok (.iload_n 1, 1) := by decide +kernel
theorem dX9_cleaning_20 : decode cX9_cleaning 20 = .ok (.ifCond .ge 23, 3) := by decide +kernel
theorem dX9_cleaning_23 : decode cX9_cleaning 23 = .ok (.aload_n 0, 1) := by decide +kernel
theorem dX9_cleaning_24 : decode cX9_cleaning 24 = .ok (.getfield 9, 3) := by decide +kernel
theorem dX9_cleaning_27 : decode cX9_cleaning 27 = .ok (.iconst 0, 1) := by decide +kernel
theorem dX9_cleaning_28 : decode cX9_cleaning 28 = .ok (.iaload, 1) := by decide +kernel
theorem dX9_cleaning_29 : decode cX9_cleaning 29 = .ok (.ifCond .ne 7, 3) := by decide +kernel
theorem dX9_cleaning_32 : decode cX9_cleaning 32 = .ok (.iconst 0, 1) := by decide +kernel
theorem dX9_cleaning_33 : decode cX9_cleaning 33 = .ok (.goto 9, 3) := by decide +kernel
theorem dX9_cleaning_36 : decode cX9_cleaning 36 = .ok (.aload_n 0, 1) := by decide +kernel
theorem dX9_cleaning_37 : decode cX9_cleaning 37 = .ok (.getfield 37, 3) := by decide +kernel
theorem dX9_cleaning_40 : decode cX9_cleaning 40 = .ok (.iconst 0, 1) := by decide +kernel
theorem dX9_cleaning_41 : decode cX9_cleaning 41 = .ok (.iaload, 1) := by decide +kernel
theorem dX9_cleaning_42 : decode cX9_cleaning 42 = .ok (.ireturn, 1) := by decide +kernel
theorem dX9_cleaning_43 : decode cX9_cleaning 43 = .ok (.iconst 0, 1) := by decide +kernel
theorem dX9_cleaning_44 : decode cX9_cleaning 44 = .ok (.istore_n 2, 1) := by decide +kernel
theorem dX9_cleaning_45 : decode cX9_cleaning 45 = .ok (.iconst 0, 1) := by decide +kernel
theorem dX9_cleaning_46 : decode cX9_cleaning 46 = .ok (.istore_n 3, 1) := by decide +kernel
theorem dX9_cleaning_47 : decode cX9_cleaning 47 = .ok (.iload_n 3, 1) := by decide +kernel
theorem dX9_cleaning_48 : decode cX9_cleaning 48 = .ok (.iload_n 1, 1) := by decide +kernel
theorem dX9_cleaning_49 : decode cX9_cleaning 49 = .ok (.if_icmp .ge 31, 3) := by decide +kernel
theorem dX9_cleaning_52 : decode cX9_cleaning 52 = .ok (.iload_n 2, 1) := by decide +kernel
theorem dX9_cleaning_53 : decode cX9_cleaning 53 = .ok (.aload_n 0, 1) := by decide +kernel
theorem dX9_cleaning_54 : decode cX9_cleaning 54 = .ok (.iload_n 3, 1) := by decide +kernel
theorem dX9_cleaning_55 : decode cX9_cleaning 55 = .ok (.iconst 3, 1) := by decide +kernel
theorem dX9_cleaning_56 : decode cX9_cleaning 56 = .ok (.invokevirtual 116, 3) := by decide +kernel
theorem dX9_cleaning_59 : decode cX9_cleaning 59 = .ok (.aload_n 0, 1) := by decide +kernel
theorem dX9_cleaning_60 : decode cX9_cleaning 60 = .ok (.getfield 40, 3) := by decide +kernel
theorem dX9_cleaning_63 : decode cX9_cleaning 63 = .ok (.sipush 130, 3) := by decide +kernel
theorem dX9_cleaning_66 : decode cX9_cleaning 66 = .ok (.iload_n 3, 1) := by decide +kernel
theorem dX9_cleaning_67 : decode cX9_cleaning 67 = .ok (.imul, 1) := by decide +kernel
theorem dX9_cleaning_68 : decode cX9_cleaning 68 = .ok (.iload_n 2, 1) := by decide +kernel
theorem dX9_cleaning_69 : decode cX9_cleaning 69 = .ok (.iadd, 1) := by decide +kernel
theorem dX9_cleaning_70 : decode cX9_cleaning 70 = .ok (.iaload, 1) := by decide +kernel
theorem dX9_cleaning_71 : decode cX9_cleaning 71 = .ok (.isub, 1) := by decide +kernel
theorem dX9_cleaning_72 : decode cX9_cleaning 72 = .ok (.iadd, 1) := by decide +kernel
theorem dX9_cleaning_73 : decode cX9_cleaning 73 = .ok (.istore_n 2, 1) := by decide +kernel
theorem dX9_cleaning_74 : decode cX9_cleaning 74 = .ok (.iinc 3 1, 3) := by decide +kernel
theorem dX9_cleaning_77 : decode cX9_cleaning 77 = .ok (.goto (-30), 3) := by decide +kernel
theorem dX9_cleaning_80 : decode cX9_cleaning 80 = .ok (.aload_n 0, 1) := by decide +kernel
theorem dX9_cleaning_81 : decode cX9_cleaning 81 = .ok (.getfield 40, 3) := by decide +kernel
theorem dX9_cleaning_84 : decode cX9_cleaning 84 = .ok (.sipush 130, 3) := by decide +kernel
theorem dX9_cleaning_87 : decode cX9_cleaning 87 = .ok (.iload_n 1, 1) := by decide +kernel
theorem dX9_cleaning_88 : decode cX9_cleaning 88 = .ok (.imul, 1) := by decide +kernel
theorem dX9_cleaning_89 : decode cX9_cleaning 89 = .ok (.iload_n 2, 1) := by decide +kernel
theorem dX9_cleaning_90 : decode cX9_cleaning 90 = .ok (.iadd, 1) := by decide +kernel
theorem dX9_cleaning_91 : decode cX9_cleaning 91 = .ok (.iaload, 1) := by decide +kernel
theorem dX9_cleaning_92 : decode cX9_cleaning 92 = .ok (.ireturn, 1) := by decide +kernel
theorem dX9_year_0 : decode cX9_year 0 = .ok (.iload_n 1, 1) := by decide +kernel
theorem dX9_year_1 : decode cX9_year 1 = .ok (.iconst 0, 1) := by decide +kernel
theorem dX9_year_2 : decode cX9_year 2 = .ok (.bipush 20, 2) := by decide +kernel
theorem dX9_year_4 : decode cX9_year 4 = .ok (.invokestatic 104, 3) := by decide +kernel
theorem dX9_year_7 : decode cX9_year 7 = .ok (.ifCond .ne 5, 3) := by decide +kernel
theorem dX9_year_10 : decode cX9_year 10 = .ok (.iconst (-1), 1) := by decide +kernel
theorem dX9_year_11 : decode cX9_year 11 = .ok (.ireturn, 1) := by decide +kernel
theorem dX9_year_12 : decode cX9_year 12 = .ok (.aload_n 0, 1) := by decide +kernel
theorem dX9_year_13 : decode cX9_year 13 = .ok (.getfield 9, 3) := by decide +kernel
theorem dX9_year_16 : decode cX9_year 16 = .ok (.iconst 1, 1) := by decide +kernel
theorem dX9_year_17 : decode cX9_year 17 = .ok (.iaload, 1) := by decide +kernel
theorem dX9_year_18 : decode cX9_year 18 = .ok (.istore_n 2, 1) := by decide +kernel
theorem dX9_year_19 : decode cX9_year 19 = .ok (.iload_n 2, 1) := by decide +kernel
theorem dX9_year_20 : decode cX9_year 20 = .ok (.bipush 6, 2) := by decide +kernel
theorem dX9_year_22 : decode cX9_year 22 = .ok (.if_icmp .ne 6, 3) := by decide +kernel
theorem dX9_year_25 : decode cX9_year 25 = .ok (.bipush (-2), 2) := by decide +kernel
theorem dX9_year_27 : decode cX9_year 27 = .ok (.ireturn, 1) := by decide +kernel
theorem dX9_year_28 : decode cX9_year 28 = .ok (.aload_n 0, 1) := by decide +kernel
theorem dX9_year_29 : decode cX9_year 29 = .ok (.getfield 9, 3) := by decide +kernel
theorem dX9_year_32 : decode cX9_year 32 = .ok (.bipush 118, 2) := by decide +kernel
theorem dX9_year_34 : decode cX9_year 34 = .ok (.iload_n 2, 1) := by decide +kernel
theorem dX9_year_35 : decode cX9_year 35 = .ok (.iadd, 1) := by decide +kernel
theorem dX9_year_36 : decode cX9_year 36 = .ok (.iload_n 1, 1) := by decide +kernel
theorem dX9_year_37 : decode cX9_year 37 = .ok (.iastore, 1) := by decide +kernel
theorem dX9_year_38 : decode cX9_year 38 = .ok (.aload_n 0, 1) := by decide +kernel
theorem dX9_year_39 : decode cX9_year 39 = .ok (.getfield 9, 3) := by decide +kernel
theorem dX9_year_42 : decode cX9_year 42 = .ok (.iconst 1, 1) := by decide +kernel
theorem dX9_year_43 : decode cX9_year 43 = .ok (.dup2, 1) := by decide +kernel
theorem dX9_year_44 : decode cX9_year 44 = .ok (.iaload, 1) := by decide +kernel
theorem dX9_year_45 : decode cX9_year 45 = .ok (.iconst 1, 1) := by decide +kernel
theorem dX9_year_46 : decode cX9_year 46 = .ok (.iadd, 1) := by decide +kernel
theorem dX9_year_47 : decode cX9_year 47 = .ok (.iastore, 1) := by decide +kernel
theorem dX9_year_48 : decode cX9_year 48 = .ok (.iload_n 2, 1) := by decide +kernel
theorem dX9_year_49 : decode cX9_year 49 = .ok (.ireturn, 1) := by decide +kernel
theorem dX9_yearOf_0 : decode cX9_yearOf 0 = .ok (.iload_n 1, 1) := by decide +kernel
theorem dX9_yearOf_1 : decode cX9_yearOf 1 = .ok (.iconst 0, 1) := by decide +kernel
theorem dX9_yearOf_2 : decode cX9_yearOf 2 = .ok (.aload_n 0, 1) := by decide +kernel
theorem dX9_yearOf_3 : decode cX9_yearOf 3 = .ok (.getfield 9, 3) := by decide +kernel
theorem dX9_yearOf_6 : decode cX9_yearOf 6 = .ok (.iconst 1, 1) := by decide +kernel
theorem dX9_yearOf_7 : decode cX9_yearOf 7 = .ok (.iaload, 1) := by decide +kernel
theorem dX9_yearOf_8 : decode cX9_yearOf 8 = .ok (.iconst 1, 1) := by decide +kernel
theorem dX9_yearOf_9 : decode cX9_yearOf 9 = .ok (.isub, 1) := by decide +kernel
theorem dX9_yearOf_10 : decode cX9_yearOf 10 = .ok (.invokestatic 104, 3) := by decide +kernel
theorem dX9_yearOf_13 : decode cX9_yearOf 13 = .ok (.ifCond .eq 13, 3) := by decide +kernel
theorem dX9_yearOf_16 : decode cX9_yearOf 16 = .ok (.iload_n 2, 1) := by decide +kernel
theorem dX9_yearOf_17 : decode cX9_yearOf 17 = .ok (.iconst 0, 1) := by decide +kernel
theorem dX9_yearOf_18 : decode cX9_yearOf 18 = .ok (.bipush 20, 2) := by decide +kernel
theorem dX9_yearOf_20 : decode cX9_yearOf 20 = .ok (.invokestatic 104, 3) := by decide +kernel
theorem dX9_yearOf_23 : decode cX9_yearOf 23 = .ok (.ifCond .ne 5, 3) := by decide +kernel
theorem dX9_yearOf_26 : decode cX9_yearOf 26 = .ok (.iconst (-1), 1) := by decide +kernel
theorem dX9_yearOf_27 : decode cX9_yearOf 27 = .ok (.ireturn, 1) := by decide +kernel
theorem dX9_yearOf_28 : decode cX9_yearOf 28 = .ok (.aload_n 0, 1) := by decide +kernel
theorem dX9_yearOf_29 : decode cX9_yearOf 29 = .ok (.getfield 9, 3) := by decide +kernel
theorem dX9_yearOf_32 : decode cX9_yearOf 32 = .ok (.bipush 118, 2) := by decide +kernel
theorem dX9_yearOf_34 : decode cX9_yearOf 34 = .ok (.iload_n 1, 1) := by decide +kernel
theorem dX9_yearOf_35 : decode cX9_yearOf 35 = .ok (.iadd, 1) := by decide +kernel
theorem dX9_yearOf_36 : decode cX9_yearOf 36 = .ok (.iaload, 1) := by decide +kernel
theorem dX9_yearOf_37 : decode cX9_yearOf 37 = .ok (.istore_n 3, 1) := by decide +kernel
theorem dX9_yearOf_38 : decode cX9_yearOf 38 = .ok (.aload_n 0, 1) := by decide +kernel
theorem dX9_yearOf_39 : decode cX9_yearOf 39 = .ok (.getfield 9, 3) := by decide +kernel
theorem dX9_yearOf_42 : decode cX9_yearOf 42 = .ok (.bipush 118, 2) := by decide +kernel
theorem dX9_yearOf_44 : decode cX9_yearOf 44 = .ok (.iload_n 1, 1) := by decide +kernel
theorem dX9_yearOf_45 : decode cX9_yearOf 45 = .ok (.iadd, 1) := by decide +kernel
theorem dX9_yearOf_46 : decode cX9_yearOf 46 = .ok (.iload_n 2, 1) := by decide +kernel
theorem dX9_yearOf_47 : decode cX9_yearOf 47 = .ok (.iastore, 1) := by decide +kernel
theorem dX9_yearOf_48 : decode cX9_yearOf 48 = .ok (.iload_n 3, 1) := by decide +kernel
theorem dX9_yearOf_49 : decode cX9_yearOf 49 = .ok (.ireturn, 1) := by decide +kernel
theorem dX9_dam_0 : decode cX9_dam 0 = .ok (.iload_n 1, 1) := by decide +kernel
theorem dX9_dam_1 : decode cX9_dam 1 = .ok (.iconst (-1), 1) := by decide +kernel
theorem dX9_dam_2 : decode cX9_dam 2 = .ok (.if_icmp .eq 11, 3) := by decide +kernel
theorem dX9_dam_5 : decode cX9_dam 5 = .ok (.aload_n 0, 1) := by decide +kernel
theorem dX9_dam_6 : decode cX9_dam 6 = .ok (.iload_n 1, 1) := by decide +kernel
theorem dX9_dam_7 : decode cX9_dam 7 = .ok (.invokevirtual 112, 3) := by decide +kernel
theorem dX9_dam_10 : decode cX9_dam 10 = .ok (.ifCond .eq 12, 3) := by decide +kernel
theorem dX9_dam_13 : decode cX9_dam 13 = .ok (.iload_n 2, 1) := by decide +kernel
theorem dX9_dam_14 : decode cX9_dam 14 = .ok (.iconst 0, 1) := by decide +kernel
theorem dX9_dam_15 : decode cX9_dam 15 = .ok (.iconst 4, 1) := by decide +kernel
theorem dX9_dam_16 : decode cX9_dam 16 = .ok (.invokestatic 104, 3) := by decide +kernel
theorem dX9_dam_19 : decode cX9_dam 19 = .ok (.ifCond .ne 5, 3) := by decide +kernel
theorem dX9_dam_22 : decode cX9_dam 22 = .ok (.iconst (-1), 1) := by decide +kernel
theorem dX9_dam_23 : decode cX9_dam 23 = .ok (.ireturn, 1) := by decide +kernel
theorem dX9_dam_24 : decode cX9_dam 24 = .ok (.aload_n 0, 1) := by decide +kernel
theorem dX9_dam_25 : decode cX9_dam 25 = .ok (.getfield 9, 3) := by decide +kernel
theorem dX9_dam_28 : decode cX9_dam 28 = .ok (.iconst 4, 1) := by decide +kernel
theorem dX9_dam_29 : decode cX9_dam 29 = .ok (.iload_n 1, 1) := by decide +kernel
theorem dX9_dam_30 : decode cX9_dam 30 = .ok (.iastore, 1) := by decide +kernel
theorem dX9_dam_31 : decode cX9_dam 31 = .ok (.aload_n 0, 1) := by decide +kernel
theorem dX9_dam_32 : decode cX9_dam 32 = .ok (.getfield 9, 3) := by decide +kernel
theorem dX9_dam_35 : decode cX9_dam 35 = .ok (.iconst 5, 1) := by decide +kernel
theorem dX9_dam_36 : decode cX9_dam 36 = .ok (.iload_n 2, 1) := by decide +kernel
theorem dX9_dam_37 : decode cX9_dam 37 = .ok (.iastore, 1) := by decide +kernel
theorem dX9_dam_38 : decode cX9_dam 38 = .ok (.iconst 1, 1) := by decide +kernel
theorem dX9_dam_39 : decode cX9_dam 39 = .ok (.ireturn, 1) := by decide +kernel
theorem dX9_findYear_0 : decode cX9_findYear 0 = .ok (.aload_n 0, 1) := by decide +kernel
theorem dX9_findYear_1 : decode cX9_findYear 1 = .ok (.getfield 9, 3) := by decide +kernel
theorem dX9_findYear_4 : decode cX9_findYear 4 = .ok (.iconst 5, 1) := by decide +kernel
theorem dX9_findYear_5 : decode cX9_findYear 5 = .ok (.iaload, 1) := by decide +kernel
theorem dX9_findYear_6 : decode cX9_findYear 6 = .ok (.ineg, 1) := by decide +kernel
theorem dX9_findYear_7 : decode cX9_findYear 7 = .ok (.istore_n 2, 1) := by decide +kernel
theorem dX9_findYear_8 : decode cX9_findYear 8 = .ok (.iload_n 2, 1) := by decide +kernel
theorem dX9_findYear_9 : decode cX9_findYear 9 = .ok (.aload_n 0, 1) := by decide +kernel
theorem dX9_findYear_10 : decode cX9_findYear 10 = .ok (.getfield 9, 3) := by decide +kernel
theorem dX9_findYear_13 : decode cX9_findYear 13 = .ok (.iconst 5, 1) := by decide +kernel
theorem dX9_findYear_14 : decode cX9_findYear 14 = .ok (.iaload, 1) := by decide +kernel
theorem dX9_findYear_15 : decode cX9_findYear 15 = .ok (.if_icmp .gt 116, 3) := by decide +kernel
theorem dX9_findYear_18 : decode cX9_findYear 18 = .ok (.aload_n 0, 1) := by decide +kernel
theorem dX9_findYear_19 : decode cX9_findYear 19 = .ok (.getfield 9, 3) := by decide +kernel
theorem dX9_findYear_22 : decode cX9_findYear 22 = .ok (.iconst 4, 1) := by decide +kernel
theorem dX9_findYear_23 : decode cX9_findYear 23 = .ok (.iaload, 1) := by decide +kernel
theorem dX9_findYear_24 : decode cX9_findYear 24 = .ok (.istore_n 3, 1) := by decide +kernel
theorem dX9_findYear_25 : decode cX9_findYear 25 = .ok (.aload_n 0, 1) := by decide +kernel
theorem dX9_findYear_26 : decode cX9_findYear 26 = .ok (.aload_n 0, 1) := by decide +kernel
theorem dX9_findYear_27 : decode cX9_findYear 27 = .ok (.getfield 9, 3) := by decide +kernel
theorem dX9_findYear_30 : decode cX9_findYear 30 = .ok (.bipush 118, 2) := by decide +kernel
theorem dX9_findYear_32 : decode cX9_findYear 32 = .ok (.iload_n 1, 1) := by decide +kernel
theorem dX9_findYear_33 : decode cX9_findYear 33 = .ok (.iadd, 1) := by decide +kernel
theorem dX9_findYear_34 : decode cX9_findYear 34 = .ok (.iaload, 1) := by decide +kernel
theorem dX9_findYear_35 : decode cX9_findYear 35 = .ok (.invokevirtual 129, 3) := by decide +kernel
theorem dX9_findYear_38 : decode cX9_findYear 38 = .ok (.aload_n 0, 1) := by decide +kernel
theorem dX9_findYear_39 : decode cX9_findYear 39 = .ok (.getfield 52, 3) := by decide +kernel
theorem dX9_findYear_42 : decode cX9_findYear 42 = .ok (.iload_n 2, 1) := by decide +kernel
theorem dX9_findYear_43 : decode cX9_findYear 43 = .ok (.iconst 4, 1) := by decide +kernel
theorem dX9_findYear_44 : decode cX9_findYear 44 = .ok (.iadd, 1) := by decide +kernel
theorem dX9_findYear_45 : decode cX9_findYear 45 = .ok (.iload_n 3, 1) := by decide +kernel
theorem dX9_findYear_46 : decode cX9_findYear 46 = .ok (.ifCond .lt 14, 3) := by decide +kernel
theorem dX9_findYear_49 : decode cX9_findYear 49 = .ok (.aload_n 0, 1) := by decide +kernel
theorem dX9_findYear_50 : decode cX9_findYear 50 = .ok (.getfield 22, 3) := by decide +kernel
theorem dX9_findYear_53 : decode cX9_findYear 53 = .ok (.iload_n 3, 1) := by decide +kernel
theorem dX9_findYear_54 : decode cX9_findYear 54 = .ok (.iaload, 1) := by decide +kernel
theorem dX9_findYear_55 : decode cX9_findYear 55 = .ok (.iload_n 2, 1) := by decide +kernel
theorem dX9_findYear_56 : decode cX9_findYear 56 = .ok (.iadd, 1) := by decide +kernel
theorem dX9_findYear_57 : decode cX9_findYear 57 = .ok (.ifCond .lt 7, 3) := by decide +kernel
theorem dX9_findYear_60 : decode cX9_findYear 60 = .ok (.iconst 1, 1) := by decide +kernel
theorem dX9_findYear_61 : decode cX9_findYear 61 = .ok (.goto 4, 3) := by decide +kernel
theorem dX9_findYear_64 : decode cX9_findYear 64 = .ok (.iconst 0, 1) := by decide +kernel
theorem dX9_findYear_65 : decode cX9_findYear 65 = .ok (.bastore, 1) := by decide +kernel
theorem dX9_findYear_66 : decode cX9_findYear 66 = .ok (.iload_n 3, 1) := by decide +kernel
theorem dX9_findYear_67 : decode cX9_findYear 67 = .ok (.ifCond .lt 24, 3) := by decide +kernel
theorem dX9_findYear_70 : decode cX9_findYear 70 = .ok (.aload_n 0, 1) := by decide +kernel
theorem dX9_findYear_71 : decode cX9_findYear 71 = .ok (.getfield 52, 3) := by decide +kernel
theorem dX9_findYear_74 : decode cX9_findYear 74 = .ok (.iload_n 2, 1) := by decide +kernel
theorem dX9_findYear_75 : decode cX9_findYear 75 = .ok (.iconst 4, 1) := by decide +kernel
theorem dX9_findYear_76 : decode cX9_findYear 76 = .ok (.iadd, 1) := by decide +kernel
theorem dX9_findYear_77 : decode cX9_findYear 77 = .ok (.baload, 1) := by decide +kernel
theorem dX9_findYear_78 : decode cX9_findYear 78 = .ok (.ifCond .eq 13, 3) := by decide +kernel
theorem dX9_findYear_81 : decode cX9_findYear 81 = .ok (.aload_n 0, 1) := by decide +kernel
theorem dX9_findYear_82 : decode cX9_findYear 82 = .ok (.getfield 22, 3) := by decide +kernel
theorem dX9_findYear_85 : decode cX9_findYear 85 = .ok (.iload_n 3, 1) := by decide +kernel
theorem dX9_findYear_86 : decode cX9_findYear 86 = .ok (.dup2, 1) := by decide +kernel
theorem dX9_findYear_87 : decode cX9_findYear 87 = .ok (.iaload, 1) := by decide +kernel
theorem dX9_findYear_88 : decode cX9_findYear 88 = .ok (.iload_n 2, 1) := by decide +kernel
theorem dX9_findYear_89 : decode cX9_findYear 89 = .ok (.iadd, 1) := by decide +kernel
theorem dX9_findYear_90 : decode cX9_findYear 90 = .ok (.iastore, 1) := by decide +kernel
theorem dX9_findYear_91 : decode cX9_findYear 91 = .ok (.aload_n 0, 1) := by decide +kernel
theorem dX9_findYear_92 : decode cX9_findYear 92 = .ok (.getfield 49, 3) := by decide +kernel
theorem dX9_findYear_95 : decode cX9_findYear 95 = .ok (.iload_n 2, 1) := by decide +kernel
theorem dX9_findYear_96 : decode cX9_findYear 96 = .ok (.iconst 4, 1) := by decide +kernel
theorem dX9_findYear_97 : decode cX9_findYear 97 = .ok (.iadd, 1) := by decide +kernel
theorem dX9_findYear_98 : decode cX9_findYear 98 = .ok (.aload_n 0, 1) := by decide +kernel
theorem dX9_findYear_99 : decode cX9_findYear 99 = .ok (.getfield 9, 3) := by decide +kernel
theorem dX9_findYear_102 : decode cX9_findYear 102 = .ok (.iconst 0, 1) := by decide +kernel
theorem dX9_findYear_103 : decode cX9_findYear 103 = .ok (.iaload, 1) := by decide +kernel
theorem dX9_findYear_104 : decode cX9_findYear 104 = .ok (.ifCond .ne 7, 3) := by decide +kernel
theorem dX9_findYear_107 : decode cX9_findYear 107 = .ok (.iconst 0, 1) := by decide +kernel
theorem dX9_findYear_108 : decode cX9_findYear 108 = .ok (.goto 16, 3) := by decide +kernel
theorem dX9_findYear_111 : decode cX9_findYear 111 = .ok (.aload_n 0, 1) := by decide +kernel
theorem dX9_findYear_112 : decode cX9_findYear 112 = .ok (.iconst 0, 1) := by decide +kernel
theorem dX9_findYear_113 : decode cX9_findYear 113 = .ok (.aload_n 0, 1) := by decide +kernel
theorem dX9_findYear_114 : decode cX9_findYear 114 = .ok (.getfield 9, 3) := by decide +kernel
theorem dX9_findYear_117 : decode cX9_findYear 117 = .ok (.iconst 0, 1) := by decide +kernel
theorem dX9_findYear_118 : decode cX9_findYear 118 = .ok (.iaload, 1) := by decide +kernel
theorem dX9_findYear_119 : decode cX9_findYear 119 = .ok (.iconst 1, 1) := by decide +kernel
theorem dX9_findYear_120 : decode cX9_findYear 120 = .ok (.isub, 1) := by decide +kernel
theorem dX9_findYear_121 : decode cX9_findYear 121 = .ok (.invokevirtual 133, 3) := by decide +kernel
theorem dX9_findYear_124 : decode cX9_findYear 124 = .ok (.iastore, 1) := by decide +kernel
theorem dX9_findYear_125 : decode cX9_findYear 125 = .ok (.iinc 2 1, 3) := by decide +kernel
theorem dX9_findYear_128 : decode cX9_findYear 128 = .ok (.goto (-120), 3) := by decide +kernel
theorem dX9_findYear_131 : decode cX9_findYear 131 = .ok (.return_, 1) := by decide +kernel
theorem dX9_findKept_0 : decode cX9_findKept 0 = .ok (.aload_n 0, 1) := by decide +kernel
theorem dX9_findKept_1 : decode cX9_findKept 1 = .ok (.getfield 9, 3) := by decide +kernel
theorem dX9_findKept_4 : decode cX9_findKept 4 = .ok (.iconst 1, 1) := by decide +kernel
theorem dX9_findKept_5 : decode cX9_findKept 5 = .ok (.iaload, 1) := by decide +kernel
theorem dX9_findKept_6 : decode cX9_findKept 6 = .ok (.istore_n 1, 1) := by decide +kernel
theorem dX9_findKept_7 : decode cX9_findKept 7 = .ok (.iconst 0, 1) := by decide +kernel
theorem dX9_findKept_8 : decode cX9_findKept 8 = .ok (.istore_n 2, 1) := by decide +kernel
theorem dX9_findKept_9 : decode cX9_findKept 9 = .ok (.iload_n 2, 1) := by decide +kernel
theorem dX9_findKept_10 : decode cX9_findKept 10 = .ok (.iconst 5, 1) := by decide +kernel
theorem dX9_findKept_11 : decode cX9_findKept 11 = .ok (.if_icmp .ge 20, 3) := by decide +kernel
theorem dX9_findKept_14 : decode cX9_findKept 14 = .ok (.aload_n 0, 1) := by decide +kernel
theorem dX9_findKept_15 : decode cX9_findKept 15 = .ok (.getfield 43, 3) := by decide +kernel
theorem dX9_findKept_18 : decode cX9_findKept 18 = .ok (.iconst 5, 1) := by decide +kernel
theorem dX9_findKept_19 : decode cX9_findKept 19 = .ok (.iload_n 1, 1) := by decide +kernel
theorem dX9_findKept_20 : decode cX9_findKept 20 = .ok (.imul, 1) := by decide +kernel
theorem dX9_findKept_21 : decode cX9_findKept 21 = .ok (.iload_n 2, 1) := by decide +kernel
theorem dX9_findKept_22 : decode cX9_findKept 22 = .ok (.iadd, 1) := by decide +kernel
theorem dX9_findKept_23 : decode cX9_findKept 23 = .ok (.iconst 0, 1) := by decide +kernel
theorem dX9_findKept_24 : decode cX9_findKept 24 = .ok (.iastore, 1) := by decide +kernel
theorem dX9_findKept_25 : decode cX9_findKept 25 = .ok (.iinc 2 1, 3) := by decide +kernel
theorem dX9_findKept_28 : decode cX9_findKept 28 = .ok (.goto (-19), 3) := by decide +kernel
theorem dX9_findKept_31 : decode cX9_findKept 31 = .ok (.iload_n 1, 1) := by decide +kernel
theorem dX9_findKept_32 : decode cX9_findKept 32 = .ok (.iconst 1, 1) := by decide +kernel
theorem dX9_findKept_33 : decode cX9_findKept 33 = .ok (.isub, 1) := by decide +kernel
theorem dX9_findKept_34 : decode cX9_findKept 34 = .ok (.istore_n 2, 1) := by decide +kernel
theorem dX9_findKept_35 : decode cX9_findKept 35 = .ok (.iload_n 2, 1) := by decide +kernel
theorem dX9_findKept_36 : decode cX9_findKept 36 = .ok (.ifCond .lt 136, 3) := by decide +kernel
theorem dX9_findKept_39 : decode cX9_findKept 39 = .ok (.aload_n 0, 1) := by decide +kernel
theorem dX9_findKept_40 : decode cX9_findKept 40 = .ok (.iload_n 2, 1) := by decide +kernel
theorem dX9_findKept_41 : decode cX9_findKept 41 = .ok (.invokevirtual 163, 3) := by decide +kernel
theorem dX9_findKept_44 : decode cX9_findKept 44 = .ok (.iconst 0, 1) := by decide +kernel
theorem dX9_findKept_45 : decode cX9_findKept 45 = .ok (.istore_n 3, 1) := by decide +kernel
theorem dX9_findKept_46 : decode cX9_findKept 46 = .ok (.iload_n 3, 1) := by decide +kernel
theorem dX9_findKept_47 : decode cX9_findKept 47 = .ok (.aload_n 0, 1) := by decide +kernel
theorem dX9_findKept_48 : decode cX9_findKept 48 = .ok (.getfield 9, 3) := by decide +kernel
theorem dX9_findKept_51 : decode cX9_findKept 51 = .ok (.iconst 5, 1) := by decide +kernel
theorem dX9_findKept_52 : decode cX9_findKept 52 = .ok (.iaload, 1) := by decide +kernel
theorem dX9_findKept_53 : decode cX9_findKept 53 = .ok (.if_icmp .gt 113, 3) := by decide +kernel
theorem dX9_findKept_56 : decode cX9_findKept 56 = .ok (.iconst 0, 1) := by decide +kernel
theorem dX9_findKept_57 : decode cX9_findKept 57 = .ok (.istore 4, 2) := by decide +kernel
theorem dX9_findKept_59 : decode cX9_findKept 59 = .ok (.iconst 0, 1) := by decide +kernel
theorem dX9_findKept_60 : decode cX9_findKept 60 = .ok (.istore 5, 2) := by decide +kernel
theorem dX9_findKept_62 : decode cX9_findKept 62 = .ok (.iload 5, 2) := by decide +kernel
theorem dX9_findKept_64 : decode cX9_findKept 64 = .ok (.aload_n 0, 1) := by decide +kernel
theorem dX9_findKept_65 : decode cX9_findKept 65 = .ok (.getfield 9, 3) := by decide +kernel
theorem dX9_findKept_68 : decode cX9_findKept 68 = .ok (.iconst 5, 1) := by decide +kernel
theorem dX9_findKept_69 : decode cX9_findKept 69 = .ok (.iaload, 1) := by decide +kernel
theorem dX9_findKept_70 : decode cX9_findKept 70 = .ok (.if_icmp .gt 78, 3) := by decide +kernel
theorem dX9_findKept_73 : decode cX9_findKept 73 = .ok (.aload_n 0, 1) := by decide +kernel
theorem dX9_findKept_74 : decode cX9_findKept 74 = .ok (.getfield 49, 3) := by decide +kernel
theorem dX9_findKept_77 : decode cX9_findKept 77 = .ok (.iload_n 3, 1) := by decide +kernel
theorem dX9_findKept_78 : decode cX9_findKept 78 = .ok (.iload 5, 2) := by decide +kernel
theorem dX9_findKept_80 : decode cX9_findKept 80 = .ok (.isub, 1) := by decide +kernel
theorem dX9_findKept_81 : decode cX9_findKept 81 = .ok (.iconst 4, 1) := by decide +kernel
theorem dX9_findKept_82 : decode cX9_findKept 82 = .ok (.iadd, 1) := by decide +kernel
theorem dX9_findKept_83 : decode cX9_findKept 83 = .ok (.iaload, 1) := by decide +kernel
theorem dX9_findKept_84 : decode cX9_findKept 84 = .ok (.aload_n 0, 1) := by decide +kernel
theorem dX9_findKept_85 : decode cX9_findKept 85 = .ok (.getfield 43, 3) := by decide +kernel
theorem dX9_findKept_88 : decode cX9_findKept 88 = .ok (.iconst 5, 1) := by decide +kernel
theorem dX9_findKept_89 : decode cX9_findKept 89 = .ok (.iload_n 2, 1) := by decide +kernel
theorem dX9_findKept_90 : decode cX9_findKept 90 = .ok (.iconst 1, 1) := by decide +kernel
theorem dX9_findKept_91 : decode cX9_findKept 91 = .ok (.iadd, 1) := by decide +kernel
theorem dX9_findKept_92 : decode cX9_findKept 92 = .ok (.imul, 1) := by decide +kernel
theorem dX9_findKept_93 : decode cX9_findKept 93 = .ok (.iload 5, 2) := by decide +kernel
theorem dX9_findKept_95 : decode cX9_findKept 95 = .ok (.iadd, 1) := by decide +kernel
theorem dX9_findKept_96 : decode cX9_findKept 96 = .ok (.iaload, 1) := by decide +kernel
theorem dX9_findKept_97 : decode cX9_findKept 97 = .ok (.iadd, 1) := by decide +kernel
theorem dX9_findKept_98 : decode cX9_findKept 98 = .ok (.istore 6, 2) := by decide +kernel
theorem dX9_findKept_100 : decode cX9_findKept 100 = .ok (.aload_n 0, 1) := by decide +kernel
theorem dX9_findKept_101 : decode cX9_findKept 101 = .ok (.getfield 52, 3) := by decide +kernel
theorem dX9_findKept_104 : decode cX9_findKept 104 = .ok (.iload_n 3, 1) := by decide +kernel
theorem dX9_findKept_105 : decode cX9_findKept 105 = .ok (.iload 5, 2) := by decide +kernel
theorem dX9_findKept_107 : decode cX9_findKept 107 = .ok (.isub, 1) := by decide +kernel
theorem dX9_findKept_108 : decode cX9_findKept 108 = .ok (.iconst 4, 1) := by decide +kernel
theorem dX9_findKept_109 : decode cX9_findKept 109 = .ok (.iadd, 1) := by decide +kernel
theorem dX9_findKept_110 : decode cX9_findKept 110 = .ok (.baload, 1) := by decide +kernel
theorem dX9_findKept_111 : decode cX9_findKept 111 = .ok (.ifCond .eq 31, 3) := by decide +kernel
theorem dX9_findKept_114 : decode cX9_findKept 114 = .ok (.iload 5, 2) := by decide +kernel
theorem dX9_findKept_116 : decode cX9_findKept 116 = .ok (.ifCond .eq 10, 3) := by decide +kernel
theorem dX9_findKept_119 : decode cX9_findKept 119 = .ok (.iload 6, 2) := by decide +kernel
theorem dX9_findKept_121 : decode cX9_findKept 121 = .ok (.iload 4, 2) := by decide +kernel
theorem dX9_findKept_123 : decode cX9_findKept 123 = .ok (.if_icmp .le 19, 3) := by decide +kernel
theorem dX9_findKept_126 : decode cX9_findKept 126 = .ok (.iload 6, 2) := by decide +kernel
theorem dX9_findKept_128 : decode cX9_findKept 128 = .ok (.istore 4, 2) := by decide +kernel
theorem dX9_findKept_130 : decode cX9_findKept 130 = .ok (.aload_n 0, 1) := by decide +kernel
theorem dX9_findKept_131 : decode cX9_findKept 131 = .ok (.getfield 46, 3) := by decide +kernel
theorem dX9_findKept_134 : decode cX9_findKept 134 = .ok (.iconst 5, 1) := by decide +kernel
theorem dX9_findKept_135 : decode cX9_findKept 135 = .ok (.iload_n 2, 1) := by decide +kernel
theorem dX9_findKept_136 : decode cX9_findKept 136 = .ok (.imul, 1) := by decide +kernel
theorem dX9_findKept_137 : decode cX9_findKept 137 = .ok (.iload_n 3, 1) := by decide +kernel
theorem dX9_findKept_138 : decode cX9_findKept 138 = .ok (.iadd, 1) := by decide +kernel
theorem dX9_findKept_139 : decode cX9_findKept 139 = .ok (.iload 5, 2) := by decide +kernel
theorem dX9_findKept_141 : decode cX9_findKept 141 = .ok (.iastore, 1) := by decide +kernel
theorem dX9_findKept_142 : decode cX9_findKept 142 = .ok (.iinc 5 1, 3) := by decide +kernel
theorem dX9_findKept_145 : decode cX9_findKept 145 = .ok (.goto (-83), 3) := by decide +kernel
theorem dX9_findKept_148 : decode cX9_findKept 148 = .ok (.aload_n 0, 1) := by decide +kernel
theorem dX9_findKept_149 : decode cX9_findKept 149 = .ok (.getfield 43, 3) := by decide +kernel
theorem dX9_findKept_152 : decode cX9_findKept 152 = .ok (.iconst 5, 1) := by decide +kernel
theorem dX9_findKept_153 : decode cX9_findKept 153 = .ok (.iload_n 2, 1) := by decide +kernel
theorem dX9_findKept_154 : decode cX9_findKept 154 = .ok (.imul, 1) := by decide +kernel
theorem dX9_findKept_155 : decode cX9_findKept 155 = .ok (.iload_n 3, 1) := by decide +kernel
theorem dX9_findKept_156 : decode cX9_findKept 156 = .ok (.iadd, 1) := by decide +kernel
theorem dX9_findKept_157 : decode cX9_findKept 157 = .ok (.iload 4, 2) := by decide +kernel
theorem dX9_findKept_159 : decode cX9_findKept 159 = .ok (.iastore, 1) := by decide +kernel
theorem dX9_findKept_160 : decode cX9_findKept 160 = .ok (.iinc 3 1, 3) := by decide +kernel
theorem dX9_findKept_163 : decode cX9_findKept 163 = .ok (.goto (-117), 3) := by decide +kernel
theorem dX9_findKept_166 : decode cX9_findKept 166 = .ok (.iinc 2 (-1), 3) := by decide +kernel
theorem dX9_findKept_169 : decode cX9_findKept 169 = .ok (.goto (-134), 3) := by decide +kernel
theorem dX9_findKept_172 : decode cX9_findKept 172 = .ok (.return_, 1) := by decide +kernel
theorem dX9_kept_0 : decode cX9_kept 0 = .ok (.iload_n 1, 1) := by decide +kernel
theorem dX9_kept_1 : decode cX9_kept 1 = .ok (.iconst (-1), 1) := by decide +kernel
theorem dX9_kept_2 : decode cX9_kept 2 = .ok (.aload_n 0, 1) := by decide +kernel
theorem dX9_kept_3 : decode cX9_kept 3 = .ok (.getfield 9, 3) := by decide +kernel
theorem dX9_kept_6 : decode cX9_kept 6 = .ok (.iconst 1, 1) := by decide +kernel
theorem dX9_kept_7 : decode cX9_kept 7 = .ok (.iaload, 1) := by decide +kernel
theorem dX9_kept_8 : decode cX9_kept 8 = .ok (.iconst 1, 1) := by decide +kernel
theorem dX9_kept_9 : decode cX9_kept 9 = .ok (.isub, 1) := by decide +kernel
theorem dX9_kept_10 : decode cX9_kept 10 = .ok (.invokestatic 104, 3) := by decide +kernel
theorem dX9_kept_13 : decode cX9_kept 13 = .ok (.ifCond .ne 6, 3) := by decide +kernel
theorem dX9_kept_16 : decode cX9_kept 16 = .ok (.ldc 140, 2) := by decide +kernel
theorem dX9_kept_18 : decode cX9_kept 18 = .ok (.ireturn, 1) := by decide +kernel
theorem dX9_kept_19 : decode cX9_kept 19 = .ok (.aload_n 0, 1) := by decide +kernel
theorem dX9_kept_20 : decode cX9_kept 20 = .ok (.invokevirtual 166, 3) := by decide +kernel
theorem dX9_kept_23 : decode cX9_kept 23 = .ok (.iload_n 1, 1) := by decide +kernel
theorem dX9_kept_24 : decode cX9_kept 24 = .ok (.ifCond .ge 10, 3) := by decide +kernel
theorem dX9_kept_27 : decode cX9_kept 27 = .ok (.aload_n 0, 1) := by decide +kernel
theorem dX9_kept_28 : decode cX9_kept 28 = .ok (.getfield 43, 3) := by decide +kernel
theorem dX9_kept_31 : decode cX9_kept 31 = .ok (.iconst 0, 1) := by decide +kernel
theorem dX9_kept_32 : decode cX9_kept 32 = .ok (.iaload, 1) := by decide +kernel
theorem dX9_kept_33 : decode cX9_kept 33 = .ok (.ireturn, 1) := by decide +kernel
theorem dX9_kept_34 : decode cX9_kept 34 = .ok (.iconst 0, 1) := by decide +kernel
theorem dX9_kept_35 : decode cX9_kept 35 = .ok (.istore_n 2, 1) := by decide +kernel
theorem dX9_kept_36 : decode cX9_kept 36 = .ok (.iconst 0, 1) := by decide +kernel
theorem dX9_kept_37 : decode cX9_kept 37 = .ok (.istore_n 3, 1) := by decide +kernel
theorem dX9_kept_38 : decode cX9_kept 38 = .ok (.iload_n 3, 1) := by decide +kernel
theorem dX9_kept_39 : decode cX9_kept 39 = .ok (.iload_n 1, 1) := by decide +kernel
theorem dX9_kept_40 : decode cX9_kept 40 = .ok (.if_icmp .ge 20, 3) := by decide +kernel
theorem dX9_kept_43 : decode cX9_kept 43 = .ok (.aload_n 0, 1) := by decide +kernel
theorem dX9_kept_44 : decode cX9_kept 44 = .ok (.getfield 46, 3) := by decide +kernel
theorem dX9_kept_47 : decode cX9_kept 47 = .ok (.iconst 5, 1) := by decide +kernel
theorem dX9_kept_48 : decode cX9_kept 48 = .ok (.iload_n 3, 1) := by decide +kernel
theorem dX9_kept_49 : decode cX9_kept 49 = .ok (.imul, 1) := by decide +kernel
theorem dX9_kept_50 : decode cX9_kept 50 = .ok (.iload_n 2, 1) := by decide +kernel
theorem dX9_kept_51 : decode cX9_kept 51 = .ok (.iadd, 1) := by decide +kernel
theorem dX9_kept_52 : decode cX9_kept 52 = .ok (.iaload, 1) := by decide +kernel
theorem dX9_kept_53 : decode cX9_kept 53 = .ok (.istore_n 2, 1) := by decide +kernel
theorem dX9_kept_54 : decode cX9_kept 54 = .ok (.iinc 3 1, 3) := by decide +kernel
theorem dX9_kept_57 : decode cX9_kept 57 = .ok (.goto (-19), 3) := by decide +kernel
theorem dX9_kept_60 : decode cX9_kept 60 = .ok (.aload_n 0, 1) := by decide +kernel
theorem dX9_kept_61 : decode cX9_kept 61 = .ok (.getfield 46, 3) := by decide +kernel
theorem dX9_kept_64 : decode cX9_kept 64 = .ok (.iconst 5, 1) := by decide +kernel
theorem dX9_kept_65 : decode cX9_kept 65 = .ok (.iload_n 1, 1) := by decide +kernel
theorem dX9_kept_66 : decode cX9_kept 66 = .ok (.imul, 1) := by decide +kernel
theorem dX9_kept_67 : decode cX9_kept 67 = .ok (.iload_n 2, 1) := by decide +kernel
theorem dX9_kept_68 : decode cX9_kept 68 = .ok (.iadd, 1) := by decide +kernel
theorem dX9_kept_69 : decode cX9_kept 69 = .ok (.iaload, 1) := by decide +kernel
theorem dX9_kept_70 : decode cX9_kept 70 = .ok (.ireturn, 1) := by decide +kernel
theorem dX9_feed_0 : decode cX9_feed 0 = .ok (.iload_n 3, 1) := by decide +kernel
theorem dX9_feed_1 : decode cX9_feed 1 = .ok (.iconst 1, 1) := by decide +kernel
theorem dX9_feed_2 : decode cX9_feed 2 = .ok (.bipush 8, 2) := by decide +kernel
theorem dX9_feed_4 : decode cX9_feed 4 = .ok (.invokestatic 104, 3) := by decide +kernel
theorem dX9_feed_7 : decode cX9_feed 7 = .ok (.ifCond .ne 5, 3) := by decide +kernel
theorem dX9_feed_10 : decode cX9_feed 10 = .ok (.iconst (-1), 1) := by decide +kernel
theorem dX9_feed_11 : decode cX9_feed 11 = .ok (.ireturn, 1) := by decide +kernel
theorem dX9_feed_12 : decode cX9_feed 12 = .ok (.aload_n 0, 1) := by decide +kernel
theorem dX9_feed_13 : decode cX9_feed 13 = .ok (.getfield 169, 3) := by decide +kernel
theorem dX9_feed_16 : decode cX9_feed 16 = .ok (.iload_n 3, 1) := by decide +kernel
theorem dX9_feed_17 : decode cX9_feed 17 = .ok (.iadd, 1) := by decide +kernel
theorem dX9_feed_18 : decode cX9_feed 18 = .ok (.sipush 200, 3) := by decide +kernel
theorem dX9_feed_21 : decode cX9_feed 21 = .ok (.if_icmp .le 6, 3) := by decide +kernel
theorem dX9_feed_24 : decode cX9_feed 24 = .ok (.bipush (-2), 2) := by decide +kernel
theorem dX9_feed_26 : decode cX9_feed 26 = .ok (.ireturn, 1) := by decide +kernel
theorem dX9_feed_27 : decode cX9_feed 27 = .ok (.iconst 0, 1) := by decide +kernel
theorem dX9_feed_28 : decode cX9_feed 28 = .ok (.istore 4, 2) := by decide +kernel
theorem dX9_feed_30 : decode cX9_feed 30 = .ok (.iload 4, 2) := by decide +kernel
theorem dX9_feed_32 : decode cX9_feed 32 = .ok (.iload_n 3, 1) := by decide +kernel
theorem dX9_feed_33 : decode cX9_feed 33 = .ok (.if_icmp .ge 40, 3) := by decide +kernel
theorem dX9_feed_36 : decode cX9_feed 36 = .ok (.aload_n 0, 1) := by decide +kernel
theorem dX9_feed_37 : decode cX9_feed 37 = .ok (.getfield 56, 3) := by decide +kernel
theorem dX9_feed_40 : decode cX9_feed 40 = .ok (.aload_n 0, 1) := by decide +kernel
theorem dX9_feed_41 : decode cX9_feed 41 = .ok (.getfield 169, 3) := by decide +kernel
theorem dX9_feed_44 : decode cX9_feed 44 = .ok (.lload_n 1, 1) := by decide +kernel
theorem dX9_feed_45 : decode cX9_feed 45 = .ok (.bipush 8, 2) := by decide +kernel
theorem dX9_feed_47 : decode cX9_feed 47 = .ok (.iload 4, 2) := by decide +kernel
theorem dX9_feed_49 : decode cX9_feed 49 = .ok (.imul, 1) := by decide +kernel
theorem dX9_feed_50 : decode cX9_feed 50 = .ok (.lshr, 1) := by decide +kernel
theorem dX9_feed_51 : decode cX9_feed 51 = .ok (.ldc2_w 173, 3) := by decide +kernel
theorem dX9_feed_54 : decode cX9_feed 54 = .ok (.land, 1) := by decide +kernel
theorem dX9_feed_55 : decode cX9_feed 55 = .ok (.l2i, 1) := by decide +kernel
theorem dX9_feed_56 : decode cX9_feed 56 = .ok (.iastore, 1) := by decide +kernel
theorem dX9_feed_57 : decode cX9_feed 57 = .ok (.aload_n 0, 1) := by decide +kernel
theorem dX9_feed_58 : decode cX9_feed 58 = .ok (.dup, 1) := by decide +kernel
theorem dX9_feed_59 : decode cX9_feed 59 = .ok (.getfield 169, 3) := by decide +kernel
theorem dX9_feed_62 : decode cX9_feed 62 = .ok (.iconst 1, 1) := by decide +kernel
theorem dX9_feed_63 : decode cX9_feed 63 = .ok (.iadd, 1) := by decide +kernel
theorem dX9_feed_64 : decode cX9_feed 64 = .ok (.putfield 169, 3) := by decide +kernel
theorem dX9_feed_67 : decode cX9_feed 67 = .ok (.iinc 4 1, 3) := by decide +kernel
theorem dX9_feed_70 : decode cX9_feed 70 = .ok (.goto (-40), 3) := by decide +kernel
theorem dX9_feed_73 : decode cX9_feed 73 = .ok (.aload_n 0, 1) := by decide +kernel
theorem dX9_feed_74 : decode cX9_feed 74 = .ok (.getfield 169, 3) := by decide +kernel
theorem dX9_feed_77 : decode cX9_feed 77 = .ok (.ireturn, 1) := by decide +kernel
theorem dX9_isLetter_0 : decode cX9_isLetter 0 = .ok (.iload_n 1, 1) := by decide +kernel
theorem dX9_isLetter_1 : decode cX9_isLetter 1 = .ok (.aload_n 0, 1) := by decide +kernel
theorem dX9_isLetter_2 : decode cX9_isLetter 2 = .ok (.getfield 169, 3) := by decide +kernel
theorem dX9_isLetter_5 : decode cX9_isLetter 5 = .ok (.if_icmp .ge 23, 3) := by decide +kernel
theorem dX9_isLetter_8 : decode cX9_isLetter 8 = .ok (.aload_n 0, 1) := by decide +kernel
theorem dX9_isLetter_9 : decode cX9_isLetter 9 = .ok (.getfield 56, 3) := by decide +kernel
theorem dX9_isLetter_12 : decode cX9_isLetter 12 = .ok (.iload_n 1, 1) := by decide +kernel
theorem dX9_isLetter_13 : decode cX9_isLetter 13 = .ok (.iaload, 1) := by decide +kernel
theorem dX9_isLetter_14 : decode cX9_isLetter 14 = .ok (.bipush 97, 2) := by decide +kernel
theorem dX9_isLetter_16 : decode cX9_isLetter 16 = .ok (.bipush 122, 2) := by decide +kernel
theorem dX9_isLetter_18 : decode cX9_isLetter 18 = .ok (.invokestatic 104, 3) := by decide +kernel
theorem dX9_isLetter_21 : decode cX9_isLetter 21 = .ok (.ifCond .eq 7, 3) := by decide +kernel
theorem dX9_isLetter_24 : decode cX9_isLetter 24 = .ok (.iconst 1, 1) := by decide +kernel
theorem dX9_isLetter_25 : decode cX9_isLetter 25 = .ok (.goto 4, 3) := by decide +kernel
theorem dX9_isLetter_28 : decode cX9_isLetter 28 = .ok (.iconst 0, 1) := by decide +kernel
theorem dX9_isLetter_29 : decode cX9_isLetter 29 = .ok (.ireturn, 1) := by decide +kernel
theorem dX9_isDigit_0 : decode cX9_isDigit 0 = .ok (.iload_n 1, 1) := by decide +kernel
theorem dX9_isDigit_1 : decode cX9_isDigit 1 = .ok (.aload_n 0, 1) := by decide +kernel
theorem dX9_isDigit_2 : decode cX9_isDigit 2 = .ok (.getfield 169, 3) := by decide +kernel
theorem dX9_isDigit_5 : decode cX9_isDigit 5 = .ok (.if_icmp .ge 23, 3) := by decide +kernel
theorem dX9_isDigit_8 : decode cX9_isDigit 8 = .ok (.aload_n 0, 1) := by decide +kernel
theorem dX9_isDigit_9 : decode cX9_isDigit 9 = .ok (.getfield 56, 3) := by decide +kernel
theorem dX9_isDigit_12 : decode cX9_isDigit 12 = .ok (.iload_n 1, 1) := by decide +kernel
theorem dX9_isDigit_13 : decode cX9_isDigit 13 = .ok (.iaload, 1) := by decide +kernel
theorem dX9_isDigit_14 : decode cX9_isDigit 14 = .ok (.bipush 48, 2) := by decide +kernel
theorem dX9_isDigit_16 : decode cX9_isDigit 16 = .ok (.bipush 57, 2) := by decide +kernel
theorem dX9_isDigit_18 : decode cX9_isDigit 18 = .ok (.invokestatic 104, 3) := by decide +kernel
theorem dX9_isDigit_21 : decode cX9_isDigit 21 = .ok (.ifCond .eq 7, 3) := by decide +kernel
theorem dX9_isDigit_24 : decode cX9_isDigit 24 = .ok (.iconst 1, 1) := by decide +kernel
theorem dX9_isDigit_25 : decode cX9_isDigit 25 = .ok (.goto 4, 3) := by decide +kernel
theorem dX9_isDigit_28 : decode cX9_isDigit 28 = .ok (.iconst 0, 1) := by decide +kernel
theorem dX9_isDigit_29 : decode cX9_isDigit 29 = .ok (.ireturn, 1) := by decide +kernel
theorem dX9_next_0 : decode cX9_next 0 = .ok (.aload_n 0, 1) := by decide +kernel
theorem dX9_next_1 : decode cX9_next 1 = .ok (.aload_n 0, 1) := by decide +kernel
theorem dX9_next_2 : decode cX9_next 2 = .ok (.getfield 175, 3) := by decide +kernel
theorem dX9_next_5 : decode cX9_next 5 = .ok (.putfield 178, 3) := by decide +kernel
theorem dX9_next_8 : decode cX9_next 8 = .ok (.aload_n 0, 1) := by decide +kernel
theorem dX9_next_9 : decode cX9_next 9 = .ok (.getfield 178, 3) := by decide +kernel
theorem dX9_next_12 : decode cX9_next 12 = .ok (.aload_n 0, 1) := by decide +kernel
theorem dX9_next_13 : decode cX9_next 13 = .ok (.getfield 169, 3) := by decide +kernel
theorem dX9_next_16 : decode cX9_next 16 = .ok (.if_icmp .ge 30, 3) := by decide +kernel
theorem dX9_next_19 : decode cX9_next 19 = .ok (.aload_n 0, 1) := by decide +kernel
theorem dX9_next_20 : decode cX9_next 20 = .ok (.getfield 56, 3) := by decide +kernel
theorem dX9_next_23 : decode cX9_next 23 = .ok (.aload_n 0, 1) := by decide +kernel
theorem dX9_next_24 : decode cX9_next 24 = .ok (.getfield 178, 3) := by decide +kernel
theorem dX9_next_27 : decode cX9_next 27 = .ok (.iaload, 1) := by decide +kernel
theorem dX9_next_28 : decode cX9_next 28 = .ok (.bipush 32, 2) := by decide +kernel
theorem dX9_next_30 : decode cX9_next 30 = .ok (.if_icmp .ne 16, 3) := by decide +kernel
theorem dX9_next_33 : decode cX9_next 33 = .ok (.aload_n 0, 1) := by decide +kernel
theorem dX9_next_34 : decode cX9_next 34 = .ok (.dup, 1) := by decide +kernel
theorem dX9_next_35 : decode cX9_next 35 = .ok (.getfield 178, 3) := by decide +kernel
theorem dX9_next_38 : decode cX9_next 38 = .ok (.iconst 1, 1) := by decide +kernel
theorem dX9_next_39 : decode cX9_next 39 = .ok (.iadd, 1) := by decide +kernel
theorem dX9_next_40 : decode cX9_next 40 = .ok (.putfield 178, 3) := by decide +kernel
theorem dX9_next_43 : decode cX9_next 43 = .ok (.goto (-35), 3) := by decide +kernel
theorem dX9_next_46 : decode cX9_next 46 = .ok (.aload_n 0, 1) := by decide +kernel
theorem dX9_next_47 : decode cX9_next 47 = .ok (.aload_n 0, 1) := by decide +kernel
theorem dX9_next_48 : decode cX9_next 48 = .ok (.getfield 178, 3) := by decide +kernel
theorem dX9_next_51 : decode cX9_next 51 = .ok (.aload_n 0, 1) := by decide +kernel
theorem dX9_next_52 : decode cX9_next 52 = .ok (.getfield 169, 3) := by decide +kernel
theorem dX9_next_55 : decode cX9_next 55 = .ok (.if_icmp .ge 12, 3) := by decide +kernel
theorem dX9_next_58 : decode cX9_next 58 = .ok (.aload_n 0, 1) := by decide +kernel
theorem dX9_next_59 : decode cX9_next 59 = .ok (.getfield 178, 3) := by decide +kernel
theorem dX9_next_62 : decode cX9_next 62 = .ok (.iconst 1, 1) := by decide +kernel
theorem dX9_next_63 : decode cX9_next 63 = .ok (.iadd, 1) := by decide +kernel
theorem dX9_next_64 : decode cX9_next 64 = .ok (.goto 7, 3) := by decide +kernel
theorem dX9_next_67 : decode cX9_next 67 = .ok (.aload_n 0, 1) := by decide +kernel
theorem dX9_next_68 : decode cX9_next 68 = .ok (.getfield 178, 3) := by decide +kernel
theorem dX9_next_71 : decode cX9_next 71 = .ok (.putfield 175, 3) := by decide +kernel
theorem dX9_next_74 : decode cX9_next 74 = .ok (.aload_n 0, 1) := by decide +kernel
theorem dX9_next_75 : decode cX9_next 75 = .ok (.aload_n 0, 1) := by decide +kernel
theorem dX9_next_76 : decode cX9_next 76 = .ok (.getfield 178, 3) := by decide +kernel
theorem dX9_next_79 : decode cX9_next 79 = .ok (.invokevirtual 181, 3) := by decide +kernel
theorem dX9_next_82 : decode cX9_next 82 = .ok (.ifCond .eq 14, 3) := by decide +kernel
theorem dX9_next_85 : decode cX9_next 85 = .ok (.aload_n 0, 1) := by decide +kernel
theorem dX9_next_86 : decode cX9_next 86 = .ok (.aload_n 0, 1) := by decide +kernel
theorem dX9_next_87 : decode cX9_next 87 = .ok (.getfield 175, 3) := by decide +kernel
theorem dX9_next_90 : decode cX9_next 90 = .ok (.invokevirtual 181, 3) := by decide +kernel
theorem dX9_next_93 : decode cX9_next 93 = .ok (.ifCond .ne 25, 3) := by decide +kernel
theorem dX9_next_96 : decode cX9_next 96 = .ok (.aload_n 0, 1) := by decide +kernel
theorem dX9_next_97 : decode cX9_next 97 = .ok (.aload_n 0, 1) := by decide +kernel
theorem dX9_next_98 : decode cX9_next 98 = .ok (.getfield 178, 3) := by decide +kernel
theorem dX9_next_101 : decode cX9_next 101 = .ok (.invokevirtual 184, 3) := by decide +kernel
theorem dX9_next_104 : decode cX9_next 104 = .ok (.ifCond .eq 27, 3) := by decide +kernel
theorem dX9_next_107 : decode cX9_next 107 = .ok (.aload_n 0, 1) := by decide +kernel
theorem dX9_next_108 : decode cX9_next 108 = .ok (.aload_n 0, 1) := by decide +kernel
theorem dX9_next_109 : decode cX9_next 109 = .ok (.getfield 175, 3) := by decide +kernel
theorem dX9_next_112 : decode cX9_next 112 = .ok (.invokevirtual 184, 3) := by decide +kernel
theorem dX9_next_115 : decode cX9_next 115 = .ok (.ifCond .eq 16, 3) := by decide +kernel
theorem dX9_next_118 : decode cX9_next 118 = .ok (.aload_n 0, 1) := by decide +kernel
theorem dX9_next_119 : decode cX9_next 119 = .ok (.dup, 1) := by decide +kernel
theorem dX9_next_120 : decode cX9_next 120 = .ok (.getfield 175, 3) := by decide +kernel
theorem dX9_next_123 : decode cX9_next 123 = .ok (.iconst 1, 1) := by decide +kernel
theorem dX9_next_124 : decode cX9_next 124 = .ok (.iadd, 1) := by decide +kernel
theorem dX9_next_125 : decode cX9_next 125 = .ok (.putfield 175, 3) := by decide +kernel
theorem dX9_next_128 : decode cX9_next 128 = .ok (.goto (-54), 3) := by decide +kernel
theorem dX9_next_131 : decode cX9_next 131 = .ok (.return_, 1) := by decide +kernel
theorem dX9_need_0 : decode cX9_need 0 = .ok (.aload_n 0, 1) := by decide +kernel
theorem dX9_need_1 : decode cX9_need 1 = .ok (.aload_n 0, 1) := by decide +kernel
theorem dX9_need_2 : decode cX9_need 2 = .ok (.getfield 187, 3) := by decide +kernel
theorem dX9_need_5 : decode cX9_need 5 = .ok (.ifCond .ne 7, 3) := by decide +kernel
theorem dX9_need_8 : decode cX9_need 8 = .ok (.iload_n 1, 1) := by decide +kernel
theorem dX9_need_9 : decode cX9_need 9 = .ok (.ifCond .ne 7, 3) := by decide +kernel
theorem dX9_need_12 : decode cX9_need 12 = .ok (.iconst 1, 1) := by decide +kernel
theorem dX9_need_13 : decode cX9_need 13 = .ok (.goto 4, 3) := by decide +kernel
theorem dX9_need_16 : decode cX9_need 16 = .ok (.iconst 0, 1) := by decide +kernel
theorem dX9_need_17 : decode cX9_need 17 = .ok (.putfield 187, 3) := by decide +kernel
theorem dX9_need_20 : decode cX9_need 20 = .ok (.aload_n 0, 1) := by decide +kernel
theorem dX9_need_21 : decode cX9_need 21 = .ok (.getfield 187, 3) := by decide +kernel
theorem dX9_need_24 : decode cX9_need 24 = .ok (.ifCond .ne 7, 3) := by decide +kernel
theorem dX9_need_27 : decode cX9_need 27 = .ok (.aload_n 0, 1) := by decide +kernel
theorem dX9_need_28 : decode cX9_need 28 = .ok (.invokevirtual 191, 3) := by decide +kernel
theorem dX9_need_31 : decode cX9_need 31 = .ok (.return_, 1) := by decide +kernel
theorem dX9_isWord_0 : decode cX9_isWord 0 = .ok (.aload_n 0, 1) := by decide +kernel
theorem dX9_isWord_1 : decode cX9_isWord 1 = .ok (.getfield 187, 3) := by decide +kernel
theorem dX9_isWord_4 : decode cX9_isWord 4 = .ok (.ifCond .ne 23, 3) := by decide +kernel
theorem dX9_isWord_7 : decode cX9_isWord 7 = .ok (.aload_n 0, 1) := by decide +kernel
theorem dX9_isWord_8 : decode cX9_isWord 8 = .ok (.getfield 175, 3) := by decide +kernel
theorem dX9_isWord_11 : decode cX9_isWord 11 = .ok (.aload_n 0, 1) := by decide +kernel
theorem dX9_isWord_12 : decode cX9_isWord 12 = .ok (.getfield 178, 3) := by decide +kernel
theorem dX9_isWord_15 : decode cX9_isWord 15 = .ok (.isub, 1) := by decide +kernel
theorem dX9_isWord_16 : decode cX9_isWord 16 = .ok (.aload_n 1, 1) := by decide +kernel
theorem dX9_isWord_17 : decode cX9_isWord 17 = .ok (.invokevirtual 194, 3) := by decide +kernel
theorem dX9_isWord_20 : decode cX9_isWord 20 = .ok (.if_icmp .ne 7, 3) := by decide +kernel
theorem dX9_isWord_23 : decode cX9_isWord 23 = .ok (.iconst 1, 1) := by decide +kernel
theorem dX9_isWord_24 : decode cX9_isWord 24 = .ok (.goto 4, 3) := by decide +kernel
theorem dX9_isWord_27 : decode cX9_isWord 27 = .ok (.iconst 0, 1) := by decide +kernel
theorem dX9_isWord_28 : decode cX9_isWord 28 = .ok (.istore_n 2, 1) := by decide +kernel
theorem dX9_isWord_29 : decode cX9_isWord 29 = .ok (.iconst 0, 1) := by decide +kernel
theorem dX9_isWord_30 : decode cX9_isWord 30 = .ok (.istore_n 3, 1) := by decide +kernel
theorem dX9_isWord_31 : decode cX9_isWord 31 = .ok (.iload_n 2, 1) := by decide +kernel
theorem dX9_isWord_32 : decode cX9_isWord 32 = .ok (.ifCond .eq 42, 3) := by decide +kernel
theorem dX9_isWord_35 : decode cX9_isWord 35 = .ok (.iload_n 3, 1) := by decide +kernel
theorem dX9_isWord_36 : decode cX9_isWord 36 = .ok (.aload_n 1, 1) := by decide +kernel
theorem dX9_isWord_37 : decode cX9_isWord 37 = .ok (.invokevirtual 194, 3) := by decide +kernel
theorem dX9_isWord_40 : decode cX9_isWord 40 = .ok (.if_icmp .ge 34, 3) := by decide +kernel
theorem dX9_isWord_43 : decode cX9_isWord 43 = .ok (.aload_n 0, 1) := by decide +kernel
theorem dX9_isWord_44 : decode cX9_isWord 44 = .ok (.getfield 56, 3) := by decide +kernel
theorem dX9_isWord_47 : decode cX9_isWord 47 = .ok (.aload_n 0, 1) := by decide +kernel
theorem dX9_isWord_48 : decode cX9_isWord 48 = .ok (.getfield 178, 3) := by decide +kernel
theorem dX9_isWord_51 : decode cX9_isWord 51 = .ok (.iload_n 3, 1) := by decide +kernel
theorem dX9_isWord_52 : decode cX9_isWord 52 = .ok (.iadd, 1) := by decide +kernel
theorem dX9_isWord_53 : decode cX9_isWord 53 = .ok (.iaload, 1) := by decide +kernel
theorem dX9_isWord_54 : decode cX9_isWord 54 = .ok (.aload_n 1, 1) := by decide +kernel
theorem dX9_isWord_55 : decode cX9_isWord 55 = .ok (.iload_n 3, 1) := by decide +kernel
theorem dX9_isWord_56 : decode cX9_isWord 56 = .ok (.invokevirtual 199, 3) := by decide +kernel
theorem dX9_isWord_59 : decode cX9_isWord 59 = .ok (.if_icmp .ne 7, 3) := by decide +kernel
theorem dX9_isWord_62 : decode cX9_isWord 62 = .ok (.iconst 1, 1) := by decide +kernel
theorem dX9_isWord_63 : decode cX9_isWord 63 = .ok (.goto 4, 3) := by decide +kernel
theorem dX9_isWord_66 : decode cX9_isWord 66 = .ok (.iconst 0, 1) := by decide +kernel
theorem dX9_isWord_67 : decode cX9_isWord 67 = .ok (.istore_n 2, 1) := by decide +kernel
theorem dX9_isWord_68 : decode cX9_isWord 68 = .ok (.iinc 3 1, 3) := by decide +kernel
theorem dX9_isWord_71 : decode cX9_isWord 71 = .ok (.goto (-40), 3) := by decide +kernel
theorem dX9_isWord_74 : decode cX9_isWord 74 = .ok (.iload_n 2, 1) := by decide +kernel
theorem dX9_isWord_75 : decode cX9_isWord 75 = .ok (.ireturn, 1) := by decide +kernel
theorem dX9_number_0 : decode cX9_number 0 = .ok (.aload_n 0, 1) := by decide +kernel
theorem dX9_number_1 : decode cX9_number 1 = .ok (.getfield 187, 3) := by decide +kernel
theorem dX9_number_4 : decode cX9_number 4 = .ok (.ifCond .ne 31, 3) := by decide +kernel
theorem dX9_number_7 : decode cX9_number 7 = .ok (.aload_n 0, 1) := by decide +kernel
theorem dX9_number_8 : decode cX9_number 8 = .ok (.aload_n 0, 1) := by decide +kernel
theorem dX9_number_9 : decode cX9_number 9 = .ok (.getfield 178, 3) := by decide +kernel
theorem dX9_number_12 : decode cX9_number 12 = .ok (.invokevirtual 184, 3) := by decide +kernel
theorem dX9_number_15 : decode cX9_number 15 = .ok (.ifCond .eq 20, 3) := by decide +kernel
theorem dX9_number_18 : decode cX9_number 18 = .ok (.aload_n 0, 1) := by decide +kernel
theorem dX9_number_19 : decode cX9_number 19 = .ok (.getfield 175, 3) := by decide +kernel
theorem dX9_number_22 : decode cX9_number 22 = .ok (.aload_n 0, 1) := by decide +kernel
theorem dX9_number_23 : decode cX9_number 23 = .ok (.getfield 178, 3) := by decide +kernel
theorem dX9_number_26 : decode cX9_number 26 = .ok (.isub, 1) := by decide +kernel
theorem dX9_number_27 : decode cX9_number 27 = .ok (.iconst 3, 1) := by decide +kernel
theorem dX9_number_28 : decode cX9_number 28 = .ok (.if_icmp .gt 7, 3) := by decide +kernel
theorem dX9_number_31 : decode cX9_number 31 = .ok (.iconst 1, 1) := by decide +kernel
theorem dX9_number_32 : decode cX9_number 32 = .ok (.goto 4, 3) := by decide +kernel
theorem dX9_number_35 : decode cX9_number 35 = .ok (.iconst 0, 1) := by decide +kernel
theorem dX9_number_36 : decode cX9_number 36 = .ok (.istore_n 2, 1) := by decide +kernel
theorem dX9_number_37 : decode cX9_number 37 = .ok (.iconst 0, 1) := by decide +kernel
theorem dX9_number_38 : decode cX9_number 38 = .ok (.istore_n 3, 1) := by decide +kernel
theorem dX9_number_39 : decode cX9_number 39 = .ok (.aload_n 0, 1) := by decide +kernel
theorem dX9_number_40 : decode cX9_number 40 = .ok (.getfield 178, 3) := by decide +kernel
theorem dX9_number_43 : decode cX9_number 43 = .ok (.istore 4, 2) := by decide +kernel
theorem dX9_number_45 : decode cX9_number 45 = .ok (.iload_n 2, 1) := by decide +kernel
theorem dX9_number_46 : decode cX9_number 46 = .ok (.ifCond .eq 34, 3) := by decide +kernel
theorem dX9_number_49 : decode cX9_number 49 = .ok (.iload 4, 2) := by decide +kernel
theorem dX9_number_51 : decode cX9_number 51 = .ok (.aload_n 0, 1) := by decide +kernel
theorem dX9_number_52 : decode cX9_number 52 = .ok (.getfield 175, 3) := by decide +kernel
theorem dX9_number_55 : decode cX9_number 55 = .ok (.if_icmp .ge 25, 3) := by decide +kernel
theorem dX9_number_58 : decode cX9_number 58 = .ok (.bipush 10, 2) := by decide +kernel
theorem dX9_number_60 : decode cX9_number 60 = .ok (.iload_n 3, 1) := by decide +kernel
theorem dX9_number_61 : decode cX9_number 61 = .ok (.imul, 1) := by decide +kernel
theorem dX9_number_62 : decode cX9_number 62 = .ok (.aload_n 0, 1) := by decide +kernel
theorem dX9_number_63 : decode cX9_number 63 = .ok (.getfield 56, 3) := by decide +kernel
theorem dX9_number_66 : decode cX9_number 66 = .ok (.iload 4, 2) := by decide +kernel
theorem dX9_number_68 : decode cX9_number 68 = .ok (.iaload, 1) := by decide +kernel
theorem dX9_number_69 : decode cX9_number 69 = .ok (.iadd, 1) := by decide +kernel
theorem dX9_number_70 : decode cX9_number 70 = .ok (.bipush 48, 2) := by decide +kernel
theorem dX9_number_72 : decode cX9_number 72 = .ok (.isub, 1) := by decide +kernel
theorem dX9_number_73 : decode cX9_number 73 = .ok (.istore_n 3, 1) := by decide +kernel
theorem dX9_number_74 : decode cX9_number 74 = .ok (.iinc 4 1, 3) := by decide +kernel
theorem dX9_number_77 : decode cX9_number 77 = .ok (.goto (-32), 3) := by decide +kernel
theorem dX9_number_80 : decode cX9_number 80 = .ok (.aload_n 0, 1) := by decide +kernel
theorem dX9_number_81 : decode cX9_number 81 = .ok (.iload_n 2, 1) := by decide +kernel
theorem dX9_number_82 : decode cX9_number 82 = .ok (.ifCond .eq 12, 3) := by decide +kernel
theorem dX9_number_85 : decode cX9_number 85 = .ok (.iload_n 3, 1) := by decide +kernel
theorem dX9_number_86 : decode cX9_number 86 = .ok (.iload_n 1, 1) := by decide +kernel
theorem dX9_number_87 : decode cX9_number 87 = .ok (.if_icmp .gt 7, 3) := by decide +kernel
theorem dX9_number_90 : decode cX9_number 90 = .ok (.iconst 1, 1) := by decide +kernel
theorem dX9_number_91 : decode cX9_number 91 = .ok (.goto 4, 3) := by decide +kernel
theorem dX9_number_94 : decode cX9_number 94 = .ok (.iconst 0, 1) := by decide +kernel
theorem dX9_number_95 : decode cX9_number 95 = .ok (.invokevirtual 203, 3) := by decide +kernel
theorem dX9_number_98 : decode cX9_number 98 = .ok (.iload_n 3, 1) := by decide +kernel
theorem dX9_number_99 : decode cX9_number 99 = .ok (.ireturn, 1) := by decide +kernel
theorem dX9_put_0 : decode cX9_put 0 = .ok (.aload_n 0, 1) := by decide +kernel
theorem dX9_put_1 : decode cX9_put 1 = .ok (.getfield 187, 3) := by decide +kernel
theorem dX9_put_4 : decode cX9_put 4 = .ok (.ifCond .ne 23, 3) := by decide +kernel
theorem dX9_put_7 : decode cX9_put 7 = .ok (.aload_n 0, 1) := by decide +kernel
theorem dX9_put_8 : decode cX9_put 8 = .ok (.getfield 59, 3) := by decide +kernel
theorem dX9_put_11 : decode cX9_put 11 = .ok (.aload_n 0, 1) := by decide +kernel
theorem dX9_put_12 : decode cX9_put 12 = .ok (.getfield 207, 3) := by decide +kernel
theorem dX9_put_15 : decode cX9_put 15 = .ok (.iload_n 1, 1) := by decide +kernel
theorem dX9_put_16 : decode cX9_put 16 = .ok (.iastore, 1) := by decide +kernel
theorem dX9_put_17 : decode cX9_put 17 = .ok (.aload_n 0, 1) := by decide +kernel
theorem dX9_put_18 : decode cX9_put 18 = .ok (.dup, 1) := by decide +kernel
theorem dX9_put_19 : decode cX9_put 19 = .ok (.getfield 207, 3) := by decide +kernel
theorem dX9_put_22 : decode cX9_put 22 = .ok (.iconst 1, 1) := by decide +kernel
theorem dX9_put_23 : decode cX9_put 23 = .ok (.iadd, 1) := by decide +kernel
theorem dX9_put_24 : decode cX9_put 24 = .ok (.putfield 207, 3) := by decide +kernel
theorem dX9_put_27 : decode cX9_put 27 = .ok (.return_, 1) := by decide +kernel
theorem dX9_value_0 : decode cX9_value 0 = .ok (.aload_n 0, 1) := by decide +kernel
theorem dX9_value_1 : decode cX9_value 1 = .ok (.ldc 210, 2) := by decide +kernel
theorem dX9_value_3 : decode cX9_value 3 = .ok (.invokevirtual 212, 3) := by decide +kernel
theorem dX9_value_6 : decode cX9_value 6 = .ok (.ifCond .eq 9, 3) := by decide +kernel
theorem dX9_value_9 : decode cX9_value 9 = .ok (.sipush 2000, 3) := by decide +kernel
theorem dX9_value_12 : decode cX9_value 12 = .ok (.goto 34, 3) := by decide +kernel
theorem dX9_value_15 : decode cX9_value 15 = .ok (.aload_n 0, 1) := by decide +kernel
theorem dX9_value_16 : decode cX9_value 16 = .ok (.ldc 216, 2) := by decide +kernel
theorem dX9_value_18 : decode cX9_value 18 = .ok (.invokevirtual 212, 3) := by decide +kernel
theorem dX9_value_21 : decode cX9_value 21 = .ok (.ifCond .eq 9, 3) := by decide +kernel
theorem dX9_value_24 : decode cX9_value 24 = .ok (.sipush 2001, 3) := by decide +kernel
theorem dX9_value_27 : decode cX9_value 27 = .ok (.goto 19, 3) := by decide +kernel
theorem dX9_value_30 : decode cX9_value 30 = .ok (.aload_n 0, 1) := by decide +kernel
theorem dX9_value_31 : decode cX9_value 31 = .ok (.ldc 217, 2) := by decide +kernel
theorem dX9_value_33 : decode cX9_value 33 = .ok (.invokevirtual 212, 3) := by decide +kernel
theorem dX9_value_36 : decode cX9_value 36 = .ok (.ifCond .eq 9, 3) := by decide +kernel
theorem dX9_value_39 : decode cX9_value 39 = .ok (.sipush 2002, 3) := by decide +kernel
theorem dX9_value_42 : decode cX9_value 42 = .ok (.goto 4, 3) := by decide +kernel
theorem dX9_value_45 : decode cX9_value 45 = .ok (.iconst 0, 1) := by decide +kernel
theorem dX9_value_46 : decode cX9_value 46 = .ok (.istore_n 1, 1) := by decide +kernel
theorem dX9_value_47 : decode cX9_value 47 = .ok (.iload_n 1, 1) := by decide +kernel
theorem dX9_value_48 : decode cX9_value 48 = .ok (.ifCond .le 15, 3) := by decide +kernel
theorem dX9_value_51 : decode cX9_value 51 = .ok (.aload_n 0, 1) := by decide +kernel
theorem dX9_value_52 : decode cX9_value 52 = .ok (.invokevirtual 191, 3) := by decide +kernel
theorem dX9_value_55 : decode cX9_value 55 = .ok (.aload_n 0, 1) := by decide +kernel
theorem dX9_value_56 : decode cX9_value 56 = .ok (.iload_n 1, 1) := by decide +kernel
theorem dX9_value_57 : decode cX9_value 57 = .ok (.invokevirtual 218, 3) := by decide +kernel
theorem dX9_value_60 : decode cX9_value 60 = .ok (.goto 14, 3) := by decide +kernel
theorem dX9_value_63 : decode cX9_value 63 = .ok (.aload_n 0, 1) := by decide +kernel
theorem dX9_value_64 : decode cX9_value 64 = .ok (.aload_n 0, 1) := by decide +kernel
theorem dX9_value_65 : decode cX9_value 65 = .ok (.sipush 999, 3) := by decide +kernel
theorem dX9_value_68 : decode cX9_value 68 = .ok (.invokevirtual 221, 3) := by decide +kernel
theorem dX9_value_71 : decode cX9_value 71 = .ok (.invokevirtual 218, 3) := by decide +kernel
theorem dX9_value_74 : decode cX9_value 74 = .ok (.return_, 1) := by decide +kernel
theorem dX9_one_0 : decode cX9_one 0 = .ok (.iconst 0, 1) := by decide +kernel
theorem dX9_one_1 : decode cX9_one 1 = .ok (.istore_n 1, 1) := by decide +kernel
theorem dX9_one_2 : decode cX9_one 2 = .ok (.aload_n 0, 1) := by decide +kernel
theorem dX9_one_3 : decode cX9_one 3 = .ok (.ldc 224, 2) := by decide +kernel
theorem dX9_one_5 : decode cX9_one 5 = .ok (.invokevirtual 212, 3) := by decide +kernel
theorem dX9_one_8 : decode cX9_one 8 = .ok (.ifCond .eq 13, 3) := by decide +kernel
theorem dX9_one_11 : decode cX9_one 11 = .ok (.aload_n 0, 1) := by decide +kernel
theorem dX9_one_12 : decode cX9_one 12 = .ok (.invokevirtual 191, 3) := by decide +kernel
theorem dX9_one_15 : decode cX9_one 15 = .ok (.iinc 1 1, 3) := by decide +kernel
theorem dX9_one_18 : decode cX9_one 18 = .ok (.goto (-16), 3) := by decide +kernel
theorem dX9_one_21 : decode cX9_one 21 = .ok (.aload_n 0, 1) := by decide +kernel
theorem dX9_one_22 : decode cX9_one 22 = .ok (.ldc 226, 2) := by decide +kernel
theorem dX9_one_24 : decode cX9_one 24 = .ok (.invokevirtual 212, 3) := by decide +kernel
theorem dX9_one_27 : decode cX9_one 27 = .ok (.ifCond .eq 57, 3) := by decide +kernel
theorem dX9_one_30 : decode cX9_one 30 = .ok (.aload_n 0, 1) := by decide +kernel
theorem dX9_one_31 : decode cX9_one 31 = .ok (.aload_n 0, 1) := by decide +kernel
theorem dX9_one_32 : decode cX9_one 32 = .ok (.getfield 228, 3) := by decide +kernel
theorem dX9_one_35 : decode cX9_one 35 = .ok (.iconst 3, 1) := by decide +kernel
theorem dX9_one_36 : decode cX9_one 36 = .ok (.if_icmp .ge 7, 3) := by decide +kernel
theorem dX9_one_39 : decode cX9_one 39 = .ok (.iconst 1, 1) := by decide +kernel
theorem dX9_one_40 : decode cX9_one 40 = .ok (.goto 4, 3) := by decide +kernel
theorem dX9_one_43 : decode cX9_one 43 = .ok (.iconst 0, 1) := by decide +kernel
theorem dX9_one_44 : decode cX9_one 44 = .ok (.invokevirtual 203, 3) := by decide +kernel
theorem dX9_one_47 : decode cX9_one 47 = .ok (.aload_n 0, 1) := by decide +kernel
theorem dX9_one_48 : decode cX9_one 48 = .ok (.dup, 1) := by decide +kernel
theorem dX9_one_49 : decode cX9_one 49 = .ok (.getfield 228, 3) := by decide +kernel
theorem dX9_one_52 : decode cX9_one 52 = .ok (.iconst 1, 1) := by decide +kernel
theorem dX9_one_53 : decode cX9_one 53 = .ok (.iadd, 1) := by decide +kernel
theorem dX9_one_54 : decode cX9_one 54 = .ok (.putfield 228, 3) := by decide +kernel
theorem dX9_one_57 : decode cX9_one 57 = .ok (.aload_n 0, 1) := by decide +kernel
theorem dX9_one_58 : decode cX9_one 58 = .ok (.invokevirtual 231, 3) := by decide +kernel
theorem dX9_one_61 : decode cX9_one 61 = .ok (.aload_n 0, 1) := by decide +kernel
theorem dX9_one_62 : decode cX9_one 62 = .ok (.aload_n 0, 1) := by decide +kernel
theorem dX9_one_63 : decode cX9_one 63 = .ok (.ldc 234, 2) := by decide +kernel
theorem dX9_one_65 : decode cX9_one 65 = .ok (.invokevirtual 212, 3) := by decide +kernel
theorem dX9_one_68 : decode cX9_one 68 = .ok (.invokevirtual 203, 3) := by decide +kernel
theorem dX9_one_71 : decode cX9_one 71 = .ok (.aload_n 0, 1) := by decide +kernel
theorem dX9_one_72 : decode cX9_one 72 = .ok (.dup, 1) := by decide +kernel
theorem dX9_one_73 : decode cX9_one 73 = .ok (.getfield 228, 3) := by decide +kernel
theorem dX9_one_76 : decode cX9_one 76 = .ok (.iconst 1, 1) := by decide +kernel
theorem dX9_one_77 : decode cX9_one 77 = .ok (.isub, 1) := by decide +kernel
theorem dX9_one_78 : decode cX9_one 78 = .ok (.putfield 228, 3) := by decide +kernel
theorem dX9_one_81 : decode cX9_one 81 = .ok (.goto 83, 3) := by decide +kernel
theorem dX9_one_84 : decode cX9_one 84 = .ok (.aload_n 0, 1) := by decide +kernel
theorem dX9_one_85 : decode cX9_one 85 = .ok (.invokevirtual 236, 3) := by decide +kernel
theorem dX9_one_88 : decode cX9_one 88 = .ok (.aload_n 0, 1) := by decide +kernel
theorem dX9_one_89 : decode cX9_one 89 = .ok (.ldc 239, 2) := by decide +kernel
theorem dX9_one_91 : decode cX9_one 91 = .ok (.invokevirtual 212, 3) := by decide +kernel
theorem dX9_one_94 : decode cX9_one 94 = .ok (.ifCond .eq 9, 3) := by decide +kernel
theorem dX9_one_97 : decode cX9_one 97 = .ok (.sipush 2003, 3) := by decide +kernel
theorem dX9_one_100 : decode cX9_one 100 = .ok (.goto 34, 3) := by decide +kernel
theorem dX9_one_103 : decode cX9_one 103 = .ok (.aload_n 0, 1) := by decide +kernel
theorem dX9_one_104 : decode cX9_one 104 = .ok (.ldc 241, 2) := by decide +kernel
theorem dX9_one_106 : decode cX9_one 106 = .ok (.invokevirtual 212, 3) := by decide +kernel
theorem dX9_one_109 : decode cX9_one 109 = .ok (.ifCond .eq 9, 3) := by decide +kernel
theorem dX9_one_112 : decode cX9_one 112 = .ok (.sipush 2004, 3) := by decide +kernel
theorem dX9_one_115 : decode cX9_one 115 = .ok (.goto 19, 3) := by decide +kernel
theorem dX9_one_118 : decode cX9_one 118 = .ok (.aload_n 0, 1) := by decide +kernel
theorem dX9_one_119 : decode cX9_one 119 = .ok (.ldc 243, 2) := by decide +kernel
theorem dX9_one_121 : decode cX9_one 121 = .ok (.invokevirtual 212, 3) := by decide +kernel
theorem dX9_one_124 : decode cX9_one 124 = .ok (.ifCond .eq 9, 3) := by decide +kernel
theorem dX9_one_127 : decode cX9_one 127 = .ok (.sipush 2005, 3) := by decide +kernel
theorem dX9_one_130 : decode cX9_one 130 = .ok (.goto 4, 3) := by decide +kernel
theorem dX9_one_133 : decode cX9_one 133 = .ok (.iconst 0, 1) := by decide +kernel
theorem dX9_one_134 : decode cX9_one 134 = .ok (.istore_n 2, 1) := by decide +kernel
theorem dX9_one_135 : decode cX9_one 135 = .ok (.aload_n 0, 1) := by decide +kernel
theorem dX9_one_136 : decode cX9_one 136 = .ok (.iload_n 2, 1) := by decide +kernel
theorem dX9_one_137 : decode cX9_one 137 = .ok (.ifCond .le 7, 3) := by decide +kernel
theorem dX9_one_140 : decode cX9_one 140 = .ok (.iconst 1, 1) := by decide +kernel
theorem dX9_one_141 : decode cX9_one 141 = .ok (.goto 4, 3) := by decide +kernel
theorem dX9_one_144 : decode cX9_one 144 = .ok (.iconst 0, 1) := by decide +kernel
theorem dX9_one_145 : decode cX9_one 145 = .ok (.invokevirtual 203, 3) := by decide +kernel
theorem dX9_one_148 : decode cX9_one 148 = .ok (.aload_n 0, 1) := by decide +kernel
theorem dX9_one_149 : decode cX9_one 149 = .ok (.getfield 187, 3) := by decide +kernel
theorem dX9_one_152 : decode cX9_one 152 = .ok (.ifCond .ne 7, 3) := by decide +kernel
theorem dX9_one_155 : decode cX9_one 155 = .ok (.aload_n 0, 1) := by decide +kernel
theorem dX9_one_156 : decode cX9_one 156 = .ok (.invokevirtual 236, 3) := by decide +kernel
theorem dX9_one_159 : decode cX9_one 159 = .ok (.aload_n 0, 1) := by decide +kernel
theorem dX9_one_160 : decode cX9_one 160 = .ok (.iload_n 2, 1) := by decide +kernel
theorem dX9_one_161 : decode cX9_one 161 = .ok (.invokevirtual 218, 3) := by decide +kernel
theorem dX9_one_164 : decode cX9_one 164 = .ok (.iload_n 1, 1) := by decide +kernel
theorem dX9_one_165 : decode cX9_one 165 = .ok (.iconst 2, 1) := by decide +kernel
theorem dX9_one_166 : decode cX9_one 166 = .ok (.irem, 1) := by decide +kernel
theorem dX9_one_167 : decode cX9_one 167 = .ok (.iconst 1, 1) := by decide +kernel
theorem dX9_one_168 : decode cX9_one 168 = .ok (.if_icmp .ne 10, 3) := by decide +kernel
theorem dX9_one_171 : decode cX9_one 171 = .ok (.aload_n 0, 1) := by decide +kernel
theorem dX9_one_172 : decode cX9_one 172 = .ok (.sipush 2006, 3) := by decide +kernel
theorem dX9_one_175 : decode cX9_one 175 = .ok (.invokevirtual 218, 3) := by decide +kernel
theorem dX9_one_178 : decode cX9_one 178 = .ok (.return_, 1) := by decide +kernel
theorem dX9_all_0 : decode cX9_all 0 = .ok (.aload_n 0, 1) := by decide +kernel
theorem dX9_all_1 : decode cX9_all 1 = .ok (.invokevirtual 245, 3) := by decide +kernel
theorem dX9_all_4 : decode cX9_all 4 = .ok (.aload_n 0, 1) := by decide +kernel
theorem dX9_all_5 : decode cX9_all 5 = .ok (.ldc 248, 2) := by decide +kernel
theorem dX9_all_7 : decode cX9_all 7 = .ok (.invokevirtual 212, 3) := by decide +kernel
theorem dX9_all_10 : decode cX9_all 10 = .ok (.ifCond .eq 21, 3) := by decide +kernel
theorem dX9_all_13 : decode cX9_all 13 = .ok (.aload_n 0, 1) := by decide +kernel
theorem dX9_all_14 : decode cX9_all 14 = .ok (.invokevirtual 191, 3) := by decide +kernel
theorem dX9_all_17 : decode cX9_all 17 = .ok (.aload_n 0, 1) := by decide +kernel
theorem dX9_all_18 : decode cX9_all 18 = .ok (.invokevirtual 245, 3) := by decide +kernel
theorem dX9_all_21 : decode cX9_all 21 = .ok (.aload_n 0, 1) := by decide +kernel
theorem dX9_all_22 : decode cX9_all 22 = .ok (.sipush 2007, 3) := by decide +kernel
theorem dX9_all_25 : decode cX9_all 25 = .ok (.invokevirtual 218, 3) := by decide +kernel
theorem dX9_all_28 : decode cX9_all 28 = .ok (.goto (-24), 3) := by decide +kernel
theorem dX9_all_31 : decode cX9_all 31 = .ok (.return_, 1) := by decide +kernel
theorem dX9_cond_0 : decode cX9_cond 0 = .ok (.aload_n 0, 1) := by decide +kernel
theorem dX9_cond_1 : decode cX9_cond 1 = .ok (.invokevirtual 250, 3) := by decide +kernel
theorem dX9_cond_4 : decode cX9_cond 4 = .ok (.aload_n 0, 1) := by decide +kernel
theorem dX9_cond_5 : decode cX9_cond 5 = .ok (.ldc 253, 2) := by decide +kernel
theorem dX9_cond_7 : decode cX9_cond 7 = .ok (.invokevirtual 212, 3) := by decide +kernel
theorem dX9_cond_10 : decode cX9_cond 10 = .ok (.ifCond .eq 21, 3) := by decide +kernel
theorem dX9_cond_13 : decode cX9_cond 13 = .ok (.aload_n 0, 1) := by decide +kernel
theorem dX9_cond_14 : decode cX9_cond 14 = .ok (.invokevirtual 191, 3) := by decide +kernel
theorem dX9_cond_17 : decode cX9_cond 17 = .ok (.aload_n 0, 1) := by decide +kernel
theorem dX9_cond_18 : decode cX9_cond 18 = .ok (.invokevirtual 250, 3) := by decide +kernel
theorem dX9_cond_21 : decode cX9_cond 21 = .ok (.aload_n 0, 1) := by decide +kernel
theorem dX9_cond_22 : decode cX9_cond 22 = .ok (.sipush 2008, 3) := by decide +kernel
theorem dX9_cond_25 : decode cX9_cond 25 = .ok (.invokevirtual 218, 3) := by decide +kernel
theorem dX9_cond_28 : decode cX9_cond 28 = .ok (.goto (-24), 3) := by decide +kernel
theorem dX9_cond_31 : decode cX9_cond 31 = .ok (.return_, 1) := by decide +kernel
theorem dX9_line_0 : decode cX9_line 0 = .ok (.aload_n 0, 1) := by decide +kernel
theorem dX9_line_1 : decode cX9_line 1 = .ok (.aload_n 0, 1) := by decide +kernel
theorem dX9_line_2 : decode cX9_line 2 = .ok (.ldc 255, 2) := by decide +kernel
theorem dX9_line_4 : decode cX9_line 4 = .ok (.invokevirtual 212, 3) := by decide +kernel
theorem dX9_line_7 : decode cX9_line 7 = .ok (.ifCond .eq 13, 3) := by decide +kernel
theorem dX9_line_10 : decode cX9_line 10 = .ok (.iload_n 1, 1) := by decide +kernel
theorem dX9_line_11 : decode cX9_line 11 = .ok (.bipush 8, 2) := by decide +kernel
theorem dX9_line_13 : decode cX9_line 13 = .ok (.if_icmp .ge 7, 3) := by decide +kernel
theorem dX9_line_16 : decode cX9_line 16 = .ok (.iconst 1, 1) := by decide +kernel
theorem dX9_line_17 : decode cX9_line 17 = .ok (.goto 4, 3) := by decide +kernel
theorem dX9_line_20 : decode cX9_line 20 = .ok (.iconst 0, 1) := by decide +kernel
theorem dX9_line_21 : decode cX9_line 21 = .ok (.invokevirtual 203, 3) := by decide +kernel
theorem dX9_line_24 : decode cX9_line 24 = .ok (.aload_n 0, 1) := by decide +kernel
theorem dX9_line_25 : decode cX9_line 25 = .ok (.iconst 5, 1) := by decide +kernel
theorem dX9_line_26 : decode cX9_line 26 = .ok (.invokevirtual 221, 3) := by decide +kernel
theorem dX9_line_29 : decode cX9_line 29 = .ok (.istore_n 2, 1) := by decide +kernel
theorem dX9_line_30 : decode cX9_line 30 = .ok (.aload_n 0, 1) := by decide +kernel
theorem dX9_line_31 : decode cX9_line 31 = .ok (.bipush 99, 2) := by decide +kernel
theorem dX9_line_33 : decode cX9_line 33 = .ok (.invokevirtual 221, 3) := by decide +kernel
theorem dX9_line_36 : decode cX9_line 36 = .ok (.istore_n 3, 1) := by decide +kernel
theorem dX9_line_37 : decode cX9_line 37 = .ok (.aload_n 0, 1) := by decide +kernel
theorem dX9_line_38 : decode cX9_line 38 = .ok (.getfield 207, 3) := by decide +kernel
theorem dX9_line_41 : decode cX9_line 41 = .ok (.istore 4, 2) := by decide +kernel
theorem dX9_line_43 : decode cX9_line 43 = .ok (.aload_n 0, 1) := by decide +kernel
theorem dX9_line_44 : decode cX9_line 44 = .ok (.ldc_w 257, 3) := by decide +kernel
theorem dX9_line_47 : decode cX9_line 47 = .ok (.invokevirtual 212, 3) := by decide +kernel
theorem dX9_line_50 : decode cX9_line 50 = .ok (.ifCond .eq 11, 3) := by decide +kernel
theorem dX9_line_53 : decode cX9_line 53 = .ok (.aload_n 0, 1) := by decide +kernel
theorem dX9_line_54 : decode cX9_line 54 = .ok (.invokevirtual 191, 3) := by decide +kernel
theorem dX9_line_57 : decode cX9_line 57 = .ok (.aload_n 0, 1) := by decide +kernel
theorem dX9_line_58 : decode cX9_line 58 = .ok (.invokevirtual 231, 3) := by decide +kernel
theorem dX9_line_61 : decode cX9_line 61 = .ok (.aload_n 0, 1) := by decide +kernel
theorem dX9_line_62 : decode cX9_line 62 = .ok (.aload_n 0, 1) := by decide +kernel
theorem dX9_line_63 : decode cX9_line 63 = .ok (.ldc_w 259, 3) := by decide +kernel
theorem dX9_line_66 : decode cX9_line 66 = .ok (.invokevirtual 212, 3) := by decide +kernel
theorem dX9_line_69 : decode cX9_line 69 = .ok (.invokevirtual 203, 3) := by decide +kernel
theorem dX9_line_72 : decode cX9_line 72 = .ok (.aload_n 0, 1) := by decide +kernel
theorem dX9_line_73 : decode cX9_line 73 = .ok (.getfield 187, 3) := by decide +kernel
theorem dX9_line_76 : decode cX9_line 76 = .ok (.ifCond .ne 49, 3) := by decide +kernel
theorem dX9_line_79 : decode cX9_line 79 = .ok (.aload_n 0, 1) := by decide +kernel
theorem dX9_line_80 : decode cX9_line 80 = .ok (.getfield 62, 3) := by decide +kernel
theorem dX9_line_83 : decode cX9_line 83 = .ok (.iconst 4, 1) := by decide +kernel
theorem dX9_line_84 : decode cX9_line 84 = .ok (.iload_n 1, 1) := by decide +kernel
theorem dX9_line_85 : decode cX9_line 85 = .ok (.imul, 1) := by decide +kernel
theorem dX9_line_86 : decode cX9_line 86 = .ok (.iload_n 2, 1) := by decide +kernel
theorem dX9_line_87 : decode cX9_line 87 = .ok (.iastore, 1) := by decide +kernel
theorem dX9_line_88 : decode cX9_line 88 = .ok (.aload_n 0, 1) := by decide +kernel
theorem dX9_line_89 : decode cX9_line 89 = .ok (.getfield 62, 3) := by decide +kernel
theorem dX9_line_92 : decode cX9_line 92 = .ok (.iconst 4, 1) := by decide +kernel
theorem dX9_line_93 : decode cX9_line 93 = .ok (.iload_n 1, 1) := by decide +kernel
theorem dX9_line_94 : decode cX9_line 94 = .ok (.imul, 1) := by decide +kernel
theorem dX9_line_95 : decode cX9_line 95 = .ok (.iconst 1, 1) := by decide +kernel
theorem dX9_line_96 : decode cX9_line 96 = .ok (.iadd, 1) := by decide +kernel
theorem dX9_line_97 : decode cX9_line 97 = .ok (.iload_n 3, 1) := by decide +kernel
theorem dX9_line_98 : decode cX9_line 98 = .ok (.iastore, 1) := by decide +kernel
theorem dX9_line_99 : decode cX9_line 99 = .ok (.aload_n 0, 1) := by decide +kernel
theorem dX9_line_100 : decode cX9_line 100 = .ok (.getfield 62, 3) := by decide +kernel
theorem dX9_line_103 : decode cX9_line 103 = .ok (.iconst 4, 1) := by decide +kernel
theorem dX9_line_104 : decode cX9_line 104 = .ok (.iload_n 1, 1) := by decide +kernel
theorem dX9_line_105 : decode cX9_line 105 = .ok (.imul, 1) := by decide +kernel
theorem dX9_line_106 : decode cX9_line 106 = .ok (.iconst 2, 1) := by decide +kernel
theorem dX9_line_107 : decode cX9_line 107 = .ok (.iadd, 1) := by decide +kernel
theorem dX9_line_108 : decode cX9_line 108 = .ok (.iload 4, 2) := by decide +kernel
theorem dX9_line_110 : decode cX9_line 110 = .ok (.iastore, 1) := by decide +kernel
theorem dX9_line_111 : decode cX9_line 111 = .ok (.aload_n 0, 1) := by decide +kernel
theorem dX9_line_112 : decode cX9_line 112 = .ok (.getfield 62, 3) := by decide +kernel
theorem dX9_line_115 : decode cX9_line 115 = .ok (.iconst 4, 1) := by decide +kernel
theorem dX9_line_116 : decode cX9_line 116 = .ok (.iload_n 1, 1) := by decide +kernel
theorem dX9_line_117 : decode cX9_line 117 = .ok (.imul, 1) := by decide +kernel
theorem dX9_line_118 : decode cX9_line 118 = .ok (.iconst 3, 1) := by decide +kernel
theorem dX9_line_119 : decode cX9_line 119 = .ok (.iadd, 1) := by decide +kernel
theorem dX9_line_120 : decode cX9_line 120 = .ok (.aload_n 0, 1) := by decide +kernel
theorem dX9_line_121 : decode cX9_line 121 = .ok (.getfield 207, 3) := by decide +kernel
theorem dX9_line_124 : decode cX9_line 124 = .ok (.iastore, 1) := by decide +kernel
theorem dX9_line_125 : decode cX9_line 125 = .ok (.return_, 1) := by decide +kernel
theorem dX9_read_0 : decode cX9_read 0 = .ok (.aload_n 0, 1) := by decide +kernel
theorem dX9_read_1 : decode cX9_read 1 = .ok (.iconst 0, 1) := by decide +kernel
theorem dX9_read_2 : decode cX9_read 2 = .ok (.putfield 175, 3) := by decide +kernel
theorem dX9_read_5 : decode cX9_read 5 = .ok (.aload_n 0, 1) := by decide +kernel
theorem dX9_read_6 : decode cX9_read 6 = .ok (.iconst 0, 1) := by decide +kernel
theorem dX9_read_7 : decode cX9_read 7 = .ok (.putfield 187, 3) := by decide +kernel
theorem dX9_read_10 : decode cX9_read 10 = .ok (.aload_n 0, 1) := by decide +kernel
theorem dX9_read_11 : decode cX9_read 11 = .ok (.iconst 0, 1) := by decide +kernel
theorem dX9_read_12 : decode cX9_read 12 = .ok (.putfield 228, 3) := by decide +kernel
theorem dX9_read_15 : decode cX9_read 15 = .ok (.aload_n 0, 1) := by decide +kernel
theorem dX9_read_16 : decode cX9_read 16 = .ok (.iconst 0, 1) := by decide +kernel
theorem dX9_read_17 : decode cX9_read 17 = .ok (.putfield 207, 3) := by decide +kernel
theorem dX9_read_20 : decode cX9_read 20 = .ok (.iconst 0, 1) := by decide +kernel
theorem dX9_read_21 : decode cX9_read 21 = .ok (.istore_n 1, 1) := by decide +kernel
theorem dX9_read_22 : decode cX9_read 22 = .ok (.aload_n 0, 1) := by decide +kernel
theorem dX9_read_23 : decode cX9_read 23 = .ok (.invokevirtual 191, 3) := by decide +kernel
theorem dX9_read_26 : decode cX9_read 26 = .ok (.aload_n 0, 1) := by decide +kernel
theorem dX9_read_27 : decode cX9_read 27 = .ok (.getfield 187, 3) := by decide +kernel
theorem dX9_read_30 : decode cX9_read 30 = .ok (.ifCond .ne 25, 3) := by decide +kernel
theorem dX9_read_33 : decode cX9_read 33 = .ok (.aload_n 0, 1) := by decide +kernel
theorem dX9_read_34 : decode cX9_read 34 = .ok (.getfield 178, 3) := by decide +kernel
theorem dX9_read_37 : decode cX9_read 37 = .ok (.aload_n 0, 1) := by decide +kernel
theorem dX9_read_38 : decode cX9_read 38 = .ok (.getfield 169, 3) := by decide +kernel
theorem dX9_read_41 : decode cX9_read 41 = .ok (.if_icmp .ge 14, 3) := by decide +kernel
theorem dX9_read_44 : decode cX9_read 44 = .ok (.aload_n 0, 1) := by decide +kernel
theorem dX9_read_45 : decode cX9_read 45 = .ok (.iload_n 1, 1) := by decide +kernel
theorem dX9_read_46 : decode cX9_read 46 = .ok (.invokevirtual 261, 3) := by decide +kernel
theorem dX9_read_49 : decode cX9_read 49 = .ok (.iinc 1 1, 3) := by decide +kernel
theorem dX9_read_52 : decode cX9_read 52 = .ok (.goto (-26), 3) := by decide +kernel
theorem dX9_read_55 : decode cX9_read 55 = .ok (.aload_n 0, 1) := by decide +kernel
theorem dX9_read_56 : decode cX9_read 56 = .ok (.getfield 178, 3) := by decide +kernel
theorem dX9_read_59 : decode cX9_read 59 = .ok (.istore_n 2, 1) := by decide +kernel
theorem dX9_read_60 : decode cX9_read 60 = .ok (.aload_n 0, 1) := by decide +kernel
theorem dX9_read_61 : decode cX9_read 61 = .ok (.iconst 0, 1) := by decide +kernel
theorem dX9_read_62 : decode cX9_read 62 = .ok (.putfield 169, 3) := by decide +kernel
theorem dX9_read_65 : decode cX9_read 65 = .ok (.aload_n 0, 1) := by decide +kernel
theorem dX9_read_66 : decode cX9_read 66 = .ok (.getfield 187, 3) := by decide +kernel
theorem dX9_read_69 : decode cX9_read 69 = .ok (.ifCond .eq 8, 3) := by decide +kernel
theorem dX9_read_72 : decode cX9_read 72 = .ok (.bipush (-100), 2) := by decide +kernel
theorem dX9_read_74 : decode cX9_read 74 = .ok (.iload_n 2, 1) := by decide +kernel
theorem dX9_read_75 : decode cX9_read 75 = .ok (.isub, 1) := by decide +kernel
theorem dX9_read_76 : decode cX9_read 76 = .ok (.ireturn, 1) := by decide +kernel
theorem dX9_read_77 : decode cX9_read 77 = .ok (.iconst 0, 1) := by decide +kernel
theorem dX9_read_78 : decode cX9_read 78 = .ok (.istore_n 3, 1) := by decide +kernel
theorem dX9_read_79 : decode cX9_read 79 = .ok (.iload_n 3, 1) := by decide +kernel
theorem dX9_read_80 : decode cX9_read 80 = .ok (.iconst 4, 1) := by decide +kernel
theorem dX9_read_81 : decode cX9_read 81 = .ok (.iload_n 1, 1) := by decide +kernel
theorem dX9_read_82 : decode cX9_read 82 = .ok (.imul, 1) := by decide +kernel
theorem dX9_read_83 : decode cX9_read 83 = .ok (.if_icmp .ge 24, 3) := by decide +kernel
theorem dX9_read_86 : decode cX9_read 86 = .ok (.aload_n 0, 1) := by decide +kernel
theorem dX9_read_87 : decode cX9_read 87 = .ok (.getfield 9, 3) := by decide +kernel
theorem dX9_read_90 : decode cX9_read 90 = .ok (.bipush 124, 2) := by decide +kernel
theorem dX9_read_92 : decode cX9_read 92 = .ok (.iload_n 3, 1) := by decide +kernel
theorem dX9_read_93 : decode cX9_read 93 = .ok (.iadd, 1) := by decide +kernel
theorem dX9_read_94 : decode cX9_read 94 = .ok (.aload_n 0, 1) := by decide +kernel
theorem dX9_read_95 : decode cX9_read 95 = .ok (.getfield 62, 3) := by decide +kernel
theorem dX9_read_98 : decode cX9_read 98 = .ok (.iload_n 3, 1) := by decide +kernel
theorem dX9_read_99 : decode cX9_read 99 = .ok (.iaload, 1) := by decide +kernel
theorem dX9_read_100 : decode cX9_read 100 = .ok (.iastore, 1) := by decide +kernel
theorem dX9_read_101 : decode cX9_read 101 = .ok (.iinc 3 1, 3) := by decide +kernel
theorem dX9_read_104 : decode cX9_read 104 = .ok (.goto (-25), 3) := by decide +kernel
theorem dX9_read_107 : decode cX9_read 107 = .ok (.iconst 0, 1) := by decide +kernel
theorem dX9_read_108 : decode cX9_read 108 = .ok (.istore_n 3, 1) := by decide +kernel
theorem dX9_read_109 : decode cX9_read 109 = .ok (.iload_n 3, 1) := by decide +kernel
theorem dX9_read_110 : decode cX9_read 110 = .ok (.aload_n 0, 1) := by decide +kernel
theorem dX9_read_111 : decode cX9_read 111 = .ok (.getfield 207, 3) := by decide +kernel
theorem dX9_read_114 : decode cX9_read 114 = .ok (.if_icmp .ge 25, 3) := by decide +kernel
theorem dX9_read_117 : decode cX9_read 117 = .ok (.aload_n 0, 1) := by decide +kernel
theorem dX9_read_118 : decode cX9_read 118 = .ok (.getfield 9, 3) := by decide +kernel
theorem dX9_read_121 : decode cX9_read 121 = .ok (.sipush 156, 3) := by decide +kernel
theorem dX9_read_124 : decode cX9_read 124 = .ok (.iload_n 3, 1) := by decide +kernel
theorem dX9_read_125 : decode cX9_read 125 = .ok (.iadd, 1) := by decide +kernel
theorem dX9_read_126 : decode cX9_read 126 = .ok (.aload_n 0, 1) := by decide +kernel
theorem dX9_read_127 : decode cX9_read 127 = .ok (.getfield 59, 3) := by decide +kernel
theorem dX9_read_130 : decode cX9_read 130 = .ok (.iload_n 3, 1) := by decide +kernel
theorem dX9_read_131 : decode cX9_read 131 = .ok (.iaload, 1) := by decide +kernel
theorem dX9_read_132 : decode cX9_read 132 = .ok (.iastore, 1) := by decide +kernel
theorem dX9_read_133 : decode cX9_read 133 = .ok (.iinc 3 1, 3) := by decide +kernel
theorem dX9_read_136 : decode cX9_read 136 = .ok (.goto (-27), 3) := by decide +kernel
theorem dX9_read_139 : decode cX9_read 139 = .ok (.aload_n 0, 1) := by decide +kernel
theorem dX9_read_140 : decode cX9_read 140 = .ok (.getfield 9, 3) := by decide +kernel
theorem dX9_read_143 : decode cX9_read 143 = .ok (.iconst 2, 1) := by decide +kernel
theorem dX9_read_144 : decode cX9_read 144 = .ok (.iload_n 1, 1) := by decide +kernel
theorem dX9_read_145 : decode cX9_read 145 = .ok (.iastore, 1) := by decide +kernel
theorem dX9_read_146 : decode cX9_read 146 = .ok (.aload_n 0, 1) := by decide +kernel
theorem dX9_read_147 : decode cX9_read 147 = .ok (.getfield 9, 3) := by decide +kernel
theorem dX9_read_150 : decode cX9_read 150 = .ok (.iconst 3, 1) := by decide +kernel
theorem dX9_read_151 : decode cX9_read 151 = .ok (.aload_n 0, 1) := by decide +kernel
theorem dX9_read_152 : decode cX9_read 152 = .ok (.getfield 207, 3) := by decide +kernel
theorem dX9_read_155 : decode cX9_read 155 = .ok (.iastore, 1) := by decide +kernel
theorem dX9_read_156 : decode cX9_read 156 = .ok (.iload_n 1, 1) := by decide +kernel
theorem dX9_read_157 : decode cX9_read 157 = .ok (.ireturn, 1) := by decide +kernel
theorem dX9_holds_0 : decode cX9_holds 0 = .ok (.iconst 0, 1) := by decide +kernel
theorem dX9_holds_1 : decode cX9_holds 1 = .ok (.istore 5, 2) := by decide +kernel
theorem dX9_holds_3 : decode cX9_holds 3 = .ok (.aload_n 0, 1) := by decide +kernel
theorem dX9_holds_4 : decode cX9_holds 4 = .ok (.getfield 9, 3) := by decide +kernel
theorem dX9_holds_7 : decode cX9_holds 7 = .ok (.bipush 124, 2) := by decide +kernel
theorem dX9_holds_9 : decode cX9_holds 9 = .ok (.iconst 4, 1) := by decide +kernel
theorem dX9_holds_10 : decode cX9_holds 10 = .ok (.iload_n 1, 1) := by decide +kernel
theorem dX9_holds_11 : decode cX9_holds 11 = .ok (.imul, 1) := by decide +kernel
theorem dX9_holds_12 : decode cX9_holds 12 = .ok (.iadd, 1) := by decide +kernel
theorem dX9_holds_13 : decode cX9_holds 13 = .ok (.iconst 2, 1) := by decide +kernel
theorem dX9_holds_14 : decode cX9_holds 14 = .ok (.iadd, 1) := by decide +kernel
theorem dX9_holds_15 : decode cX9_holds 15 = .ok (.iaload, 1) := by decide +kernel
theorem dX9_holds_16 : decode cX9_holds 16 = .ok (.istore 6, 2) := by decide +kernel
theorem dX9_holds_18 : decode cX9_holds 18 = .ok (.iload 6, 2) := by decide +kernel
theorem dX9_holds_20 : decode cX9_holds 20 = .ok (.aload_n 0, 1) := by decide +kernel
theorem dX9_holds_21 : decode cX9_holds 21 = .ok (.getfield 9, 3) := by decide +kernel
theorem dX9_holds_24 : decode cX9_holds 24 = .ok (.bipush 124, 2) := by decide +kernel
theorem dX9_holds_26 : decode cX9_holds 26 = .ok (.iconst 4, 1) := by decide +kernel
theorem dX9_holds_27 : decode cX9_holds 27 = .ok (.iload_n 1, 1) := by decide +kernel
theorem dX9_holds_28 : decode cX9_holds 28 = .ok (.imul, 1) := by decide +kernel
theorem dX9_holds_29 : decode cX9_holds 29 = .ok (.iadd, 1) := by decide +kernel
theorem dX9_holds_30 : decode cX9_holds 30 = .ok (.iconst 3, 1) := by decide +kernel
theorem dX9_holds_31 : decode cX9_holds 31 = .ok (.iadd, 1) := by decide +kernel
theorem dX9_holds_32 : decode cX9_holds 32 = .ok (.iaload, 1) := by decide +kernel
theorem dX9_holds_33 : decode cX9_holds 33 = .ok (.if_icmp .ge 269, 3) := by decide +kernel
theorem dX9_holds_36 : decode cX9_holds 36 = .ok (.aload_n 0, 1) := by decide +kernel
theorem dX9_holds_37 : decode cX9_holds 37 = .ok (.getfield 9, 3) := by decide +kernel
theorem dX9_holds_40 : decode cX9_holds 40 = .ok (.sipush 156, 3) := by decide +kernel
theorem dX9_holds_43 : decode cX9_holds 43 = .ok (.iload 6, 2) := by decide +kernel
theorem dX9_holds_45 : decode cX9_holds 45 = .ok (.iadd, 1) := by decide +kernel
theorem dX9_holds_46 : decode cX9_holds 46 = .ok (.iaload, 1) := by decide +kernel
theorem dX9_holds_47 : decode cX9_holds 47 = .ok (.istore 7, 2) := by decide +kernel
theorem dX9_holds_49 : decode cX9_holds 49 = .ok (.iload 7, 2) := by decide +kernel
theorem dX9_holds_51 : decode cX9_holds 51 = .ok (.sipush 2002, 3) := by decide +kernel
theorem dX9_holds_54 : decode cX9_holds 54 = .ok (.if_icmp .gt 60, 3) := by decide +kernel
theorem dX9_holds_57 : decode cX9_holds 57 = .ok (.aload_n 0, 1) := by decide +kernel
theorem dX9_holds_58 : decode cX9_holds 58 = .ok (.getfield 65, 3) := by decide +kernel
theorem dX9_holds_61 : decode cX9_holds 61 = .ok (.iload 5, 2) := by decide +kernel
theorem dX9_holds_63 : decode cX9_holds 63 = .ok (.iload 7, 2) := by decide +kernel
theorem dX9_holds_65 : decode cX9_holds 65 = .ok (.sipush 2000, 3) := by decide +kernel
theorem dX9_holds_68 : decode cX9_holds 68 = .ok (.if_icmp .ne 7, 3) := by decide +kernel
theorem dX9_holds_71 : decode cX9_holds 71 = .ok (.iload_n 2, 1) := by decide +kernel
theorem dX9_holds_72 : decode cX9_holds 72 = .ok (.goto 35, 3) := by decide +kernel
theorem dX9_holds_75 : decode cX9_holds 75 = .ok (.iload 7, 2) := by decide +kernel
theorem dX9_holds_77 : decode cX9_holds 77 = .ok (.sipush 2001, 3) := by decide +kernel
theorem dX9_holds_80 : decode cX9_holds 80 = .ok (.if_icmp .ne 8, 3) := by decide +kernel
theorem dX9_holds_83 : decode cX9_holds 83 = .ok (.iload 4, 2) := by decide +kernel
theorem dX9_holds_85 : decode cX9_holds 85 = .ok (.goto 22, 3) := by decide +kernel
theorem dX9_holds_88 : decode cX9_holds 88 = .ok (.iload 7, 2) := by decide +kernel
theorem dX9_holds_90 : decode cX9_holds 90 = .ok (.sipush 2002, 3) := by decide +kernel
theorem dX9_holds_93 : decode cX9_holds 93 = .ok (.if_icmp .ne 12, 3) := by decide +kernel
theorem dX9_holds_96 : decode cX9_holds 96 = .ok (.aload_n 0, 1) := by decide +kernel
theorem dX9_holds_97 : decode cX9_holds 97 = .ok (.iload_n 3, 1) := by decide +kernel
theorem dX9_holds_98 : decode cX9_holds 98 = .ok (.iconst 0, 1) := by decide +kernel
theorem dX9_holds_99 : decode cX9_holds 99 = .ok (.invokevirtual 116, 3) := by decide +kernel
theorem dX9_holds_102 : decode cX9_holds 102 = .ok (.goto 5, 3) := by decide +kernel
theorem dX9_holds_105 : decode cX9_holds 105 = .ok (.iload 7, 2) := by decide +kernel
theorem dX9_holds_107 : decode cX9_holds 107 = .ok (.iastore, 1) := by decide +kernel
theorem dX9_holds_108 : decode cX9_holds 108 = .ok (.iinc 5 1, 3) := by decide +kernel
theorem dX9_holds_111 : decode cX9_holds 111 = .ok (.goto 185, 3) := by decide +kernel
theorem dX9_holds_114 : decode cX9_holds 114 = .ok (.iload 7, 2) := by decide +kernel
theorem dX9_holds_116 : decode cX9_holds 116 = .ok (.sipush 2006, 3) := by decide +kernel
theorem dX9_holds_119 : decode cX9_holds 119 = .ok (.if_icmp .ne 26, 3) := by decide +kernel
theorem dX9_holds_122 : decode cX9_holds 122 = .ok (.aload_n 0, 1) := by decide +kernel
theorem dX9_holds_123 : decode cX9_holds 123 = .ok (.getfield 65, 3) := by decide +kernel
theorem dX9_holds_126 : decode cX9_holds 126 = .ok (.iload 5, 2) := by decide +kernel
theorem dX9_holds_128 : decode cX9_holds 128 = .ok (.iconst 1, 1) := by decide +kernel
theorem dX9_holds_129 : decode cX9_holds 129 = .ok (.isub, 1) := by decide +kernel
theorem dX9_holds_130 : decode cX9_holds 130 = .ok (.iconst 1, 1) := by decide +kernel
theorem dX9_holds_131 : decode cX9_holds 131 = .ok (.aload_n 0, 1) := by decide +kernel
theorem dX9_holds_132 : decode cX9_holds 132 = .ok (.getfield 65, 3) := by decide +kernel
theorem dX9_holds_135 : decode cX9_holds 135 = .ok (.iload 5, 2) := by decide +kernel
theorem dX9_holds_137 : decode cX9_holds 137 = .ok (.iconst 1, 1) := by decide +kernel
theorem dX9_holds_138 : decode cX9_holds 138 = .ok (.isub, 1) := by decide +kernel
theorem dX9_holds_139 : decode cX9_holds 139 = .ok (.iaload, 1) := by decide +kernel
theorem dX9_holds_140 : decode cX9_holds 140 = .ok (.isub, 1) := by decide +kernel
theorem dX9_holds_141 : decode cX9_holds 141 = .ok (.iastore, 1) := by decide +kernel
theorem dX9_holds_142 : decode cX9_holds 142 = .ok (.goto 154, 3) := by decide +kernel
theorem dX9_holds_145 : decode cX9_holds 145 = .ok (.iinc 5 (-1), 3) := by decide +kernel
theorem dX9_holds_148 : decode cX9_holds 148 = .ok (.aload_n 0, 1) := by decide +kernel
theorem dX9_holds_149 : decode cX9_holds 149 = .ok (.getfield 65, 3) := by decide +kernel
theorem dX9_holds_152 : decode cX9_holds 152 = .ok (.iload 5, 2) := by decide +kernel
theorem dX9_holds_154 : decode cX9_holds 154 = .ok (.iconst 1, 1) := by decide +kernel
theorem dX9_holds_155 : decode cX9_holds 155 = .ok (.isub, 1) := by decide +kernel
theorem dX9_holds_156 : decode cX9_holds 156 = .ok (.iaload, 1) := by decide +kernel
theorem dX9_holds_157 : decode cX9_holds 157 = .ok (.istore 8, 2) := by decide +kernel
theorem dX9_holds_159 : decode cX9_holds 159 = .ok (.aload_n 0, 1) := by decide +kernel
theorem dX9_holds_160 : decode cX9_holds 160 = .ok (.getfield 65, 3) := by decide +kernel
theorem dX9_holds_163 : decode cX9_holds 163 = .ok (.iload 5, 2) := by decide +kernel
theorem dX9_holds_165 : decode cX9_holds 165 = .ok (.iaload, 1) := by decide +kernel
theorem dX9_holds_166 : decode cX9_holds 166 = .ok (.istore 9, 2) := by decide +kernel
theorem dX9_holds_168 : decode cX9_holds 168 = .ok (.iload 7, 2) := by decide +kernel
theorem dX9_holds_170 : decode cX9_holds 170 = .ok (.sipush 2003, 3) := by decide +kernel
theorem dX9_holds_173 : decode cX9_holds 173 = .ok (.if_icmp .ne 18, 3) := by decide +kernel
theorem dX9_holds_176 : decode cX9_holds 176 = .ok (.iload 8, 2) := by decide +kernel
theorem dX9_holds_178 : decode cX9_holds 178 = .ok (.iload 9, 2) := by decide +kernel
theorem dX9_holds_180 : decode cX9_holds 180 = .ok (.if_icmp .ge 7, 3) := by decide +kernel
theorem dX9_holds_183 : decode cX9_holds 183 = .ok (.iconst 1, 1) := by decide +kernel
theorem dX9_holds_184 : decode cX9_holds 184 = .ok (.goto 91, 3) := by decide +kernel
theorem dX9_holds_187 : decode cX9_holds 187 = .ok (.iconst 0, 1) := by decide +kernel
theorem dX9_holds_188 : decode cX9_holds 188 = .ok (.goto 87, 3) := by decide +kernel
theorem dX9_holds_191 : decode cX9_holds 191 = .ok (.iload 7, 2) := by decide +kernel
theorem dX9_holds_193 : decode cX9_holds 193 = .ok (.sipush 2004, 3) := by decide +kernel
theorem dX9_holds_196 : decode cX9_holds 196 = .ok (.if_icmp .ne 18, 3) := by decide +kernel
theorem dX9_holds_199 : decode cX9_holds 199 = .ok (.iload 8, 2) := by decide +kernel
theorem dX9_holds_201 : decode cX9_holds 201 = .ok (.iload 9, 2) := by decide +kernel
theorem dX9_holds_203 : decode cX9_holds 203 = .ok (.if_icmp .ne 7, 3) := by decide +kernel
theorem dX9_holds_206 : decode cX9_holds 206 = .ok (.iconst 1, 1) := by decide +kernel
theorem dX9_holds_207 : decode cX9_holds 207 = .ok (.goto 68, 3) := by decide +kernel
theorem dX9_holds_210 : decode cX9_holds 210 = .ok (.iconst 0, 1) := by decide +kernel
theorem dX9_holds_211 : decode cX9_holds 211 = .ok (.goto 64, 3) := by decide +kernel
theorem dX9_holds_214 : decode cX9_holds 214 = .ok (.iload 7, 2) := by decide +kernel
theorem dX9_holds_216 : decode cX9_holds 216 = .ok (.sipush 2005, 3) := by decide +kernel
theorem dX9_holds_219 : decode cX9_holds 219 = .ok (.if_icmp .ne 18, 3) := by decide +kernel
theorem dX9_holds_222 : decode cX9_holds 222 = .ok (.iload 8, 2) := by decide +kernel
theorem dX9_holds_224 : decode cX9_holds 224 = .ok (.iload 9, 2) := by decide +kernel
theorem dX9_holds_226 : decode cX9_holds 226 = .ok (.if_icmp .le 7, 3) := by decide +kernel
theorem dX9_holds_229 : decode cX9_holds 229 = .ok (.iconst 1, 1) := by decide +kernel
theorem dX9_holds_230 : decode cX9_holds 230 = .ok (.goto 45, 3) := by decide +kernel
theorem dX9_holds_233 : decode cX9_holds 233 = .ok (.iconst 0, 1) := by decide +kernel
theorem dX9_holds_234 : decode cX9_holds 234 = .ok (.goto 41, 3) := by decide +kernel
theorem dX9_holds_237 : decode cX9_holds 237 = .ok (.iload 7, 2) := by decide +kernel
theorem dX9_holds_239 : decode cX9_holds 239 = .ok (.sipush 2007, 3) := by decide +kernel
theorem dX9_holds_242 : decode cX9_holds 242 = .ok (.if_icmp .ne 20, 3) := by decide +kernel
theorem dX9_holds_245 : decode cX9_holds 245 = .ok (.iload 8, 2) := by decide +kernel
theorem dX9_holds_247 : decode cX9_holds 247 = .ok (.iload 9, 2) := by decide +kernel
theorem dX9_holds_249 : decode cX9_holds 249 = .ok (.iadd, 1) := by decide +kernel
theorem dX9_holds_250 : decode cX9_holds 250 = .ok (.iconst 2, 1) := by decide +kernel
theorem dX9_holds_251 : decode cX9_holds 251 = .ok (.if_icmp .ne 7, 3) := by decide +kernel
theorem dX9_holds_254 : decode cX9_holds 254 = .ok (.iconst 1, 1) := by decide +kernel
theorem dX9_holds_255 : decode cX9_holds 255 = .ok (.goto 20, 3) := by decide +kernel
theorem dX9_holds_258 : decode cX9_holds 258 = .ok (.iconst 0, 1) := by decide +kernel
theorem dX9_holds_259 : decode cX9_holds 259 = .ok (.goto 16, 3) := by decide +kernel
theorem dX9_holds_262 : decode cX9_holds 262 = .ok (.iload 8, 2) := by decide +kernel
theorem dX9_holds_264 : decode cX9_holds 264 = .ok (.iload 9, 2) := by decide +kernel
theorem dX9_holds_266 : decode cX9_holds 266 = .ok (.iadd, 1) := by decide +kernel
theorem dX9_holds_267 : decode cX9_holds 267 = .ok (.ifCond .le 7, 3) := by decide +kernel
theorem dX9_holds_270 : decode cX9_holds 270 = .ok (.iconst 1, 1) := by decide +kernel
theorem dX9_holds_271 : decode cX9_holds 271 = .ok (.goto 4, 3) := by decide +kernel
theorem dX9_holds_274 : decode cX9_holds 274 = .ok (.iconst 0, 1) := by decide +kernel
theorem dX9_holds_275 : decode cX9_holds 275 = .ok (.istore 10, 2) := by decide +kernel
theorem dX9_holds_277 : decode cX9_holds 277 = .ok (.aload_n 0, 1) := by decide +kernel
theorem dX9_holds_278 : decode cX9_holds 278 = .ok (.getfield 65, 3) := by decide +kernel
theorem dX9_holds_281 : decode cX9_holds 281 = .ok (.iload 5, 2) := by decide +kernel
theorem dX9_holds_283 : decode cX9_holds 283 = .ok (.iconst 1, 1) := by decide +kernel
theorem dX9_holds_284 : decode cX9_holds 284 = .ok (.isub, 1) := by decide +kernel
theorem dX9_holds_285 : decode cX9_holds 285 = .ok (.iload 10, 2) := by decide +kernel
theorem dX9_holds_287 : decode cX9_holds 287 = .ok (.ifCond .eq 7, 3) := by decide +kernel
theorem dX9_holds_290 : decode cX9_holds 290 = .ok (.iconst 1, 1) := by decide +kernel
theorem dX9_holds_291 : decode cX9_holds 291 = .ok (.goto 4, 3) := by decide +kernel
theorem dX9_holds_294 : decode cX9_holds 294 = .ok (.iconst 0, 1) := by decide +kernel
theorem dX9_holds_295 : decode cX9_holds 295 = .ok (.iastore, 1) := by decide +kernel
theorem dX9_holds_296 : decode cX9_holds 296 = .ok (.iinc 6 1, 3) := by decide +kernel
theorem dX9_holds_299 : decode cX9_holds 299 = .ok (.goto (-281), 3) := by decide +kernel
theorem dX9_holds_302 : decode cX9_holds 302 = .ok (.iload 5, 2) := by decide +kernel
theorem dX9_holds_304 : decode cX9_holds 304 = .ok (.ifCond .eq 13, 3) := by decide +kernel
theorem dX9_holds_307 : decode cX9_holds 307 = .ok (.aload_n 0, 1) := by decide +kernel
theorem dX9_holds_308 : decode cX9_holds 308 = .ok (.getfield 65, 3) := by decide +kernel
theorem dX9_holds_311 : decode cX9_holds 311 = .ok (.iconst 0, 1) := by decide +kernel
theorem dX9_holds_312 : decode cX9_holds 312 = .ok (.iaload, 1) := by decide +kernel
theorem dX9_holds_313 : decode cX9_holds 313 = .ok (.iconst 1, 1) := by decide +kernel
theorem dX9_holds_314 : decode cX9_holds 314 = .ok (.if_icmp .ne 7, 3) := by decide +kernel
theorem dX9_holds_317 : decode cX9_holds 317 = .ok (.iconst 1, 1) := by decide +kernel
theorem dX9_holds_318 : decode cX9_holds 318 = .ok (.goto 4, 3) := by decide +kernel
theorem dX9_holds_321 : decode cX9_holds 321 = .ok (.iconst 0, 1) := by decide +kernel
theorem dX9_holds_322 : decode cX9_holds 322 = .ok (.ireturn, 1) := by decide +kernel
theorem dX9_letsOf_0 : decode cX9_letsOf 0 = .ok (.iconst 0, 1) := by decide +kernel
theorem dX9_letsOf_1 : decode cX9_letsOf 1 = .ok (.istore 4, 2) := by decide +kernel
theorem dX9_letsOf_3 : decode cX9_letsOf 3 = .ok (.iconst 0, 1) := by decide +kernel
theorem dX9_letsOf_4 : decode cX9_letsOf 4 = .ok (.istore 5, 2) := by decide +kernel
theorem dX9_letsOf_6 : decode cX9_letsOf 6 = .ok (.iload 5, 2) := by decide +kernel
theorem dX9_letsOf_8 : decode cX9_letsOf 8 = .ok (.aload_n 0, 1) := by decide +kernel
theorem dX9_letsOf_9 : decode cX9_letsOf 9 = .ok (.getfield 9, 3) := by decide +kernel
theorem dX9_letsOf_12 : decode cX9_letsOf 12 = .ok (.iconst 2, 1) := by decide +kernel
theorem dX9_letsOf_13 : decode cX9_letsOf 13 = .ok (.iaload, 1) := by decide +kernel
theorem dX9_letsOf_14 : decode cX9_letsOf 14 = .ok (.if_icmp .ge 70, 3) := by decide +kernel
theorem dX9_letsOf_17 : decode cX9_letsOf 17 = .ok (.aload_n 0, 1) := by decide +kernel
theorem dX9_letsOf_18 : decode cX9_letsOf 18 = .ok (.getfield 9, 3) := by decide +kernel
theorem dX9_letsOf_21 : decode cX9_letsOf 21 = .ok (.bipush 124, 2) := by decide +kernel
theorem dX9_letsOf_23 : decode cX9_letsOf 23 = .ok (.iconst 4, 1) := by decide +kernel
theorem dX9_letsOf_24 : decode cX9_letsOf 24 = .ok (.iload 5, 2) := by decide +kernel
theorem dX9_letsOf_26 : decode cX9_letsOf 26 = .ok (.imul, 1) := by decide +kernel
theorem dX9_letsOf_27 : decode cX9_letsOf 27 = .ok (.iadd, 1) := by decide +kernel
theorem dX9_letsOf_28 : decode cX9_letsOf 28 = .ok (.iaload, 1) := by decide +kernel
theorem dX9_letsOf_29 : decode cX9_letsOf 29 = .ok (.iload_n 2, 1) := by decide +kernel
theorem dX9_letsOf_30 : decode cX9_letsOf 30 = .ok (.if_icmp .ne 19, 3) := by decide +kernel
theorem dX9_letsOf_33 : decode cX9_letsOf 33 = .ok (.aload_n 0, 1) := by decide +kernel
theorem dX9_letsOf_34 : decode cX9_letsOf 34 = .ok (.iload 5, 2) := by decide +kernel
theorem dX9_letsOf_36 : decode cX9_letsOf 36 = .ok (.iload_n 1, 1) := by decide +kernel
theorem dX9_letsOf_37 : decode cX9_letsOf 37 = .ok (.iload_n 2, 1) := by decide +kernel
theorem dX9_letsOf_38 : decode cX9_letsOf 38 = .ok (.iload_n 3, 1) := by decide +kernel
theorem dX9_letsOf_39 : decode cX9_letsOf 39 = .ok (.invokevirtual 264, 3) := by decide +kernel
theorem dX9_letsOf_42 : decode cX9_letsOf 42 = .ok (.ifCond .eq 7, 3) := by decide +kernel
theorem dX9_letsOf_45 : decode cX9_letsOf 45 = .ok (.iconst 1, 1) := by decide +kernel
theorem dX9_letsOf_46 : decode cX9_letsOf 46 = .ok (.goto 4, 3) := by decide +kernel
theorem dX9_letsOf_49 : decode cX9_letsOf 49 = .ok (.iconst 0, 1) := by decide +kernel
theorem dX9_letsOf_50 : decode cX9_letsOf 50 = .ok (.istore 6, 2) := by decide +kernel
theorem dX9_letsOf_52 : decode cX9_letsOf 52 = .ok (.iload 6, 2) := by decide +kernel
theorem dX9_letsOf_54 : decode cX9_letsOf 54 = .ok (.ifCond .eq 20, 3) := by decide +kernel
theorem dX9_letsOf_57 : decode cX9_letsOf 57 = .ok (.aload_n 0, 1) := by decide +kernel
theorem dX9_letsOf_58 : decode cX9_letsOf 58 = .ok (.getfield 9, 3) := by decide +kernel
theorem dX9_letsOf_61 : decode cX9_letsOf 61 = .ok (.bipush 124, 2) := by decide +kernel
theorem dX9_letsOf_63 : decode cX9_letsOf 63 = .ok (.iconst 4, 1) := by decide +kernel
theorem dX9_letsOf_64 : decode cX9_letsOf 64 = .ok (.iload 5, 2) := by decide +kernel
theorem dX9_letsOf_66 : decode cX9_letsOf 66 = .ok (.imul, 1) := by decide +kernel
theorem dX9_letsOf_67 : decode cX9_letsOf 67 = .ok (.iadd, 1) := by decide +kernel
theorem dX9_letsOf_68 : decode cX9_letsOf 68 = .ok (.iconst 1, 1) := by decide +kernel
theorem dX9_letsOf_69 : decode cX9_letsOf 69 = .ok (.iadd, 1) := by decide +kernel
theorem dX9_letsOf_70 : decode cX9_letsOf 70 = .ok (.iaload, 1) := by decide +kernel
theorem dX9_letsOf_71 : decode cX9_letsOf 71 = .ok (.goto 5, 3) := by decide +kernel
theorem dX9_letsOf_74 : decode cX9_letsOf 74 = .ok (.iload 4, 2) := by decide +kernel
theorem dX9_letsOf_76 : decode cX9_letsOf 76 = .ok (.istore 4, 2) := by decide +kernel
theorem dX9_letsOf_78 : decode cX9_letsOf 78 = .ok (.iinc 5 1, 3) := by decide +kernel
theorem dX9_letsOf_81 : decode cX9_letsOf 81 = .ok (.goto (-75), 3) := by decide +kernel
theorem dX9_letsOf_84 : decode cX9_letsOf 84 = .ok (.iload 4, 2) := by decide +kernel
theorem dX9_letsOf_86 : decode cX9_letsOf 86 = .ok (.ireturn, 1) := by decide +kernel
theorem dX9_goBy_0 : decode cX9_goBy 0 = .ok (.iconst 0, 1) := by decide +kernel
theorem dX9_goBy_1 : decode cX9_goBy 1 = .ok (.istore_n 3, 1) := by decide +kernel
theorem dX9_goBy_2 : decode cX9_goBy 2 = .ok (.iconst 0, 1) := by decide +kernel
theorem dX9_goBy_3 : decode cX9_goBy 3 = .ok (.istore 4, 2) := by decide +kernel
theorem dX9_goBy_5 : decode cX9_goBy 5 = .ok (.iconst 0, 1) := by decide +kernel
theorem dX9_goBy_6 : decode cX9_goBy 6 = .ok (.istore 5, 2) := by decide +kernel
theorem dX9_goBy_8 : decode cX9_goBy 8 = .ok (.iload 5, 2) := by decide +kernel
theorem dX9_goBy_10 : decode cX9_goBy 10 = .ok (.aload_n 0, 1) := by decide +kernel
theorem dX9_goBy_11 : decode cX9_goBy 11 = .ok (.getfield 9, 3) := by decide +kernel
theorem dX9_goBy_14 : decode cX9_goBy 14 = .ok (.iconst 0, 1) := by decide +kernel
theorem dX9_goBy_15 : decode cX9_goBy 15 = .ok (.iaload, 1) := by decide +kernel
theorem dX9_goBy_16 : decode cX9_goBy 16 = .ok (.if_icmp .ge 170, 3) := by decide +kernel
theorem dX9_goBy_19 : decode cX9_goBy 19 = .ok (.aload_n 0, 1) := by decide +kernel
theorem dX9_goBy_20 : decode cX9_goBy 20 = .ok (.getfield 68, 3) := by decide +kernel
theorem dX9_goBy_23 : decode cX9_goBy 23 = .ok (.iload 5, 2) := by decide +kernel
theorem dX9_goBy_25 : decode cX9_goBy 25 = .ok (.iload 4, 2) := by decide +kernel
theorem dX9_goBy_27 : decode cX9_goBy 27 = .ok (.aload_n 0, 1) := by decide +kernel
theorem dX9_goBy_28 : decode cX9_goBy 28 = .ok (.iload 5, 2) := by decide +kernel
theorem dX9_goBy_30 : decode cX9_goBy 30 = .ok (.iconst 0, 1) := by decide +kernel
theorem dX9_goBy_31 : decode cX9_goBy 31 = .ok (.invokevirtual 116, 3) := by decide +kernel
theorem dX9_goBy_34 : decode cX9_goBy 34 = .ok (.iload_n 1, 1) := by decide +kernel
theorem dX9_goBy_35 : decode cX9_goBy 35 = .ok (.imul, 1) := by decide +kernel
theorem dX9_goBy_36 : decode cX9_goBy 36 = .ok (.bipush 10, 2) := by decide +kernel
theorem dX9_goBy_38 : decode cX9_goBy 38 = .ok (.idiv, 1) := by decide +kernel
theorem dX9_goBy_39 : decode cX9_goBy 39 = .ok (.iadd, 1) := by decide +kernel
theorem dX9_goBy_40 : decode cX9_goBy 40 = .ok (.iastore, 1) := by decide +kernel
theorem dX9_goBy_41 : decode cX9_goBy 41 = .ok (.iload_n 2, 1) := by decide +kernel
theorem dX9_goBy_42 : decode cX9_goBy 42 = .ok (.ifCond .lt 7, 3) := by decide +kernel
theorem dX9_goBy_45 : decode cX9_goBy 45 = .ok (.iload_n 2, 1) := by decide +kernel
theorem dX9_goBy_46 : decode cX9_goBy 46 = .ok (.goto 17, 3) := by decide +kernel
theorem dX9_goBy_49 : decode cX9_goBy 49 = .ok (.aload_n 0, 1) := by decide +kernel
theorem dX9_goBy_50 : decode cX9_goBy 50 = .ok (.iload_n 1, 1) := by decide +kernel
theorem dX9_goBy_51 : decode cX9_goBy 51 = .ok (.iload 5, 2) := by decide +kernel
theorem dX9_goBy_53 : decode cX9_goBy 53 = .ok (.aload_n 0, 1) := by decide +kernel
theorem dX9_goBy_54 : decode cX9_goBy 54 = .ok (.getfield 68, 3) := by decide +kernel
theorem dX9_goBy_57 : decode cX9_goBy 57 = .ok (.iload 5, 2) := by decide +kernel
theorem dX9_goBy_59 : decode cX9_goBy 59 = .ok (.iaload, 1) := by decide +kernel
theorem dX9_goBy_60 : decode cX9_goBy 60 = .ok (.invokevirtual 268, 3) := by decide +kernel
theorem dX9_goBy_63 : decode cX9_goBy 63 = .ok (.istore 6, 2) := by decide +kernel
theorem dX9_goBy_65 : decode cX9_goBy 65 = .ok (.aload_n 0, 1) := by decide +kernel
theorem dX9_goBy_66 : decode cX9_goBy 66 = .ok (.getfield 71, 3) := by decide +kernel
theorem dX9_goBy_69 : decode cX9_goBy 69 = .ok (.iload 5, 2) := by decide +kernel
theorem dX9_goBy_71 : decode cX9_goBy 71 = .ok (.iload 6, 2) := by decide +kernel
theorem dX9_goBy_73 : decode cX9_goBy 73 = .ok (.aload_n 0, 1) := by decide +kernel
theorem dX9_goBy_74 : decode cX9_goBy 74 = .ok (.getfield 68, 3) := by decide +kernel
theorem dX9_goBy_77 : decode cX9_goBy 77 = .ok (.iload 5, 2) := by decide +kernel
theorem dX9_goBy_79 : decode cX9_goBy 79 = .ok (.iaload, 1) := by decide +kernel
theorem dX9_goBy_80 : decode cX9_goBy 80 = .ok (.if_icmp .ge 8, 3) := by decide +kernel
theorem dX9_goBy_83 : decode cX9_goBy 83 = .ok (.iload 6, 2) := by decide +kernel
theorem dX9_goBy_85 : decode cX9_goBy 85 = .ok (.goto 10, 3) := by decide +kernel
theorem dX9_goBy_88 : decode cX9_goBy 88 = .ok (.aload_n 0, 1) := by decide +kernel
theorem dX9_goBy_89 : decode cX9_goBy 89 = .ok (.getfield 68, 3) := by decide +kernel
theorem dX9_goBy_92 : decode cX9_goBy 92 = .ok (.iload 5, 2) := by decide +kernel
theorem dX9_goBy_94 : decode cX9_goBy 94 = .ok (.iaload, 1) := by decide +kernel
theorem dX9_goBy_95 : decode cX9_goBy 95 = .ok (.iastore, 1) := by decide +kernel
theorem dX9_goBy_96 : decode cX9_goBy 96 = .ok (.aload_n 0, 1) := by decide +kernel
theorem dX9_goBy_97 : decode cX9_goBy 97 = .ok (.getfield 74, 3) := by decide +kernel
theorem dX9_goBy_100 : decode cX9_goBy 100 = .ok (.iload 5, 2) := by decide +kernel
theorem dX9_goBy_102 : decode cX9_goBy 102 = .ok (.aload_n 0, 1) := by decide +kernel
theorem dX9_goBy_103 : decode cX9_goBy 103 = .ok (.iload 5, 2) := by decide +kernel
theorem dX9_goBy_105 : decode cX9_goBy 105 = .ok (.aload_n 0, 1) := by decide +kernel
theorem dX9_goBy_106 : decode cX9_goBy 106 = .ok (.getfield 68, 3) := by decide +kernel
theorem dX9_goBy_109 : decode cX9_goBy 109 = .ok (.iload 5, 2) := by decide +kernel
theorem dX9_goBy_111 : decode cX9_goBy 111 = .ok (.iaload, 1) := by decide +kernel
theorem dX9_goBy_112 : decode cX9_goBy 112 = .ok (.aload_n 0, 1) := by decide +kernel
theorem dX9_goBy_113 : decode cX9_goBy 113 = .ok (.getfield 71, 3) := by decide +kernel
theorem dX9_goBy_116 : decode cX9_goBy 116 = .ok (.iload 5, 2) := by decide +kernel
theorem dX9_goBy_118 : decode cX9_goBy 118 = .ok (.iaload, 1) := by decide +kernel
theorem dX9_goBy_119 : decode cX9_goBy 119 = .ok (.isub, 1) := by decide +kernel
theorem dX9_goBy_120 : decode cX9_goBy 120 = .ok (.invokevirtual 151, 3) := by decide +kernel
theorem dX9_goBy_123 : decode cX9_goBy 123 = .ok (.iastore, 1) := by decide +kernel
theorem dX9_goBy_124 : decode cX9_goBy 124 = .ok (.aload_n 0, 1) := by decide +kernel
theorem dX9_goBy_125 : decode cX9_goBy 125 = .ok (.getfield 68, 3) := by decide +kernel
theorem dX9_goBy_128 : decode cX9_goBy 128 = .ok (.iload 5, 2) := by decide +kernel
theorem dX9_goBy_130 : decode cX9_goBy 130 = .ok (.iaload, 1) := by decide +kernel
theorem dX9_goBy_131 : decode cX9_goBy 131 = .ok (.aload_n 0, 1) := by decide +kernel
theorem dX9_goBy_132 : decode cX9_goBy 132 = .ok (.getfield 74, 3) := by decide +kernel
theorem dX9_goBy_135 : decode cX9_goBy 135 = .ok (.iload 5, 2) := by decide +kernel
theorem dX9_goBy_137 : decode cX9_goBy 137 = .ok (.iaload, 1) := by decide +kernel
theorem dX9_goBy_138 : decode cX9_goBy 138 = .ok (.isub, 1) := by decide +kernel
theorem dX9_goBy_139 : decode cX9_goBy 139 = .ok (.istore 4, 2) := by decide +kernel
theorem dX9_goBy_141 : decode cX9_goBy 141 = .ok (.aload_n 0, 1) := by decide +kernel
theorem dX9_goBy_142 : decode cX9_goBy 142 = .ok (.getfield 77, 3) := by decide +kernel
theorem dX9_goBy_145 : decode cX9_goBy 145 = .ok (.iload 5, 2) := by decide +kernel
theorem dX9_goBy_147 : decode cX9_goBy 147 = .ok (.aload_n 0, 1) := by decide +kernel
theorem dX9_goBy_148 : decode cX9_goBy 148 = .ok (.iload 5, 2) := by decide +kernel
theorem dX9_goBy_150 : decode cX9_goBy 150 = .ok (.aload_n 0, 1) := by decide +kernel
theorem dX9_goBy_151 : decode cX9_goBy 151 = .ok (.getfield 74, 3) := by decide +kernel
theorem dX9_goBy_154 : decode cX9_goBy 154 = .ok (.iload 5, 2) := by decide +kernel
theorem dX9_goBy_156 : decode cX9_goBy 156 = .ok (.iaload, 1) := by decide +kernel
theorem dX9_goBy_157 : decode cX9_goBy 157 = .ok (.invokevirtual 123, 3) := by decide +kernel
theorem dX9_goBy_160 : decode cX9_goBy 160 = .ok (.aload_n 0, 1) := by decide +kernel
theorem dX9_goBy_161 : decode cX9_goBy 161 = .ok (.iload 5, 2) := by decide +kernel
theorem dX9_goBy_163 : decode cX9_goBy 163 = .ok (.iload 4, 2) := by decide +kernel
theorem dX9_goBy_165 : decode cX9_goBy 165 = .ok (.invokevirtual 126, 3) := by decide +kernel
theorem dX9_goBy_168 : decode cX9_goBy 168 = .ok (.isub, 1) := by decide +kernel
theorem dX9_goBy_169 : decode cX9_goBy 169 = .ok (.iastore, 1) := by decide +kernel
theorem dX9_goBy_170 : decode cX9_goBy 170 = .ok (.iload_n 3, 1) := by decide +kernel
theorem dX9_goBy_171 : decode cX9_goBy 171 = .ok (.aload_n 0, 1) := by decide +kernel
theorem dX9_goBy_172 : decode cX9_goBy 172 = .ok (.getfield 77, 3) := by decide +kernel
theorem dX9_goBy_175 : decode cX9_goBy 175 = .ok (.iload 5, 2) := by decide +kernel
theorem dX9_goBy_177 : decode cX9_goBy 177 = .ok (.iaload, 1) := by decide +kernel
theorem dX9_goBy_178 : decode cX9_goBy 178 = .ok (.iadd, 1) := by decide +kernel
theorem dX9_goBy_179 : decode cX9_goBy 179 = .ok (.istore_n 3, 1) := by decide +kernel
theorem dX9_goBy_180 : decode cX9_goBy 180 = .ok (.iinc 5 1, 3) := by decide +kernel
theorem dX9_goBy_183 : decode cX9_goBy 183 = .ok (.goto (-175), 3) := by decide +kernel
theorem dX9_goBy_186 : decode cX9_goBy 186 = .ok (.iload_n 3, 1) := by decide +kernel
theorem dX9_goBy_187 : decode cX9_goBy 187 = .ok (.ireturn, 1) := by decide +kernel
theorem dX9_treaty_0 : decode cX9_treaty 0 = .ok (.iload_n 1, 1) := by decide +kernel
theorem dX9_treaty_1 : decode cX9_treaty 1 = .ok (.iconst 0, 1) := by decide +kernel
theorem dX9_treaty_2 : decode cX9_treaty 2 = .ok (.bipush 20, 2) := by decide +kernel
theorem dX9_treaty_4 : decode cX9_treaty 4 = .ok (.invokestatic 104, 3) := by decide +kernel
theorem dX9_treaty_7 : decode cX9_treaty 7 = .ok (.ifCond .eq 20, 3) := by decide +kernel
theorem dX9_treaty_10 : decode cX9_treaty 10 = .ok (.aload_n 0, 1) := by decide +kernel
theorem dX9_treaty_11 : decode cX9_treaty 11 = .ok (.iload_n 2, 1) := by decide +kernel
theorem dX9_treaty_12 : decode cX9_treaty 12 = .ok (.invokevirtual 112, 3) := by decide +kernel
theorem dX9_treaty_15 : decode cX9_treaty 15 = .ok (.ifCond .eq 12, 3) := by decide +kernel
theorem dX9_treaty_18 : decode cX9_treaty 18 = .ok (.iload_n 3, 1) := by decide +kernel
theorem dX9_treaty_19 : decode cX9_treaty 19 = .ok (.iconst 0, 1) := by decide +kernel
theorem dX9_treaty_20 : decode cX9_treaty 20 = .ok (.iconst 3, 1) := by decide +kernel
theorem dX9_treaty_21 : decode cX9_treaty 21 = .ok (.invokestatic 104, 3) := by decide +kernel
theorem dX9_treaty_24 : decode cX9_treaty 24 = .ok (.ifCond .ne 6, 3) := by decide +kernel
theorem dX9_treaty_27 : decode cX9_treaty 27 = .ok (.ldc 140, 2) := by decide +kernel
theorem dX9_treaty_29 : decode cX9_treaty 29 = .ok (.ireturn, 1) := by decide +kernel
theorem dX9_treaty_30 : decode cX9_treaty 30 = .ok (.aload_n 0, 1) := by decide +kernel
theorem dX9_treaty_31 : decode cX9_treaty 31 = .ok (.iload_n 1, 1) := by decide +kernel
theorem dX9_treaty_32 : decode cX9_treaty 32 = .ok (.iconst (-1), 1) := by decide +kernel
theorem dX9_treaty_33 : decode cX9_treaty 33 = .ok (.invokevirtual 272, 3) := by decide +kernel
theorem dX9_treaty_36 : decode cX9_treaty 36 = .ok (.istore 4, 2) := by decide +kernel
theorem dX9_treaty_38 : decode cX9_treaty 38 = .ok (.iload_n 3, 1) := by decide +kernel
theorem dX9_treaty_39 : decode cX9_treaty 39 = .ok (.ifCond .ne 12, 3) := by decide +kernel
theorem dX9_treaty_42 : decode cX9_treaty 42 = .ok (.aload_n 0, 1) := by decide +kernel
theorem dX9_treaty_43 : decode cX9_treaty 43 = .ok (.getfield 68, 3) := by decide +kernel
theorem dX9_treaty_46 : decode cX9_treaty 46 = .ok (.iload_n 2, 1) := by decide +kernel
theorem dX9_treaty_47 : decode cX9_treaty 47 = .ok (.iaload, 1) := by decide +kernel
theorem dX9_treaty_48 : decode cX9_treaty 48 = .ok (.goto 37, 3) := by decide +kernel
theorem dX9_treaty_51 : decode cX9_treaty 51 = .ok (.iload_n 3, 1) := by decide +kernel
theorem dX9_treaty_52 : decode cX9_treaty 52 = .ok (.iconst 1, 1) := by decide +kernel
theorem dX9_treaty_53 : decode cX9_treaty 53 = .ok (.if_icmp .ne 12, 3) := by decide +kernel
theorem dX9_treaty_56 : decode cX9_treaty 56 = .ok (.aload_n 0, 1) := by decide +kernel
theorem dX9_treaty_57 : decode cX9_treaty 57 = .ok (.getfield 71, 3) := by decide +kernel
theorem dX9_treaty_60 : decode cX9_treaty 60 = .ok (.iload_n 2, 1) := by decide +kernel
theorem dX9_treaty_61 : decode cX9_treaty 61 = .ok (.iaload, 1) := by decide +kernel
theorem dX9_treaty_62 : decode cX9_treaty 62 = .ok (.goto 23, 3) := by decide +kernel
theorem dX9_treaty_65 : decode cX9_treaty 65 = .ok (.iload_n 3, 1) := by decide +kernel
theorem dX9_treaty_66 : decode cX9_treaty 66 = .ok (.iconst 2, 1) := by decide +kernel
theorem dX9_treaty_67 : decode cX9_treaty 67 = .ok (.if_icmp .ne 12, 3) := by decide +kernel
theorem dX9_treaty_70 : decode cX9_treaty 70 = .ok (.aload_n 0, 1) := by decide +kernel
theorem dX9_treaty_71 : decode cX9_treaty 71 = .ok (.getfield 74, 3) := by decide +kernel
theorem dX9_treaty_74 : decode cX9_treaty 74 = .ok (.iload_n 2, 1) := by decide +kernel
theorem dX9_treaty_75 : decode cX9_treaty 75 = .ok (.iaload, 1) := by decide +kernel
theorem dX9_treaty_76 : decode cX9_treaty 76 = .ok (.goto 9, 3) := by decide +kernel
theorem dX9_treaty_79 : decode cX9_treaty 79 = .ok (.aload_n 0, 1) := by decide +kernel
theorem dX9_treaty_80 : decode cX9_treaty 80 = .ok (.getfield 77, 3) := by decide +kernel
theorem dX9_treaty_83 : decode cX9_treaty 83 = .ok (.iload_n 2, 1) := by decide +kernel
theorem dX9_treaty_84 : decode cX9_treaty 84 = .ok (.iaload, 1) := by decide +kernel
theorem dX9_treaty_85 : decode cX9_treaty 85 = .ok (.ireturn, 1) := by decide +kernel
theorem dX9_bestYears_0 : decode cX9_bestYears 0 = .ok (.iconst 0, 1) := by decide +kernel
theorem dX9_bestYears_1 : decode cX9_bestYears 1 = .ok (.istore_n 1, 1) := by decide +kernel
theorem dX9_bestYears_2 : decode cX9_bestYears 2 = .ok (.iconst 0, 1) := by decide +kernel
theorem dX9_bestYears_3 : decode cX9_bestYears 3 = .ok (.istore_n 2, 1) := by decide +kernel
theorem dX9_bestYears_4 : decode cX9_bestYears 4 = .ok (.iload_n 2, 1) := by decide +kernel
theorem dX9_bestYears_5 : decode cX9_bestYears 5 = .ok (.aload_n 0, 1) := by decide +kernel
theorem dX9_bestYears_6 : decode cX9_bestYears 6 = .ok (.getfield 9, 3) := by decide +kernel
theorem dX9_bestYears_9 : decode cX9_bestYears 9 = .ok (.iconst 1, 1) := by decide +kernel
theorem dX9_bestYears_10 : decode cX9_bestYears 10 = .ok (.iaload, 1) := by decide +kernel
theorem dX9_bestYears_11 : decode cX9_bestYears 11 = .ok (.if_icmp .ge 25, 3) := by decide +kernel
theorem dX9_bestYears_14 : decode cX9_bestYears 14 = .ok (.iload_n 1, 1) := by decide +kernel
theorem dX9_bestYears_15 : decode cX9_bestYears 15 = .ok (.aload_n 0, 1) := by decide +kernel
theorem dX9_bestYears_16 : decode cX9_bestYears 16 = .ok (.aload_n 0, 1) := by decide +kernel
theorem dX9_bestYears_17 : decode cX9_bestYears 17 = .ok (.getfield 9, 3) := by decide +kernel
theorem dX9_bestYears_20 : decode cX9_bestYears 20 = .ok (.bipush 118, 2) := by decide +kernel
theorem dX9_bestYears_22 : decode cX9_bestYears 22 = .ok (.iload_n 2, 1) := by decide +kernel
theorem dX9_bestYears_23 : decode cX9_bestYears 23 = .ok (.iadd, 1) := by decide +kernel
theorem dX9_bestYears_24 : decode cX9_bestYears 24 = .ok (.iaload, 1) := by decide +kernel
theorem dX9_bestYears_25 : decode cX9_bestYears 25 = .ok (.invokevirtual 136, 3) := by decide +kernel
theorem dX9_bestYears_28 : decode cX9_bestYears 28 = .ok (.iadd, 1) := by decide +kernel
theorem dX9_bestYears_29 : decode cX9_bestYears 29 = .ok (.istore_n 1, 1) := by decide +kernel
theorem dX9_bestYears_30 : decode cX9_bestYears 30 = .ok (.iinc 2 1, 3) := by decide +kernel
theorem dX9_bestYears_33 : decode cX9_bestYears 33 = .ok (.goto (-29), 3) := by decide +kernel
theorem dX9_bestYears_36 : decode cX9_bestYears 36 = .ok (.iload_n 1, 1) := by decide +kernel
theorem dX9_bestYears_37 : decode cX9_bestYears 37 = .ok (.ireturn, 1) := by decide +kernel
theorem dX9_goYears_0 : decode cX9_goYears 0 = .ok (.iconst 0, 1) := by decide +kernel
theorem dX9_goYears_1 : decode cX9_goYears 1 = .ok (.istore_n 2, 1) := by decide +kernel
theorem dX9_goYears_2 : decode cX9_goYears 2 = .ok (.iconst 0, 1) := by decide +kernel
theorem dX9_goYears_3 : decode cX9_goYears 3 = .ok (.istore_n 3, 1) := by decide +kernel
theorem dX9_goYears_4 : decode cX9_goYears 4 = .ok (.iload_n 3, 1) := by decide +kernel
theorem dX9_goYears_5 : decode cX9_goYears 5 = .ok (.aload_n 0, 1) := by decide +kernel
theorem dX9_goYears_6 : decode cX9_goYears 6 = .ok (.getfield 9, 3) := by decide +kernel
theorem dX9_goYears_9 : decode cX9_goYears 9 = .ok (.iconst 1, 1) := by decide +kernel
theorem dX9_goYears_10 : decode cX9_goYears 10 = .ok (.iaload, 1) := by decide +kernel
theorem dX9_goYears_11 : decode cX9_goYears 11 = .ok (.if_icmp .ge 26, 3) := by decide +kernel
theorem dX9_goYears_14 : decode cX9_goYears 14 = .ok (.iload_n 2, 1) := by decide +kernel
theorem dX9_goYears_15 : decode cX9_goYears 15 = .ok (.aload_n 0, 1) := by decide +kernel
theorem dX9_goYears_16 : decode cX9_goYears 16 = .ok (.aload_n 0, 1) := by decide +kernel
theorem dX9_goYears_17 : decode cX9_goYears 17 = .ok (.getfield 9, 3) := by decide +kernel
theorem dX9_goYears_20 : decode cX9_goYears 20 = .ok (.bipush 118, 2) := by decide +kernel
theorem dX9_goYears_22 : decode cX9_goYears 22 = .ok (.iload_n 3, 1) := by decide +kernel
theorem dX9_goYears_23 : decode cX9_goYears 23 = .ok (.iadd, 1) := by decide +kernel
theorem dX9_goYears_24 : decode cX9_goYears 24 = .ok (.iaload, 1) := by decide +kernel
theorem dX9_goYears_25 : decode cX9_goYears 25 = .ok (.iload_n 1, 1) := by decide +kernel
theorem dX9_goYears_26 : decode cX9_goYears 26 = .ok (.invokevirtual 272, 3) := by decide +kernel
theorem dX9_goYears_29 : decode cX9_goYears 29 = .ok (.iadd, 1) := by decide +kernel
theorem dX9_goYears_30 : decode cX9_goYears 30 = .ok (.istore_n 2, 1) := by decide +kernel
theorem dX9_goYears_31 : decode cX9_goYears 31 = .ok (.iinc 3 1, 3) := by decide +kernel
theorem dX9_goYears_34 : decode cX9_goYears 34 = .ok (.goto (-30), 3) := by decide +kernel
theorem dX9_goYears_37 : decode cX9_goYears 37 = .ok (.iload_n 2, 1) := by decide +kernel
theorem dX9_goYears_38 : decode cX9_goYears 38 = .ok (.ireturn, 1) := by decide +kernel
theorem dX9_lost_0 : decode cX9_lost 0 = .ok (.aload_n 0, 1) := by decide +kernel
theorem dX9_lost_1 : decode cX9_lost 1 = .ok (.invokevirtual 275, 3) := by decide +kernel
theorem dX9_lost_4 : decode cX9_lost 4 = .ok (.aload_n 0, 1) := by decide +kernel
theorem dX9_lost_5 : decode cX9_lost 5 = .ok (.iconst (-1), 1) := by decide +kernel
theorem dX9_lost_6 : decode cX9_lost 6 = .ok (.invokevirtual 278, 3) := by decide +kernel
theorem dX9_lost_9 : decode cX9_lost 9 = .ok (.isub, 1) := by decide +kernel
theorem dX9_lost_10 : decode cX9_lost 10 = .ok (.ireturn, 1) := by decide +kernel
theorem dX9_plain_0 : decode cX9_plain 0 = .ok (.iload_n 1, 1) := by decide +kernel
theorem dX9_plain_1 : decode cX9_plain 1 = .ok (.iconst 0, 1) := by decide +kernel
theorem dX9_plain_2 : decode cX9_plain 2 = .ok (.iconst 1, 1) := by decide +kernel
theorem dX9_plain_3 : decode cX9_plain 3 = .ok (.invokestatic 104, 3) := by decide +kernel
theorem dX9_plain_6 : decode cX9_plain 6 = .ok (.ifCond .ne 5, 3) := by decide +kernel
theorem dX9_plain_9 : decode cX9_plain 9 = .ok (.iconst (-1), 1) := by decide +kernel
theorem dX9_plain_10 : decode cX9_plain 10 = .ok (.ireturn, 1) := by decide +kernel
theorem dX9_plain_11 : decode cX9_plain 11 = .ok (.aload_n 0, 1) := by decide +kernel
theorem dX9_plain_12 : decode cX9_plain 12 = .ok (.invokevirtual 275, 3) := by decide +kernel
theorem dX9_plain_15 : decode cX9_plain 15 = .ok (.istore_n 2, 1) := by decide +kernel
theorem dX9_plain_16 : decode cX9_plain 16 = .ok (.iconst 0, 1) := by decide +kernel
theorem dX9_plain_17 : decode cX9_plain 17 = .ok (.istore_n 3, 1) := by decide +kernel
theorem dX9_plain_18 : decode cX9_plain 18 = .ok (.iload_n 2, 1) := by decide +kernel
theorem dX9_plain_19 : decode cX9_plain 19 = .ok (.aload_n 0, 1) := by decide +kernel
theorem dX9_plain_20 : decode cX9_plain 20 = .ok (.iconst 0, 1) := by decide +kernel
theorem dX9_plain_21 : decode cX9_plain 21 = .ok (.invokevirtual 278, 3) := by decide +kernel
theorem dX9_plain_24 : decode cX9_plain 24 = .ok (.isub, 1) := by decide +kernel
theorem dX9_plain_25 : decode cX9_plain 25 = .ok (.istore 4, 2) := by decide +kernel
theorem dX9_plain_27 : decode cX9_plain 27 = .ok (.iconst 1, 1) := by decide +kernel
theorem dX9_plain_28 : decode cX9_plain 28 = .ok (.istore 5, 2) := by decide +kernel
theorem dX9_plain_30 : decode cX9_plain 30 = .ok (.iload 5, 2) := by decide +kernel
theorem dX9_plain_32 : decode cX9_plain 32 = .ok (.bipush 24, 2) := by decide +kernel
theorem dX9_plain_34 : decode cX9_plain 34 = .ok (.if_icmp .gt 49, 3) := by decide +kernel
theorem dX9_plain_37 : decode cX9_plain 37 = .ok (.iload_n 2, 1) := by decide +kernel
theorem dX9_plain_38 : decode cX9_plain 38 = .ok (.aload_n 0, 1) := by decide +kernel
theorem dX9_plain_39 : decode cX9_plain 39 = .ok (.iload 5, 2) := by decide +kernel
theorem dX9_plain_41 : decode cX9_plain 41 = .ok (.invokevirtual 278, 3) := by decide +kernel
theorem dX9_plain_44 : decode cX9_plain 44 = .ok (.isub, 1) := by decide +kernel
theorem dX9_plain_45 : decode cX9_plain 45 = .ok (.istore 6, 2) := by decide +kernel
theorem dX9_plain_47 : decode cX9_plain 47 = .ok (.iload 6, 2) := by decide +kernel
theorem dX9_plain_49 : decode cX9_plain 49 = .ok (.iload 4, 2) := by decide +kernel
theorem dX9_plain_51 : decode cX9_plain 51 = .ok (.if_icmp .ge 8, 3) := by decide +kernel
theorem dX9_plain_54 : decode cX9_plain 54 = .ok (.iload 5, 2) := by decide +kernel
theorem dX9_plain_56 : decode cX9_plain 56 = .ok (.goto 4, 3) := by decide +kernel
theorem dX9_plain_59 : decode cX9_plain 59 = .ok (.iload_n 3, 1) := by decide +kernel
theorem dX9_plain_60 : decode cX9_plain 60 = .ok (.istore_n 3, 1) := by decide +kernel
theorem dX9_plain_61 : decode cX9_plain 61 = .ok (.iload 6, 2) := by decide +kernel
theorem dX9_plain_63 : decode cX9_plain 63 = .ok (.iload 4, 2) := by decide +kernel
theorem dX9_plain_65 : decode cX9_plain 65 = .ok (.if_icmp .ge 8, 3) := by decide +kernel
theorem dX9_plain_68 : decode cX9_plain 68 = .ok (.iload 6, 2) := by decide +kernel
theorem dX9_plain_70 : decode cX9_plain 70 = .ok (.goto 5, 3) := by decide +kernel
theorem dX9_plain_73 : decode cX9_plain 73 = .ok (.iload 4, 2) := by decide +kernel
theorem dX9_plain_75 : decode cX9_plain 75 = .ok (.istore 4, 2) := by decide +kernel
theorem dX9_plain_77 : decode cX9_plain 77 = .ok (.iinc 5 1, 3) := by decide +kernel
theorem dX9_plain_80 : decode cX9_plain 80 = .ok (.goto (-50), 3) := by decide +kernel
theorem dX9_plain_83 : decode cX9_plain 83 = .ok (.iload_n 1, 1) := by decide +kernel
theorem dX9_plain_84 : decode cX9_plain 84 = .ok (.ifCond .ne 8, 3) := by decide +kernel
theorem dX9_plain_87 : decode cX9_plain 87 = .ok (.iload 4, 2) := by decide +kernel
theorem dX9_plain_89 : decode cX9_plain 89 = .ok (.goto 4, 3) := by decide +kernel
theorem dX9_plain_92 : decode cX9_plain 92 = .ok (.iload_n 3, 1) := by decide +kernel
theorem dX9_plain_93 : decode cX9_plain 93 = .ok (.ireturn, 1) := by decide +kernel
theorem dX9_breaks_0 : decode cX9_breaks 0 = .ok (.iload_n 1, 1) := by decide +kernel
theorem dX9_breaks_1 : decode cX9_breaks 1 = .ok (.iconst 0, 1) := by decide +kernel
theorem dX9_breaks_2 : decode cX9_breaks 2 = .ok (.bipush 20, 2) := by decide +kernel
theorem dX9_breaks_4 : decode cX9_breaks 4 = .ok (.invokestatic 104, 3) := by decide +kernel
theorem dX9_breaks_7 : decode cX9_breaks 7 = .ok (.ifCond .ne 5, 3) := by decide +kernel
theorem dX9_breaks_10 : decode cX9_breaks 10 = .ok (.iconst (-1), 1) := by decide +kernel
theorem dX9_breaks_11 : decode cX9_breaks 11 = .ok (.ireturn, 1) := by decide +kernel
theorem dX9_breaks_12 : decode cX9_breaks 12 = .ok (.aload_n 0, 1) := by decide +kernel
theorem dX9_breaks_13 : decode cX9_breaks 13 = .ok (.iload_n 1, 1) := by decide +kernel
theorem dX9_breaks_14 : decode cX9_breaks 14 = .ok (.iconst (-1), 1) := by decide +kernel
theorem dX9_breaks_15 : decode cX9_breaks 15 = .ok (.invokevirtual 272, 3) := by decide +kernel
theorem dX9_breaks_18 : decode cX9_breaks 18 = .ok (.istore_n 2, 1) := by decide +kernel
theorem dX9_breaks_19 : decode cX9_breaks 19 = .ok (.iconst 0, 1) := by decide +kernel
theorem dX9_breaks_20 : decode cX9_breaks 20 = .ok (.istore_n 3, 1) := by decide +kernel
theorem dX9_breaks_21 : decode cX9_breaks 21 = .ok (.iload_n 3, 1) := by decide +kernel
theorem dX9_breaks_22 : decode cX9_breaks 22 = .ok (.aload_n 0, 1) := by decide +kernel
theorem dX9_breaks_23 : decode cX9_breaks 23 = .ok (.getfield 9, 3) := by decide +kernel
theorem dX9_breaks_26 : decode cX9_breaks 26 = .ok (.iconst 0, 1) := by decide +kernel
theorem dX9_breaks_27 : decode cX9_breaks 27 = .ok (.iaload, 1) := by decide +kernel
theorem dX9_breaks_28 : decode cX9_breaks 28 = .ok (.if_icmp .ge 55, 3) := by decide +kernel
theorem dX9_breaks_31 : decode cX9_breaks 31 = .ok (.aload_n 0, 1) := by decide +kernel
theorem dX9_breaks_32 : decode cX9_breaks 32 = .ok (.iload_n 3, 1) := by decide +kernel
theorem dX9_breaks_33 : decode cX9_breaks 33 = .ok (.aload_n 0, 1) := by decide +kernel
theorem dX9_breaks_34 : decode cX9_breaks 34 = .ok (.getfield 68, 3) := by decide +kernel
theorem dX9_breaks_37 : decode cX9_breaks 37 = .ok (.iload_n 3, 1) := by decide +kernel
theorem dX9_breaks_38 : decode cX9_breaks 38 = .ok (.iaload, 1) := by decide +kernel
theorem dX9_breaks_39 : decode cX9_breaks 39 = .ok (.invokevirtual 151, 3) := by decide +kernel
theorem dX9_breaks_42 : decode cX9_breaks 42 = .ok (.istore 4, 2) := by decide +kernel
theorem dX9_breaks_44 : decode cX9_breaks 44 = .ok (.aload_n 0, 1) := by decide +kernel
theorem dX9_breaks_45 : decode cX9_breaks 45 = .ok (.iload_n 3, 1) := by decide +kernel
theorem dX9_breaks_46 : decode cX9_breaks 46 = .ok (.iload 4, 2) := by decide +kernel
theorem dX9_breaks_48 : decode cX9_breaks 48 = .ok (.invokevirtual 123, 3) := by decide +kernel
theorem dX9_breaks_51 : decode cX9_breaks 51 = .ok (.aload_n 0, 1) := by decide +kernel
theorem dX9_breaks_52 : decode cX9_breaks 52 = .ok (.iload_n 3, 1) := by decide +kernel
theorem dX9_breaks_53 : decode cX9_breaks 53 = .ok (.aload_n 0, 1) := by decide +kernel
theorem dX9_breaks_54 : decode cX9_breaks 54 = .ok (.getfield 68, 3) := by decide +kernel
theorem dX9_breaks_57 : decode cX9_breaks 57 = .ok (.iload_n 3, 1) := by decide +kernel
theorem dX9_breaks_58 : decode cX9_breaks 58 = .ok (.iaload, 1) := by decide +kernel
theorem dX9_breaks_59 : decode cX9_breaks 59 = .ok (.iload 4, 2) := by decide +kernel
theorem dX9_breaks_61 : decode cX9_breaks 61 = .ok (.isub, 1) := by decide +kernel
theorem dX9_breaks_62 : decode cX9_breaks 62 = .ok (.invokevirtual 126, 3) := by decide +kernel
theorem dX9_breaks_65 : decode cX9_breaks 65 = .ok (.isub, 1) := by decide +kernel
theorem dX9_breaks_66 : decode cX9_breaks 66 = .ok (.aload_n 0, 1) := by decide +kernel
theorem dX9_breaks_67 : decode cX9_breaks 67 = .ok (.getfield 77, 3) := by decide +kernel
theorem dX9_breaks_70 : decode cX9_breaks 70 = .ok (.iload_n 3, 1) := by decide +kernel
theorem dX9_breaks_71 : decode cX9_breaks 71 = .ok (.iaload, 1) := by decide +kernel
theorem dX9_breaks_72 : decode cX9_breaks 72 = .ok (.if_icmp .le 5, 3) := by decide +kernel
theorem dX9_breaks_75 : decode cX9_breaks 75 = .ok (.iload_n 3, 1) := by decide +kernel
theorem dX9_breaks_76 : decode cX9_breaks 76 = .ok (.ireturn, 1) := by decide +kernel
theorem dX9_breaks_77 : decode cX9_breaks 77 = .ok (.iinc 3 1, 3) := by decide +kernel
theorem dX9_breaks_80 : decode cX9_breaks 80 = .ok (.goto (-59), 3) := by decide +kernel
theorem dX9_breaks_83 : decode cX9_breaks 83 = .ok (.bipush (-9), 2) := by decide +kernel
theorem dX9_breaks_85 : decode cX9_breaks 85 = .ok (.ireturn, 1) := by decide +kernel
theorem dX9_prove_0 : decode cX9_prove 0 = .ok (.aload_n 0, 1) := by decide +kernel
theorem dX9_prove_1 : decode cX9_prove 1 = .ok (.invokevirtual 141, 3) := by decide +kernel
theorem dX9_prove_4 : decode cX9_prove 4 = .ok (.istore_n 1, 1) := by decide +kernel
theorem dX9_prove_5 : decode cX9_prove 5 = .ok (.aload_n 0, 1) := by decide +kernel
theorem dX9_prove_6 : decode cX9_prove 6 = .ok (.aload_n 0, 1) := by decide +kernel
theorem dX9_prove_7 : decode cX9_prove 7 = .ok (.getfield 9, 3) := by decide +kernel
theorem dX9_prove_10 : decode cX9_prove 10 = .ok (.iconst 0, 1) := by decide +kernel
theorem dX9_prove_11 : decode cX9_prove 11 = .ok (.iaload, 1) := by decide +kernel
theorem dX9_prove_12 : decode cX9_prove 12 = .ok (.putfield 281, 3) := by decide +kernel
theorem dX9_prove_15 : decode cX9_prove 15 = .ok (.iconst 0, 1) := by decide +kernel
theorem dX9_prove_16 : decode cX9_prove 16 = .ok (.istore_n 2, 1) := by decide +kernel
theorem dX9_prove_17 : decode cX9_prove 17 = .ok (.iload_n 2, 1) := by decide +kernel
theorem dX9_prove_18 : decode cX9_prove 18 = .ok (.aload_n 0, 1) := by decide +kernel
theorem dX9_prove_19 : decode cX9_prove 19 = .ok (.getfield 281, 3) := by decide +kernel
theorem dX9_prove_22 : decode cX9_prove 22 = .ok (.if_icmp .ge 50, 3) := by decide +kernel
theorem dX9_prove_25 : decode cX9_prove 25 = .ok (.aload_n 0, 1) := by decide +kernel
theorem dX9_prove_26 : decode cX9_prove 26 = .ok (.getfield 80, 3) := by decide +kernel
theorem dX9_prove_29 : decode cX9_prove 29 = .ok (.iconst 3, 1) := by decide +kernel
theorem dX9_prove_30 : decode cX9_prove 30 = .ok (.iload_n 2, 1) := by decide +kernel
theorem dX9_prove_31 : decode cX9_prove 31 = .ok (.imul, 1) := by decide +kernel
theorem dX9_prove_32 : decode cX9_prove 32 = .ok (.iload_n 2, 1) := by decide +kernel
theorem dX9_prove_33 : decode cX9_prove 33 = .ok (.iastore, 1) := by decide +kernel
theorem dX9_prove_34 : decode cX9_prove 34 = .ok (.aload_n 0, 1) := by decide +kernel
theorem dX9_prove_35 : decode cX9_prove 35 = .ok (.getfield 80, 3) := by decide +kernel
theorem dX9_prove_38 : decode cX9_prove 38 = .ok (.iconst 3, 1) := by decide +kernel
theorem dX9_prove_39 : decode cX9_prove 39 = .ok (.iload_n 2, 1) := by decide +kernel
theorem dX9_prove_40 : decode cX9_prove 40 = .ok (.imul, 1) := by decide +kernel
theorem dX9_prove_41 : decode cX9_prove 41 = .ok (.iconst 1, 1) := by decide +kernel
theorem dX9_prove_42 : decode cX9_prove 42 = .ok (.iadd, 1) := by decide +kernel
theorem dX9_prove_43 : decode cX9_prove 43 = .ok (.aload_n 0, 1) := by decide +kernel
theorem dX9_prove_44 : decode cX9_prove 44 = .ok (.getfield 25, 3) := by decide +kernel
theorem dX9_prove_47 : decode cX9_prove 47 = .ok (.iload_n 2, 1) := by decide +kernel
theorem dX9_prove_48 : decode cX9_prove 48 = .ok (.iaload, 1) := by decide +kernel
theorem dX9_prove_49 : decode cX9_prove 49 = .ok (.iastore, 1) := by decide +kernel
theorem dX9_prove_50 : decode cX9_prove 50 = .ok (.aload_n 0, 1) := by decide +kernel
theorem dX9_prove_51 : decode cX9_prove 51 = .ok (.getfield 80, 3) := by decide +kernel
theorem dX9_prove_54 : decode cX9_prove 54 = .ok (.iconst 3, 1) := by decide +kernel
theorem dX9_prove_55 : decode cX9_prove 55 = .ok (.iload_n 2, 1) := by decide +kernel
theorem dX9_prove_56 : decode cX9_prove 56 = .ok (.imul, 1) := by decide +kernel
theorem dX9_prove_57 : decode cX9_prove 57 = .ok (.iconst 2, 1) := by decide +kernel
theorem dX9_prove_58 : decode cX9_prove 58 = .ok (.iadd, 1) := by decide +kernel
theorem dX9_prove_59 : decode cX9_prove 59 = .ok (.aload_n 0, 1) := by decide +kernel
theorem dX9_prove_60 : decode cX9_prove 60 = .ok (.getfield 28, 3) := by decide +kernel
theorem dX9_prove_63 : decode cX9_prove 63 = .ok (.iload_n 2, 1) := by decide +kernel
theorem dX9_prove_64 : decode cX9_prove 64 = .ok (.iaload, 1) := by decide +kernel
theorem dX9_prove_65 : decode cX9_prove 65 = .ok (.iastore, 1) := by decide +kernel
theorem dX9_prove_66 : decode cX9_prove 66 = .ok (.iinc 2 1, 3) := by decide +kernel
theorem dX9_prove_69 : decode cX9_prove 69 = .ok (.goto (-52), 3) := by decide +kernel
theorem dX9_prove_72 : decode cX9_prove 72 = .ok (.aload_n 0, 1) := by decide +kernel
theorem dX9_prove_73 : decode cX9_prove 73 = .ok (.getfield 281, 3) := by decide +kernel
theorem dX9_prove_76 : decode cX9_prove 76 = .ok (.ireturn, 1) := by decide +kernel
theorem dX9_isRow_0 : decode cX9_isRow 0 = .ok (.iload_n 1, 1) := by decide +kernel
theorem dX9_isRow_1 : decode cX9_isRow 1 = .ok (.iconst 0, 1) := by decide +kernel
theorem dX9_isRow_2 : decode cX9_isRow 2 = .ok (.aload_n 0, 1) := by decide +kernel
theorem dX9_isRow_3 : decode cX9_isRow 3 = .ok (.getfield 281, 3) := by decide +kernel
theorem dX9_isRow_6 : decode cX9_isRow 6 = .ok (.iconst 1, 1) := by decide +kernel
theorem dX9_isRow_7 : decode cX9_isRow 7 = .ok (.isub, 1) := by decide +kernel
theorem dX9_isRow_8 : decode cX9_isRow 8 = .ok (.invokestatic 104, 3) := by decide +kernel
theorem dX9_isRow_11 : decode cX9_isRow 11 = .ok (.ifCond .eq 16, 3) := by decide +kernel
theorem dX9_isRow_14 : decode cX9_isRow 14 = .ok (.iload_n 2, 1) := by decide +kernel
theorem dX9_isRow_15 : decode cX9_isRow 15 = .ok (.iconst 0, 1) := by decide +kernel
theorem dX9_isRow_16 : decode cX9_isRow 16 = .ok (.iconst 2, 1) := by decide +kernel
theorem dX9_isRow_17 : decode cX9_isRow 17 = .ok (.invokestatic 104, 3) := by decide +kernel
theorem dX9_isRow_20 : decode cX9_isRow 20 = .ok (.ifCond .eq 7, 3) := by decide +kernel
theorem dX9_isRow_23 : decode cX9_isRow 23 = .ok (.iconst 1, 1) := by decide +kernel
theorem dX9_isRow_24 : decode cX9_isRow 24 = .ok (.goto 4, 3) := by decide +kernel
theorem dX9_isRow_27 : decode cX9_isRow 27 = .ok (.iconst 0, 1) := by decide +kernel
theorem dX9_isRow_28 : decode cX9_isRow 28 = .ok (.ireturn, 1) := by decide +kernel
theorem dX9_row_0 : decode cX9_row 0 = .ok (.aload_n 0, 1) := by decide +kernel
theorem dX9_row_1 : decode cX9_row 1 = .ok (.iload_n 1, 1) := by decide +kernel
theorem dX9_row_2 : decode cX9_row 2 = .ok (.iload_n 2, 1) := by decide +kernel
theorem dX9_row_3 : decode cX9_row 3 = .ok (.invokevirtual 284, 3) := by decide +kernel
theorem dX9_row_6 : decode cX9_row 6 = .ok (.ifCond .eq 16, 3) := by decide +kernel
theorem dX9_row_9 : decode cX9_row 9 = .ok (.aload_n 0, 1) := by decide +kernel
theorem dX9_row_10 : decode cX9_row 10 = .ok (.getfield 80, 3) := by decide +kernel
theorem dX9_row_13 : decode cX9_row 13 = .ok (.iconst 3, 1) := by decide +kernel
theorem dX9_row_14 : decode cX9_row 14 = .ok (.iload_n 1, 1) := by decide +kernel
theorem dX9_row_15 : decode cX9_row 15 = .ok (.imul, 1) := by decide +kernel
theorem dX9_row_16 : decode cX9_row 16 = .ok (.iload_n 2, 1) := by decide +kernel
theorem dX9_row_17 : decode cX9_row 17 = .ok (.iadd, 1) := by decide +kernel
theorem dX9_row_18 : decode cX9_row 18 = .ok (.iaload, 1) := by decide +kernel
theorem dX9_row_19 : decode cX9_row 19 = .ok (.goto 5, 3) := by decide +kernel
theorem dX9_row_22 : decode cX9_row 22 = .ok (.bipush (-9), 2) := by decide +kernel
theorem dX9_row_24 : decode cX9_row 24 = .ok (.ireturn, 1) := by decide +kernel
theorem dX9_alterRow_0 : decode cX9_alterRow 0 = .ok (.aload_n 0, 1) := by decide +kernel
theorem dX9_alterRow_1 : decode cX9_alterRow 1 = .ok (.iload_n 1, 1) := by decide +kernel
theorem dX9_alterRow_2 : decode cX9_alterRow 2 = .ok (.iload_n 2, 1) := by decide +kernel
theorem dX9_alterRow_3 : decode cX9_alterRow 3 = .ok (.invokevirtual 284, 3) := by decide +kernel
theorem dX9_alterRow_6 : decode cX9_alterRow 6 = .ok (.ifCond .ne 6, 3) := by decide +kernel
theorem dX9_alterRow_9 : decode cX9_alterRow 9 = .ok (.bipush (-9), 2) := by decide +kernel
theorem dX9_alterRow_11 : decode cX9_alterRow 11 = .ok (.ireturn, 1) := by decide +kernel
theorem dX9_alterRow_12 : decode cX9_alterRow 12 = .ok (.aload_n 0, 1) := by decide +kernel
theorem dX9_alterRow_13 : decode cX9_alterRow 13 = .ok (.getfield 80, 3) := by decide +kernel
theorem dX9_alterRow_16 : decode cX9_alterRow 16 = .ok (.iconst 3, 1) := by decide +kernel
theorem dX9_alterRow_17 : decode cX9_alterRow 17 = .ok (.iload_n 1, 1) := by decide +kernel
theorem dX9_alterRow_18 : decode cX9_alterRow 18 = .ok (.imul, 1) := by decide +kernel
theorem dX9_alterRow_19 : decode cX9_alterRow 19 = .ok (.iload_n 2, 1) := by decide +kernel
theorem dX9_alterRow_20 : decode cX9_alterRow 20 = .ok (.iadd, 1) := by decide +kernel
theorem dX9_alterRow_21 : decode cX9_alterRow 21 = .ok (.iaload, 1) := by decide +kernel
theorem dX9_alterRow_22 : decode cX9_alterRow 22 = .ok (.istore 4, 2) := by decide +kernel
theorem dX9_alterRow_24 : decode cX9_alterRow 24 = .ok (.aload_n 0, 1) := by decide +kernel
theorem dX9_alterRow_25 : decode cX9_alterRow 25 = .ok (.getfield 80, 3) := by decide +kernel
theorem dX9_alterRow_28 : decode cX9_alterRow 28 = .ok (.iconst 3, 1) := by decide +kernel
theorem dX9_alterRow_29 : decode cX9_alterRow 29 = .ok (.iload_n 1, 1) := by decide +kernel
theorem dX9_alterRow_30 : decode cX9_alterRow 30 = .ok (.imul, 1) := by decide +kernel
theorem dX9_alterRow_31 : decode cX9_alterRow 31 = .ok (.iload_n 2, 1) := by decide +kernel
theorem dX9_alterRow_32 : decode cX9_alterRow 32 = .ok (.iadd, 1) := by decide +kernel
theorem dX9_alterRow_33 : decode cX9_alterRow 33 = .ok (.iload_n 3, 1) := by decide +kernel
theorem dX9_alterRow_34 : decode cX9_alterRow 34 = .ok (.iastore, 1) := by decide +kernel
theorem dX9_alterRow_35 : decode cX9_alterRow 35 = .ok (.iload 4, 2) := by decide +kernel
theorem dX9_alterRow_37 : decode cX9_alterRow 37 = .ok (.ireturn, 1) := by decide +kernel
theorem dX9_judge_0 : decode cX9_judge 0 = .ok (.iconst 0, 1) := by decide +kernel
theorem dX9_judge_1 : decode cX9_judge 1 = .ok (.istore_n 1, 1) := by decide +kernel
theorem dX9_judge_2 : decode cX9_judge 2 = .ok (.iconst 0, 1) := by decide +kernel
theorem dX9_judge_3 : decode cX9_judge 3 = .ok (.istore_n 2, 1) := by decide +kernel
theorem dX9_judge_4 : decode cX9_judge 4 = .ok (.iconst 0, 1) := by decide +kernel
theorem dX9_judge_5 : decode cX9_judge 5 = .ok (.istore_n 3, 1) := by decide +kernel
theorem dX9_judge_6 : decode cX9_judge 6 = .ok (.iload_n 3, 1) := by decide +kernel
theorem dX9_judge_7 : decode cX9_judge 7 = .ok (.aload_n 0, 1) := by decide +kernel
theorem dX9_judge_8 : decode cX9_judge 8 = .ok (.getfield 281, 3) := by decide +kernel
theorem dX9_judge_11 : decode cX9_judge 11 = .ok (.if_icmp .ge 122, 3) := by decide +kernel
theorem dX9_judge_14 : decode cX9_judge 14 = .ok (.aload_n 0, 1) := by decide +kernel
theorem dX9_judge_15 : decode cX9_judge 15 = .ok (.iload_n 3, 1) := by decide +kernel
theorem dX9_judge_16 : decode cX9_judge 16 = .ok (.invokevirtual 112, 3) := by decide +kernel
theorem dX9_judge_19 : decode cX9_judge 19 = .ok (.ifCond .eq 15, 3) := by decide +kernel
theorem dX9_judge_22 : decode cX9_judge 22 = .ok (.aload_n 0, 1) := by decide +kernel
theorem dX9_judge_23 : decode cX9_judge 23 = .ok (.getfield 80, 3) := by decide +kernel
theorem dX9_judge_26 : decode cX9_judge 26 = .ok (.iconst 3, 1) := by decide +kernel
theorem dX9_judge_27 : decode cX9_judge 27 = .ok (.iload_n 3, 1) := by decide +kernel
theorem dX9_judge_28 : decode cX9_judge 28 = .ok (.imul, 1) := by decide +kernel
theorem dX9_judge_29 : decode cX9_judge 29 = .ok (.iaload, 1) := by decide +kernel
theorem dX9_judge_30 : decode cX9_judge 30 = .ok (.iload_n 3, 1) := by decide +kernel
theorem dX9_judge_31 : decode cX9_judge 31 = .ok (.if_icmp .eq 7, 3) := by decide +kernel
theorem dX9_judge_34 : decode cX9_judge 34 = .ok (.iload_n 3, 1) := by decide +kernel
theorem dX9_judge_35 : decode cX9_judge 35 = .ok (.iconst 1, 1) := by decide +kernel
theorem dX9_judge_36 : decode cX9_judge 36 = .ok (.iadd, 1) := by decide +kernel
theorem dX9_judge_37 : decode cX9_judge 37 = .ok (.ireturn, 1) := by decide +kernel
theorem dX9_judge_38 : decode cX9_judge 38 = .ok (.iload_n 1, 1) := by decide +kernel
theorem dX9_judge_39 : decode cX9_judge 39 = .ok (.aload_n 0, 1) := by decide +kernel
theorem dX9_judge_40 : decode cX9_judge 40 = .ok (.iload_n 3, 1) := by decide +kernel
theorem dX9_judge_41 : decode cX9_judge 41 = .ok (.iconst 0, 1) := by decide +kernel
theorem dX9_judge_42 : decode cX9_judge 42 = .ok (.invokevirtual 116, 3) := by decide +kernel
theorem dX9_judge_45 : decode cX9_judge 45 = .ok (.iadd, 1) := by decide +kernel
theorem dX9_judge_46 : decode cX9_judge 46 = .ok (.istore 4, 2) := by decide +kernel
theorem dX9_judge_48 : decode cX9_judge 48 = .ok (.aload_n 0, 1) := by decide +kernel
theorem dX9_judge_49 : decode cX9_judge 49 = .ok (.getfield 80, 3) := by decide +kernel
theorem dX9_judge_52 : decode cX9_judge 52 = .ok (.iconst 3, 1) := by decide +kernel
theorem dX9_judge_53 : decode cX9_judge 53 = .ok (.iload_n 3, 1) := by decide +kernel
theorem dX9_judge_54 : decode cX9_judge 54 = .ok (.imul, 1) := by decide +kernel
theorem dX9_judge_55 : decode cX9_judge 55 = .ok (.iconst 1, 1) := by decide +kernel
theorem dX9_judge_56 : decode cX9_judge 56 = .ok (.iadd, 1) := by decide +kernel
theorem dX9_judge_57 : decode cX9_judge 57 = .ok (.iaload, 1) := by decide +kernel
theorem dX9_judge_58 : decode cX9_judge 58 = .ok (.istore 5, 2) := by decide +kernel
theorem dX9_judge_60 : decode cX9_judge 60 = .ok (.iload 5, 2) := by decide +kernel
theorem dX9_judge_62 : decode cX9_judge 62 = .ok (.iconst 0, 1) := by decide +kernel
theorem dX9_judge_63 : decode cX9_judge 63 = .ok (.bipush 12, 2) := by decide +kernel
theorem dX9_judge_65 : decode cX9_judge 65 = .ok (.invokestatic 104, 3) := by decide +kernel
theorem dX9_judge_68 : decode cX9_judge 68 = .ok (.ifCond .eq 28, 3) := by decide +kernel
theorem dX9_judge_71 : decode cX9_judge 71 = .ok (.iload 5, 2) := by decide +kernel
theorem dX9_judge_73 : decode cX9_judge 73 = .ok (.iload 4, 2) := by decide +kernel
theorem dX9_judge_75 : decode cX9_judge 75 = .ok (.if_icmp .gt 21, 3) := by decide +kernel
theorem dX9_judge_78 : decode cX9_judge 78 = .ok (.aload_n 0, 1) := by decide +kernel
theorem dX9_judge_79 : decode cX9_judge 79 = .ok (.getfield 80, 3) := by decide +kernel
theorem dX9_judge_82 : decode cX9_judge 82 = .ok (.iconst 3, 1) := by decide +kernel
theorem dX9_judge_83 : decode cX9_judge 83 = .ok (.iload_n 3, 1) := by decide +kernel
theorem dX9_judge_84 : decode cX9_judge 84 = .ok (.imul, 1) := by decide +kernel
theorem dX9_judge_85 : decode cX9_judge 85 = .ok (.iconst 2, 1) := by decide +kernel
theorem dX9_judge_86 : decode cX9_judge 86 = .ok (.iadd, 1) := by decide +kernel
theorem dX9_judge_87 : decode cX9_judge 87 = .ok (.iaload, 1) := by decide +kernel
theorem dX9_judge_88 : decode cX9_judge 88 = .ok (.iload 4, 2) := by decide +kernel
theorem dX9_judge_90 : decode cX9_judge 90 = .ok (.iload 5, 2) := by decide +kernel
theorem dX9_judge_92 : decode cX9_judge 92 = .ok (.isub, 1) := by decide +kernel
theorem dX9_judge_93 : decode cX9_judge 93 = .ok (.if_icmp .eq 7, 3) := by decide +kernel
theorem dX9_judge_96 : decode cX9_judge 96 = .ok (.iload_n 3, 1) := by decide +kernel
theorem dX9_judge_97 : decode cX9_judge 97 = .ok (.iconst 1, 1) := by decide +kernel
theorem dX9_judge_98 : decode cX9_judge 98 = .ok (.iadd, 1) := by decide +kernel
theorem dX9_judge_99 : decode cX9_judge 99 = .ok (.ireturn, 1) := by decide +kernel
theorem dX9_judge_100 : decode cX9_judge 100 = .ok (.iload_n 2, 1) := by decide +kernel
theorem dX9_judge_101 : decode cX9_judge 101 = .ok (.aload_n 0, 1) := by decide +kernel
theorem dX9_judge_102 : decode cX9_judge 102 = .ok (.iload_n 3, 1) := by decide +kernel
theorem dX9_judge_103 : decode cX9_judge 103 = .ok (.iload 5, 2) := by decide +kernel
theorem dX9_judge_105 : decode cX9_judge 105 = .ok (.invokevirtual 123, 3) := by decide +kernel
theorem dX9_judge_108 : decode cX9_judge 108 = .ok (.aload_n 0, 1) := by decide +kernel
theorem dX9_judge_109 : decode cX9_judge 109 = .ok (.iload_n 3, 1) := by decide +kernel
theorem dX9_judge_110 : decode cX9_judge 110 = .ok (.iload 4, 2) := by decide +kernel
theorem dX9_judge_112 : decode cX9_judge 112 = .ok (.iload 5, 2) := by decide +kernel
theorem dX9_judge_114 : decode cX9_judge 114 = .ok (.isub, 1) := by decide +kernel
theorem dX9_judge_115 : decode cX9_judge 115 = .ok (.invokevirtual 126, 3) := by decide +kernel
theorem dX9_judge_118 : decode cX9_judge 118 = .ok (.isub, 1) := by decide +kernel
theorem dX9_judge_119 : decode cX9_judge 119 = .ok (.iadd, 1) := by decide +kernel
theorem dX9_judge_120 : decode cX9_judge 120 = .ok (.istore_n 2, 1) := by decide +kernel
theorem dX9_judge_121 : decode cX9_judge 121 = .ok (.iload 4, 2) := by decide +kernel
theorem dX9_judge_123 : decode cX9_judge 123 = .ok (.iload 5, 2) := by decide +kernel
theorem dX9_judge_125 : decode cX9_judge 125 = .ok (.isub, 1) := by decide +kernel
theorem dX9_judge_126 : decode cX9_judge 126 = .ok (.istore_n 1, 1) := by decide +kernel
theorem dX9_judge_127 : decode cX9_judge 127 = .ok (.iinc 3 1, 3) := by decide +kernel
theorem dX9_judge_130 : decode cX9_judge 130 = .ok (.goto (-124), 3) := by decide +kernel
theorem dX9_judge_133 : decode cX9_judge 133 = .ok (.aload_n 0, 1) := by decide +kernel
theorem dX9_judge_134 : decode cX9_judge 134 = .ok (.getfield 281, 3) := by decide +kernel
theorem dX9_judge_137 : decode cX9_judge 137 = .ok (.aload_n 0, 1) := by decide +kernel
theorem dX9_judge_138 : decode cX9_judge 138 = .ok (.getfield 9, 3) := by decide +kernel
theorem dX9_judge_141 : decode cX9_judge 141 = .ok (.iconst 0, 1) := by decide +kernel
theorem dX9_judge_142 : decode cX9_judge 142 = .ok (.iaload, 1) := by decide +kernel
theorem dX9_judge_143 : decode cX9_judge 143 = .ok (.if_icmp .eq 6, 3) := by decide +kernel
theorem dX9_judge_146 : decode cX9_judge 146 = .ok (.bipush 21, 2) := by decide +kernel
theorem dX9_judge_148 : decode cX9_judge 148 = .ok (.ireturn, 1) := by decide +kernel
theorem dX9_judge_149 : decode cX9_judge 149 = .ok (.iload_n 2, 1) := by decide +kernel
theorem dX9_judge_150 : decode cX9_judge 150 = .ok (.aload_n 0, 1) := by decide +kernel
theorem dX9_judge_151 : decode cX9_judge 151 = .ok (.bipush 10, 2) := by decide +kernel
theorem dX9_judge_153 : decode cX9_judge 153 = .ok (.invokevirtual 136, 3) := by decide +kernel
theorem dX9_judge_156 : decode cX9_judge 156 = .ok (.if_icmp .ge 8, 3) := by decide +kernel
theorem dX9_judge_159 : decode cX9_judge 159 = .ok (.bipush 22, 2) := by decide +kernel
theorem dX9_judge_161 : decode cX9_judge 161 = .ok (.goto 4, 3) := by decide +kernel
theorem dX9_judge_164 : decode cX9_judge 164 = .ok (.iconst 0, 1) := by decide +kernel
theorem dX9_judge_165 : decode cX9_judge 165 = .ok (.ireturn, 1) := by decide +kernel
theorem dX9_isFour_0 : decode cX9_isFour 0 = .ok (.iload_n 0, 1) := by decide +kernel
theorem dX9_isFour_1 : decode cX9_isFour 1 = .ok (.iconst 0, 1) := by decide +kernel
theorem dX9_isFour_2 : decode cX9_isFour 2 = .ok (.iconst 3, 1) := by decide +kernel
theorem dX9_isFour_3 : decode cX9_isFour 3 = .ok (.invokestatic 104, 3) := by decide +kernel
theorem dX9_isFour_6 : decode cX9_isFour 6 = .ok (.ireturn, 1) := by decide +kernel
theorem dX9_sheet_0 : decode cX9_sheet 0 = .ok (.iload_n 1, 1) := by decide +kernel
theorem dX9_sheet_1 : decode cX9_sheet 1 = .ok (.invokestatic 287, 3) := by decide +kernel
theorem dX9_sheet_4 : decode cX9_sheet 4 = .ok (.ifCond .eq 22, 3) := by decide +kernel
theorem dX9_sheet_7 : decode cX9_sheet 7 = .ok (.iload_n 2, 1) := by decide +kernel
theorem dX9_sheet_8 : decode cX9_sheet 8 = .ok (.iconst (-1), 1) := by decide +kernel
theorem dX9_sheet_9 : decode cX9_sheet 9 = .ok (.iconst 3, 1) := by decide +kernel
theorem dX9_sheet_10 : decode cX9_sheet 10 = .ok (.invokestatic 104, 3) := by decide +kernel
theorem dX9_sheet_13 : decode cX9_sheet 13 = .ok (.ifCond .eq 13, 3) := by decide +kernel
theorem dX9_sheet_16 : decode cX9_sheet 16 = .ok (.iload_n 2, 1) := by decide +kernel
theorem dX9_sheet_17 : decode cX9_sheet 17 = .ok (.ifCond .lt 11, 3) := by decide +kernel
theorem dX9_sheet_20 : decode cX9_sheet 20 = .ok (.iload_n 3, 1) := by decide +kernel
theorem dX9_sheet_21 : decode cX9_sheet 21 = .ok (.bipush 40, 2) := by decide +kernel
theorem dX9_sheet_23 : decode cX9_sheet 23 = .ok (.if_icmp .le 5, 3) := by decide +kernel
theorem dX9_sheet_26 : decode cX9_sheet 26 = .ok (.iconst (-1), 1) := by decide +kernel
theorem dX9_sheet_27 : decode cX9_sheet 27 = .ok (.ireturn, 1) := by decide +kernel
theorem dX9_sheet_28 : decode cX9_sheet 28 = .ok (.iload_n 2, 1) := by decide +kernel
theorem dX9_sheet_29 : decode cX9_sheet 29 = .ok (.ifCond .lt 10, 3) := by decide +kernel
theorem dX9_sheet_32 : decode cX9_sheet 32 = .ok (.iload_n 3, 1) := by decide +kernel
theorem dX9_sheet_33 : decode cX9_sheet 33 = .ok (.ifCond .ge 6, 3) := by decide +kernel
theorem dX9_sheet_36 : decode cX9_sheet 36 = .ok (.bipush (-14), 2) := by decide +kernel
theorem dX9_sheet_38 : decode cX9_sheet 38 = .ok (.ireturn, 1) := by decide +kernel
theorem dX9_sheet_39 : decode cX9_sheet 39 = .ok (.aload_n 0, 1) := by decide +kernel
theorem dX9_sheet_40 : decode cX9_sheet 40 = .ok (.getfield 83, 3) := by decide +kernel
theorem dX9_sheet_43 : decode cX9_sheet 43 = .ok (.iload_n 1, 1) := by decide +kernel
theorem dX9_sheet_44 : decode cX9_sheet 44 = .ok (.iload_n 2, 1) := by decide +kernel
theorem dX9_sheet_45 : decode cX9_sheet 45 = .ok (.iastore, 1) := by decide +kernel
theorem dX9_sheet_46 : decode cX9_sheet 46 = .ok (.aload_n 0, 1) := by decide +kernel
theorem dX9_sheet_47 : decode cX9_sheet 47 = .ok (.getfield 86, 3) := by decide +kernel
theorem dX9_sheet_50 : decode cX9_sheet 50 = .ok (.iload_n 1, 1) := by decide +kernel
theorem dX9_sheet_51 : decode cX9_sheet 51 = .ok (.iload_n 2, 1) := by decide +kernel
theorem dX9_sheet_52 : decode cX9_sheet 52 = .ok (.ifCond .ge 7, 3) := by decide +kernel
theorem dX9_sheet_55 : decode cX9_sheet 55 = .ok (.iconst 0, 1) := by decide +kernel
theorem dX9_sheet_56 : decode cX9_sheet 56 = .ok (.goto 4, 3) := by decide +kernel
theorem dX9_sheet_59 : decode cX9_sheet 59 = .ok (.iload_n 3, 1) := by decide +kernel
theorem dX9_sheet_60 : decode cX9_sheet 60 = .ok (.iastore, 1) := by decide +kernel
theorem dX9_sheet_61 : decode cX9_sheet 61 = .ok (.iconst 0, 1) := by decide +kernel
theorem dX9_sheet_62 : decode cX9_sheet 62 = .ok (.istore 4, 2) := by decide +kernel
theorem dX9_sheet_64 : decode cX9_sheet 64 = .ok (.iload 4, 2) := by decide +kernel
theorem dX9_sheet_66 : decode cX9_sheet 66 = .ok (.bipush 40, 2) := by decide +kernel
theorem dX9_sheet_68 : decode cX9_sheet 68 = .ok (.if_icmp .ge 22, 3) := by decide +kernel
theorem dX9_sheet_71 : decode cX9_sheet 71 = .ok (.aload_n 0, 1) := by decide +kernel
theorem dX9_sheet_72 : decode cX9_sheet 72 = .ok (.getfield 89, 3) := by decide +kernel
theorem dX9_sheet_75 : decode cX9_sheet 75 = .ok (.bipush 40, 2) := by decide +kernel
theorem dX9_sheet_77 : decode cX9_sheet 77 = .ok (.iload_n 1, 1) := by decide +kernel
theorem dX9_sheet_78 : decode cX9_sheet 78 = .ok (.imul, 1) := by decide +kernel
theorem dX9_sheet_79 : decode cX9_sheet 79 = .ok (.iload 4, 2) := by decide +kernel
theorem dX9_sheet_81 : decode cX9_sheet 81 = .ok (.iadd, 1) := by decide +kernel
theorem dX9_sheet_82 : decode cX9_sheet 82 = .ok (.iconst 0, 1) := by decide +kernel
theorem dX9_sheet_83 : decode cX9_sheet 83 = .ok (.iastore, 1) := by decide +kernel
theorem dX9_sheet_84 : decode cX9_sheet 84 = .ok (.iinc 4 1, 3) := by decide +kernel
theorem dX9_sheet_87 : decode cX9_sheet 87 = .ok (.goto (-23), 3) := by decide +kernel
theorem dX9_sheet_90 : decode cX9_sheet 90 = .ok (.iconst 1, 1) := by decide +kernel
theorem dX9_sheet_91 : decode cX9_sheet 91 = .ok (.ireturn, 1) := by decide +kernel
theorem dX9_put__0 : decode cX9_put_ 0 = .ok (.iload_n 1, 1) := by decide +kernel
theorem dX9_put__1 : decode cX9_put_ 1 = .ok (.invokestatic 287, 3) := by decide +kernel
theorem dX9_put__4 : decode cX9_put_ 4 = .ok (.ifCond .ne 5, 3) := by decide +kernel
theorem dX9_put__7 : decode cX9_put_ 7 = .ok (.iconst (-1), 1) := by decide +kernel
theorem dX9_put__8 : decode cX9_put_ 8 = .ok (.ireturn, 1) := by decide +kernel
theorem dX9_put__9 : decode cX9_put_ 9 = .ok (.aload_n 0, 1) := by decide +kernel
theorem dX9_put__10 : decode cX9_put_ 10 = .ok (.getfield 83, 3) := by decide +kernel
theorem dX9_put__13 : decode cX9_put_ 13 = .ok (.iload_n 1, 1) := by decide +kernel
theorem dX9_put__14 : decode cX9_put_ 14 = .ok (.iaload, 1) := by decide +kernel
theorem dX9_put__15 : decode cX9_put_ 15 = .ok (.ifCond .ge 6, 3) := by decide +kernel
theorem dX9_put__18 : decode cX9_put_ 18 = .ok (.bipush (-11), 2) := by decide +kernel
theorem dX9_put__20 : decode cX9_put_ 20 = .ok (.ireturn, 1) := by decide +kernel
theorem dX9_put__21 : decode cX9_put_ 21 = .ok (.iload_n 2, 1) := by decide +kernel
theorem dX9_put__22 : decode cX9_put_ 22 = .ok (.iconst 0, 1) := by decide +kernel
theorem dX9_put__23 : decode cX9_put_ 23 = .ok (.aload_n 0, 1) := by decide +kernel
theorem dX9_put__24 : decode cX9_put_ 24 = .ok (.getfield 86, 3) := by decide +kernel
theorem dX9_put__27 : decode cX9_put_ 27 = .ok (.iload_n 1, 1) := by decide +kernel
theorem dX9_put__28 : decode cX9_put_ 28 = .ok (.iaload, 1) := by decide +kernel
theorem dX9_put__29 : decode cX9_put_ 29 = .ok (.iconst 1, 1) := by decide +kernel
theorem dX9_put__30 : decode cX9_put_ 30 = .ok (.isub, 1) := by decide +kernel
theorem dX9_put__31 : decode cX9_put_ 31 = .ok (.invokestatic 104, 3) := by decide +kernel
theorem dX9_put__34 : decode cX9_put_ 34 = .ok (.ifCond .ne 6, 3) := by decide +kernel
theorem dX9_put__37 : decode cX9_put_ 37 = .ok (.bipush (-12), 2) := by decide +kernel
theorem dX9_put__39 : decode cX9_put_ 39 = .ok (.ireturn, 1) := by decide +kernel
theorem dX9_put__40 : decode cX9_put_ 40 = .ok (.aload_n 0, 1) := by decide +kernel
theorem dX9_put__41 : decode cX9_put_ 41 = .ok (.getfield 89, 3) := by decide +kernel
theorem dX9_put__44 : decode cX9_put_ 44 = .ok (.bipush 40, 2) := by decide +kernel
theorem dX9_put__46 : decode cX9_put_ 46 = .ok (.iload_n 1, 1) := by decide +kernel
theorem dX9_put__47 : decode cX9_put_ 47 = .ok (.imul, 1) := by decide +kernel
theorem dX9_put__48 : decode cX9_put_ 48 = .ok (.iload_n 2, 1) := by decide +kernel
theorem dX9_put__49 : decode cX9_put_ 49 = .ok (.iadd, 1) := by decide +kernel
theorem dX9_put__50 : decode cX9_put_ 50 = .ok (.aload_n 0, 1) := by decide +kernel
theorem dX9_put__51 : decode cX9_put_ 51 = .ok (.getfield 83, 3) := by decide +kernel
theorem dX9_put__54 : decode cX9_put_ 54 = .ok (.iload_n 1, 1) := by decide +kernel
theorem dX9_put__55 : decode cX9_put_ 55 = .ok (.iaload, 1) := by decide +kernel
theorem dX9_put__56 : decode cX9_put_ 56 = .ok (.ifCond .ne 8, 3) := by decide +kernel
theorem dX9_put__59 : decode cX9_put_ 59 = .ok (.iload_n 3, 1) := by decide +kernel
theorem dX9_put__60 : decode cX9_put_ 60 = .ok (.i2b, 1) := by decide +kernel
theorem dX9_put__61 : decode cX9_put_ 61 = .ok (.goto 19, 3) := by decide +kernel
theorem dX9_put__64 : decode cX9_put_ 64 = .ok (.aload_n 0, 1) := by decide +kernel
theorem dX9_put__65 : decode cX9_put_ 65 = .ok (.getfield 83, 3) := by decide +kernel
theorem dX9_put__68 : decode cX9_put_ 68 = .ok (.iload_n 1, 1) := by decide +kernel
theorem dX9_put__69 : decode cX9_put_ 69 = .ok (.iaload, 1) := by decide +kernel
theorem dX9_put__70 : decode cX9_put_ 70 = .ok (.iconst 1, 1) := by decide +kernel
theorem dX9_put__71 : decode cX9_put_ 71 = .ok (.if_icmp .ne 8, 3) := by decide +kernel
theorem dX9_put__74 : decode cX9_put_ 74 = .ok (.iload_n 3, 1) := by decide +kernel
theorem dX9_put__75 : decode cX9_put_ 75 = .ok (.i2s, 1) := by decide +kernel
theorem dX9_put__76 : decode cX9_put_ 76 = .ok (.goto 4, 3) := by decide +kernel
theorem dX9_put__79 : decode cX9_put_ 79 = .ok (.iload_n 3, 1) := by decide +kernel
theorem dX9_put__80 : decode cX9_put_ 80 = .ok (.iastore, 1) := by decide +kernel
theorem dX9_put__81 : decode cX9_put_ 81 = .ok (.iconst 1, 1) := by decide +kernel
theorem dX9_put__82 : decode cX9_put_ 82 = .ok (.ireturn, 1) := by decide +kernel
theorem dX9_notOf_0 : decode cX9_notOf 0 = .ok (.aload_n 0, 1) := by decide +kernel
theorem dX9_notOf_1 : decode cX9_notOf 1 = .ok (.getfield 83, 3) := by decide +kernel
theorem dX9_notOf_4 : decode cX9_notOf 4 = .ok (.iload_n 1, 1) := by decide +kernel
theorem dX9_notOf_5 : decode cX9_notOf 5 = .ok (.iaload, 1) := by decide +kernel
theorem dX9_notOf_6 : decode cX9_notOf 6 = .ok (.ifCond .ge 8, 3) := by decide +kernel
theorem dX9_notOf_9 : decode cX9_notOf 9 = .ok (.bipush (-11), 2) := by decide +kernel
theorem dX9_notOf_11 : decode cX9_notOf 11 = .ok (.goto 19, 3) := by decide +kernel
theorem dX9_notOf_14 : decode cX9_notOf 14 = .ok (.aload_n 0, 1) := by decide +kernel
theorem dX9_notOf_15 : decode cX9_notOf 15 = .ok (.getfield 83, 3) := by decide +kernel
theorem dX9_notOf_18 : decode cX9_notOf 18 = .ok (.iload_n 1, 1) := by decide +kernel
theorem dX9_notOf_19 : decode cX9_notOf 19 = .ok (.iaload, 1) := by decide +kernel
theorem dX9_notOf_20 : decode cX9_notOf 20 = .ok (.iload_n 2, 1) := by decide +kernel
theorem dX9_notOf_21 : decode cX9_notOf 21 = .ok (.if_icmp .eq 8, 3) := by decide +kernel
theorem dX9_notOf_24 : decode cX9_notOf 24 = .ok (.bipush (-13), 2) := by decide +kernel
theorem dX9_notOf_26 : decode cX9_notOf 26 = .ok (.goto 4, 3) := by decide +kernel
theorem dX9_notOf_29 : decode cX9_notOf 29 = .ok (.iconst 0, 1) := by decide +kernel
theorem dX9_notOf_30 : decode cX9_notOf 30 = .ok (.ireturn, 1) := by decide +kernel
theorem dX9_item_0 : decode cX9_item 0 = .ok (.iload_n 1, 1) := by decide +kernel
theorem dX9_item_1 : decode cX9_item 1 = .ok (.invokestatic 287, 3) := by decide +kernel
theorem dX9_item_4 : decode cX9_item 4 = .ok (.ifCond .eq 10, 3) := by decide +kernel
theorem dX9_item_7 : decode cX9_item 7 = .ok (.iload_n 2, 1) := by decide +kernel
theorem dX9_item_8 : decode cX9_item 8 = .ok (.invokestatic 287, 3) := by decide +kernel
theorem dX9_item_11 : decode cX9_item 11 = .ok (.ifCond .ne 5, 3) := by decide +kernel
theorem dX9_item_14 : decode cX9_item 14 = .ok (.iconst (-1), 1) := by decide +kernel
theorem dX9_item_15 : decode cX9_item 15 = .ok (.ireturn, 1) := by decide +kernel
theorem dX9_item_16 : decode cX9_item 16 = .ok (.aload_n 0, 1) := by decide +kernel
theorem dX9_item_17 : decode cX9_item 17 = .ok (.iload_n 1, 1) := by decide +kernel
theorem dX9_item_18 : decode cX9_item 18 = .ok (.iload_n 2, 1) := by decide +kernel
theorem dX9_item_19 : decode cX9_item 19 = .ok (.invokevirtual 290, 3) := by decide +kernel
theorem dX9_item_22 : decode cX9_item 22 = .ok (.istore 4, 2) := by decide +kernel
theorem dX9_item_24 : decode cX9_item 24 = .ok (.iload 4, 2) := by decide +kernel
theorem dX9_item_26 : decode cX9_item 26 = .ok (.ifCond .eq 6, 3) := by decide +kernel
theorem dX9_item_29 : decode cX9_item 29 = .ok (.iload 4, 2) := by decide +kernel
theorem dX9_item_31 : decode cX9_item 31 = .ok (.ireturn, 1) := by decide +kernel
theorem dX9_item_32 : decode cX9_item 32 = .ok (.iload_n 3, 1) := by decide +kernel
theorem dX9_item_33 : decode cX9_item 33 = .ok (.iconst 0, 1) := by decide +kernel
theorem dX9_item_34 : decode cX9_item 34 = .ok (.aload_n 0, 1) := by decide +kernel
theorem dX9_item_35 : decode cX9_item 35 = .ok (.getfield 86, 3) := by decide +kernel
theorem dX9_item_38 : decode cX9_item 38 = .ok (.iload_n 1, 1) := by decide +kernel
theorem dX9_item_39 : decode cX9_item 39 = .ok (.iaload, 1) := by decide +kernel
theorem dX9_item_40 : decode cX9_item 40 = .ok (.iconst 1, 1) := by decide +kernel
theorem dX9_item_41 : decode cX9_item 41 = .ok (.isub, 1) := by decide +kernel
theorem dX9_item_42 : decode cX9_item 42 = .ok (.invokestatic 104, 3) := by decide +kernel
theorem dX9_item_45 : decode cX9_item 45 = .ok (.ifCond .eq 17, 3) := by decide +kernel
theorem dX9_item_48 : decode cX9_item 48 = .ok (.aload_n 0, 1) := by decide +kernel
theorem dX9_item_49 : decode cX9_item 49 = .ok (.getfield 89, 3) := by decide +kernel
theorem dX9_item_52 : decode cX9_item 52 = .ok (.bipush 40, 2) := by decide +kernel
theorem dX9_item_54 : decode cX9_item 54 = .ok (.iload_n 1, 1) := by decide +kernel
theorem dX9_item_55 : decode cX9_item 55 = .ok (.imul, 1) := by decide +kernel
theorem dX9_item_56 : decode cX9_item 56 = .ok (.iload_n 3, 1) := by decide +kernel
theorem dX9_item_57 : decode cX9_item 57 = .ok (.iadd, 1) := by decide +kernel
theorem dX9_item_58 : decode cX9_item 58 = .ok (.iaload, 1) := by decide +kernel
theorem dX9_item_59 : decode cX9_item 59 = .ok (.goto 5, 3) := by decide +kernel
theorem dX9_item_62 : decode cX9_item 62 = .ok (.bipush (-12), 2) := by decide +kernel
theorem dX9_item_64 : decode cX9_item 64 = .ok (.ireturn, 1) := by decide +kernel
theorem dX9_worths_0 : decode cX9_worths 0 = .ok (.aload_n 0, 1) := by decide +kernel
theorem dX9_worths_1 : decode cX9_worths 1 = .ok (.iload_n 1, 1) := by decide +kernel
theorem dX9_worths_2 : decode cX9_worths 2 = .ok (.invokevirtual 112, 3) := by decide +kernel
theorem dX9_worths_5 : decode cX9_worths 5 = .ok (.ifCond .eq 10, 3) := by decide +kernel
theorem dX9_worths_8 : decode cX9_worths 8 = .ok (.iload_n 2, 1) := by decide +kernel
theorem dX9_worths_9 : decode cX9_worths 9 = .ok (.invokestatic 287, 3) := by decide +kernel
theorem dX9_worths_12 : decode cX9_worths 12 = .ok (.ifCond .ne 5, 3) := by decide +kernel
theorem dX9_worths_15 : decode cX9_worths 15 = .ok (.iconst (-1), 1) := by decide +kernel
theorem dX9_worths_16 : decode cX9_worths 16 = .ok (.ireturn, 1) := by decide +kernel
theorem dX9_worths_17 : decode cX9_worths 17 = .ok (.aload_n 0, 1) := by decide +kernel
theorem dX9_worths_18 : decode cX9_worths 18 = .ok (.iload_n 2, 1) := by decide +kernel
theorem dX9_worths_19 : decode cX9_worths 19 = .ok (.iconst 0, 1) := by decide +kernel
theorem dX9_worths_20 : decode cX9_worths 20 = .ok (.invokevirtual 290, 3) := by decide +kernel
theorem dX9_worths_23 : decode cX9_worths 23 = .ok (.istore_n 3, 1) := by decide +kernel
theorem dX9_worths_24 : decode cX9_worths 24 = .ok (.iload_n 3, 1) := by decide +kernel
theorem dX9_worths_25 : decode cX9_worths 25 = .ok (.ifCond .eq 5, 3) := by decide +kernel
theorem dX9_worths_28 : decode cX9_worths 28 = .ok (.iload_n 3, 1) := by decide +kernel
theorem dX9_worths_29 : decode cX9_worths 29 = .ok (.ireturn, 1) := by decide +kernel
theorem dX9_worths_30 : decode cX9_worths 30 = .ok (.aload_n 0, 1) := by decide +kernel
theorem dX9_worths_31 : decode cX9_worths 31 = .ok (.getfield 86, 3) := by decide +kernel
theorem dX9_worths_34 : decode cX9_worths 34 = .ok (.iload_n 2, 1) := by decide +kernel
theorem dX9_worths_35 : decode cX9_worths 35 = .ok (.iaload, 1) := by decide +kernel
theorem dX9_worths_36 : decode cX9_worths 36 = .ok (.bipush 12, 2) := by decide +kernel
theorem dX9_worths_38 : decode cX9_worths 38 = .ok (.if_icmp .eq 6, 3) := by decide +kernel
theorem dX9_worths_41 : decode cX9_worths 41 = .ok (.bipush (-4), 2) := by decide +kernel
theorem dX9_worths_43 : decode cX9_worths 43 = .ok (.ireturn, 1) := by decide +kernel
theorem dX9_worths_44 : decode cX9_worths 44 = .ok (.bipush 99, 2) := by decide +kernel
theorem dX9_worths_46 : decode cX9_worths 46 = .ok (.istore 4, 2) := by decide +kernel
theorem dX9_worths_48 : decode cX9_worths 48 = .ok (.iconst 0, 1) := by decide +kernel
theorem dX9_worths_49 : decode cX9_worths 49 = .ok (.istore 5, 2) := by decide +kernel
theorem dX9_worths_51 : decode cX9_worths 51 = .ok (.iload 5, 2) := by decide +kernel
theorem dX9_worths_53 : decode cX9_worths 53 = .ok (.bipush 12, 2) := by decide +kernel
theorem dX9_worths_55 : decode cX9_worths 55 = .ok (.if_icmp .ge 47, 3) := by decide +kernel
theorem dX9_worths_58 : decode cX9_worths 58 = .ok (.aload_n 0, 1) := by decide +kernel
theorem dX9_worths_59 : decode cX9_worths 59 = .ok (.getfield 89, 3) := by decide +kernel
theorem dX9_worths_62 : decode cX9_worths 62 = .ok (.bipush 40, 2) := by decide +kernel
theorem dX9_worths_64 : decode cX9_worths 64 = .ok (.iload_n 2, 1) := by decide +kernel
theorem dX9_worths_65 : decode cX9_worths 65 = .ok (.imul, 1) := by decide +kernel
theorem dX9_worths_66 : decode cX9_worths 66 = .ok (.iload 5, 2) := by decide +kernel
theorem dX9_worths_68 : decode cX9_worths 68 = .ok (.iadd, 1) := by decide +kernel
theorem dX9_worths_69 : decode cX9_worths 69 = .ok (.iaload, 1) := by decide +kernel
theorem dX9_worths_70 : decode cX9_worths 70 = .ok (.iconst 0, 1) := by decide +kernel
theorem dX9_worths_71 : decode cX9_worths 71 = .ok (.iload 4, 2) := by decide +kernel
theorem dX9_worths_73 : decode cX9_worths 73 = .ok (.invokestatic 104, 3) := by decide +kernel
theorem dX9_worths_76 : decode cX9_worths 76 = .ok (.ifCond .ne 6, 3) := by decide +kernel
theorem dX9_worths_79 : decode cX9_worths 79 = .ok (.bipush (-4), 2) := by decide +kernel
theorem dX9_worths_81 : decode cX9_worths 81 = .ok (.ireturn, 1) := by decide +kernel
theorem dX9_worths_82 : decode cX9_worths 82 = .ok (.aload_n 0, 1) := by decide +kernel
theorem dX9_worths_83 : decode cX9_worths 83 = .ok (.getfield 89, 3) := by decide +kernel
theorem dX9_worths_86 : decode cX9_worths 86 = .ok (.bipush 40, 2) := by decide +kernel
theorem dX9_worths_88 : decode cX9_worths 88 = .ok (.iload_n 2, 1) := by decide +kernel
theorem dX9_worths_89 : decode cX9_worths 89 = .ok (.imul, 1) := by decide +kernel
theorem dX9_worths_90 : decode cX9_worths 90 = .ok (.iload 5, 2) := by decide +kernel
theorem dX9_worths_92 : decode cX9_worths 92 = .ok (.iadd, 1) := by decide +kernel
theorem dX9_worths_93 : decode cX9_worths 93 = .ok (.iaload, 1) := by decide +kernel
theorem dX9_worths_94 : decode cX9_worths 94 = .ok (.istore 4, 2) := by decide +kernel
theorem dX9_worths_96 : decode cX9_worths 96 = .ok (.iinc 5 1, 3) := by decide +kernel
theorem dX9_worths_99 : decode cX9_worths 99 = .ok (.goto (-48), 3) := by decide +kernel
theorem dX9_worths_102 : decode cX9_worths 102 = .ok (.iconst 0, 1) := by decide +kernel
theorem dX9_worths_103 : decode cX9_worths 103 = .ok (.istore 5, 2) := by decide +kernel
theorem dX9_worths_105 : decode cX9_worths 105 = .ok (.iload 5, 2) := by decide +kernel
theorem dX9_worths_107 : decode cX9_worths 107 = .ok (.bipush 12, 2) := by decide +kernel
theorem dX9_worths_109 : decode cX9_worths 109 = .ok (.if_icmp .ge 35, 3) := by decide +kernel
theorem dX9_worths_112 : decode cX9_worths 112 = .ok (.aload_n 0, 1) := by decide +kernel
theorem dX9_worths_113 : decode cX9_worths 113 = .ok (.getfield 9, 3) := by decide +kernel
theorem dX9_worths_116 : decode cX9_worths 116 = .ok (.iload_n 1, 1) := by decide +kernel
theorem dX9_worths_117 : decode cX9_worths 117 = .ok (.bipush 6, 2) := by decide +kernel
theorem dX9_worths_119 : decode cX9_worths 119 = .ok (.iload 5, 2) := by decide +kernel
theorem dX9_worths_121 : decode cX9_worths 121 = .ok (.iadd, 1) := by decide +kernel
theorem dX9_worths_122 : decode cX9_worths 122 = .ok (.invokestatic 108, 3) := by decide +kernel
theorem dX9_worths_125 : decode cX9_worths 125 = .ok (.aload_n 0, 1) := by decide +kernel
theorem dX9_worths_126 : decode cX9_worths 126 = .ok (.getfield 89, 3) := by decide +kernel
theorem dX9_worths_129 : decode cX9_worths 129 = .ok (.bipush 40, 2) := by decide +kernel
theorem dX9_worths_131 : decode cX9_worths 131 = .ok (.iload_n 2, 1) := by decide +kernel
theorem dX9_worths_132 : decode cX9_worths 132 = .ok (.imul, 1) := by decide +kernel
theorem dX9_worths_133 : decode cX9_worths 133 = .ok (.iload 5, 2) := by decide +kernel
theorem dX9_worths_135 : decode cX9_worths 135 = .ok (.iadd, 1) := by decide +kernel
theorem dX9_worths_136 : decode cX9_worths 136 = .ok (.iaload, 1) := by decide +kernel
theorem dX9_worths_137 : decode cX9_worths 137 = .ok (.iastore, 1) := by decide +kernel
theorem dX9_worths_138 : decode cX9_worths 138 = .ok (.iinc 5 1, 3) := by decide +kernel
theorem dX9_worths_141 : decode cX9_worths 141 = .ok (.goto (-36), 3) := by decide +kernel
theorem dX9_worths_144 : decode cX9_worths 144 = .ok (.iconst 1, 1) := by decide +kernel
theorem dX9_worths_145 : decode cX9_worths 145 = .ok (.ireturn, 1) := by decide +kernel
theorem dX9_lawful_0 : decode cX9_lawful 0 = .ok (.iload_n 1, 1) := by decide +kernel
theorem dX9_lawful_1 : decode cX9_lawful 1 = .ok (.invokestatic 287, 3) := by decide +kernel
theorem dX9_lawful_4 : decode cX9_lawful 4 = .ok (.ifCond .ne 5, 3) := by decide +kernel
theorem dX9_lawful_7 : decode cX9_lawful 7 = .ok (.iconst (-1), 1) := by decide +kernel
theorem dX9_lawful_8 : decode cX9_lawful 8 = .ok (.ireturn, 1) := by decide +kernel
theorem dX9_lawful_9 : decode cX9_lawful 9 = .ok (.aload_n 0, 1) := by decide +kernel
theorem dX9_lawful_10 : decode cX9_lawful 10 = .ok (.iload_n 1, 1) := by decide +kernel
theorem dX9_lawful_11 : decode cX9_lawful 11 = .ok (.iconst 2, 1) := by decide +kernel
theorem dX9_lawful_12 : decode cX9_lawful 12 = .ok (.invokevirtual 290, 3) := by decide +kernel
theorem dX9_lawful_15 : decode cX9_lawful 15 = .ok (.istore_n 2, 1) := by decide +kernel
theorem dX9_lawful_16 : decode cX9_lawful 16 = .ok (.iload_n 2, 1) := by decide +kernel
theorem dX9_lawful_17 : decode cX9_lawful 17 = .ok (.ifCond .eq 5, 3) := by decide +kernel
theorem dX9_lawful_20 : decode cX9_lawful 20 = .ok (.iload_n 2, 1) := by decide +kernel
theorem dX9_lawful_21 : decode cX9_lawful 21 = .ok (.ireturn, 1) := by decide +kernel
theorem dX9_lawful_22 : decode cX9_lawful 22 = .ok (.aload_n 0, 1) := by decide +kernel
theorem dX9_lawful_23 : decode cX9_lawful 23 = .ok (.getfield 86, 3) := by decide +kernel
theorem dX9_lawful_26 : decode cX9_lawful 26 = .ok (.iload_n 1, 1) := by decide +kernel
theorem dX9_lawful_27 : decode cX9_lawful 27 = .ok (.iaload, 1) := by decide +kernel
theorem dX9_lawful_28 : decode cX9_lawful 28 = .ok (.aload_n 0, 1) := by decide +kernel
theorem dX9_lawful_29 : decode cX9_lawful 29 = .ok (.getfield 9, 3) := by decide +kernel
theorem dX9_lawful_32 : decode cX9_lawful 32 = .ok (.iconst 0, 1) := by decide +kernel
theorem dX9_lawful_33 : decode cX9_lawful 33 = .ok (.iaload, 1) := by decide +kernel
theorem dX9_lawful_34 : decode cX9_lawful 34 = .ok (.if_icmp .eq 6, 3) := by decide +kernel
theorem dX9_lawful_37 : decode cX9_lawful 37 = .ok (.bipush (-4), 2) := by decide +kernel
theorem dX9_lawful_39 : decode cX9_lawful 39 = .ok (.ireturn, 1) := by decide +kernel
theorem dX9_lawful_40 : decode cX9_lawful 40 = .ok (.iconst 0, 1) := by decide +kernel
theorem dX9_lawful_41 : decode cX9_lawful 41 = .ok (.istore_n 3, 1) := by decide +kernel
theorem dX9_lawful_42 : decode cX9_lawful 42 = .ok (.iconst 0, 1) := by decide +kernel
theorem dX9_lawful_43 : decode cX9_lawful 43 = .ok (.istore 4, 2) := by decide +kernel
theorem dX9_lawful_45 : decode cX9_lawful 45 = .ok (.iload 4, 2) := by decide +kernel
theorem dX9_lawful_47 : decode cX9_lawful 47 = .ok (.aload_n 0, 1) := by decide +kernel
theorem dX9_lawful_48 : decode cX9_lawful 48 = .ok (.getfield 9, 3) := by decide +kernel
theorem dX9_lawful_51 : decode cX9_lawful 51 = .ok (.iconst 0, 1) := by decide +kernel
theorem dX9_lawful_52 : decode cX9_lawful 52 = .ok (.iaload, 1) := by decide +kernel
theorem dX9_lawful_53 : decode cX9_lawful 53 = .ok (.if_icmp .ge 51, 3) := by decide +kernel
theorem dX9_lawful_56 : decode cX9_lawful 56 = .ok (.aload_n 0, 1) := by decide +kernel
theorem dX9_lawful_57 : decode cX9_lawful 57 = .ok (.getfield 89, 3) := by decide +kernel
theorem dX9_lawful_60 : decode cX9_lawful 60 = .ok (.bipush 40, 2) := by decide +kernel
theorem dX9_lawful_62 : decode cX9_lawful 62 = .ok (.iload_n 1, 1) := by decide +kernel
theorem dX9_lawful_63 : decode cX9_lawful 63 = .ok (.imul, 1) := by decide +kernel
theorem dX9_lawful_64 : decode cX9_lawful 64 = .ok (.iload 4, 2) := by decide +kernel
theorem dX9_lawful_66 : decode cX9_lawful 66 = .ok (.iadd, 1) := by decide +kernel
theorem dX9_lawful_67 : decode cX9_lawful 67 = .ok (.iaload, 1) := by decide +kernel
theorem dX9_lawful_68 : decode cX9_lawful 68 = .ok (.sipush (-9999), 3) := by decide +kernel
theorem dX9_lawful_71 : decode cX9_lawful 71 = .ok (.sipush 9999, 3) := by decide +kernel
theorem dX9_lawful_74 : decode cX9_lawful 74 = .ok (.invokestatic 104, 3) := by decide +kernel
theorem dX9_lawful_77 : decode cX9_lawful 77 = .ok (.ifCond .ne 6, 3) := by decide +kernel
theorem dX9_lawful_80 : decode cX9_lawful 80 = .ok (.bipush (-4), 2) := by decide +kernel
theorem dX9_lawful_82 : decode cX9_lawful 82 = .ok (.ireturn, 1) := by decide +kernel
theorem dX9_lawful_83 : decode cX9_lawful 83 = .ok (.iload_n 3, 1) := by decide +kernel
theorem dX9_lawful_84 : decode cX9_lawful 84 = .ok (.aload_n 0, 1) := by decide +kernel
theorem dX9_lawful_85 : decode cX9_lawful 85 = .ok (.getfield 89, 3) := by decide +kernel
theorem dX9_lawful_88 : decode cX9_lawful 88 = .ok (.bipush 40, 2) := by decide +kernel
theorem dX9_lawful_90 : decode cX9_lawful 90 = .ok (.iload_n 1, 1) := by decide +kernel
theorem dX9_lawful_91 : decode cX9_lawful 91 = .ok (.imul, 1) := by decide +kernel
theorem dX9_lawful_92 : decode cX9_lawful 92 = .ok (.iload 4, 2) := by decide +kernel
theorem dX9_lawful_94 : decode cX9_lawful 94 = .ok (.iadd, 1) := by decide +kernel
theorem dX9_lawful_95 : decode cX9_lawful 95 = .ok (.iaload, 1) := by decide +kernel
theorem dX9_lawful_96 : decode cX9_lawful 96 = .ok (.iadd, 1) := by decide +kernel
theorem dX9_lawful_97 : decode cX9_lawful 97 = .ok (.istore_n 3, 1) := by decide +kernel
theorem dX9_lawful_98 : decode cX9_lawful 98 = .ok (.iinc 4 1, 3) := by decide +kernel
theorem dX9_lawful_101 : decode cX9_lawful 101 = .ok (.goto (-56), 3) := by decide +kernel
theorem dX9_lawful_104 : decode cX9_lawful 104 = .ok (.iload_n 3, 1) := by decide +kernel
theorem dX9_lawful_105 : decode cX9_lawful 105 = .ok (.ifCond .eq 7, 3) := by decide +kernel
theorem dX9_lawful_108 : decode cX9_lawful 108 = .ok (.sipush 300, 3) := by decide +kernel
theorem dX9_lawful_111 : decode cX9_lawful 111 = .ok (.ireturn, 1) := by decide +kernel
theorem dX9_lawful_112 : decode cX9_lawful 112 = .ok (.aload_n 0, 1) := by decide +kernel
theorem dX9_lawful_113 : decode cX9_lawful 113 = .ok (.invokevirtual 141, 3) := by decide +kernel
theorem dX9_lawful_116 : decode cX9_lawful 116 = .ok (.istore 4, 2) := by decide +kernel
theorem dX9_lawful_118 : decode cX9_lawful 118 = .ok (.iconst 0, 1) := by decide +kernel
theorem dX9_lawful_119 : decode cX9_lawful 119 = .ok (.istore 5, 2) := by decide +kernel
theorem dX9_lawful_121 : decode cX9_lawful 121 = .ok (.iload 5, 2) := by decide +kernel
theorem dX9_lawful_123 : decode cX9_lawful 123 = .ok (.aload_n 0, 1) := by decide +kernel
theorem dX9_lawful_124 : decode cX9_lawful 124 = .ok (.getfield 9, 3) := by decide +kernel
theorem dX9_lawful_127 : decode cX9_lawful 127 = .ok (.iconst 0, 1) := by decide +kernel
theorem dX9_lawful_128 : decode cX9_lawful 128 = .ok (.iaload, 1) := by decide +kernel
theorem dX9_lawful_129 : decode cX9_lawful 129 = .ok (.if_icmp .ge 36, 3) := by decide +kernel
theorem dX9_lawful_132 : decode cX9_lawful 132 = .ok (.aload_n 0, 1) := by decide +kernel
theorem dX9_lawful_133 : decode cX9_lawful 133 = .ok (.getfield 34, 3) := by decide +kernel
theorem dX9_lawful_136 : decode cX9_lawful 136 = .ok (.iload 5, 2) := by decide +kernel
theorem dX9_lawful_138 : decode cX9_lawful 138 = .ok (.aload_n 0, 1) := by decide +kernel
theorem dX9_lawful_139 : decode cX9_lawful 139 = .ok (.getfield 31, 3) := by decide +kernel
theorem dX9_lawful_142 : decode cX9_lawful 142 = .ok (.iload 5, 2) := by decide +kernel
theorem dX9_lawful_144 : decode cX9_lawful 144 = .ok (.iaload, 1) := by decide +kernel
theorem dX9_lawful_145 : decode cX9_lawful 145 = .ok (.aload_n 0, 1) := by decide +kernel
theorem dX9_lawful_146 : decode cX9_lawful 146 = .ok (.getfield 89, 3) := by decide +kernel
theorem dX9_lawful_149 : decode cX9_lawful 149 = .ok (.bipush 40, 2) := by decide +kernel
theorem dX9_lawful_151 : decode cX9_lawful 151 = .ok (.iload_n 1, 1) := by decide +kernel
theorem dX9_lawful_152 : decode cX9_lawful 152 = .ok (.imul, 1) := by decide +kernel
theorem dX9_lawful_153 : decode cX9_lawful 153 = .ok (.iload 5, 2) := by decide +kernel
theorem dX9_lawful_155 : decode cX9_lawful 155 = .ok (.iadd, 1) := by decide +kernel
theorem dX9_lawful_156 : decode cX9_lawful 156 = .ok (.iaload, 1) := by decide +kernel
theorem dX9_lawful_157 : decode cX9_lawful 157 = .ok (.iadd, 1) := by decide +kernel
theorem dX9_lawful_158 : decode cX9_lawful 158 = .ok (.iastore, 1) := by decide +kernel
theorem dX9_lawful_159 : decode cX9_lawful 159 = .ok (.iinc 5 1, 3) := by decide +kernel
theorem dX9_lawful_162 : decode cX9_lawful 162 = .ok (.goto (-41), 3) := by decide +kernel
theorem dX9_lawful_165 : decode cX9_lawful 165 = .ok (.aload_n 0, 1) := by decide +kernel
theorem dX9_lawful_166 : decode cX9_lawful 166 = .ok (.invokevirtual 157, 3) := by decide +kernel
theorem dX9_lawful_169 : decode cX9_lawful 169 = .ok (.ireturn, 1) := by decide +kernel
theorem dX9_flows__0 : decode cX9_flows_ 0 = .ok (.aload_n 0, 1) := by decide +kernel
theorem dX9_flows__1 : decode cX9_flows_ 1 = .ok (.iload_n 1, 1) := by decide +kernel
theorem dX9_flows__2 : decode cX9_flows_ 2 = .ok (.invokevirtual 112, 3) := by decide +kernel
theorem dX9_flows__5 : decode cX9_flows_ 5 = .ok (.ifCond .eq 21, 3) := by decide +kernel
theorem dX9_flows__8 : decode cX9_flows_ 8 = .ok (.iload_n 2, 1) := by decide +kernel
theorem dX9_flows__9 : decode cX9_flows_ 9 = .ok (.invokestatic 287, 3) := by decide +kernel
theorem dX9_flows__12 : decode cX9_flows_ 12 = .ok (.ifCond .eq 14, 3) := by decide +kernel
theorem dX9_flows__15 : decode cX9_flows_ 15 = .ok (.iload 4, 2) := by decide +kernel
theorem dX9_flows__17 : decode cX9_flows_ 17 = .ok (.iconst 0, 1) := by decide +kernel
theorem dX9_flows__18 : decode cX9_flows_ 18 = .ok (.bipush 6, 2) := by decide +kernel
theorem dX9_flows__20 : decode cX9_flows_ 20 = .ok (.invokestatic 104, 3) := by decide +kernel
theorem dX9_flows__23 : decode cX9_flows_ 23 = .ok (.ifCond .ne 5, 3) := by decide +kernel
theorem dX9_flows__26 : decode cX9_flows_ 26 = .ok (.iconst (-1), 1) := by decide +kernel
theorem dX9_flows__27 : decode cX9_flows_ 27 = .ok (.ireturn, 1) := by decide +kernel
theorem dX9_flows__28 : decode cX9_flows_ 28 = .ok (.aload_n 0, 1) := by decide +kernel
theorem dX9_flows__29 : decode cX9_flows_ 29 = .ok (.iload_n 2, 1) := by decide +kernel
theorem dX9_flows__30 : decode cX9_flows_ 30 = .ok (.iconst 1, 1) := by decide +kernel
theorem dX9_flows__31 : decode cX9_flows_ 31 = .ok (.invokevirtual 290, 3) := by decide +kernel
theorem dX9_flows__34 : decode cX9_flows_ 34 = .ok (.istore 5, 2) := by decide +kernel
theorem dX9_flows__36 : decode cX9_flows_ 36 = .ok (.iload 5, 2) := by decide +kernel
theorem dX9_flows__38 : decode cX9_flows_ 38 = .ok (.ifCond .eq 6, 3) := by decide +kernel
theorem dX9_flows__41 : decode cX9_flows_ 41 = .ok (.iload 5, 2) := by decide +kernel
theorem dX9_flows__43 : decode cX9_flows_ 43 = .ok (.ireturn, 1) := by decide +kernel
theorem dX9_flows__44 : decode cX9_flows_ 44 = .ok (.iconst 0, 1) := by decide +kernel
theorem dX9_flows__45 : decode cX9_flows_ 45 = .ok (.istore 6, 2) := by decide +kernel
theorem dX9_flows__47 : decode cX9_flows_ 47 = .ok (.iconst 0, 1) := by decide +kernel
theorem dX9_flows__48 : decode cX9_flows_ 48 = .ok (.istore 7, 2) := by decide +kernel
theorem dX9_flows__50 : decode cX9_flows_ 50 = .ok (.iload 7, 2) := by decide +kernel
theorem dX9_flows__52 : decode cX9_flows_ 52 = .ok (.iload 4, 2) := by decide +kernel
theorem dX9_flows__54 : decode cX9_flows_ 54 = .ok (.if_icmp .ge 85, 3) := by decide +kernel
theorem dX9_flows__57 : decode cX9_flows_ 57 = .ok (.iload_n 3, 1) := by decide +kernel
theorem dX9_flows__58 : decode cX9_flows_ 58 = .ok (.ifCond .lt 18, 3) := by decide +kernel
theorem dX9_flows__61 : decode cX9_flows_ 61 = .ok (.iload_n 3, 1) := by decide +kernel
theorem dX9_flows__62 : decode cX9_flows_ 62 = .ok (.aload_n 0, 1) := by decide +kernel
theorem dX9_flows__63 : decode cX9_flows_ 63 = .ok (.getfield 86, 3) := by decide +kernel
theorem dX9_flows__66 : decode cX9_flows_ 66 = .ok (.iload_n 2, 1) := by decide +kernel
theorem dX9_flows__67 : decode cX9_flows_ 67 = .ok (.iaload, 1) := by decide +kernel
theorem dX9_flows__68 : decode cX9_flows_ 68 = .ok (.iconst 1, 1) := by decide +kernel
theorem dX9_flows__69 : decode cX9_flows_ 69 = .ok (.isub, 1) := by decide +kernel
theorem dX9_flows__70 : decode cX9_flows_ 70 = .ok (.iload 7, 2) := by decide +kernel
theorem dX9_flows__72 : decode cX9_flows_ 72 = .ok (.isub, 1) := by decide +kernel
theorem dX9_flows__73 : decode cX9_flows_ 73 = .ok (.if_icmp .le 6, 3) := by decide +kernel
theorem dX9_flows__76 : decode cX9_flows_ 76 = .ok (.bipush (-12), 2) := by decide +kernel
theorem dX9_flows__78 : decode cX9_flows_ 78 = .ok (.ireturn, 1) := by decide +kernel
theorem dX9_flows__79 : decode cX9_flows_ 79 = .ok (.aload_n 0, 1) := by decide +kernel
theorem dX9_flows__80 : decode cX9_flows_ 80 = .ok (.getfield 89, 3) := by decide +kernel
theorem dX9_flows__83 : decode cX9_flows_ 83 = .ok (.bipush 40, 2) := by decide +kernel
theorem dX9_flows__85 : decode cX9_flows_ 85 = .ok (.iload_n 2, 1) := by decide +kernel
theorem dX9_flows__86 : decode cX9_flows_ 86 = .ok (.imul, 1) := by decide +kernel
theorem dX9_flows__87 : decode cX9_flows_ 87 = .ok (.iload_n 3, 1) := by decide +kernel
theorem dX9_flows__88 : decode cX9_flows_ 88 = .ok (.iadd, 1) := by decide +kernel
theorem dX9_flows__89 : decode cX9_flows_ 89 = .ok (.iload 7, 2) := by decide +kernel
theorem dX9_flows__91 : decode cX9_flows_ 91 = .ok (.iadd, 1) := by decide +kernel
theorem dX9_flows__92 : decode cX9_flows_ 92 = .ok (.iaload, 1) := by decide +kernel
theorem dX9_flows__93 : decode cX9_flows_ 93 = .ok (.istore 8, 2) := by decide +kernel
theorem dX9_flows__95 : decode cX9_flows_ 95 = .ok (.aload_n 0, 1) := by decide +kernel
theorem dX9_flows__96 : decode cX9_flows_ 96 = .ok (.iload_n 1, 1) := by decide +kernel
theorem dX9_flows__97 : decode cX9_flows_ 97 = .ok (.iload 7, 2) := by decide +kernel
theorem dX9_flows__99 : decode cX9_flows_ 99 = .ok (.iadd, 1) := by decide +kernel
theorem dX9_flows__100 : decode cX9_flows_ 100 = .ok (.invokevirtual 112, 3) := by decide +kernel
theorem dX9_flows__103 : decode cX9_flows_ 103 = .ok (.ifCond .eq 30, 3) := by decide +kernel
theorem dX9_flows__106 : decode cX9_flows_ 106 = .ok (.iconst 0, 1) := by decide +kernel
theorem dX9_flows__107 : decode cX9_flows_ 107 = .ok (.iload 8, 2) := by decide +kernel
theorem dX9_flows__109 : decode cX9_flows_ 109 = .ok (.invokestatic 119, 3) := by decide +kernel
theorem dX9_flows__112 : decode cX9_flows_ 112 = .ok (.ifCond .eq 21, 3) := by decide +kernel
theorem dX9_flows__115 : decode cX9_flows_ 115 = .ok (.aload_n 0, 1) := by decide +kernel
theorem dX9_flows__116 : decode cX9_flows_ 116 = .ok (.getfield 9, 3) := by decide +kernel
theorem dX9_flows__119 : decode cX9_flows_ 119 = .ok (.iload_n 1, 1) := by decide +kernel
theorem dX9_flows__120 : decode cX9_flows_ 120 = .ok (.iload 7, 2) := by decide +kernel
theorem dX9_flows__122 : decode cX9_flows_ 122 = .ok (.iadd, 1) := by decide +kernel
theorem dX9_flows__123 : decode cX9_flows_ 123 = .ok (.iconst 0, 1) := by decide +kernel
theorem dX9_flows__124 : decode cX9_flows_ 124 = .ok (.invokestatic 108, 3) := by decide +kernel
theorem dX9_flows__127 : decode cX9_flows_ 127 = .ok (.iload 8, 2) := by decide +kernel
theorem dX9_flows__129 : decode cX9_flows_ 129 = .ok (.iastore, 1) := by decide +kernel
theorem dX9_flows__130 : decode cX9_flows_ 130 = .ok (.iinc 6 1, 3) := by decide +kernel
theorem dX9_flows__133 : decode cX9_flows_ 133 = .ok (.iinc 7 1, 3) := by decide +kernel
theorem dX9_flows__136 : decode cX9_flows_ 136 = .ok (.goto (-86), 3) := by decide +kernel
theorem dX9_flows__139 : decode cX9_flows_ 139 = .ok (.iload 6, 2) := by decide +kernel
theorem dX9_flows__141 : decode cX9_flows_ 141 = .ok (.ireturn, 1) := by decide +kernel
theorem dX9_shelf_0 : decode cX9_shelf 0 = .ok (.iload_n 1, 1) := by decide +kernel
theorem dX9_shelf_1 : decode cX9_shelf 1 = .ok (.invokestatic 287, 3) := by decide +kernel
theorem dX9_shelf_4 : decode cX9_shelf 4 = .ok (.ifCond .eq 40, 3) := by decide +kernel
theorem dX9_shelf_7 : decode cX9_shelf 7 = .ok (.iload_n 2, 1) := by decide +kernel
theorem dX9_shelf_8 : decode cX9_shelf 8 = .ok (.iconst 0, 1) := by decide +kernel
theorem dX9_shelf_9 : decode cX9_shelf 9 = .ok (.bipush 8, 2) := by decide +kernel
theorem dX9_shelf_11 : decode cX9_shelf 11 = .ok (.invokestatic 104, 3) := by decide +kernel
theorem dX9_shelf_14 : decode cX9_shelf 14 = .ok (.ifCond .eq 30, 3) := by decide +kernel
theorem dX9_shelf_17 : decode cX9_shelf 17 = .ok (.iload_n 2, 1) := by decide +kernel
theorem dX9_shelf_18 : decode cX9_shelf 18 = .ok (.bipush 7, 2) := by decide +kernel
theorem dX9_shelf_20 : decode cX9_shelf 20 = .ok (.if_icmp .ge 11, 3) := by decide +kernel
theorem dX9_shelf_23 : decode cX9_shelf 23 = .ok (.aload_n 0, 1) := by decide +kernel
theorem dX9_shelf_24 : decode cX9_shelf 24 = .ok (.iload_n 3, 1) := by decide +kernel
theorem dX9_shelf_25 : decode cX9_shelf 25 = .ok (.invokevirtual 112, 3) := by decide +kernel
theorem dX9_shelf_28 : decode cX9_shelf 28 = .ok (.ifCond .eq 16, 3) := by decide +kernel
theorem dX9_shelf_31 : decode cX9_shelf 31 = .ok (.iload_n 2, 1) := by decide +kernel
theorem dX9_shelf_32 : decode cX9_shelf 32 = .ok (.bipush 7, 2) := by decide +kernel
theorem dX9_shelf_34 : decode cX9_shelf 34 = .ok (.if_icmp .ne 12, 3) := by decide +kernel
theorem dX9_shelf_37 : decode cX9_shelf 37 = .ok (.iload_n 3, 1) := by decide +kernel
theorem dX9_shelf_38 : decode cX9_shelf 38 = .ok (.invokestatic 287, 3) := by decide +kernel
theorem dX9_shelf_41 : decode cX9_shelf 41 = .ok (.ifCond .ne 5, 3) := by decide +kernel
theorem dX9_shelf_44 : decode cX9_shelf 44 = .ok (.iconst (-1), 1) := by decide +kernel
theorem dX9_shelf_45 : decode cX9_shelf 45 = .ok (.ireturn, 1) := by decide +kernel
theorem dX9_shelf_46 : decode cX9_shelf 46 = .ok (.aload_n 0, 1) := by decide +kernel
theorem dX9_shelf_47 : decode cX9_shelf 47 = .ok (.getfield 92, 3) := by decide +kernel
theorem dX9_shelf_50 : decode cX9_shelf 50 = .ok (.iload_n 1, 1) := by decide +kernel
theorem dX9_shelf_51 : decode cX9_shelf 51 = .ok (.iload_n 2, 1) := by decide +kernel
theorem dX9_shelf_52 : decode cX9_shelf 52 = .ok (.bipush 7, 2) := by decide +kernel
theorem dX9_shelf_54 : decode cX9_shelf 54 = .ok (.if_icmp .ge 7, 3) := by decide +kernel
theorem dX9_shelf_57 : decode cX9_shelf 57 = .ok (.iconst 1, 1) := by decide +kernel
theorem dX9_shelf_58 : decode cX9_shelf 58 = .ok (.goto 23, 3) := by decide +kernel
theorem dX9_shelf_61 : decode cX9_shelf 61 = .ok (.iload_n 2, 1) := by decide +kernel
theorem dX9_shelf_62 : decode cX9_shelf 62 = .ok (.bipush 7, 2) := by decide +kernel
theorem dX9_shelf_64 : decode cX9_shelf 64 = .ok (.if_icmp .ne 16, 3) := by decide +kernel
theorem dX9_shelf_67 : decode cX9_shelf 67 = .ok (.aload_n 0, 1) := by decide +kernel
theorem dX9_shelf_68 : decode cX9_shelf 68 = .ok (.getfield 83, 3) := by decide +kernel
theorem dX9_shelf_71 : decode cX9_shelf 71 = .ok (.iload_n 3, 1) := by decide +kernel
theorem dX9_shelf_72 : decode cX9_shelf 72 = .ok (.iaload, 1) := by decide +kernel
theorem dX9_shelf_73 : decode cX9_shelf 73 = .ok (.ifCond .lt 7, 3) := by decide +kernel
theorem dX9_shelf_76 : decode cX9_shelf 76 = .ok (.iconst 2, 1) := by decide +kernel
theorem dX9_shelf_77 : decode cX9_shelf 77 = .ok (.goto 4, 3) := by decide +kernel
theorem dX9_shelf_80 : decode cX9_shelf 80 = .ok (.iconst 0, 1) := by decide +kernel
theorem dX9_shelf_81 : decode cX9_shelf 81 = .ok (.iastore, 1) := by decide +kernel
theorem dX9_shelf_82 : decode cX9_shelf 82 = .ok (.aload_n 0, 1) := by decide +kernel
theorem dX9_shelf_83 : decode cX9_shelf 83 = .ok (.getfield 95, 3) := by decide +kernel
theorem dX9_shelf_86 : decode cX9_shelf 86 = .ok (.iload_n 1, 1) := by decide +kernel
theorem dX9_shelf_87 : decode cX9_shelf 87 = .ok (.iload_n 2, 1) := by decide +kernel
theorem dX9_shelf_88 : decode cX9_shelf 88 = .ok (.bipush 7, 2) := by decide +kernel
theorem dX9_shelf_90 : decode cX9_shelf 90 = .ok (.if_icmp .ne 12, 3) := by decide +kernel
theorem dX9_shelf_93 : decode cX9_shelf 93 = .ok (.aload_n 0, 1) := by decide +kernel
theorem dX9_shelf_94 : decode cX9_shelf 94 = .ok (.getfield 83, 3) := by decide +kernel
theorem dX9_shelf_97 : decode cX9_shelf 97 = .ok (.iload_n 3, 1) := by decide +kernel
theorem dX9_shelf_98 : decode cX9_shelf 98 = .ok (.iaload, 1) := by decide +kernel
theorem dX9_shelf_99 : decode cX9_shelf 99 = .ok (.goto 4, 3) := by decide +kernel
theorem dX9_shelf_102 : decode cX9_shelf 102 = .ok (.iload_n 2, 1) := by decide +kernel
theorem dX9_shelf_103 : decode cX9_shelf 103 = .ok (.iastore, 1) := by decide +kernel
theorem dX9_shelf_104 : decode cX9_shelf 104 = .ok (.aload_n 0, 1) := by decide +kernel
theorem dX9_shelf_105 : decode cX9_shelf 105 = .ok (.getfield 98, 3) := by decide +kernel
theorem dX9_shelf_108 : decode cX9_shelf 108 = .ok (.iload_n 1, 1) := by decide +kernel
theorem dX9_shelf_109 : decode cX9_shelf 109 = .ok (.iload_n 2, 1) := by decide +kernel
theorem dX9_shelf_110 : decode cX9_shelf 110 = .ok (.bipush 7, 2) := by decide +kernel
theorem dX9_shelf_112 : decode cX9_shelf 112 = .ok (.if_icmp .ne 12, 3) := by decide +kernel
theorem dX9_shelf_115 : decode cX9_shelf 115 = .ok (.aload_n 0, 1) := by decide +kernel
theorem dX9_shelf_116 : decode cX9_shelf 116 = .ok (.getfield 86, 3) := by decide +kernel
theorem dX9_shelf_119 : decode cX9_shelf 119 = .ok (.iload_n 3, 1) := by decide +kernel
theorem dX9_shelf_120 : decode cX9_shelf 120 = .ok (.iaload, 1) := by decide +kernel
theorem dX9_shelf_121 : decode cX9_shelf 121 = .ok (.goto 4, 3) := by decide +kernel
theorem dX9_shelf_124 : decode cX9_shelf 124 = .ok (.iload_n 3, 1) := by decide +kernel
theorem dX9_shelf_125 : decode cX9_shelf 125 = .ok (.iastore, 1) := by decide +kernel
theorem dX9_shelf_126 : decode cX9_shelf 126 = .ok (.iconst 1, 1) := by decide +kernel
theorem dX9_shelf_127 : decode cX9_shelf 127 = .ok (.ireturn, 1) := by decide +kernel
theorem dX9_isThing_0 : decode cX9_isThing 0 = .ok (.aload_n 0, 1) := by decide +kernel
theorem dX9_isThing_1 : decode cX9_isThing 1 = .ok (.getfield 92, 3) := by decide +kernel
theorem dX9_isThing_4 : decode cX9_isThing 4 = .ok (.iload_n 1, 1) := by decide +kernel
theorem dX9_isThing_5 : decode cX9_isThing 5 = .ok (.iaload, 1) := by decide +kernel
theorem dX9_isThing_6 : decode cX9_isThing 6 = .ok (.iconst 1, 1) := by decide +kernel
theorem dX9_isThing_7 : decode cX9_isThing 7 = .ok (.if_icmp .ne 20, 3) := by decide +kernel
theorem dX9_isThing_10 : decode cX9_isThing 10 = .ok (.aload_n 0, 1) := by decide +kernel
theorem dX9_isThing_11 : decode cX9_isThing 11 = .ok (.aload_n 0, 1) := by decide +kernel
theorem dX9_isThing_12 : decode cX9_isThing 12 = .ok (.getfield 98, 3) := by decide +kernel
theorem dX9_isThing_15 : decode cX9_isThing 15 = .ok (.iload_n 1, 1) := by decide +kernel
theorem dX9_isThing_16 : decode cX9_isThing 16 = .ok (.iaload, 1) := by decide +kernel
theorem dX9_isThing_17 : decode cX9_isThing 17 = .ok (.invokevirtual 112, 3) := by decide +kernel
theorem dX9_isThing_20 : decode cX9_isThing 20 = .ok (.ifCond .eq 7, 3) := by decide +kernel
theorem dX9_isThing_23 : decode cX9_isThing 23 = .ok (.iconst 1, 1) := by decide +kernel
theorem dX9_isThing_24 : decode cX9_isThing 24 = .ok (.goto 4, 3) := by decide +kernel
theorem dX9_isThing_27 : decode cX9_isThing 27 = .ok (.iconst 0, 1) := by decide +kernel
theorem dX9_isThing_28 : decode cX9_isThing 28 = .ok (.ireturn, 1) := by decide +kernel
theorem dX9_above_0 : decode cX9_above 0 = .ok (.iload_n 0, 1) := by decide +kernel
theorem dX9_above_1 : decode cX9_above 1 = .ok (.iconst 1, 1) := by decide +kernel
theorem dX9_above_2 : decode cX9_above 2 = .ok (.if_icmp .eq 8, 3) := by decide +kernel
theorem dX9_above_5 : decode cX9_above 5 = .ok (.iload_n 0, 1) := by decide +kernel
theorem dX9_above_6 : decode cX9_above 6 = .ok (.iconst 2, 1) := by decide +kernel
theorem dX9_above_7 : decode cX9_above 7 = .ok (.if_icmp .ne 7, 3) := by decide +kernel
theorem dX9_above_10 : decode cX9_above 10 = .ok (.iconst 0, 1) := by decide +kernel
theorem dX9_above_11 : decode cX9_above 11 = .ok (.goto 27, 3) := by decide +kernel
theorem dX9_above_14 : decode cX9_above 14 = .ok (.iload_n 0, 1) := by decide +kernel
theorem dX9_above_15 : decode cX9_above 15 = .ok (.iconst 3, 1) := by decide +kernel
theorem dX9_above_16 : decode cX9_above 16 = .ok (.if_icmp .eq 8, 3) := by decide +kernel
theorem dX9_above_19 : decode cX9_above 19 = .ok (.iload_n 0, 1) := by decide +kernel
theorem dX9_above_20 : decode cX9_above 20 = .ok (.iconst 4, 1) := by decide +kernel
theorem dX9_above_21 : decode cX9_above 21 = .ok (.if_icmp .ne 7, 3) := by decide +kernel
theorem dX9_above_24 : decode cX9_above 24 = .ok (.iconst 2, 1) := by decide +kernel
theorem dX9_above_25 : decode cX9_above 25 = .ok (.goto 13, 3) := by decide +kernel
theorem dX9_above_28 : decode cX9_above 28 = .ok (.iload_n 0, 1) := by decide +kernel
theorem dX9_above_29 : decode cX9_above 29 = .ok (.iconst 5, 1) := by decide +kernel
theorem dX9_above_30 : decode cX9_above 30 = .ok (.if_icmp .ne 7, 3) := by decide +kernel
theorem dX9_above_33 : decode cX9_above 33 = .ok (.iconst 3, 1) := by decide +kernel
theorem dX9_above_34 : decode cX9_above 34 = .ok (.goto 4, 3) := by decide +kernel
theorem dX9_above_37 : decode cX9_above 37 = .ok (.iconst (-1), 1) := by decide +kernel
theorem dX9_above_38 : decode cX9_above 38 = .ok (.ireturn, 1) := by decide +kernel
theorem dX9_taken_0 : decode cX9_taken 0 = .ok (.iload_n 1, 1) := by decide +kernel
theorem dX9_taken_1 : decode cX9_taken 1 = .ok (.invokestatic 287, 3) := by decide +kernel
theorem dX9_taken_4 : decode cX9_taken 4 = .ok (.ifCond .eq 24, 3) := by decide +kernel
theorem dX9_taken_7 : decode cX9_taken 7 = .ok (.iload_n 2, 1) := by decide +kernel
theorem dX9_taken_8 : decode cX9_taken 8 = .ok (.iconst 0, 1) := by decide +kernel
theorem dX9_taken_9 : decode cX9_taken 9 = .ok (.bipush 6, 2) := by decide +kernel
theorem dX9_taken_11 : decode cX9_taken 11 = .ok (.invokestatic 104, 3) := by decide +kernel
theorem dX9_taken_14 : decode cX9_taken 14 = .ok (.ifCond .ne 16, 3) := by decide +kernel
theorem dX9_taken_17 : decode cX9_taken 17 = .ok (.iload_n 2, 1) := by decide +kernel
theorem dX9_taken_18 : decode cX9_taken 18 = .ok (.bipush 10, 2) := by decide +kernel
theorem dX9_taken_20 : decode cX9_taken 20 = .ok (.bipush 13, 2) := by decide +kernel
theorem dX9_taken_22 : decode cX9_taken 22 = .ok (.invokestatic 104, 3) := by decide +kernel
theorem dX9_taken_25 : decode cX9_taken 25 = .ok (.ifCond .ne 5, 3) := by decide +kernel
theorem dX9_taken_28 : decode cX9_taken 28 = .ok (.iconst (-1), 1) := by decide +kernel
theorem dX9_taken_29 : decode cX9_taken 29 = .ok (.ireturn, 1) := by decide +kernel
theorem dX9_taken_30 : decode cX9_taken 30 = .ok (.aload_n 0, 1) := by decide +kernel
theorem dX9_taken_31 : decode cX9_taken 31 = .ok (.getfield 92, 3) := by decide +kernel
theorem dX9_taken_34 : decode cX9_taken 34 = .ok (.iload_n 1, 1) := by decide +kernel
theorem dX9_taken_35 : decode cX9_taken 35 = .ok (.iaload, 1) := by decide +kernel
theorem dX9_taken_36 : decode cX9_taken 36 = .ok (.iconst 2, 1) := by decide +kernel
theorem dX9_taken_37 : decode cX9_taken 37 = .ok (.if_icmp .ne 28, 3) := by decide +kernel
theorem dX9_taken_40 : decode cX9_taken 40 = .ok (.iload_n 2, 1) := by decide +kernel
theorem dX9_taken_41 : decode cX9_taken 41 = .ok (.bipush 10, 2) := by decide +kernel
theorem dX9_taken_43 : decode cX9_taken 43 = .ok (.isub, 1) := by decide +kernel
theorem dX9_taken_44 : decode cX9_taken 44 = .ok (.aload_n 0, 1) := by decide +kernel
theorem dX9_taken_45 : decode cX9_taken 45 = .ok (.getfield 95, 3) := by decide +kernel
theorem dX9_taken_48 : decode cX9_taken 48 = .ok (.iload_n 1, 1) := by decide +kernel
theorem dX9_taken_49 : decode cX9_taken 49 = .ok (.iaload, 1) := by decide +kernel
theorem dX9_taken_50 : decode cX9_taken 50 = .ok (.if_icmp .ne 12, 3) := by decide +kernel
theorem dX9_taken_53 : decode cX9_taken 53 = .ok (.aload_n 0, 1) := by decide +kernel
theorem dX9_taken_54 : decode cX9_taken 54 = .ok (.getfield 98, 3) := by decide +kernel
theorem dX9_taken_57 : decode cX9_taken 57 = .ok (.iload_n 1, 1) := by decide +kernel
theorem dX9_taken_58 : decode cX9_taken 58 = .ok (.iaload, 1) := by decide +kernel
theorem dX9_taken_59 : decode cX9_taken 59 = .ok (.goto 5, 3) := by decide +kernel
theorem dX9_taken_62 : decode cX9_taken 62 = .ok (.bipush (-13), 2) := by decide +kernel
theorem dX9_taken_64 : decode cX9_taken 64 = .ok (.ireturn, 1) := by decide +kernel
theorem dX9_taken_65 : decode cX9_taken 65 = .ok (.aload_n 0, 1) := by decide +kernel
theorem dX9_taken_66 : decode cX9_taken 66 = .ok (.iload_n 1, 1) := by decide +kernel
theorem dX9_taken_67 : decode cX9_taken 67 = .ok (.invokevirtual 293, 3) := by decide +kernel
theorem dX9_taken_70 : decode cX9_taken 70 = .ok (.ifCond .ne 6, 3) := by decide +kernel
theorem dX9_taken_73 : decode cX9_taken 73 = .ok (.bipush (-11), 2) := by decide +kernel
theorem dX9_taken_75 : decode cX9_taken 75 = .ok (.ireturn, 1) := by decide +kernel
theorem dX9_taken_76 : decode cX9_taken 76 = .ok (.aload_n 0, 1) := by decide +kernel
theorem dX9_taken_77 : decode cX9_taken 77 = .ok (.getfield 95, 3) := by decide +kernel
theorem dX9_taken_80 : decode cX9_taken 80 = .ok (.iload_n 1, 1) := by decide +kernel
theorem dX9_taken_81 : decode cX9_taken 81 = .ok (.iaload, 1) := by decide +kernel
theorem dX9_taken_82 : decode cX9_taken 82 = .ok (.istore_n 3, 1) := by decide +kernel
theorem dX9_taken_83 : decode cX9_taken 83 = .ok (.iload_n 3, 1) := by decide +kernel
theorem dX9_taken_84 : decode cX9_taken 84 = .ok (.ifCond .lt 16, 3) := by decide +kernel
theorem dX9_taken_87 : decode cX9_taken 87 = .ok (.iload_n 3, 1) := by decide +kernel
theorem dX9_taken_88 : decode cX9_taken 88 = .ok (.iload_n 2, 1) := by decide +kernel
theorem dX9_taken_89 : decode cX9_taken 89 = .ok (.if_icmp .eq 11, 3) := by decide +kernel
theorem dX9_taken_92 : decode cX9_taken 92 = .ok (.iload_n 3, 1) := by decide +kernel
theorem dX9_taken_93 : decode cX9_taken 93 = .ok (.invokestatic 296, 3) := by decide +kernel
theorem dX9_taken_96 : decode cX9_taken 96 = .ok (.istore_n 3, 1) := by decide +kernel
theorem dX9_taken_97 : decode cX9_taken 97 = .ok (.goto (-14), 3) := by decide +kernel
theorem dX9_taken_100 : decode cX9_taken 100 = .ok (.iload_n 3, 1) := by decide +kernel
theorem dX9_taken_101 : decode cX9_taken 101 = .ok (.iload_n 2, 1) := by decide +kernel
theorem dX9_taken_102 : decode cX9_taken 102 = .ok (.if_icmp .ne 12, 3) := by decide +kernel
theorem dX9_taken_105 : decode cX9_taken 105 = .ok (.aload_n 0, 1) := by decide +kernel
theorem dX9_taken_106 : decode cX9_taken 106 = .ok (.getfield 98, 3) := by decide +kernel
theorem dX9_taken_109 : decode cX9_taken 109 = .ok (.iload_n 1, 1) := by decide +kernel
theorem dX9_taken_110 : decode cX9_taken 110 = .ok (.iaload, 1) := by decide +kernel
theorem dX9_taken_111 : decode cX9_taken 111 = .ok (.goto 5, 3) := by decide +kernel
theorem dX9_taken_114 : decode cX9_taken 114 = .ok (.bipush (-13), 2) := by decide +kernel
theorem dX9_taken_116 : decode cX9_taken 116 = .ok (.ireturn, 1) := by decide +kernel
theorem dX9_began_0 : decode cX9_began 0 = .ok (.aload_n 0, 1) := by decide +kernel
theorem dX9_began_1 : decode cX9_began 1 = .ok (.getfield 299, 3) := by decide +kernel
theorem dX9_began_4 : decode cX9_began 4 = .ok (.bipush 30, 2) := by decide +kernel
theorem dX9_began_6 : decode cX9_began 6 = .ok (.if_icmp .ge 23, 3) := by decide +kernel
theorem dX9_began_9 : decode cX9_began 9 = .ok (.aload_n 0, 1) := by decide +kernel
theorem dX9_began_10 : decode cX9_began 10 = .ok (.getfield 101, 3) := by decide +kernel
theorem dX9_began_13 : decode cX9_began 13 = .ok (.aload_n 0, 1) := by decide +kernel
theorem dX9_began_14 : decode cX9_began 14 = .ok (.getfield 299, 3) := by decide +kernel
theorem dX9_began_17 : decode cX9_began 17 = .ok (.iload_n 1, 1) := by decide +kernel
theorem dX9_began_18 : decode cX9_began 18 = .ok (.iastore, 1) := by decide +kernel
theorem dX9_began_19 : decode cX9_began 19 = .ok (.aload_n 0, 1) := by decide +kernel
theorem dX9_began_20 : decode cX9_began 20 = .ok (.dup, 1) := by decide +kernel
theorem dX9_began_21 : decode cX9_began 21 = .ok (.getfield 299, 3) := by decide +kernel
theorem dX9_began_24 : decode cX9_began 24 = .ok (.iconst 1, 1) := by decide +kernel
theorem dX9_began_25 : decode cX9_began 25 = .ok (.iadd, 1) := by decide +kernel
theorem dX9_began_26 : decode cX9_began 26 = .ok (.putfield 299, 3) := by decide +kernel
theorem dX9_began_29 : decode cX9_began 29 = .ok (.return_, 1) := by decide +kernel
theorem dX9_bodyOf_0 : decode cX9_bodyOf 0 = .ok (.iload_n 0, 1) := by decide +kernel
theorem dX9_bodyOf_1 : decode cX9_bodyOf 1 = .ok (.istore_n 2, 1) := by decide +kernel
theorem dX9_bodyOf_2 : decode cX9_bodyOf 2 = .ok (.iload_n 2, 1) := by decide +kernel
theorem dX9_bodyOf_3 : decode cX9_bodyOf 3 = .ok (.ifCond .lt 152, 3) := by decide +kernel
theorem dX9_bodyOf_6 : decode cX9_bodyOf 6 = .ok (.bipush 10, 2) := by decide +kernel
theorem dX9_bodyOf_8 : decode cX9_bodyOf 8 = .ok (.iload_n 2, 1) := by decide +kernel
theorem dX9_bodyOf_9 : decode cX9_bodyOf 9 = .ok (.imul, 1) := by decide +kernel
theorem dX9_bodyOf_10 : decode cX9_bodyOf 10 = .ok (.iload_n 1, 1) := by decide +kernel
theorem dX9_bodyOf_11 : decode cX9_bodyOf 11 = .ok (.iadd, 1) := by decide +kernel
theorem dX9_bodyOf_12 : decode cX9_bodyOf 12 = .ok (.lookupswitch 126 #[(11, 100), (20, 103), (31, 106), (33, 109), (42, 112), (50, 115), (52, 118), (60, 121), (61, 121), (62, 121), (63, 121)], 100) := by decide +kernel
theorem dX9_bodyOf_112 : decode cX9_bodyOf 112 = .ok (.bipush 20, 2) := by decide +kernel
theorem dX9_bodyOf_114 : decode cX9_bodyOf 114 = .ok (.ireturn, 1) := by decide +kernel
theorem dX9_bodyOf_115 : decode cX9_bodyOf 115 = .ok (.bipush 30, 2) := by decide +kernel
theorem dX9_bodyOf_117 : decode cX9_bodyOf 117 = .ok (.ireturn, 1) := by decide +kernel
theorem dX9_bodyOf_118 : decode cX9_bodyOf 118 = .ok (.bipush 40, 2) := by decide +kernel
theorem dX9_bodyOf_120 : decode cX9_bodyOf 120 = .ok (.ireturn, 1) := by decide +kernel
theorem dX9_bodyOf_121 : decode cX9_bodyOf 121 = .ok (.bipush 41, 2) := by decide +kernel
theorem dX9_bodyOf_123 : decode cX9_bodyOf 123 = .ok (.ireturn, 1) := by decide +kernel
theorem dX9_bodyOf_124 : decode cX9_bodyOf 124 = .ok (.bipush 50, 2) := by decide +kernel
theorem dX9_bodyOf_126 : decode cX9_bodyOf 126 = .ok (.ireturn, 1) := by decide +kernel
theorem dX9_bodyOf_127 : decode cX9_bodyOf 127 = .ok (.bipush 60, 2) := by decide +kernel
theorem dX9_bodyOf_129 : decode cX9_bodyOf 129 = .ok (.ireturn, 1) := by decide +kernel
theorem dX9_bodyOf_130 : decode cX9_bodyOf 130 = .ok (.bipush 61, 2) := by decide +kernel
theorem dX9_bodyOf_132 : decode cX9_bodyOf 132 = .ok (.ireturn, 1) := by decide +kernel
theorem dX9_bodyOf_133 : decode cX9_bodyOf 133 = .ok (.bipush 70, 2) := by decide +kernel
theorem dX9_bodyOf_135 : decode cX9_bodyOf 135 = .ok (.iload_n 1, 1) := by decide +kernel
theorem dX9_bodyOf_136 : decode cX9_bodyOf 136 = .ok (.iadd, 1) := by decide +kernel
theorem dX9_bodyOf_137 : decode cX9_bodyOf 137 = .ok (.ireturn, 1) := by decide +kernel
theorem dX9_bodyOf_138 : decode cX9_bodyOf 138 = .ok (.iload_n 2, 1) := by decide +kernel
theorem dX9_bodyOf_139 : decode cX9_bodyOf 139 = .ok (.ifCond .ne 8, 3) := by decide +kernel
theorem dX9_bodyOf_142 : decode cX9_bodyOf 142 = .ok (.bipush 10, 2) := by decide +kernel
theorem dX9_bodyOf_144 : decode cX9_bodyOf 144 = .ok (.iload_n 1, 1) := by decide +kernel
theorem dX9_bodyOf_145 : decode cX9_bodyOf 145 = .ok (.iadd, 1) := by decide +kernel
theorem dX9_bodyOf_146 : decode cX9_bodyOf 146 = .ok (.ireturn, 1) := by decide +kernel
theorem dX9_bodyOf_147 : decode cX9_bodyOf 147 = .ok (.iload_n 2, 1) := by decide +kernel
theorem dX9_bodyOf_148 : decode cX9_bodyOf 148 = .ok (.invokestatic 296, 3) := by decide +kernel
theorem dX9_bodyOf_151 : decode cX9_bodyOf 151 = .ok (.istore_n 2, 1) := by decide +kernel
theorem dX9_bodyOf_152 : decode cX9_bodyOf 152 = .ok (.goto (-150), 3) := by decide +kernel
theorem dX9_bodyOf_155 : decode cX9_bodyOf 155 = .ok (.iconst 0, 1) := by decide +kernel
theorem dX9_bodyOf_156 : decode cX9_bodyOf 156 = .ok (.ireturn, 1) := by decide +kernel
theorem dX9_acted_0 : decode cX9_acted 0 = .ok (.aload_n 0, 1) := by decide +kernel
theorem dX9_acted_1 : decode cX9_acted 1 = .ok (.aload_n 0, 1) := by decide +kernel
theorem dX9_acted_2 : decode cX9_acted 2 = .ok (.getfield 302, 3) := by decide +kernel
theorem dX9_acted_5 : decode cX9_acted 5 = .ok (.iload_n 1, 1) := by decide +kernel
theorem dX9_acted_6 : decode cX9_acted 6 = .ok (.invokestatic 305, 3) := by decide +kernel
theorem dX9_acted_9 : decode cX9_acted 9 = .ok (.iload_n 2, 1) := by decide +kernel
theorem dX9_acted_10 : decode cX9_acted 10 = .ok (.invokevirtual 308, 3) := by decide +kernel
theorem dX9_acted_13 : decode cX9_acted 13 = .ok (.ireturn, 1) := by decide +kernel
theorem dX9_fromAbove_0 : decode cX9_fromAbove 0 = .ok (.aload_n 0, 1) := by decide +kernel
theorem dX9_fromAbove_1 : decode cX9_fromAbove 1 = .ok (.iload_n 1, 1) := by decide +kernel
theorem dX9_fromAbove_2 : decode cX9_fromAbove 2 = .ok (.invokestatic 296, 3) := by decide +kernel
theorem dX9_fromAbove_5 : decode cX9_fromAbove 5 = .ok (.iload_n 2, 1) := by decide +kernel
theorem dX9_fromAbove_6 : decode cX9_fromAbove 6 = .ok (.invokestatic 305, 3) := by decide +kernel
theorem dX9_fromAbove_9 : decode cX9_fromAbove 9 = .ok (.iload_n 3, 1) := by decide +kernel
theorem dX9_fromAbove_10 : decode cX9_fromAbove 10 = .ok (.invokevirtual 308, 3) := by decide +kernel
theorem dX9_fromAbove_13 : decode cX9_fromAbove 13 = .ok (.ireturn, 1) := by decide +kernel
theorem dX9_parted_0 : decode cX9_parted 0 = .ok (.aload_n 0, 1) := by decide +kernel
theorem dX9_parted_1 : decode cX9_parted 1 = .ok (.getfield 311, 3) := by decide +kernel
theorem dX9_parted_4 : decode cX9_parted 4 = .ok (.aload_n 0, 1) := by decide +kernel
theorem dX9_parted_5 : decode cX9_parted 5 = .ok (.getfield 314, 3) := by decide +kernel
theorem dX9_parted_8 : decode cX9_parted 8 = .ok (.if_icmp .ne 10, 3) := by decide +kernel
theorem dX9_parted_11 : decode cX9_parted 11 = .ok (.aload_n 0, 1) := by decide +kernel
theorem dX9_parted_12 : decode cX9_parted 12 = .ok (.iconst 1, 1) := by decide +kernel
theorem dX9_parted_13 : decode cX9_parted 13 = .ok (.putfield 316, 3) := by decide +kernel
theorem dX9_parted_16 : decode cX9_parted 16 = .ok (.iconst 0, 1) := by decide +kernel
theorem dX9_parted_17 : decode cX9_parted 17 = .ok (.ireturn, 1) := by decide +kernel
theorem dX9_parted_18 : decode cX9_parted 18 = .ok (.iload_n 1, 1) := by decide +kernel
theorem dX9_parted_19 : decode cX9_parted 19 = .ok (.aload_n 0, 1) := by decide +kernel
theorem dX9_parted_20 : decode cX9_parted 20 = .ok (.getfield 311, 3) := by decide +kernel
theorem dX9_parted_23 : decode cX9_parted 23 = .ok (.aload_n 0, 1) := by decide +kernel
theorem dX9_parted_24 : decode cX9_parted 24 = .ok (.getfield 314, 3) := by decide +kernel
theorem dX9_parted_27 : decode cX9_parted 27 = .ok (.isub, 1) := by decide +kernel
theorem dX9_parted_28 : decode cX9_parted 28 = .ok (.idiv, 1) := by decide +kernel
theorem dX9_parted_29 : decode cX9_parted 29 = .ok (.ireturn, 1) := by decide +kernel
theorem dX9_body_0 : decode cX9_body 0 = .ok (.aload_n 0, 1) := by decide +kernel
theorem dX9_body_1 : decode cX9_body 1 = .ok (.iload_n 1, 1) := by decide +kernel
theorem dX9_body_2 : decode cX9_body 2 = .ok (.invokevirtual 319, 3) := by decide +kernel
theorem dX9_body_5 : decode cX9_body 5 = .ok (.iload_n 1, 1) := by decide +kernel
theorem dX9_body_6 : decode cX9_body 6 = .ok (.lookupswitch 270 #[(10, 122), (11, 129), (12, 138), (13, 144), (20, 156), (30, 166), (40, 176), (41, 189), (50, 211), (60, 221), (61, 234), (70, 244), (71, 251), (72, 263)], 122) := by decide +kernel
theorem dX9_body_128 : decode cX9_body 128 = .ok (.iload_n 2, 1) := by decide +kernel
theorem dX9_body_129 : decode cX9_body 129 = .ok (.aload_n 0, 1) := by decide +kernel
theorem dX9_body_130 : decode cX9_body 130 = .ok (.getfield 311, 3) := by decide +kernel
theorem dX9_body_133 : decode cX9_body 133 = .ok (.iadd, 1) := by decide +kernel
theorem dX9_body_134 : decode cX9_body 134 = .ok (.ireturn, 1) := by decide +kernel
theorem dX9_body_135 : decode cX9_body 135 = .ok (.aload_n 0, 1) := by decide +kernel
theorem dX9_body_136 : decode cX9_body 136 = .ok (.iconst 0, 1) := by decide +kernel
theorem dX9_body_137 : decode cX9_body 137 = .ok (.iload_n 2, 1) := by decide +kernel
theorem dX9_body_138 : decode cX9_body 138 = .ok (.invokevirtual 322, 3) := by decide +kernel
theorem dX9_body_141 : decode cX9_body 141 = .ok (.iconst 2, 1) := by decide +kernel
theorem dX9_body_142 : decode cX9_body 142 = .ok (.imul, 1) := by decide +kernel
theorem dX9_body_143 : decode cX9_body 143 = .ok (.ireturn, 1) := by decide +kernel
theorem dX9_body_144 : decode cX9_body 144 = .ok (.aload_n 0, 1) := by decide +kernel
theorem dX9_body_145 : decode cX9_body 145 = .ok (.iload_n 2, 1) := by decide +kernel
theorem dX9_body_146 : decode cX9_body 146 = .ok (.invokevirtual 325, 3) := by decide +kernel
theorem dX9_body_149 : decode cX9_body 149 = .ok (.ireturn, 1) := by decide +kernel
theorem dX9_body_150 : decode cX9_body 150 = .ok (.aload_n 0, 1) := by decide +kernel
theorem dX9_body_151 : decode cX9_body 151 = .ok (.iconst 1, 1) := by decide +kernel
theorem dX9_body_152 : decode cX9_body 152 = .ok (.iload_n 2, 1) := by decide +kernel
theorem dX9_body_153 : decode cX9_body 153 = .ok (.invokevirtual 322, 3) := by decide +kernel
theorem dX9_body_156 : decode cX9_body 156 = .ok (.aload_n 0, 1) := by decide +kernel
theorem dX9_body_157 : decode cX9_body 157 = .ok (.getfield 314, 3) := by decide +kernel
theorem dX9_body_160 : decode cX9_body 160 = .ok (.ixor, 1) := by decide +kernel
theorem dX9_body_161 : decode cX9_body 161 = .ok (.ireturn, 1) := by decide +kernel
theorem dX9_body_162 : decode cX9_body 162 = .ok (.iconst 0, 1) := by decide +kernel
theorem dX9_body_163 : decode cX9_body 163 = .ok (.aload_n 0, 1) := by decide +kernel
theorem dX9_body_164 : decode cX9_body 164 = .ok (.iconst 1, 1) := by decide +kernel
theorem dX9_body_165 : decode cX9_body 165 = .ok (.iconst 1, 1) := by decide +kernel
theorem dX9_body_166 : decode cX9_body 166 = .ok (.iload_n 2, 1) := by decide +kernel
theorem dX9_body_167 : decode cX9_body 167 = .ok (.invokevirtual 328, 3) := by decide +kernel
theorem dX9_body_170 : decode cX9_body 170 = .ok (.isub, 1) := by decide +kernel
theorem dX9_body_171 : decode cX9_body 171 = .ok (.ireturn, 1) := by decide +kernel
theorem dX9_body_172 : decode cX9_body 172 = .ok (.aload_n 0, 1) := by decide +kernel
theorem dX9_body_173 : decode cX9_body 173 = .ok (.iconst 2, 1) := by decide +kernel
theorem dX9_body_174 : decode cX9_body 174 = .ok (.iconst 0, 1) := by decide +kernel
theorem dX9_body_175 : decode cX9_body 175 = .ok (.iload_n 2, 1) := by decide +kernel
theorem dX9_body_176 : decode cX9_body 176 = .ok (.invokevirtual 328, 3) := by decide +kernel
theorem dX9_body_179 : decode cX9_body 179 = .ok (.iconst 3, 1) := by decide +kernel
theorem dX9_body_180 : decode cX9_body 180 = .ok (.imul, 1) := by decide +kernel
theorem dX9_body_181 : decode cX9_body 181 = .ok (.ireturn, 1) := by decide +kernel
theorem dX9_body_182 : decode cX9_body 182 = .ok (.aload_n 0, 1) := by decide +kernel
theorem dX9_body_183 : decode cX9_body 183 = .ok (.iconst 3, 1) := by decide +kernel
theorem dX9_body_184 : decode cX9_body 184 = .ok (.iconst 1, 1) := by decide +kernel
theorem dX9_body_185 : decode cX9_body 185 = .ok (.iload_n 2, 1) := by decide +kernel
theorem dX9_body_186 : decode cX9_body 186 = .ok (.invokevirtual 328, 3) := by decide +kernel
theorem dX9_body_189 : decode cX9_body 189 = .ok (.aload_n 0, 1) := by decide +kernel
theorem dX9_body_190 : decode cX9_body 190 = .ok (.getfield 311, 3) := by decide +kernel
theorem dX9_body_193 : decode cX9_body 193 = .ok (.iadd, 1) := by decide +kernel
theorem dX9_body_194 : decode cX9_body 194 = .ok (.ireturn, 1) := by decide +kernel
theorem dX9_body_195 : decode cX9_body 195 = .ok (.aload_n 0, 1) := by decide +kernel
theorem dX9_body_196 : decode cX9_body 196 = .ok (.iconst 3, 1) := by decide +kernel
theorem dX9_body_197 : decode cX9_body 197 = .ok (.iconst 3, 1) := by decide +kernel
theorem dX9_body_198 : decode cX9_body 198 = .ok (.iload_n 2, 1) := by decide +kernel
theorem dX9_body_199 : decode cX9_body 199 = .ok (.invokevirtual 328, 3) := by decide +kernel
theorem dX9_body_202 : decode cX9_body 202 = .ok (.istore_n 3, 1) := by decide +kernel
theorem dX9_body_203 : decode cX9_body 203 = .ok (.iload_n 3, 1) := by decide +kernel
theorem dX9_body_204 : decode cX9_body 204 = .ok (.aload_n 0, 1) := by decide +kernel
theorem dX9_body_205 : decode cX9_body 205 = .ok (.iconst 2, 1) := by decide +kernel
theorem dX9_body_206 : decode cX9_body 206 = .ok (.aload_n 0, 1) := by decide +kernel
theorem dX9_body_207 : decode cX9_body 207 = .ok (.getfield 314, 3) := by decide +kernel
theorem dX9_body_210 : decode cX9_body 210 = .ok (.iconst 1, 1) := by decide +kernel
theorem dX9_body_211 : decode cX9_body 211 = .ok (.iadd, 1) := by decide +kernel
theorem dX9_body_212 : decode cX9_body 212 = .ok (.invokevirtual 322, 3) := by decide +kernel
theorem dX9_body_215 : decode cX9_body 215 = .ok (.iadd, 1) := by decide +kernel
theorem dX9_body_216 : decode cX9_body 216 = .ok (.ireturn, 1) := by decide +kernel
theorem dX9_body_217 : decode cX9_body 217 = .ok (.aload_n 0, 1) := by decide +kernel
theorem dX9_body_218 : decode cX9_body 218 = .ok (.iconst 4, 1) := by decide +kernel
theorem dX9_body_219 : decode cX9_body 219 = .ok (.iconst 2, 1) := by decide +kernel
theorem dX9_body_220 : decode cX9_body 220 = .ok (.iload_n 2, 1) := by decide +kernel
theorem dX9_body_221 : decode cX9_body 221 = .ok (.iconst 1, 1) := by decide +kernel
theorem dX9_body_222 : decode cX9_body 222 = .ok (.isub, 1) := by decide +kernel
theorem dX9_body_223 : decode cX9_body 223 = .ok (.invokevirtual 328, 3) := by decide +kernel
theorem dX9_body_226 : decode cX9_body 226 = .ok (.ireturn, 1) := by decide +kernel
theorem dX9_body_227 : decode cX9_body 227 = .ok (.aload_n 0, 1) := by decide +kernel
theorem dX9_body_228 : decode cX9_body 228 = .ok (.iconst 5, 1) := by decide +kernel
theorem dX9_body_229 : decode cX9_body 229 = .ok (.iconst 0, 1) := by decide +kernel
theorem dX9_body_230 : decode cX9_body 230 = .ok (.iload_n 2, 1) := by decide +kernel
theorem dX9_body_231 : decode cX9_body 231 = .ok (.invokevirtual 328, 3) := by decide +kernel
theorem dX9_body_234 : decode cX9_body 234 = .ok (.aload_n 0, 1) := by decide +kernel
theorem dX9_body_235 : decode cX9_body 235 = .ok (.getfield 311, 3) := by decide +kernel
theorem dX9_body_238 : decode cX9_body 238 = .ok (.ixor, 1) := by decide +kernel
theorem dX9_body_239 : decode cX9_body 239 = .ok (.ireturn, 1) := by decide +kernel
theorem dX9_body_240 : decode cX9_body 240 = .ok (.aload_n 0, 1) := by decide +kernel
theorem dX9_body_241 : decode cX9_body 241 = .ok (.iconst 5, 1) := by decide +kernel
theorem dX9_body_242 : decode cX9_body 242 = .ok (.iconst 2, 1) := by decide +kernel
theorem dX9_body_243 : decode cX9_body 243 = .ok (.iload_n 2, 1) := by decide +kernel
theorem dX9_body_244 : decode cX9_body 244 = .ok (.iconst 2, 1) := by decide +kernel
theorem dX9_body_245 : decode cX9_body 245 = .ok (.iadd, 1) := by decide +kernel
theorem dX9_body_246 : decode cX9_body 246 = .ok (.invokevirtual 328, 3) := by decide +kernel
theorem dX9_body_249 : decode cX9_body 249 = .ok (.ireturn, 1) := by decide +kernel
theorem dX9_body_250 : decode cX9_body 250 = .ok (.iload_n 2, 1) := by decide +kernel
theorem dX9_body_251 : decode cX9_body 251 = .ok (.aload_n 0, 1) := by decide +kernel
theorem dX9_body_252 : decode cX9_body 252 = .ok (.getfield 311, 3) := by decide +kernel
theorem dX9_body_255 : decode cX9_body 255 = .ok (.isub, 1) := by decide +kernel
theorem dX9_body_256 : decode cX9_body 256 = .ok (.ireturn, 1) := by decide +kernel
theorem dX9_body_257 : decode cX9_body 257 = .ok (.aload_n 0, 1) := by decide +kernel
theorem dX9_body_258 : decode cX9_body 258 = .ok (.iconst 0, 1) := by decide +kernel
theorem dX9_body_259 : decode cX9_body 259 = .ok (.iload_n 2, 1) := by decide +kernel
theorem dX9_body_260 : decode cX9_body 260 = .ok (.invokevirtual 322, 3) := by decide +kernel
theorem dX9_body_263 : decode cX9_body 263 = .ok (.aload_n 0, 1) := by decide +kernel
theorem dX9_body_264 : decode cX9_body 264 = .ok (.getfield 314, 3) := by decide +kernel
theorem dX9_body_267 : decode cX9_body 267 = .ok (.imul, 1) := by decide +kernel
theorem dX9_body_268 : decode cX9_body 268 = .ok (.ireturn, 1) := by decide +kernel
theorem dX9_body_269 : decode cX9_body 269 = .ok (.iload_n 2, 1) := by decide +kernel
theorem dX9_body_270 : decode cX9_body 270 = .ok (.aload_n 0, 1) := by decide +kernel
theorem dX9_body_271 : decode cX9_body 271 = .ok (.getfield 311, 3) := by decide +kernel
theorem dX9_body_274 : decode cX9_body 274 = .ok (.ixor, 1) := by decide +kernel
theorem dX9_body_275 : decode cX9_body 275 = .ok (.ireturn, 1) := by decide +kernel
theorem dX9_body_276 : decode cX9_body 276 = .ok (.aload_n 0, 1) := by decide +kernel
theorem dX9_body_277 : decode cX9_body 277 = .ok (.iconst 1, 1) := by decide +kernel
theorem dX9_body_278 : decode cX9_body 278 = .ok (.iload_n 2, 1) := by decide +kernel
theorem dX9_body_279 : decode cX9_body 279 = .ok (.invokevirtual 322, 3) := by decide +kernel
theorem dX9_body_282 : decode cX9_body 282 = .ok (.istore_n 3, 1) := by decide +kernel
theorem dX9_body_283 : decode cX9_body 283 = .ok (.iload_n 3, 1) := by decide +kernel
theorem dX9_body_284 : decode cX9_body 284 = .ok (.aload_n 0, 1) := by decide +kernel
theorem dX9_body_285 : decode cX9_body 285 = .ok (.iconst 2, 1) := by decide +kernel
theorem dX9_body_286 : decode cX9_body 286 = .ok (.aload_n 0, 1) := by decide +kernel
theorem dX9_body_287 : decode cX9_body 287 = .ok (.getfield 314, 3) := by decide +kernel
theorem dX9_body_290 : decode cX9_body 290 = .ok (.invokevirtual 322, 3) := by decide +kernel
theorem dX9_body_293 : decode cX9_body 293 = .ok (.iadd, 1) := by decide +kernel
theorem dX9_body_294 : decode cX9_body 294 = .ok (.ireturn, 1) := by decide +kernel
theorem dX9_itsOf_0 : decode cX9_itsOf 0 = .ok (.iload_n 1, 1) := by decide +kernel
theorem dX9_itsOf_1 : decode cX9_itsOf 1 = .ok (.bipush 6, 2) := by decide +kernel
theorem dX9_itsOf_3 : decode cX9_itsOf 3 = .ok (.if_icmp .ne 10, 3) := by decide +kernel
theorem dX9_itsOf_6 : decode cX9_itsOf 6 = .ok (.aload_n 0, 1) := by decide +kernel
theorem dX9_itsOf_7 : decode cX9_itsOf 7 = .ok (.iload_n 2, 1) := by decide +kernel
theorem dX9_itsOf_8 : decode cX9_itsOf 8 = .ok (.iconst 0, 1) := by decide +kernel
theorem dX9_itsOf_9 : decode cX9_itsOf 9 = .ok (.invokevirtual 116, 3) := by decide +kernel
theorem dX9_itsOf_12 : decode cX9_itsOf 12 = .ok (.ireturn, 1) := by decide +kernel
theorem dX9_itsOf_13 : decode cX9_itsOf 13 = .ok (.iload_n 1, 1) := by decide +kernel
theorem dX9_itsOf_14 : decode cX9_itsOf 14 = .ok (.ifCond .eq 8, 3) := by decide +kernel
theorem dX9_itsOf_17 : decode cX9_itsOf 17 = .ok (.iload_n 1, 1) := by decide +kernel
theorem dX9_itsOf_18 : decode cX9_itsOf 18 = .ok (.iconst 2, 1) := by decide +kernel
theorem dX9_itsOf_19 : decode cX9_itsOf 19 = .ok (.if_icmp .ne 15, 3) := by decide +kernel
theorem dX9_itsOf_22 : decode cX9_itsOf 22 = .ok (.aload_n 0, 1) := by decide +kernel
theorem dX9_itsOf_23 : decode cX9_itsOf 23 = .ok (.invokevirtual 141, 3) := by decide +kernel
theorem dX9_itsOf_26 : decode cX9_itsOf 26 = .ok (.istore_n 3, 1) := by decide +kernel
theorem dX9_itsOf_27 : decode cX9_itsOf 27 = .ok (.aload_n 0, 1) := by decide +kernel
theorem dX9_itsOf_28 : decode cX9_itsOf 28 = .ok (.getfield 31, 3) := by decide +kernel
theorem dX9_itsOf_31 : decode cX9_itsOf 31 = .ok (.iload_n 2, 1) := by decide +kernel
theorem dX9_itsOf_32 : decode cX9_itsOf 32 = .ok (.iaload, 1) := by decide +kernel
theorem dX9_itsOf_33 : decode cX9_itsOf 33 = .ok (.ireturn, 1) := by decide +kernel
theorem dX9_itsOf_34 : decode cX9_itsOf 34 = .ok (.aload_n 0, 1) := by decide +kernel
theorem dX9_itsOf_35 : decode cX9_itsOf 35 = .ok (.iload_n 1, 1) := by decide +kernel
theorem dX9_itsOf_36 : decode cX9_itsOf 36 = .ok (.iconst 1, 1) := by decide +kernel
theorem dX9_itsOf_37 : decode cX9_itsOf 37 = .ok (.if_icmp .ne 7, 3) := by decide +kernel
theorem dX9_itsOf_40 : decode cX9_itsOf 40 = .ok (.iconst 0, 1) := by decide +kernel
theorem dX9_itsOf_41 : decode cX9_itsOf 41 = .ok (.goto 22, 3) := by decide +kernel
theorem dX9_itsOf_44 : decode cX9_itsOf 44 = .ok (.iload_n 1, 1) := by decide +kernel
theorem dX9_itsOf_45 : decode cX9_itsOf 45 = .ok (.iconst 3, 1) := by decide +kernel
theorem dX9_itsOf_46 : decode cX9_itsOf 46 = .ok (.if_icmp .ne 7, 3) := by decide +kernel
theorem dX9_itsOf_49 : decode cX9_itsOf 49 = .ok (.iconst 1, 1) := by decide +kernel
theorem dX9_itsOf_50 : decode cX9_itsOf 50 = .ok (.goto 13, 3) := by decide +kernel
theorem dX9_itsOf_53 : decode cX9_itsOf 53 = .ok (.iload_n 1, 1) := by decide +kernel
theorem dX9_itsOf_54 : decode cX9_itsOf 54 = .ok (.iconst 4, 1) := by decide +kernel
theorem dX9_itsOf_55 : decode cX9_itsOf 55 = .ok (.if_icmp .ne 7, 3) := by decide +kernel
theorem dX9_itsOf_58 : decode cX9_itsOf 58 = .ok (.iconst 2, 1) := by decide +kernel
theorem dX9_itsOf_59 : decode cX9_itsOf 59 = .ok (.goto 4, 3) := by decide +kernel
theorem dX9_itsOf_62 : decode cX9_itsOf 62 = .ok (.iconst 3, 1) := by decide +kernel
theorem dX9_itsOf_63 : decode cX9_itsOf 63 = .ok (.invokevirtual 154, 3) := by decide +kernel
theorem dX9_itsOf_66 : decode cX9_itsOf 66 = .ok (.aload_n 0, 1) := by decide +kernel
theorem dX9_itsOf_67 : decode cX9_itsOf 67 = .ok (.getfield 34, 3) := by decide +kernel
theorem dX9_itsOf_70 : decode cX9_itsOf 70 = .ok (.iload_n 2, 1) := by decide +kernel
theorem dX9_itsOf_71 : decode cX9_itsOf 71 = .ok (.iaload, 1) := by decide +kernel
theorem dX9_itsOf_72 : decode cX9_itsOf 72 = .ok (.ireturn, 1) := by decide +kernel
theorem dX9_act_0 : decode cX9_act 0 = .ok (.aload_n 0, 1) := by decide +kernel
theorem dX9_act_1 : decode cX9_act 1 = .ok (.iconst 0, 1) := by decide +kernel
theorem dX9_act_2 : decode cX9_act 2 = .ok (.putfield 299, 3) := by decide +kernel
theorem dX9_act_5 : decode cX9_act 5 = .ok (.iload_n 1, 1) := by decide +kernel
theorem dX9_act_6 : decode cX9_act 6 = .ok (.invokestatic 287, 3) := by decide +kernel
theorem dX9_act_9 : decode cX9_act 9 = .ok (.ifCond .eq 18, 3) := by decide +kernel
theorem dX9_act_12 : decode cX9_act 12 = .ok (.iload_n 2, 1) := by decide +kernel
theorem dX9_act_13 : decode cX9_act 13 = .ok (.invokestatic 287, 3) := by decide +kernel
theorem dX9_act_16 : decode cX9_act 16 = .ok (.ifCond .eq 11, 3) := by decide +kernel
theorem dX9_act_19 : decode cX9_act 19 = .ok (.aload_n 0, 1) := by decide +kernel
theorem dX9_act_20 : decode cX9_act 20 = .ok (.iload_n 1, 1) := by decide +kernel
theorem dX9_act_21 : decode cX9_act 21 = .ok (.invokevirtual 293, 3) := by decide +kernel
theorem dX9_act_24 : decode cX9_act 24 = .ok (.ifCond .ne 5, 3) := by decide +kernel
theorem dX9_act_27 : decode cX9_act 27 = .ok (.iconst 0, 1) := by decide +kernel
theorem dX9_act_28 : decode cX9_act 28 = .ok (.ireturn, 1) := by decide +kernel
theorem dX9_act_29 : decode cX9_act 29 = .ok (.aload_n 0, 1) := by decide +kernel
theorem dX9_act_30 : decode cX9_act 30 = .ok (.aload_n 0, 1) := by decide +kernel
theorem dX9_act_31 : decode cX9_act 31 = .ok (.getfield 95, 3) := by decide +kernel
theorem dX9_act_34 : decode cX9_act 34 = .ok (.iload_n 1, 1) := by decide +kernel
theorem dX9_act_35 : decode cX9_act 35 = .ok (.iaload, 1) := by decide +kernel
theorem dX9_act_36 : decode cX9_act 36 = .ok (.putfield 302, 3) := by decide +kernel
theorem dX9_act_39 : decode cX9_act 39 = .ok (.aload_n 0, 1) := by decide +kernel
theorem dX9_act_40 : decode cX9_act 40 = .ok (.aload_n 0, 1) := by decide +kernel
theorem dX9_act_41 : decode cX9_act 41 = .ok (.getfield 98, 3) := by decide +kernel
theorem dX9_act_44 : decode cX9_act 44 = .ok (.iload_n 1, 1) := by decide +kernel
theorem dX9_act_45 : decode cX9_act 45 = .ok (.iaload, 1) := by decide +kernel
theorem dX9_act_46 : decode cX9_act 46 = .ok (.putfield 314, 3) := by decide +kernel
theorem dX9_act_49 : decode cX9_act 49 = .ok (.aload_n 0, 1) := by decide +kernel
theorem dX9_act_50 : decode cX9_act 50 = .ok (.aload_n 0, 1) := by decide +kernel
theorem dX9_act_51 : decode cX9_act 51 = .ok (.aload_n 0, 1) := by decide +kernel
theorem dX9_act_52 : decode cX9_act 52 = .ok (.getfield 302, 3) := by decide +kernel
theorem dX9_act_55 : decode cX9_act 55 = .ok (.aload_n 0, 1) := by decide +kernel
theorem dX9_act_56 : decode cX9_act 56 = .ok (.getfield 314, 3) := by decide +kernel
theorem dX9_act_59 : decode cX9_act 59 = .ok (.invokevirtual 331, 3) := by decide +kernel
theorem dX9_act_62 : decode cX9_act 62 = .ok (.putfield 311, 3) := by decide +kernel
theorem dX9_act_65 : decode cX9_act 65 = .ok (.aload_n 0, 1) := by decide +kernel
theorem dX9_act_66 : decode cX9_act 66 = .ok (.iconst 0, 1) := by decide +kernel
theorem dX9_act_67 : decode cX9_act 67 = .ok (.putfield 316, 3) := by decide +kernel
theorem dX9_act_70 : decode cX9_act 70 = .ok (.aload_n 0, 1) := by decide +kernel
theorem dX9_act_71 : decode cX9_act 71 = .ok (.iload_n 2, 1) := by decide +kernel
theorem dX9_act_72 : decode cX9_act 72 = .ok (.iload_n 3, 1) := by decide +kernel
theorem dX9_act_73 : decode cX9_act 73 = .ok (.invokevirtual 322, 3) := by decide +kernel
theorem dX9_act_76 : decode cX9_act 76 = .ok (.istore 4, 2) := by decide +kernel
theorem dX9_act_78 : decode cX9_act 78 = .ok (.aload_n 0, 1) := by decide +kernel
theorem dX9_act_79 : decode cX9_act 79 = .ok (.getfield 316, 3) := by decide +kernel
theorem dX9_act_82 : decode cX9_act 82 = .ok (.ifCond .eq 8, 3) := by decide +kernel
theorem dX9_act_85 : decode cX9_act 85 = .ok (.bipush (-15), 2) := by decide +kernel
theorem dX9_act_87 : decode cX9_act 87 = .ok (.goto 5, 3) := by decide +kernel
theorem dX9_act_90 : decode cX9_act 90 = .ok (.iload 4, 2) := by decide +kernel
theorem dX9_act_92 : decode cX9_act 92 = .ok (.ireturn, 1) := by decide +kernel
theorem dX9_trace_0 : decode cX9_trace 0 = .ok (.iload_n 1, 1) := by decide +kernel
theorem dX9_trace_1 : decode cX9_trace 1 = .ok (.iconst 0, 1) := by decide +kernel
theorem dX9_trace_2 : decode cX9_trace 2 = .ok (.aload_n 0, 1) := by decide +kernel
theorem dX9_trace_3 : decode cX9_trace 3 = .ok (.getfield 299, 3) := by decide +kernel
theorem dX9_trace_6 : decode cX9_trace 6 = .ok (.iconst 1, 1) := by decide +kernel
theorem dX9_trace_7 : decode cX9_trace 7 = .ok (.isub, 1) := by decide +kernel
theorem dX9_trace_8 : decode cX9_trace 8 = .ok (.invokestatic 104, 3) := by decide +kernel
theorem dX9_trace_11 : decode cX9_trace 11 = .ok (.ifCond .eq 12, 3) := by decide +kernel
theorem dX9_trace_14 : decode cX9_trace 14 = .ok (.aload_n 0, 1) := by decide +kernel
theorem dX9_trace_15 : decode cX9_trace 15 = .ok (.getfield 101, 3) := by decide +kernel
theorem dX9_trace_18 : decode cX9_trace 18 = .ok (.iload_n 1, 1) := by decide +kernel
theorem dX9_trace_19 : decode cX9_trace 19 = .ok (.iaload, 1) := by decide +kernel
theorem dX9_trace_20 : decode cX9_trace 20 = .ok (.goto 5, 3) := by decide +kernel
theorem dX9_trace_23 : decode cX9_trace 23 = .ok (.bipush (-3), 2) := by decide +kernel
theorem dX9_trace_25 : decode cX9_trace 25 = .ok (.ireturn, 1) := by decide +kernel
theorem dX9_many_0 : decode cX9_many 0 = .ok (.iload_n 1, 1) := by decide +kernel
theorem dX9_many_1 : decode cX9_many 1 = .ok (.tableswitch 97 0 7 #[47, 54, 61, 68, 73, 78, 83, 90], 47) := by decide +kernel
theorem dX9_many_48 : decode cX9_many 48 = .ok (.aload_n 0, 1) := by decide +kernel
theorem dX9_many_49 : decode cX9_many 49 = .ok (.getfield 9, 3) := by decide +kernel
theorem dX9_many_52 : decode cX9_many 52 = .ok (.iconst 0, 1) := by decide +kernel
theorem dX9_many_53 : decode cX9_many 53 = .ok (.iaload, 1) := by decide +kernel
theorem dX9_many_54 : decode cX9_many 54 = .ok (.ireturn, 1) := by decide +kernel
theorem dX9_many_55 : decode cX9_many 55 = .ok (.aload_n 0, 1) := by decide +kernel
theorem dX9_many_56 : decode cX9_many 56 = .ok (.getfield 9, 3) := by decide +kernel
theorem dX9_many_59 : decode cX9_many 59 = .ok (.iconst 1, 1) := by decide +kernel
theorem dX9_many_60 : decode cX9_many 60 = .ok (.iaload, 1) := by decide +kernel
theorem dX9_many_61 : decode cX9_many 61 = .ok (.ireturn, 1) := by decide +kernel
theorem dX9_many_62 : decode cX9_many 62 = .ok (.aload_n 0, 1) := by decide +kernel
theorem dX9_many_63 : decode cX9_many 63 = .ok (.getfield 9, 3) := by decide +kernel
theorem dX9_many_66 : decode cX9_many 66 = .ok (.iconst 2, 1) := by decide +kernel
theorem dX9_many_67 : decode cX9_many 67 = .ok (.iaload, 1) := by decide +kernel
theorem dX9_many_68 : decode cX9_many 68 = .ok (.ireturn, 1) := by decide +kernel
theorem dX9_many_69 : decode cX9_many 69 = .ok (.aload_n 0, 1) := by decide +kernel
theorem dX9_many_70 : decode cX9_many 70 = .ok (.getfield 281, 3) := by decide +kernel
theorem dX9_many_73 : decode cX9_many 73 = .ok (.ireturn, 1) := by decide +kernel
theorem dX9_many_74 : decode cX9_many 74 = .ok (.aload_n 0, 1) := by decide +kernel
theorem dX9_many_75 : decode cX9_many 75 = .ok (.getfield 169, 3) := by decide +kernel
theorem dX9_many_78 : decode cX9_many 78 = .ok (.ireturn, 1) := by decide +kernel
theorem dX9_many_79 : decode cX9_many 79 = .ok (.aload_n 0, 1) := by decide +kernel
theorem dX9_many_80 : decode cX9_many 80 = .ok (.getfield 299, 3) := by decide +kernel
theorem dX9_many_83 : decode cX9_many 83 = .ok (.ireturn, 1) := by decide +kernel
theorem dX9_many_84 : decode cX9_many 84 = .ok (.aload_n 0, 1) := by decide +kernel
theorem dX9_many_85 : decode cX9_many 85 = .ok (.getfield 9, 3) := by decide +kernel
theorem dX9_many_88 : decode cX9_many 88 = .ok (.iconst 5, 1) := by decide +kernel
theorem dX9_many_89 : decode cX9_many 89 = .ok (.iaload, 1) := by decide +kernel
theorem dX9_many_90 : decode cX9_many 90 = .ok (.ireturn, 1) := by decide +kernel
theorem dX9_many_91 : decode cX9_many 91 = .ok (.aload_n 0, 1) := by decide +kernel
theorem dX9_many_92 : decode cX9_many 92 = .ok (.getfield 9, 3) := by decide +kernel
theorem dX9_many_95 : decode cX9_many 95 = .ok (.iconst 4, 1) := by decide +kernel
theorem dX9_many_96 : decode cX9_many 96 = .ok (.iaload, 1) := by decide +kernel
theorem dX9_many_97 : decode cX9_many 97 = .ok (.ireturn, 1) := by decide +kernel
theorem dX9_many_98 : decode cX9_many 98 = .ok (.iconst (-1), 1) := by decide +kernel
theorem dX9_many_99 : decode cX9_many 99 = .ok (.ireturn, 1) := by decide +kernel
theorem dX9_keep_0 : decode cX9_keep 0 = .ok (.iconst 0, 1) := by decide +kernel
theorem dX9_keep_1 : decode cX9_keep 1 = .ok (.istore_n 1, 1) := by decide +kernel
theorem dX9_keep_2 : decode cX9_keep 2 = .ok (.iload_n 1, 1) := by decide +kernel
theorem dX9_keep_3 : decode cX9_keep 3 = .ok (.sipush 356, 3) := by decide +kernel
theorem dX9_keep_6 : decode cX9_keep 6 = .ok (.if_icmp .ge 21, 3) := by decide +kernel
theorem dX9_keep_9 : decode cX9_keep 9 = .ok (.aload_n 0, 1) := by decide +kernel
theorem dX9_keep_10 : decode cX9_keep 10 = .ok (.getfield 13, 3) := by decide +kernel
theorem dX9_keep_13 : decode cX9_keep 13 = .ok (.iload_n 1, 1) := by decide +kernel
theorem dX9_keep_14 : decode cX9_keep 14 = .ok (.aload_n 0, 1) := by decide +kernel
theorem dX9_keep_15 : decode cX9_keep 15 = .ok (.getfield 9, 3) := by decide +kernel
theorem dX9_keep_18 : decode cX9_keep 18 = .ok (.iload_n 1, 1) := by decide +kernel
theorem dX9_keep_19 : decode cX9_keep 19 = .ok (.iaload, 1) := by decide +kernel
theorem dX9_keep_20 : decode cX9_keep 20 = .ok (.iastore, 1) := by decide +kernel
theorem dX9_keep_21 : decode cX9_keep 21 = .ok (.iinc 1 1, 3) := by decide +kernel
theorem dX9_keep_24 : decode cX9_keep 24 = .ok (.goto (-22), 3) := by decide +kernel
theorem dX9_keep_27 : decode cX9_keep 27 = .ok (.aload_n 0, 1) := by decide +kernel
theorem dX9_keep_28 : decode cX9_keep 28 = .ok (.iconst 1, 1) := by decide +kernel
theorem dX9_keep_29 : decode cX9_keep 29 = .ok (.putfield 334, 3) := by decide +kernel
theorem dX9_keep_32 : decode cX9_keep 32 = .ok (.iconst 1, 1) := by decide +kernel
theorem dX9_keep_33 : decode cX9_keep 33 = .ok (.ireturn, 1) := by decide +kernel
theorem dX9_again_0 : decode cX9_again 0 = .ok (.aload_n 0, 1) := by decide +kernel
theorem dX9_again_1 : decode cX9_again 1 = .ok (.getfield 334, 3) := by decide +kernel
theorem dX9_again_4 : decode cX9_again 4 = .ok (.ifCond .ne 6, 3) := by decide +kernel
theorem dX9_again_7 : decode cX9_again 7 = .ok (.bipush (-3), 2) := by decide +kernel
theorem dX9_again_9 : decode cX9_again 9 = .ok (.ireturn, 1) := by decide +kernel
theorem dX9_again_10 : decode cX9_again 10 = .ok (.iconst 0, 1) := by decide +kernel
theorem dX9_again_11 : decode cX9_again 11 = .ok (.istore_n 1, 1) := by decide +kernel
theorem dX9_again_12 : decode cX9_again 12 = .ok (.iload_n 1, 1) := by decide +kernel
theorem dX9_again_13 : decode cX9_again 13 = .ok (.sipush 356, 3) := by decide +kernel
theorem dX9_again_16 : decode cX9_again 16 = .ok (.if_icmp .ge 21, 3) := by decide +kernel
theorem dX9_again_19 : decode cX9_again 19 = .ok (.aload_n 0, 1) := by decide +kernel
theorem dX9_again_20 : decode cX9_again 20 = .ok (.getfield 9, 3) := by decide +kernel
theorem dX9_again_23 : decode cX9_again 23 = .ok (.iload_n 1, 1) := by decide +kernel
theorem dX9_again_24 : decode cX9_again 24 = .ok (.aload_n 0, 1) := by decide +kernel
theorem dX9_again_25 : decode cX9_again 25 = .ok (.getfield 13, 3) := by decide +kernel
theorem dX9_again_28 : decode cX9_again 28 = .ok (.iload_n 1, 1) := by decide +kernel
theorem dX9_again_29 : decode cX9_again 29 = .ok (.iaload, 1) := by decide +kernel
theorem dX9_again_30 : decode cX9_again 30 = .ok (.iastore, 1) := by decide +kernel
theorem dX9_again_31 : decode cX9_again 31 = .ok (.iinc 1 1, 3) := by decide +kernel
theorem dX9_again_34 : decode cX9_again 34 = .ok (.goto (-22), 3) := by decide +kernel
theorem dX9_again_37 : decode cX9_again 37 = .ok (.iconst 1, 1) := by decide +kernel
theorem dX9_again_38 : decode cX9_again 38 = .ok (.ireturn, 1) := by decide +kernel
end
section
theorem dX8_init_0 : decode cX8_init 0 = .ok (.aload_n 0, 1) := by decide +kernel
theorem dX8_init_1 : decode cX8_init 1 = .ok (.invokespecial 3, 3) := by decide +kernel
theorem dX8_init_4 : decode cX8_init 4 = .ok (.aload_n 0, 1) := by decide +kernel
theorem dX8_init_5 : decode cX8_init 5 = .ok (.new 9, 3) := by decide +kernel
theorem dX8_init_8 : decode cX8_init 8 = .ok (.dup, 1) := by decide +kernel
theorem dX8_init_9 : decode cX8_init 9 = .ok (.invokespecial 11, 3) := by decide +kernel
theorem dX8_init_12 : decode cX8_init 12 = .ok (.putfield 12, 3) := by decide +kernel
theorem dX8_init_15 : decode cX8_init 15 = .ok (.aload_n 0, 1) := by decide +kernel
theorem dX8_init_16 : decode cX8_init 16 = .ok (.new 9, 3) := by decide +kernel
theorem dX8_init_19 : decode cX8_init 19 = .ok (.dup, 1) := by decide +kernel
theorem dX8_init_20 : decode cX8_init 20 = .ok (.invokespecial 11, 3) := by decide +kernel
theorem dX8_init_23 : decode cX8_init 23 = .ok (.putfield 16, 3) := by decide +kernel
theorem dX8_init_26 : decode cX8_init 26 = .ok (.aload_n 0, 1) := by decide +kernel
theorem dX8_init_27 : decode cX8_init 27 = .ok (.iconst 0, 1) := by decide +kernel
theorem dX8_init_28 : decode cX8_init 28 = .ok (.putfield 19, 3) := by decide +kernel
theorem dX8_init_31 : decode cX8_init 31 = .ok (.aload_n 0, 1) := by decide +kernel
theorem dX8_init_32 : decode cX8_init 32 = .ok (.new 23, 3) := by decide +kernel
theorem dX8_init_35 : decode cX8_init 35 = .ok (.dup, 1) := by decide +kernel
theorem dX8_init_36 : decode cX8_init 36 = .ok (.invokespecial 25, 3) := by decide +kernel
theorem dX8_init_39 : decode cX8_init 39 = .ok (.putfield 26, 3) := by decide +kernel
theorem dX8_init_42 : decode cX8_init 42 = .ok (.aload_n 0, 1) := by decide +kernel
theorem dX8_init_43 : decode cX8_init 43 = .ok (.new 30, 3) := by decide +kernel
theorem dX8_init_46 : decode cX8_init 46 = .ok (.dup, 1) := by decide +kernel
theorem dX8_init_47 : decode cX8_init 47 = .ok (.invokespecial 32, 3) := by decide +kernel
theorem dX8_init_50 : decode cX8_init 50 = .ok (.putfield 33, 3) := by decide +kernel
theorem dX8_init_53 : decode cX8_init 53 = .ok (.aload_n 0, 1) := by decide +kernel
theorem dX8_init_54 : decode cX8_init 54 = .ok (.new 37, 3) := by decide +kernel
theorem dX8_init_57 : decode cX8_init 57 = .ok (.dup, 1) := by decide +kernel
theorem dX8_init_58 : decode cX8_init 58 = .ok (.invokespecial 39, 3) := by decide +kernel
theorem dX8_init_61 : decode cX8_init 61 = .ok (.putfield 40, 3) := by decide +kernel
theorem dX8_init_64 : decode cX8_init 64 = .ok (.aload_n 0, 1) := by decide +kernel
theorem dX8_init_65 : decode cX8_init 65 = .ok (.new 44, 3) := by decide +kernel
theorem dX8_init_68 : decode cX8_init 68 = .ok (.dup, 1) := by decide +kernel
theorem dX8_init_69 : decode cX8_init 69 = .ok (.invokespecial 46, 3) := by decide +kernel
theorem dX8_init_72 : decode cX8_init 72 = .ok (.putfield 47, 3) := by decide +kernel
theorem dX8_init_75 : decode cX8_init 75 = .ok (.aload_n 0, 1) := by decide +kernel
theorem dX8_init_76 : decode cX8_init 76 = .ok (.bipush 6, 2) := by decide +kernel
theorem dX8_init_78 : decode cX8_init 78 = .ok (.newarray .int, 2) := by decide +kernel
theorem dX8_init_80 : decode cX8_init 80 = .ok (.putfield 51, 3) := by decide +kernel
theorem dX8_init_83 : decode cX8_init 83 = .ok (.aload_n 0, 1) := by decide +kernel
theorem dX8_init_84 : decode cX8_init 84 = .ok (.bipush 6, 2) := by decide +kernel
theorem dX8_init_86 : decode cX8_init 86 = .ok (.iconst 3, 1) := by decide +kernel
theorem dX8_init_87 : decode cX8_init 87 = .ok (.multianewarray 55 2, 4) := by decide +kernel
theorem dX8_init_91 : decode cX8_init 91 = .ok (.putfield 57, 3) := by decide +kernel
theorem dX8_init_94 : decode cX8_init 94 = .ok (.aload_n 0, 1) := by decide +kernel
theorem dX8_init_95 : decode cX8_init 95 = .ok (.iconst 0, 1) := by decide +kernel
theorem dX8_init_96 : decode cX8_init 96 = .ok (.putfield 60, 3) := by decide +kernel
theorem dX8_init_99 : decode cX8_init 99 = .ok (.aload_n 0, 1) := by decide +kernel
theorem dX8_init_100 : decode cX8_init 100 = .ok (.iconst 4, 1) := by decide +kernel
theorem dX8_init_101 : decode cX8_init 101 = .ok (.anewarray 64, 3) := by decide +kernel
theorem dX8_init_104 : decode cX8_init 104 = .ok (.putfield 66, 3) := by decide +kernel
theorem dX8_init_107 : decode cX8_init 107 = .ok (.aload_n 0, 1) := by decide +kernel
theorem dX8_init_108 : decode cX8_init 108 = .ok (.iconst 4, 1) := by decide +kernel
theorem dX8_init_109 : decode cX8_init 109 = .ok (.newarray .int, 2) := by decide +kernel
theorem dX8_init_111 : decode cX8_init 111 = .ok (.putfield 70, 3) := by decide +kernel
theorem dX8_init_114 : decode cX8_init 114 = .ok (.aload_n 0, 1) := by decide +kernel
theorem dX8_init_115 : decode cX8_init 115 = .ok (.iconst 4, 1) := by decide +kernel
theorem dX8_init_116 : decode cX8_init 116 = .ok (.newarray .int, 2) := by decide +kernel
theorem dX8_init_118 : decode cX8_init 118 = .ok (.putfield 73, 3) := by decide +kernel
theorem dX8_init_121 : decode cX8_init 121 = .ok (.aload_n 0, 1) := by decide +kernel
theorem dX8_init_122 : decode cX8_init 122 = .ok (.new 76, 3) := by decide +kernel
theorem dX8_init_125 : decode cX8_init 125 = .ok (.dup, 1) := by decide +kernel
theorem dX8_init_126 : decode cX8_init 126 = .ok (.invokespecial 78, 3) := by decide +kernel
theorem dX8_init_129 : decode cX8_init 129 = .ok (.putfield 79, 3) := by decide +kernel
theorem dX8_init_132 : decode cX8_init 132 = .ok (.iconst 0, 1) := by decide +kernel
theorem dX8_init_133 : decode cX8_init 133 = .ok (.istore_n 1, 1) := by decide +kernel
theorem dX8_init_134 : decode cX8_init 134 = .ok (.iload_n 1, 1) := by decide +kernel
theorem dX8_init_135 : decode cX8_init 135 = .ok (.iconst 4, 1) := by decide +kernel
theorem dX8_init_136 : decode cX8_init 136 = .ok (.if_icmp .ge 22, 3) := by decide +kernel
theorem dX8_init_139 : decode cX8_init 139 = .ok (.aload_n 0, 1) := by decide +kernel
theorem dX8_init_140 : decode cX8_init 140 = .ok (.getfield 66, 3) := by decide +kernel
theorem dX8_init_143 : decode cX8_init 143 = .ok (.iload_n 1, 1) := by decide +kernel
theorem dX8_init_144 : decode cX8_init 144 = .ok (.new 64, 3) := by decide +kernel
theorem dX8_init_147 : decode cX8_init 147 = .ok (.dup, 1) := by decide +kernel
theorem dX8_init_148 : decode cX8_init 148 = .ok (.invokespecial 83, 3) := by decide +kernel
theorem dX8_init_151 : decode cX8_init 151 = .ok (.aastore, 1) := by decide +kernel
theorem dX8_init_152 : decode cX8_init 152 = .ok (.iinc 1 1, 3) := by decide +kernel
theorem dX8_init_155 : decode cX8_init 155 = .ok (.goto (-21), 3) := by decide +kernel
theorem dX8_init_158 : decode cX8_init 158 = .ok (.aload_n 0, 1) := by decide +kernel
theorem dX8_init_159 : decode cX8_init 159 = .ok (.getfield 70, 3) := by decide +kernel
theorem dX8_init_162 : decode cX8_init 162 = .ok (.iconst (-1), 1) := by decide +kernel
theorem dX8_init_163 : decode cX8_init 163 = .ok (.invokestatic 84, 3) := by decide +kernel
theorem dX8_init_166 : decode cX8_init 166 = .ok (.return_, 1) := by decide +kernel
theorem dX8_village_0 : decode cX8_village 0 = .ok (.iconst 0, 1) := by decide +kernel
theorem dX8_village_1 : decode cX8_village 1 = .ok (.iload_n 1, 1) := by decide +kernel
theorem dX8_village_2 : decode cX8_village 2 = .ok (.invokestatic 90, 3) := by decide +kernel
theorem dX8_village_5 : decode cX8_village 5 = .ok (.ifCond .ne 5, 3) := by decide +kernel
theorem dX8_village_8 : decode cX8_village 8 = .ok (.iconst (-1), 1) := by decide +kernel
theorem dX8_village_9 : decode cX8_village 9 = .ok (.ireturn, 1) := by decide +kernel
theorem dX8_village_10 : decode cX8_village 10 = .ok (.aload_n 0, 1) := by decide +kernel
theorem dX8_village_11 : decode cX8_village 11 = .ok (.getfield 12, 3) := by decide +kernel
theorem dX8_village_14 : decode cX8_village 14 = .ok (.getfield 94, 3) := by decide +kernel
theorem dX8_village_17 : decode cX8_village 17 = .ok (.bipush 6, 2) := by decide +kernel
theorem dX8_village_19 : decode cX8_village 19 = .ok (.if_icmp .ne 6, 3) := by decide +kernel
theorem dX8_village_22 : decode cX8_village 22 = .ok (.bipush (-2), 2) := by decide +kernel
theorem dX8_village_24 : decode cX8_village 24 = .ok (.ireturn, 1) := by decide +kernel
theorem dX8_village_25 : decode cX8_village 25 = .ok (.aload_n 0, 1) := by decide +kernel
theorem dX8_village_26 : decode cX8_village 26 = .ok (.getfield 12, 3) := by decide +kernel
theorem dX8_village_29 : decode cX8_village 29 = .ok (.iload_n 1, 1) := by decide +kernel
theorem dX8_village_30 : decode cX8_village 30 = .ok (.invokevirtual 97, 3) := by decide +kernel
theorem dX8_village_33 : decode cX8_village 33 = .ok (.ireturn, 1) := by decide +kernel
theorem dX8_villageOf_0 : decode cX8_villageOf 0 = .ok (.aload_n 0, 1) := by decide +kernel
theorem dX8_villageOf_1 : decode cX8_villageOf 1 = .ok (.iload_n 1, 1) := by decide +kernel
theorem dX8_villageOf_2 : decode cX8_villageOf 2 = .ok (.invokevirtual 101, 3) := by decide +kernel
theorem dX8_villageOf_5 : decode cX8_villageOf 5 = .ok (.ifCond .eq 26, 3) := by decide +kernel
theorem dX8_villageOf_8 : decode cX8_villageOf 8 = .ok (.iload_n 2, 1) := by decide +kernel
theorem dX8_villageOf_9 : decode cX8_villageOf 9 = .ok (.iconst 0, 1) := by decide +kernel
theorem dX8_villageOf_10 : decode cX8_villageOf 10 = .ok (.iconst 5, 1) := by decide +kernel
theorem dX8_villageOf_11 : decode cX8_villageOf 11 = .ok (.invokestatic 105, 3) := by decide +kernel
theorem dX8_villageOf_14 : decode cX8_villageOf 14 = .ok (.ifCond .eq 17, 3) := by decide +kernel
theorem dX8_villageOf_17 : decode cX8_villageOf 17 = .ok (.aload_n 0, 1) := by decide +kernel
theorem dX8_villageOf_18 : decode cX8_villageOf 18 = .ok (.getfield 12, 3) := by decide +kernel
theorem dX8_villageOf_21 : decode cX8_villageOf 21 = .ok (.getfield 109, 3) := by decide +kernel
theorem dX8_villageOf_24 : decode cX8_villageOf 24 = .ok (.iload_n 1, 1) := by decide +kernel
theorem dX8_villageOf_25 : decode cX8_villageOf 25 = .ok (.aaload, 1) := by decide +kernel
theorem dX8_villageOf_26 : decode cX8_villageOf 26 = .ok (.iload_n 2, 1) := by decide +kernel
theorem dX8_villageOf_27 : decode cX8_villageOf 27 = .ok (.iaload, 1) := by decide +kernel
theorem dX8_villageOf_28 : decode cX8_villageOf 28 = .ok (.goto 4, 3) := by decide +kernel
theorem dX8_villageOf_31 : decode cX8_villageOf 31 = .ok (.iconst (-1), 1) := by decide +kernel
theorem dX8_villageOf_32 : decode cX8_villageOf 32 = .ok (.ireturn, 1) := by decide +kernel
theorem dX8_set_0 : decode cX8_set 0 = .ok (.aload_n 0, 1) := by decide +kernel
theorem dX8_set_1 : decode cX8_set 1 = .ok (.iload_n 1, 1) := by decide +kernel
theorem dX8_set_2 : decode cX8_set 2 = .ok (.invokevirtual 101, 3) := by decide +kernel
theorem dX8_set_5 : decode cX8_set 5 = .ok (.ifCond .eq 20, 3) := by decide +kernel
theorem dX8_set_8 : decode cX8_set 8 = .ok (.iload_n 2, 1) := by decide +kernel
theorem dX8_set_9 : decode cX8_set 9 = .ok (.iconst 0, 1) := by decide +kernel
theorem dX8_set_10 : decode cX8_set 10 = .ok (.iconst 5, 1) := by decide +kernel
theorem dX8_set_11 : decode cX8_set 11 = .ok (.invokestatic 105, 3) := by decide +kernel
theorem dX8_set_14 : decode cX8_set 14 = .ok (.ifCond .eq 11, 3) := by decide +kernel
theorem dX8_set_17 : decode cX8_set 17 = .ok (.iload_n 2, 1) := by decide +kernel
theorem dX8_set_18 : decode cX8_set 18 = .ok (.iload_n 3, 1) := by decide +kernel
theorem dX8_set_19 : decode cX8_set 19 = .ok (.invokestatic 90, 3) := by decide +kernel
theorem dX8_set_22 : decode cX8_set 22 = .ok (.ifCond .ne 5, 3) := by decide +kernel
theorem dX8_set_25 : decode cX8_set 25 = .ok (.iconst (-1), 1) := by decide +kernel
theorem dX8_set_26 : decode cX8_set 26 = .ok (.ireturn, 1) := by decide +kernel
theorem dX8_set_27 : decode cX8_set 27 = .ok (.aload_n 0, 1) := by decide +kernel
theorem dX8_set_28 : decode cX8_set 28 = .ok (.getfield 12, 3) := by decide +kernel
theorem dX8_set_31 : decode cX8_set 31 = .ok (.getfield 109, 3) := by decide +kernel
theorem dX8_set_34 : decode cX8_set 34 = .ok (.iload_n 1, 1) := by decide +kernel
theorem dX8_set_35 : decode cX8_set 35 = .ok (.aaload, 1) := by decide +kernel
theorem dX8_set_36 : decode cX8_set 36 = .ok (.iload_n 2, 1) := by decide +kernel
theorem dX8_set_37 : decode cX8_set 37 = .ok (.iaload, 1) := by decide +kernel
theorem dX8_set_38 : decode cX8_set 38 = .ok (.istore 4, 2) := by decide +kernel
theorem dX8_set_40 : decode cX8_set 40 = .ok (.aload_n 0, 1) := by decide +kernel
theorem dX8_set_41 : decode cX8_set 41 = .ok (.getfield 12, 3) := by decide +kernel
theorem dX8_set_44 : decode cX8_set 44 = .ok (.getfield 109, 3) := by decide +kernel
theorem dX8_set_47 : decode cX8_set 47 = .ok (.iload_n 1, 1) := by decide +kernel
theorem dX8_set_48 : decode cX8_set 48 = .ok (.aaload, 1) := by decide +kernel
theorem dX8_set_49 : decode cX8_set 49 = .ok (.iload_n 2, 1) := by decide +kernel
theorem dX8_set_50 : decode cX8_set 50 = .ok (.iload_n 3, 1) := by decide +kernel
theorem dX8_set_51 : decode cX8_set 51 = .ok (.iastore, 1) := by decide +kernel
theorem dX8_set_52 : decode cX8_set 52 = .ok (.iload 4, 2) := by decide +kernel
theorem dX8_set_54 : decode cX8_set 54 = .ok (.ireturn, 1) := by decide +kernel
theorem dX8_worths_0 : decode cX8_worths 0 = .ok (.aload_n 0, 1) := by decide +kernel
theorem dX8_worths_1 : decode cX8_worths 1 = .ok (.iload_n 1, 1) := by decide +kernel
theorem dX8_worths_2 : decode cX8_worths 2 = .ok (.invokevirtual 101, 3) := by decide +kernel
theorem dX8_worths_5 : decode cX8_worths 5 = .ok (.ifCond .eq 10, 3) := by decide +kernel
theorem dX8_worths_8 : decode cX8_worths 8 = .ok (.iload_n 2, 1) := by decide +kernel
theorem dX8_worths_9 : decode cX8_worths 9 = .ok (.invokestatic 112, 3) := by decide +kernel
theorem dX8_worths_12 : decode cX8_worths 12 = .ok (.ifCond .ne 5, 3) := by decide +kernel
theorem dX8_worths_15 : decode cX8_worths 15 = .ok (.iconst (-1), 1) := by decide +kernel
theorem dX8_worths_16 : decode cX8_worths 16 = .ok (.ireturn, 1) := by decide +kernel
theorem dX8_worths_17 : decode cX8_worths 17 = .ok (.aload_n 0, 1) := by decide +kernel
theorem dX8_worths_18 : decode cX8_worths 18 = .ok (.getfield 66, 3) := by decide +kernel
theorem dX8_worths_21 : decode cX8_worths 21 = .ok (.iload_n 2, 1) := by decide +kernel
theorem dX8_worths_22 : decode cX8_worths 22 = .ok (.aaload, 1) := by decide +kernel
theorem dX8_worths_23 : decode cX8_worths 23 = .ok (.iconst 0, 1) := by decide +kernel
theorem dX8_worths_24 : decode cX8_worths 24 = .ok (.invokevirtual 115, 3) := by decide +kernel
theorem dX8_worths_27 : decode cX8_worths 27 = .ok (.istore_n 3, 1) := by decide +kernel
theorem dX8_worths_28 : decode cX8_worths 28 = .ok (.iload_n 3, 1) := by decide +kernel
theorem dX8_worths_29 : decode cX8_worths 29 = .ok (.ifCond .eq 5, 3) := by decide +kernel
theorem dX8_worths_32 : decode cX8_worths 32 = .ok (.iload_n 3, 1) := by decide +kernel
theorem dX8_worths_33 : decode cX8_worths 33 = .ok (.ireturn, 1) := by decide +kernel
theorem dX8_worths_34 : decode cX8_worths 34 = .ok (.aload_n 0, 1) := by decide +kernel
theorem dX8_worths_35 : decode cX8_worths 35 = .ok (.getfield 66, 3) := by decide +kernel
theorem dX8_worths_38 : decode cX8_worths 38 = .ok (.iload_n 2, 1) := by decide +kernel
theorem dX8_worths_39 : decode cX8_worths 39 = .ok (.aaload, 1) := by decide +kernel
theorem dX8_worths_40 : decode cX8_worths 40 = .ok (.invokestatic 118, 3) := by decide +kernel
theorem dX8_worths_43 : decode cX8_worths 43 = .ok (.ifCond .ne 6, 3) := by decide +kernel
theorem dX8_worths_46 : decode cX8_worths 46 = .ok (.bipush (-4), 2) := by decide +kernel
theorem dX8_worths_48 : decode cX8_worths 48 = .ok (.ireturn, 1) := by decide +kernel
theorem dX8_worths_49 : decode cX8_worths 49 = .ok (.aload_n 0, 1) := by decide +kernel
theorem dX8_worths_50 : decode cX8_worths 50 = .ok (.getfield 12, 3) := by decide +kernel
theorem dX8_worths_53 : decode cX8_worths 53 = .ok (.iload_n 1, 1) := by decide +kernel
theorem dX8_worths_54 : decode cX8_worths 54 = .ok (.aload_n 0, 1) := by decide +kernel
theorem dX8_worths_55 : decode cX8_worths 55 = .ok (.getfield 66, 3) := by decide +kernel
theorem dX8_worths_58 : decode cX8_worths 58 = .ok (.iload_n 2, 1) := by decide +kernel
theorem dX8_worths_59 : decode cX8_worths 59 = .ok (.aaload, 1) := by decide +kernel
theorem dX8_worths_60 : decode cX8_worths 60 = .ok (.getfield 122, 3) := by decide +kernel
theorem dX8_worths_63 : decode cX8_worths 63 = .ok (.invokevirtual 125, 3) := by decide +kernel
theorem dX8_worths_66 : decode cX8_worths 66 = .ok (.iconst 1, 1) := by decide +kernel
theorem dX8_worths_67 : decode cX8_worths 67 = .ok (.ireturn, 1) := by decide +kernel
theorem dX8_worth_0 : decode cX8_worth 0 = .ok (.aload_n 0, 1) := by decide +kernel
theorem dX8_worth_1 : decode cX8_worth 1 = .ok (.iload_n 1, 1) := by decide +kernel
theorem dX8_worth_2 : decode cX8_worth 2 = .ok (.invokevirtual 101, 3) := by decide +kernel
theorem dX8_worth_5 : decode cX8_worth 5 = .ok (.ifCond .eq 27, 3) := by decide +kernel
theorem dX8_worth_8 : decode cX8_worth 8 = .ok (.iload_n 2, 1) := by decide +kernel
theorem dX8_worth_9 : decode cX8_worth 9 = .ok (.iconst 0, 1) := by decide +kernel
theorem dX8_worth_10 : decode cX8_worth 10 = .ok (.bipush 12, 2) := by decide +kernel
theorem dX8_worth_12 : decode cX8_worth 12 = .ok (.invokestatic 105, 3) := by decide +kernel
theorem dX8_worth_15 : decode cX8_worth 15 = .ok (.ifCond .eq 17, 3) := by decide +kernel
theorem dX8_worth_18 : decode cX8_worth 18 = .ok (.aload_n 0, 1) := by decide +kernel
theorem dX8_worth_19 : decode cX8_worth 19 = .ok (.getfield 12, 3) := by decide +kernel
theorem dX8_worth_22 : decode cX8_worth 22 = .ok (.getfield 129, 3) := by decide +kernel
theorem dX8_worth_25 : decode cX8_worth 25 = .ok (.iload_n 1, 1) := by decide +kernel
theorem dX8_worth_26 : decode cX8_worth 26 = .ok (.aaload, 1) := by decide +kernel
theorem dX8_worth_27 : decode cX8_worth 27 = .ok (.iload_n 2, 1) := by decide +kernel
theorem dX8_worth_28 : decode cX8_worth 28 = .ok (.iaload, 1) := by decide +kernel
theorem dX8_worth_29 : decode cX8_worth 29 = .ok (.goto 4, 3) := by decide +kernel
theorem dX8_worth_32 : decode cX8_worth 32 = .ok (.iconst (-1), 1) := by decide +kernel
theorem dX8_worth_33 : decode cX8_worth 33 = .ok (.ireturn, 1) := by decide +kernel
theorem dX8_best_0 : decode cX8_best 0 = .ok (.iload_n 1, 1) := by decide +kernel
theorem dX8_best_1 : decode cX8_best 1 = .ok (.invokestatic 132, 3) := by decide +kernel
theorem dX8_best_4 : decode cX8_best 4 = .ok (.ifCond .eq 11, 3) := by decide +kernel
theorem dX8_best_7 : decode cX8_best 7 = .ok (.aload_n 0, 1) := by decide +kernel
theorem dX8_best_8 : decode cX8_best 8 = .ok (.iload_n 1, 1) := by decide +kernel
theorem dX8_best_9 : decode cX8_best 9 = .ok (.invokevirtual 135, 3) := by decide +kernel
theorem dX8_best_12 : decode cX8_best 12 = .ok (.goto 5, 3) := by decide +kernel
theorem dX8_best_15 : decode cX8_best 15 = .ok (.ldc 138, 2) := by decide +kernel
theorem dX8_best_17 : decode cX8_best 17 = .ok (.ireturn, 1) := by decide +kernel
theorem dX8_use_0 : decode cX8_use 0 = .ok (.aload_n 0, 1) := by decide +kernel
theorem dX8_use_1 : decode cX8_use 1 = .ok (.iload_n 1, 1) := by decide +kernel
theorem dX8_use_2 : decode cX8_use 2 = .ok (.invokevirtual 101, 3) := by decide +kernel
theorem dX8_use_5 : decode cX8_use 5 = .ok (.ifCond .eq 12, 3) := by decide +kernel
theorem dX8_use_8 : decode cX8_use 8 = .ok (.iload_n 2, 1) := by decide +kernel
theorem dX8_use_9 : decode cX8_use 9 = .ok (.iconst 0, 1) := by decide +kernel
theorem dX8_use_10 : decode cX8_use 10 = .ok (.iconst 2, 1) := by decide +kernel
theorem dX8_use_11 : decode cX8_use 11 = .ok (.invokestatic 105, 3) := by decide +kernel
theorem dX8_use_14 : decode cX8_use 14 = .ok (.ifCond .ne 6, 3) := by decide +kernel
theorem dX8_use_17 : decode cX8_use 17 = .ok (.ldc 138, 2) := by decide +kernel
theorem dX8_use_19 : decode cX8_use 19 = .ok (.ireturn, 1) := by decide +kernel
theorem dX8_use_20 : decode cX8_use 20 = .ok (.aload_n 0, 1) := by decide +kernel
theorem dX8_use_21 : decode cX8_use 21 = .ok (.getfield 26, 3) := by decide +kernel
theorem dX8_use_24 : decode cX8_use 24 = .ok (.aload_n 0, 1) := by decide +kernel
theorem dX8_use_25 : decode cX8_use 25 = .ok (.getfield 12, 3) := by decide +kernel
theorem dX8_use_28 : decode cX8_use 28 = .ok (.bipush 10, 2) := by decide +kernel
theorem dX8_use_30 : decode cX8_use 30 = .ok (.invokevirtual 139, 3) := by decide +kernel
theorem dX8_use_33 : decode cX8_use 33 = .ok (.iload_n 2, 1) := by decide +kernel
theorem dX8_use_34 : decode cX8_use 34 = .ok (.ifCond .ne 13, 3) := by decide +kernel
theorem dX8_use_37 : decode cX8_use 37 = .ok (.aload_n 0, 1) := by decide +kernel
theorem dX8_use_38 : decode cX8_use 38 = .ok (.getfield 26, 3) := by decide +kernel
theorem dX8_use_41 : decode cX8_use 41 = .ok (.getfield 143, 3) := by decide +kernel
theorem dX8_use_44 : decode cX8_use 44 = .ok (.iload_n 1, 1) := by decide +kernel
theorem dX8_use_45 : decode cX8_use 45 = .ok (.iaload, 1) := by decide +kernel
theorem dX8_use_46 : decode cX8_use 46 = .ok (.ireturn, 1) := by decide +kernel
theorem dX8_use_47 : decode cX8_use 47 = .ok (.iload_n 2, 1) := by decide +kernel
theorem dX8_use_48 : decode cX8_use 48 = .ok (.iconst 1, 1) := by decide +kernel
theorem dX8_use_49 : decode cX8_use 49 = .ok (.if_icmp .ne 15, 3) := by decide +kernel
theorem dX8_use_52 : decode cX8_use 52 = .ok (.aload_n 0, 1) := by decide +kernel
theorem dX8_use_53 : decode cX8_use 53 = .ok (.getfield 26, 3) := by decide +kernel
theorem dX8_use_56 : decode cX8_use 56 = .ok (.getfield 146, 3) := by decide +kernel
theorem dX8_use_59 : decode cX8_use 59 = .ok (.iload_n 1, 1) := by decide +kernel
theorem dX8_use_60 : decode cX8_use 60 = .ok (.iaload, 1) := by decide +kernel
theorem dX8_use_61 : decode cX8_use 61 = .ok (.goto 12, 3) := by decide +kernel
theorem dX8_use_64 : decode cX8_use 64 = .ok (.aload_n 0, 1) := by decide +kernel
theorem dX8_use_65 : decode cX8_use 65 = .ok (.getfield 26, 3) := by decide +kernel
theorem dX8_use_68 : decode cX8_use 68 = .ok (.getfield 149, 3) := by decide +kernel
theorem dX8_use_71 : decode cX8_use 71 = .ok (.iload_n 1, 1) := by decide +kernel
theorem dX8_use_72 : decode cX8_use 72 = .ok (.iaload, 1) := by decide +kernel
theorem dX8_use_73 : decode cX8_use 73 = .ok (.ireturn, 1) := by decide +kernel
theorem dX8_price_0 : decode cX8_price 0 = .ok (.aload_n 0, 1) := by decide +kernel
theorem dX8_price_1 : decode cX8_price 1 = .ok (.iload_n 1, 1) := by decide +kernel
theorem dX8_price_2 : decode cX8_price 2 = .ok (.invokevirtual 101, 3) := by decide +kernel
theorem dX8_price_5 : decode cX8_price 5 = .ok (.ifCond .ne 6, 3) := by decide +kernel
theorem dX8_price_8 : decode cX8_price 8 = .ok (.ldc 138, 2) := by decide +kernel
theorem dX8_price_10 : decode cX8_price 10 = .ok (.ireturn, 1) := by decide +kernel
theorem dX8_price_11 : decode cX8_price 11 = .ok (.aload_n 0, 1) := by decide +kernel
theorem dX8_price_12 : decode cX8_price 12 = .ok (.bipush 10, 2) := by decide +kernel
theorem dX8_price_14 : decode cX8_price 14 = .ok (.invokevirtual 135, 3) := by decide +kernel
theorem dX8_price_17 : decode cX8_price 17 = .ok (.istore_n 2, 1) := by decide +kernel
theorem dX8_price_18 : decode cX8_price 18 = .ok (.aload_n 0, 1) := by decide +kernel
theorem dX8_price_19 : decode cX8_price 19 = .ok (.getfield 26, 3) := by decide +kernel
theorem dX8_price_22 : decode cX8_price 22 = .ok (.getfield 152, 3) := by decide +kernel
theorem dX8_price_25 : decode cX8_price 25 = .ok (.iload_n 1, 1) := by decide +kernel
theorem dX8_price_26 : decode cX8_price 26 = .ok (.dup2, 1) := by decide +kernel
theorem dX8_price_27 : decode cX8_price 27 = .ok (.iaload, 1) := by decide +kernel
theorem dX8_price_28 : decode cX8_price 28 = .ok (.iconst 1, 1) := by decide +kernel
theorem dX8_price_29 : decode cX8_price 29 = .ok (.iadd, 1) := by decide +kernel
theorem dX8_price_30 : decode cX8_price 30 = .ok (.iastore, 1) := by decide +kernel
theorem dX8_price_31 : decode cX8_price 31 = .ok (.aload_n 0, 1) := by decide +kernel
theorem dX8_price_32 : decode cX8_price 32 = .ok (.getfield 26, 3) := by decide +kernel
theorem dX8_price_35 : decode cX8_price 35 = .ok (.aload_n 0, 1) := by decide +kernel
theorem dX8_price_36 : decode cX8_price 36 = .ok (.getfield 12, 3) := by decide +kernel
theorem dX8_price_39 : decode cX8_price 39 = .ok (.iconst 0, 1) := by decide +kernel
theorem dX8_price_40 : decode cX8_price 40 = .ok (.aload_n 0, 1) := by decide +kernel
theorem dX8_price_41 : decode cX8_price 41 = .ok (.getfield 12, 3) := by decide +kernel
theorem dX8_price_44 : decode cX8_price 44 = .ok (.getfield 94, 3) := by decide +kernel
theorem dX8_price_47 : decode cX8_price 47 = .ok (.iconst 1, 1) := by decide +kernel
theorem dX8_price_48 : decode cX8_price 48 = .ok (.isub, 1) := by decide +kernel
theorem dX8_price_49 : decode cX8_price 49 = .ok (.invokevirtual 155, 3) := by decide +kernel
theorem dX8_price_52 : decode cX8_price 52 = .ok (.iload_n 2, 1) := by decide +kernel
theorem dX8_price_53 : decode cX8_price 53 = .ok (.isub, 1) := by decide +kernel
theorem dX8_price_54 : decode cX8_price 54 = .ok (.ireturn, 1) := by decide +kernel
theorem dX8_run_0 : decode cX8_run 0 = .ok (.aload_n 0, 1) := by decide +kernel
theorem dX8_run_1 : decode cX8_run 1 = .ok (.iload_n 1, 1) := by decide +kernel
theorem dX8_run_2 : decode cX8_run 2 = .ok (.invokevirtual 101, 3) := by decide +kernel
theorem dX8_run_5 : decode cX8_run 5 = .ok (.ifCond .eq 16, 3) := by decide +kernel
theorem dX8_run_8 : decode cX8_run 8 = .ok (.aload_n 0, 1) := by decide +kernel
theorem dX8_run_9 : decode cX8_run 9 = .ok (.iload_n 2, 1) := by decide +kernel
theorem dX8_run_10 : decode cX8_run 10 = .ok (.invokevirtual 101, 3) := by decide +kernel
theorem dX8_run_13 : decode cX8_run 13 = .ok (.ifCond .eq 8, 3) := by decide +kernel
theorem dX8_run_16 : decode cX8_run 16 = .ok (.iload_n 1, 1) := by decide +kernel
theorem dX8_run_17 : decode cX8_run 17 = .ok (.iload_n 2, 1) := by decide +kernel
theorem dX8_run_18 : decode cX8_run 18 = .ok (.if_icmp .le 6, 3) := by decide +kernel
theorem dX8_run_21 : decode cX8_run 21 = .ok (.ldc 138, 2) := by decide +kernel
theorem dX8_run_23 : decode cX8_run 23 = .ok (.ireturn, 1) := by decide +kernel
theorem dX8_run_24 : decode cX8_run 24 = .ok (.aload_n 0, 1) := by decide +kernel
theorem dX8_run_25 : decode cX8_run 25 = .ok (.getfield 26, 3) := by decide +kernel
theorem dX8_run_28 : decode cX8_run 28 = .ok (.aload_n 0, 1) := by decide +kernel
theorem dX8_run_29 : decode cX8_run 29 = .ok (.getfield 12, 3) := by decide +kernel
theorem dX8_run_32 : decode cX8_run 32 = .ok (.bipush 10, 2) := by decide +kernel
theorem dX8_run_34 : decode cX8_run 34 = .ok (.invokevirtual 159, 3) := by decide +kernel
theorem dX8_run_37 : decode cX8_run 37 = .ok (.aload_n 0, 1) := by decide +kernel
theorem dX8_run_38 : decode cX8_run 38 = .ok (.getfield 26, 3) := by decide +kernel
theorem dX8_run_41 : decode cX8_run 41 = .ok (.aload_n 0, 1) := by decide +kernel
theorem dX8_run_42 : decode cX8_run 42 = .ok (.getfield 12, 3) := by decide +kernel
theorem dX8_run_45 : decode cX8_run 45 = .ok (.iload_n 1, 1) := by decide +kernel
theorem dX8_run_46 : decode cX8_run 46 = .ok (.iload_n 2, 1) := by decide +kernel
theorem dX8_run_47 : decode cX8_run 47 = .ok (.invokevirtual 155, 3) := by decide +kernel
theorem dX8_run_50 : decode cX8_run 50 = .ok (.ireturn, 1) := by decide +kernel
theorem dX8_most_0 : decode cX8_most 0 = .ok (.aload_n 0, 1) := by decide +kernel
theorem dX8_most_1 : decode cX8_most 1 = .ok (.iload_n 1, 1) := by decide +kernel
theorem dX8_most_2 : decode cX8_most 2 = .ok (.invokevirtual 101, 3) := by decide +kernel
theorem dX8_most_5 : decode cX8_most 5 = .ok (.ifCond .ne 5, 3) := by decide +kernel
theorem dX8_most_8 : decode cX8_most 8 = .ok (.iconst (-1), 1) := by decide +kernel
theorem dX8_most_9 : decode cX8_most 9 = .ok (.ireturn, 1) := by decide +kernel
theorem dX8_most_10 : decode cX8_most 10 = .ok (.aload_n 0, 1) := by decide +kernel
theorem dX8_most_11 : decode cX8_most 11 = .ok (.getfield 26, 3) := by decide +kernel
theorem dX8_most_14 : decode cX8_most 14 = .ok (.aload_n 0, 1) := by decide +kernel
theorem dX8_most_15 : decode cX8_most 15 = .ok (.getfield 12, 3) := by decide +kernel
theorem dX8_most_18 : decode cX8_most 18 = .ok (.bipush 10, 2) := by decide +kernel
theorem dX8_most_20 : decode cX8_most 20 = .ok (.invokevirtual 159, 3) := by decide +kernel
theorem dX8_most_23 : decode cX8_most 23 = .ok (.aload_n 0, 1) := by decide +kernel
theorem dX8_most_24 : decode cX8_most 24 = .ok (.iload_n 1, 1) := by decide +kernel
theorem dX8_most_25 : decode cX8_most 25 = .ok (.invokevirtual 161, 3) := by decide +kernel
theorem dX8_most_28 : decode cX8_most 28 = .ok (.ireturn, 1) := by decide +kernel
theorem dX8_share_0 : decode cX8_share 0 = .ok (.iload_n 1, 1) := by decide +kernel
theorem dX8_share_1 : decode cX8_share 1 = .ok (.iconst 0, 1) := by decide +kernel
theorem dX8_share_2 : decode cX8_share 2 = .ok (.iconst 3, 1) := by decide +kernel
theorem dX8_share_3 : decode cX8_share 3 = .ok (.invokestatic 105, 3) := by decide +kernel
theorem dX8_share_6 : decode cX8_share 6 = .ok (.ifCond .eq 20, 3) := by decide +kernel
theorem dX8_share_9 : decode cX8_share 9 = .ok (.aload_n 0, 1) := by decide +kernel
theorem dX8_share_10 : decode cX8_share 10 = .ok (.iload_n 2, 1) := by decide +kernel
theorem dX8_share_11 : decode cX8_share 11 = .ok (.invokevirtual 101, 3) := by decide +kernel
theorem dX8_share_14 : decode cX8_share 14 = .ok (.ifCond .eq 12, 3) := by decide +kernel
theorem dX8_share_17 : decode cX8_share 17 = .ok (.iload_n 3, 1) := by decide +kernel
theorem dX8_share_18 : decode cX8_share 18 = .ok (.iconst 0, 1) := by decide +kernel
theorem dX8_share_19 : decode cX8_share 19 = .ok (.iconst 1, 1) := by decide +kernel
theorem dX8_share_20 : decode cX8_share 20 = .ok (.invokestatic 105, 3) := by decide +kernel
theorem dX8_share_23 : decode cX8_share 23 = .ok (.ifCond .ne 6, 3) := by decide +kernel
theorem dX8_share_26 : decode cX8_share 26 = .ok (.ldc 138, 2) := by decide +kernel
theorem dX8_share_28 : decode cX8_share 28 = .ok (.ireturn, 1) := by decide +kernel
theorem dX8_share_29 : decode cX8_share 29 = .ok (.iload_n 3, 1) := by decide +kernel
theorem dX8_share_30 : decode cX8_share 30 = .ok (.iconst 1, 1) := by decide +kernel
theorem dX8_share_31 : decode cX8_share 31 = .ok (.if_icmp .ne 9, 3) := by decide +kernel
theorem dX8_share_34 : decode cX8_share 34 = .ok (.iload_n 1, 1) := by decide +kernel
theorem dX8_share_35 : decode cX8_share 35 = .ok (.ifCond .ne 5, 3) := by decide +kernel
theorem dX8_share_38 : decode cX8_share 38 = .ok (.iconst 0, 1) := by decide +kernel
theorem dX8_share_39 : decode cX8_share 39 = .ok (.ireturn, 1) := by decide +kernel
theorem dX8_share_40 : decode cX8_share 40 = .ok (.aload_n 0, 1) := by decide +kernel
theorem dX8_share_41 : decode cX8_share 41 = .ok (.iload_n 1, 1) := by decide +kernel
theorem dX8_share_42 : decode cX8_share 42 = .ok (.invokevirtual 164, 3) := by decide +kernel
theorem dX8_share_45 : decode cX8_share 45 = .ok (.iload_n 3, 1) := by decide +kernel
theorem dX8_share_46 : decode cX8_share 46 = .ok (.ifCond .ne 12, 3) := by decide +kernel
theorem dX8_share_49 : decode cX8_share 49 = .ok (.aload_n 0, 1) := by decide +kernel
theorem dX8_share_50 : decode cX8_share 50 = .ok (.getfield 51, 3) := by decide +kernel
theorem dX8_share_53 : decode cX8_share 53 = .ok (.iload_n 2, 1) := by decide +kernel
theorem dX8_share_54 : decode cX8_share 54 = .ok (.iaload, 1) := by decide +kernel
theorem dX8_share_55 : decode cX8_share 55 = .ok (.goto 15, 3) := by decide +kernel
theorem dX8_share_58 : decode cX8_share 58 = .ok (.aload_n 0, 1) := by decide +kernel
theorem dX8_share_59 : decode cX8_share 59 = .ok (.getfield 51, 3) := by decide +kernel
theorem dX8_share_62 : decode cX8_share 62 = .ok (.iload_n 2, 1) := by decide +kernel
theorem dX8_share_63 : decode cX8_share 63 = .ok (.iaload, 1) := by decide +kernel
theorem dX8_share_64 : decode cX8_share 64 = .ok (.aload_n 0, 1) := by decide +kernel
theorem dX8_share_65 : decode cX8_share 65 = .ok (.iload_n 2, 1) := by decide +kernel
theorem dX8_share_66 : decode cX8_share 66 = .ok (.invokevirtual 168, 3) := by decide +kernel
theorem dX8_share_69 : decode cX8_share 69 = .ok (.isub, 1) := by decide +kernel
theorem dX8_share_70 : decode cX8_share 70 = .ok (.ireturn, 1) := by decide +kernel
theorem dX8_broken_0 : decode cX8_broken 0 = .ok (.iload_n 1, 1) := by decide +kernel
theorem dX8_broken_1 : decode cX8_broken 1 = .ok (.iconst 0, 1) := by decide +kernel
theorem dX8_broken_2 : decode cX8_broken 2 = .ok (.iconst 3, 1) := by decide +kernel
theorem dX8_broken_3 : decode cX8_broken 3 = .ok (.invokestatic 105, 3) := by decide +kernel
theorem dX8_broken_6 : decode cX8_broken 6 = .ok (.ifCond .ne 5, 3) := by decide +kernel
theorem dX8_broken_9 : decode cX8_broken 9 = .ok (.iconst (-1), 1) := by decide +kernel
theorem dX8_broken_10 : decode cX8_broken 10 = .ok (.ireturn, 1) := by decide +kernel
theorem dX8_broken_11 : decode cX8_broken 11 = .ok (.aload_n 0, 1) := by decide +kernel
theorem dX8_broken_12 : decode cX8_broken 12 = .ok (.iload_n 1, 1) := by decide +kernel
theorem dX8_broken_13 : decode cX8_broken 13 = .ok (.invokevirtual 164, 3) := by decide +kernel
theorem dX8_broken_16 : decode cX8_broken 16 = .ok (.aload_n 0, 1) := by decide +kernel
theorem dX8_broken_17 : decode cX8_broken 17 = .ok (.invokevirtual 171, 3) := by decide +kernel
theorem dX8_broken_20 : decode cX8_broken 20 = .ok (.ireturn, 1) := by decide +kernel
theorem dX8_lawful_0 : decode cX8_lawful 0 = .ok (.iload_n 1, 1) := by decide +kernel
theorem dX8_lawful_1 : decode cX8_lawful 1 = .ok (.invokestatic 112, 3) := by decide +kernel
theorem dX8_lawful_4 : decode cX8_lawful 4 = .ok (.ifCond .ne 5, 3) := by decide +kernel
theorem dX8_lawful_7 : decode cX8_lawful 7 = .ok (.iconst (-1), 1) := by decide +kernel
theorem dX8_lawful_8 : decode cX8_lawful 8 = .ok (.ireturn, 1) := by decide +kernel
theorem dX8_lawful_9 : decode cX8_lawful 9 = .ok (.aload_n 0, 1) := by decide +kernel
theorem dX8_lawful_10 : decode cX8_lawful 10 = .ok (.getfield 66, 3) := by decide +kernel
theorem dX8_lawful_13 : decode cX8_lawful 13 = .ok (.iload_n 1, 1) := by decide +kernel
theorem dX8_lawful_14 : decode cX8_lawful 14 = .ok (.aaload, 1) := by decide +kernel
theorem dX8_lawful_15 : decode cX8_lawful 15 = .ok (.astore_n 2, 1) := by decide +kernel
theorem dX8_lawful_16 : decode cX8_lawful 16 = .ok (.aload_n 2, 1) := by decide +kernel
theorem dX8_lawful_17 : decode cX8_lawful 17 = .ok (.iconst 2, 1) := by decide +kernel
theorem dX8_lawful_18 : decode cX8_lawful 18 = .ok (.invokevirtual 115, 3) := by decide +kernel
theorem dX8_lawful_21 : decode cX8_lawful 21 = .ok (.istore_n 3, 1) := by decide +kernel
theorem dX8_lawful_22 : decode cX8_lawful 22 = .ok (.iload_n 3, 1) := by decide +kernel
theorem dX8_lawful_23 : decode cX8_lawful 23 = .ok (.ifCond .eq 5, 3) := by decide +kernel
theorem dX8_lawful_26 : decode cX8_lawful 26 = .ok (.iload_n 3, 1) := by decide +kernel
theorem dX8_lawful_27 : decode cX8_lawful 27 = .ok (.ireturn, 1) := by decide +kernel
theorem dX8_lawful_28 : decode cX8_lawful 28 = .ok (.aload_n 0, 1) := by decide +kernel
theorem dX8_lawful_29 : decode cX8_lawful 29 = .ok (.aload_n 2, 1) := by decide +kernel
theorem dX8_lawful_30 : decode cX8_lawful 30 = .ok (.invokevirtual 175, 3) := by decide +kernel
theorem dX8_lawful_33 : decode cX8_lawful 33 = .ok (.ifCond .ne 6, 3) := by decide +kernel
theorem dX8_lawful_36 : decode cX8_lawful 36 = .ok (.bipush (-4), 2) := by decide +kernel
theorem dX8_lawful_38 : decode cX8_lawful 38 = .ok (.ireturn, 1) := by decide +kernel
theorem dX8_lawful_39 : decode cX8_lawful 39 = .ok (.aload_n 0, 1) := by decide +kernel
theorem dX8_lawful_40 : decode cX8_lawful 40 = .ok (.getfield 26, 3) := by decide +kernel
theorem dX8_lawful_43 : decode cX8_lawful 43 = .ok (.aload_n 0, 1) := by decide +kernel
theorem dX8_lawful_44 : decode cX8_lawful 44 = .ok (.getfield 12, 3) := by decide +kernel
theorem dX8_lawful_47 : decode cX8_lawful 47 = .ok (.bipush 10, 2) := by decide +kernel
theorem dX8_lawful_49 : decode cX8_lawful 49 = .ok (.invokevirtual 139, 3) := by decide +kernel
theorem dX8_lawful_52 : decode cX8_lawful 52 = .ok (.iconst 0, 1) := by decide +kernel
theorem dX8_lawful_53 : decode cX8_lawful 53 = .ok (.istore 4, 2) := by decide +kernel
theorem dX8_lawful_55 : decode cX8_lawful 55 = .ok (.iconst 0, 1) := by decide +kernel
theorem dX8_lawful_56 : decode cX8_lawful 56 = .ok (.istore 5, 2) := by decide +kernel
theorem dX8_lawful_58 : decode cX8_lawful 58 = .ok (.iload 5, 2) := by decide +kernel
theorem dX8_lawful_60 : decode cX8_lawful 60 = .ok (.aload_n 0, 1) := by decide +kernel
theorem dX8_lawful_61 : decode cX8_lawful 61 = .ok (.getfield 12, 3) := by decide +kernel
theorem dX8_lawful_64 : decode cX8_lawful 64 = .ok (.getfield 94, 3) := by decide +kernel
theorem dX8_lawful_67 : decode cX8_lawful 67 = .ok (.if_icmp .ge 46, 3) := by decide +kernel
theorem dX8_lawful_70 : decode cX8_lawful 70 = .ok (.iload 4, 2) := by decide +kernel
theorem dX8_lawful_72 : decode cX8_lawful 72 = .ok (.aload_n 2, 1) := by decide +kernel
theorem dX8_lawful_73 : decode cX8_lawful 73 = .ok (.getfield 122, 3) := by decide +kernel
theorem dX8_lawful_76 : decode cX8_lawful 76 = .ok (.iload 5, 2) := by decide +kernel
theorem dX8_lawful_78 : decode cX8_lawful 78 = .ok (.iaload, 1) := by decide +kernel
theorem dX8_lawful_79 : decode cX8_lawful 79 = .ok (.iadd, 1) := by decide +kernel
theorem dX8_lawful_80 : decode cX8_lawful 80 = .ok (.istore 4, 2) := by decide +kernel
theorem dX8_lawful_82 : decode cX8_lawful 82 = .ok (.aload_n 0, 1) := by decide +kernel
theorem dX8_lawful_83 : decode cX8_lawful 83 = .ok (.getfield 51, 3) := by decide +kernel
theorem dX8_lawful_86 : decode cX8_lawful 86 = .ok (.iload 5, 2) := by decide +kernel
theorem dX8_lawful_88 : decode cX8_lawful 88 = .ok (.aload_n 0, 1) := by decide +kernel
theorem dX8_lawful_89 : decode cX8_lawful 89 = .ok (.getfield 26, 3) := by decide +kernel
theorem dX8_lawful_92 : decode cX8_lawful 92 = .ok (.getfield 149, 3) := by decide +kernel
theorem dX8_lawful_95 : decode cX8_lawful 95 = .ok (.iload 5, 2) := by decide +kernel
theorem dX8_lawful_97 : decode cX8_lawful 97 = .ok (.iaload, 1) := by decide +kernel
theorem dX8_lawful_98 : decode cX8_lawful 98 = .ok (.aload_n 2, 1) := by decide +kernel
theorem dX8_lawful_99 : decode cX8_lawful 99 = .ok (.getfield 122, 3) := by decide +kernel
theorem dX8_lawful_102 : decode cX8_lawful 102 = .ok (.iload 5, 2) := by decide +kernel
theorem dX8_lawful_104 : decode cX8_lawful 104 = .ok (.iaload, 1) := by decide +kernel
theorem dX8_lawful_105 : decode cX8_lawful 105 = .ok (.iadd, 1) := by decide +kernel
theorem dX8_lawful_106 : decode cX8_lawful 106 = .ok (.iastore, 1) := by decide +kernel
theorem dX8_lawful_107 : decode cX8_lawful 107 = .ok (.iinc 5 1, 3) := by decide +kernel
theorem dX8_lawful_110 : decode cX8_lawful 110 = .ok (.goto (-52), 3) := by decide +kernel
theorem dX8_lawful_113 : decode cX8_lawful 113 = .ok (.iload 4, 2) := by decide +kernel
theorem dX8_lawful_115 : decode cX8_lawful 115 = .ok (.ifCond .eq 9, 3) := by decide +kernel
theorem dX8_lawful_118 : decode cX8_lawful 118 = .ok (.sipush 300, 3) := by decide +kernel
theorem dX8_lawful_121 : decode cX8_lawful 121 = .ok (.goto 7, 3) := by decide +kernel
theorem dX8_lawful_124 : decode cX8_lawful 124 = .ok (.aload_n 0, 1) := by decide +kernel
theorem dX8_lawful_125 : decode cX8_lawful 125 = .ok (.invokevirtual 171, 3) := by decide +kernel
theorem dX8_lawful_128 : decode cX8_lawful 128 = .ok (.ireturn, 1) := by decide +kernel
theorem dX8_cleaning_0 : decode cX8_cleaning 0 = .ok (.iload_n 1, 1) := by decide +kernel
theorem dX8_cleaning_1 : decode cX8_cleaning 1 = .ok (.iconst (-1), 1) := by decide +kernel
theorem dX8_cleaning_2 : decode cX8_cleaning 2 = .ok (.if_icmp .eq 13, 3) := by decide +kernel
theorem dX8_cleaning_5 : decode cX8_cleaning 5 = .ok (.aload_n 0, 1) := by decide +kernel
theorem dX8_cleaning_6 : decode cX8_cleaning 6 = .ok (.iload_n 1, 1) := by decide +kernel
theorem dX8_cleaning_7 : decode cX8_cleaning 7 = .ok (.invokevirtual 101, 3) := by decide +kernel
theorem dX8_cleaning_10 : decode cX8_cleaning 10 = .ok (.ifCond .ne 5, 3) := by decide +kernel
theorem dX8_cleaning_13 : decode cX8_cleaning 13 = .ok (.iconst (-1), 1) := by decide +kernel
theorem dX8_cleaning_14 : decode cX8_cleaning 14 = .ok (.ireturn, 1) := by decide +kernel
theorem dX8_cleaning_15 : decode cX8_cleaning 15 = .ok (.aload_n 0, 1) := by decide +kernel
theorem dX8_cleaning_16 : decode cX8_cleaning 16 = .ok (.getfield 40, 3) := by decide +kernel
theorem dX8_cleaning_19 : decode cX8_cleaning 19 = .ok (.aload_n 0, 1) := by decide +kernel
theorem dX8_cleaning_20 : decode cX8_cleaning 20 = .ok (.getfield 12, 3) := by decide +kernel
theorem dX8_cleaning_23 : decode cX8_cleaning 23 = .ok (.invokevirtual 178, 3) := by decide +kernel
theorem dX8_cleaning_26 : decode cX8_cleaning 26 = .ok (.istore_n 2, 1) := by decide +kernel
theorem dX8_cleaning_27 : decode cX8_cleaning 27 = .ok (.iload_n 1, 1) := by decide +kernel
theorem dX8_cleaning_28 : decode cX8_cleaning 28 = .ok (.iconst (-1), 1) := by decide +kernel
theorem dX8_cleaning_29 : decode cX8_cleaning 29 = .ok (.if_icmp .ne 7, 3) := by decide +kernel
theorem dX8_cleaning_32 : decode cX8_cleaning 32 = .ok (.iload_n 2, 1) := by decide +kernel
theorem dX8_cleaning_33 : decode cX8_cleaning 33 = .ok (.goto 12, 3) := by decide +kernel
theorem dX8_cleaning_36 : decode cX8_cleaning 36 = .ok (.aload_n 0, 1) := by decide +kernel
theorem dX8_cleaning_37 : decode cX8_cleaning 37 = .ok (.getfield 40, 3) := by decide +kernel
theorem dX8_cleaning_40 : decode cX8_cleaning 40 = .ok (.getfield 182, 3) := by decide +kernel
theorem dX8_cleaning_43 : decode cX8_cleaning 43 = .ok (.iload_n 1, 1) := by decide +kernel
theorem dX8_cleaning_44 : decode cX8_cleaning 44 = .ok (.iaload, 1) := by decide +kernel
theorem dX8_cleaning_45 : decode cX8_cleaning 45 = .ok (.ireturn, 1) := by decide +kernel
theorem dX8_year_0 : decode cX8_year 0 = .ok (.iload_n 1, 1) := by decide +kernel
theorem dX8_year_1 : decode cX8_year 1 = .ok (.invokestatic 132, 3) := by decide +kernel
theorem dX8_year_4 : decode cX8_year 4 = .ok (.ifCond .ne 5, 3) := by decide +kernel
theorem dX8_year_7 : decode cX8_year 7 = .ok (.iconst (-1), 1) := by decide +kernel
theorem dX8_year_8 : decode cX8_year 8 = .ok (.ireturn, 1) := by decide +kernel
theorem dX8_year_9 : decode cX8_year 9 = .ok (.aload_n 0, 1) := by decide +kernel
theorem dX8_year_10 : decode cX8_year 10 = .ok (.getfield 12, 3) := by decide +kernel
theorem dX8_year_13 : decode cX8_year 13 = .ok (.getfield 185, 3) := by decide +kernel
theorem dX8_year_16 : decode cX8_year 16 = .ok (.bipush 6, 2) := by decide +kernel
theorem dX8_year_18 : decode cX8_year 18 = .ok (.if_icmp .ne 6, 3) := by decide +kernel
theorem dX8_year_21 : decode cX8_year 21 = .ok (.bipush (-2), 2) := by decide +kernel
theorem dX8_year_23 : decode cX8_year 23 = .ok (.ireturn, 1) := by decide +kernel
theorem dX8_year_24 : decode cX8_year 24 = .ok (.aload_n 0, 1) := by decide +kernel
theorem dX8_year_25 : decode cX8_year 25 = .ok (.getfield 12, 3) := by decide +kernel
theorem dX8_year_28 : decode cX8_year 28 = .ok (.getfield 188, 3) := by decide +kernel
theorem dX8_year_31 : decode cX8_year 31 = .ok (.aload_n 0, 1) := by decide +kernel
theorem dX8_year_32 : decode cX8_year 32 = .ok (.getfield 12, 3) := by decide +kernel
theorem dX8_year_35 : decode cX8_year 35 = .ok (.getfield 185, 3) := by decide +kernel
theorem dX8_year_38 : decode cX8_year 38 = .ok (.iload_n 1, 1) := by decide +kernel
theorem dX8_year_39 : decode cX8_year 39 = .ok (.iastore, 1) := by decide +kernel
theorem dX8_year_40 : decode cX8_year 40 = .ok (.aload_n 0, 1) := by decide +kernel
theorem dX8_year_41 : decode cX8_year 41 = .ok (.getfield 12, 3) := by decide +kernel
theorem dX8_year_44 : decode cX8_year 44 = .ok (.dup, 1) := by decide +kernel
theorem dX8_year_45 : decode cX8_year 45 = .ok (.getfield 185, 3) := by decide +kernel
theorem dX8_year_48 : decode cX8_year 48 = .ok (.iconst 1, 1) := by decide +kernel
theorem dX8_year_49 : decode cX8_year 49 = .ok (.iadd, 1) := by decide +kernel
theorem dX8_year_50 : decode cX8_year 50 = .ok (.putfield 185, 3) := by decide +kernel
theorem dX8_year_53 : decode cX8_year 53 = .ok (.aload_n 0, 1) := by decide +kernel
theorem dX8_year_54 : decode cX8_year 54 = .ok (.getfield 12, 3) := by decide +kernel
theorem dX8_year_57 : decode cX8_year 57 = .ok (.getfield 185, 3) := by decide +kernel
theorem dX8_year_60 : decode cX8_year 60 = .ok (.iconst 1, 1) := by decide +kernel
theorem dX8_year_61 : decode cX8_year 61 = .ok (.isub, 1) := by decide +kernel
theorem dX8_year_62 : decode cX8_year 62 = .ok (.ireturn, 1) := by decide +kernel
theorem dX8_yearOf_0 : decode cX8_yearOf 0 = .ok (.aload_n 0, 1) := by decide +kernel
theorem dX8_yearOf_1 : decode cX8_yearOf 1 = .ok (.iload_n 1, 1) := by decide +kernel
theorem dX8_yearOf_2 : decode cX8_yearOf 2 = .ok (.invokevirtual 191, 3) := by decide +kernel
theorem dX8_yearOf_5 : decode cX8_yearOf 5 = .ok (.ifCond .eq 10, 3) := by decide +kernel
theorem dX8_yearOf_8 : decode cX8_yearOf 8 = .ok (.iload_n 2, 1) := by decide +kernel
theorem dX8_yearOf_9 : decode cX8_yearOf 9 = .ok (.invokestatic 132, 3) := by decide +kernel
theorem dX8_yearOf_12 : decode cX8_yearOf 12 = .ok (.ifCond .ne 5, 3) := by decide +kernel
theorem dX8_yearOf_15 : decode cX8_yearOf 15 = .ok (.iconst (-1), 1) := by decide +kernel
theorem dX8_yearOf_16 : decode cX8_yearOf 16 = .ok (.ireturn, 1) := by decide +kernel
theorem dX8_yearOf_17 : decode cX8_yearOf 17 = .ok (.aload_n 0, 1) := by decide +kernel
theorem dX8_yearOf_18 : decode cX8_yearOf 18 = .ok (.getfield 12, 3) := by decide +kernel
theorem dX8_yearOf_21 : decode cX8_yearOf 21 = .ok (.getfield 188, 3) := by decide +kernel
theorem dX8_yearOf_24 : decode cX8_yearOf 24 = .ok (.iload_n 1, 1) := by decide +kernel
theorem dX8_yearOf_25 : decode cX8_yearOf 25 = .ok (.iaload, 1) := by decide +kernel
theorem dX8_yearOf_26 : decode cX8_yearOf 26 = .ok (.istore_n 3, 1) := by decide +kernel
theorem dX8_yearOf_27 : decode cX8_yearOf 27 = .ok (.aload_n 0, 1) := by decide +kernel
theorem dX8_yearOf_28 : decode cX8_yearOf 28 = .ok (.getfield 12, 3) := by decide +kernel
theorem dX8_yearOf_31 : decode cX8_yearOf 31 = .ok (.getfield 188, 3) := by decide +kernel
theorem dX8_yearOf_34 : decode cX8_yearOf 34 = .ok (.iload_n 1, 1) := by decide +kernel
theorem dX8_yearOf_35 : decode cX8_yearOf 35 = .ok (.iload_n 2, 1) := by decide +kernel
theorem dX8_yearOf_36 : decode cX8_yearOf 36 = .ok (.iastore, 1) := by decide +kernel
theorem dX8_yearOf_37 : decode cX8_yearOf 37 = .ok (.iload_n 3, 1) := by decide +kernel
theorem dX8_yearOf_38 : decode cX8_yearOf 38 = .ok (.ireturn, 1) := by decide +kernel
theorem dX8_dam_0 : decode cX8_dam 0 = .ok (.iload_n 1, 1) := by decide +kernel
theorem dX8_dam_1 : decode cX8_dam 1 = .ok (.iconst (-1), 1) := by decide +kernel
theorem dX8_dam_2 : decode cX8_dam 2 = .ok (.if_icmp .eq 11, 3) := by decide +kernel
theorem dX8_dam_5 : decode cX8_dam 5 = .ok (.aload_n 0, 1) := by decide +kernel
theorem dX8_dam_6 : decode cX8_dam 6 = .ok (.iload_n 1, 1) := by decide +kernel
theorem dX8_dam_7 : decode cX8_dam 7 = .ok (.invokevirtual 101, 3) := by decide +kernel
theorem dX8_dam_10 : decode cX8_dam 10 = .ok (.ifCond .eq 12, 3) := by decide +kernel
theorem dX8_dam_13 : decode cX8_dam 13 = .ok (.iload_n 2, 1) := by decide +kernel
theorem dX8_dam_14 : decode cX8_dam 14 = .ok (.iconst 0, 1) := by decide +kernel
theorem dX8_dam_15 : decode cX8_dam 15 = .ok (.iconst 4, 1) := by decide +kernel
theorem dX8_dam_16 : decode cX8_dam 16 = .ok (.invokestatic 105, 3) := by decide +kernel
theorem dX8_dam_19 : decode cX8_dam 19 = .ok (.ifCond .ne 5, 3) := by decide +kernel
theorem dX8_dam_22 : decode cX8_dam 22 = .ok (.iconst (-1), 1) := by decide +kernel
theorem dX8_dam_23 : decode cX8_dam 23 = .ok (.ireturn, 1) := by decide +kernel
theorem dX8_dam_24 : decode cX8_dam 24 = .ok (.aload_n 0, 1) := by decide +kernel
theorem dX8_dam_25 : decode cX8_dam 25 = .ok (.getfield 12, 3) := by decide +kernel
theorem dX8_dam_28 : decode cX8_dam 28 = .ok (.iload_n 1, 1) := by decide +kernel
theorem dX8_dam_29 : decode cX8_dam 29 = .ok (.putfield 194, 3) := by decide +kernel
theorem dX8_dam_32 : decode cX8_dam 32 = .ok (.aload_n 0, 1) := by decide +kernel
theorem dX8_dam_33 : decode cX8_dam 33 = .ok (.getfield 12, 3) := by decide +kernel
theorem dX8_dam_36 : decode cX8_dam 36 = .ok (.iload_n 2, 1) := by decide +kernel
theorem dX8_dam_37 : decode cX8_dam 37 = .ok (.putfield 197, 3) := by decide +kernel
theorem dX8_dam_40 : decode cX8_dam 40 = .ok (.iconst 1, 1) := by decide +kernel
theorem dX8_dam_41 : decode cX8_dam 41 = .ok (.ireturn, 1) := by decide +kernel
theorem dX8_kept_0 : decode cX8_kept 0 = .ok (.iload_n 1, 1) := by decide +kernel
theorem dX8_kept_1 : decode cX8_kept 1 = .ok (.iconst (-1), 1) := by decide +kernel
theorem dX8_kept_2 : decode cX8_kept 2 = .ok (.if_icmp .eq 14, 3) := by decide +kernel
theorem dX8_kept_5 : decode cX8_kept 5 = .ok (.aload_n 0, 1) := by decide +kernel
theorem dX8_kept_6 : decode cX8_kept 6 = .ok (.iload_n 1, 1) := by decide +kernel
theorem dX8_kept_7 : decode cX8_kept 7 = .ok (.invokevirtual 191, 3) := by decide +kernel
theorem dX8_kept_10 : decode cX8_kept 10 = .ok (.ifCond .ne 6, 3) := by decide +kernel
theorem dX8_kept_13 : decode cX8_kept 13 = .ok (.ldc 138, 2) := by decide +kernel
theorem dX8_kept_15 : decode cX8_kept 15 = .ok (.ireturn, 1) := by decide +kernel
theorem dX8_kept_16 : decode cX8_kept 16 = .ok (.aload_n 0, 1) := by decide +kernel
theorem dX8_kept_17 : decode cX8_kept 17 = .ok (.getfield 33, 3) := by decide +kernel
theorem dX8_kept_20 : decode cX8_kept 20 = .ok (.aload_n 0, 1) := by decide +kernel
theorem dX8_kept_21 : decode cX8_kept 21 = .ok (.getfield 12, 3) := by decide +kernel
theorem dX8_kept_24 : decode cX8_kept 24 = .ok (.aload_n 0, 1) := by decide +kernel
theorem dX8_kept_25 : decode cX8_kept 25 = .ok (.getfield 26, 3) := by decide +kernel
theorem dX8_kept_28 : decode cX8_kept 28 = .ok (.invokevirtual 200, 3) := by decide +kernel
theorem dX8_kept_31 : decode cX8_kept 31 = .ok (.istore_n 2, 1) := by decide +kernel
theorem dX8_kept_32 : decode cX8_kept 32 = .ok (.iload_n 1, 1) := by decide +kernel
theorem dX8_kept_33 : decode cX8_kept 33 = .ok (.iconst (-1), 1) := by decide +kernel
theorem dX8_kept_34 : decode cX8_kept 34 = .ok (.if_icmp .ne 7, 3) := by decide +kernel
theorem dX8_kept_37 : decode cX8_kept 37 = .ok (.iload_n 2, 1) := by decide +kernel
theorem dX8_kept_38 : decode cX8_kept 38 = .ok (.goto 12, 3) := by decide +kernel
theorem dX8_kept_41 : decode cX8_kept 41 = .ok (.aload_n 0, 1) := by decide +kernel
theorem dX8_kept_42 : decode cX8_kept 42 = .ok (.getfield 33, 3) := by decide +kernel
theorem dX8_kept_45 : decode cX8_kept 45 = .ok (.getfield 204, 3) := by decide +kernel
theorem dX8_kept_48 : decode cX8_kept 48 = .ok (.iload_n 1, 1) := by decide +kernel
theorem dX8_kept_49 : decode cX8_kept 49 = .ok (.iaload, 1) := by decide +kernel
theorem dX8_kept_50 : decode cX8_kept 50 = .ok (.ireturn, 1) := by decide +kernel
theorem dX8_feed_0 : decode cX8_feed 0 = .ok (.iload_n 3, 1) := by decide +kernel
theorem dX8_feed_1 : decode cX8_feed 1 = .ok (.iconst 1, 1) := by decide +kernel
theorem dX8_feed_2 : decode cX8_feed 2 = .ok (.bipush 8, 2) := by decide +kernel
theorem dX8_feed_4 : decode cX8_feed 4 = .ok (.invokestatic 105, 3) := by decide +kernel
theorem dX8_feed_7 : decode cX8_feed 7 = .ok (.ifCond .ne 5, 3) := by decide +kernel
theorem dX8_feed_10 : decode cX8_feed 10 = .ok (.iconst (-1), 1) := by decide +kernel
theorem dX8_feed_11 : decode cX8_feed 11 = .ok (.ireturn, 1) := by decide +kernel
theorem dX8_feed_12 : decode cX8_feed 12 = .ok (.aload_n 0, 1) := by decide +kernel
theorem dX8_feed_13 : decode cX8_feed 13 = .ok (.getfield 47, 3) := by decide +kernel
theorem dX8_feed_16 : decode cX8_feed 16 = .ok (.lload_n 1, 1) := by decide +kernel
theorem dX8_feed_17 : decode cX8_feed 17 = .ok (.iload_n 3, 1) := by decide +kernel
theorem dX8_feed_18 : decode cX8_feed 18 = .ok (.invokevirtual 207, 3) := by decide +kernel
theorem dX8_feed_21 : decode cX8_feed 21 = .ok (.ifCond .eq 13, 3) := by decide +kernel
theorem dX8_feed_24 : decode cX8_feed 24 = .ok (.aload_n 0, 1) := by decide +kernel
theorem dX8_feed_25 : decode cX8_feed 25 = .ok (.getfield 47, 3) := by decide +kernel
theorem dX8_feed_28 : decode cX8_feed 28 = .ok (.getfield 211, 3) := by decide +kernel
theorem dX8_feed_31 : decode cX8_feed 31 = .ok (.goto 5, 3) := by decide +kernel
theorem dX8_feed_34 : decode cX8_feed 34 = .ok (.bipush (-2), 2) := by decide +kernel
theorem dX8_feed_36 : decode cX8_feed 36 = .ok (.ireturn, 1) := by decide +kernel
theorem dX8_read_0 : decode cX8_read 0 = .ok (.aload_n 0, 1) := by decide +kernel
theorem dX8_read_1 : decode cX8_read 1 = .ok (.getfield 47, 3) := by decide +kernel
theorem dX8_read_4 : decode cX8_read 4 = .ok (.invokevirtual 214, 3) := by decide +kernel
theorem dX8_read_7 : decode cX8_read 7 = .ok (.istore_n 1, 1) := by decide +kernel
theorem dX8_read_8 : decode cX8_read 8 = .ok (.iload_n 1, 1) := by decide +kernel
theorem dX8_read_9 : decode cX8_read 9 = .ok (.ifCond .lt 8, 3) := by decide +kernel
theorem dX8_read_12 : decode cX8_read 12 = .ok (.bipush (-100), 2) := by decide +kernel
theorem dX8_read_14 : decode cX8_read 14 = .ok (.iload_n 1, 1) := by decide +kernel
theorem dX8_read_15 : decode cX8_read 15 = .ok (.isub, 1) := by decide +kernel
theorem dX8_read_16 : decode cX8_read 16 = .ok (.ireturn, 1) := by decide +kernel
theorem dX8_read_17 : decode cX8_read 17 = .ok (.aload_n 0, 1) := by decide +kernel
theorem dX8_read_18 : decode cX8_read 18 = .ok (.getfield 12, 3) := by decide +kernel
theorem dX8_read_21 : decode cX8_read 21 = .ok (.getfield 217, 3) := by decide +kernel
theorem dX8_read_24 : decode cX8_read 24 = .ok (.aload_n 0, 1) := by decide +kernel
theorem dX8_read_25 : decode cX8_read 25 = .ok (.getfield 47, 3) := by decide +kernel
theorem dX8_read_28 : decode cX8_read 28 = .ok (.getfield 221, 3) := by decide +kernel
theorem dX8_read_31 : decode cX8_read 31 = .ok (.invokevirtual 224, 3) := by decide +kernel
theorem dX8_read_34 : decode cX8_read 34 = .ok (.aload_n 0, 1) := by decide +kernel
theorem dX8_read_35 : decode cX8_read 35 = .ok (.getfield 12, 3) := by decide +kernel
theorem dX8_read_38 : decode cX8_read 38 = .ok (.getfield 217, 3) := by decide +kernel
theorem dX8_read_41 : decode cX8_read 41 = .ok (.getfield 230, 3) := by decide +kernel
theorem dX8_read_44 : decode cX8_read 44 = .ok (.ireturn, 1) := by decide +kernel
theorem dX8_treaty_0 : decode cX8_treaty 0 = .ok (.iload_n 1, 1) := by decide +kernel
theorem dX8_treaty_1 : decode cX8_treaty 1 = .ok (.invokestatic 132, 3) := by decide +kernel
theorem dX8_treaty_4 : decode cX8_treaty 4 = .ok (.ifCond .eq 20, 3) := by decide +kernel
theorem dX8_treaty_7 : decode cX8_treaty 7 = .ok (.aload_n 0, 1) := by decide +kernel
theorem dX8_treaty_8 : decode cX8_treaty 8 = .ok (.iload_n 2, 1) := by decide +kernel
theorem dX8_treaty_9 : decode cX8_treaty 9 = .ok (.invokevirtual 101, 3) := by decide +kernel
theorem dX8_treaty_12 : decode cX8_treaty 12 = .ok (.ifCond .eq 12, 3) := by decide +kernel
theorem dX8_treaty_15 : decode cX8_treaty 15 = .ok (.iload_n 3, 1) := by decide +kernel
theorem dX8_treaty_16 : decode cX8_treaty 16 = .ok (.iconst 0, 1) := by decide +kernel
theorem dX8_treaty_17 : decode cX8_treaty 17 = .ok (.iconst 3, 1) := by decide +kernel
theorem dX8_treaty_18 : decode cX8_treaty 18 = .ok (.invokestatic 105, 3) := by decide +kernel
theorem dX8_treaty_21 : decode cX8_treaty 21 = .ok (.ifCond .ne 6, 3) := by decide +kernel
theorem dX8_treaty_24 : decode cX8_treaty 24 = .ok (.ldc 138, 2) := by decide +kernel
theorem dX8_treaty_26 : decode cX8_treaty 26 = .ok (.ireturn, 1) := by decide +kernel
theorem dX8_treaty_27 : decode cX8_treaty 27 = .ok (.aload_n 0, 1) := by decide +kernel
theorem dX8_treaty_28 : decode cX8_treaty 28 = .ok (.getfield 26, 3) := by decide +kernel
theorem dX8_treaty_31 : decode cX8_treaty 31 = .ok (.aload_n 0, 1) := by decide +kernel
theorem dX8_treaty_32 : decode cX8_treaty 32 = .ok (.getfield 12, 3) := by decide +kernel
theorem dX8_treaty_35 : decode cX8_treaty 35 = .ok (.iload_n 1, 1) := by decide +kernel
theorem dX8_treaty_36 : decode cX8_treaty 36 = .ok (.iconst (-1), 1) := by decide +kernel
theorem dX8_treaty_37 : decode cX8_treaty 37 = .ok (.invokevirtual 233, 3) := by decide +kernel
theorem dX8_treaty_40 : decode cX8_treaty 40 = .ok (.pop, 1) := by decide +kernel
theorem dX8_treaty_41 : decode cX8_treaty 41 = .ok (.iload_n 3, 1) := by decide +kernel
theorem dX8_treaty_42 : decode cX8_treaty 42 = .ok (.tableswitch 56 0 2 #[26, 36, 46], 26) := by decide +kernel
theorem dX8_treaty_68 : decode cX8_treaty 68 = .ok (.aload_n 0, 1) := by decide +kernel
theorem dX8_treaty_69 : decode cX8_treaty 69 = .ok (.getfield 26, 3) := by decide +kernel
theorem dX8_treaty_72 : decode cX8_treaty 72 = .ok (.getfield 236, 3) := by decide +kernel
theorem dX8_treaty_75 : decode cX8_treaty 75 = .ok (.iload_n 2, 1) := by decide +kernel
theorem dX8_treaty_76 : decode cX8_treaty 76 = .ok (.iaload, 1) := by decide +kernel
theorem dX8_treaty_77 : decode cX8_treaty 77 = .ok (.ireturn, 1) := by decide +kernel
theorem dX8_treaty_78 : decode cX8_treaty 78 = .ok (.aload_n 0, 1) := by decide +kernel
theorem dX8_treaty_79 : decode cX8_treaty 79 = .ok (.getfield 26, 3) := by decide +kernel
theorem dX8_treaty_82 : decode cX8_treaty 82 = .ok (.getfield 239, 3) := by decide +kernel
theorem dX8_treaty_85 : decode cX8_treaty 85 = .ok (.iload_n 2, 1) := by decide +kernel
theorem dX8_treaty_86 : decode cX8_treaty 86 = .ok (.iaload, 1) := by decide +kernel
theorem dX8_treaty_87 : decode cX8_treaty 87 = .ok (.ireturn, 1) := by decide +kernel
theorem dX8_treaty_88 : decode cX8_treaty 88 = .ok (.aload_n 0, 1) := by decide +kernel
theorem dX8_treaty_89 : decode cX8_treaty 89 = .ok (.getfield 26, 3) := by decide +kernel
theorem dX8_treaty_92 : decode cX8_treaty 92 = .ok (.getfield 143, 3) := by decide +kernel
theorem dX8_treaty_95 : decode cX8_treaty 95 = .ok (.iload_n 2, 1) := by decide +kernel
theorem dX8_treaty_96 : decode cX8_treaty 96 = .ok (.iaload, 1) := by decide +kernel
theorem dX8_treaty_97 : decode cX8_treaty 97 = .ok (.ireturn, 1) := by decide +kernel
theorem dX8_treaty_98 : decode cX8_treaty 98 = .ok (.aload_n 0, 1) := by decide +kernel
theorem dX8_treaty_99 : decode cX8_treaty 99 = .ok (.getfield 26, 3) := by decide +kernel
theorem dX8_treaty_102 : decode cX8_treaty 102 = .ok (.getfield 149, 3) := by decide +kernel
theorem dX8_treaty_105 : decode cX8_treaty 105 = .ok (.iload_n 2, 1) := by decide +kernel
theorem dX8_treaty_106 : decode cX8_treaty 106 = .ok (.iaload, 1) := by decide +kernel
theorem dX8_treaty_107 : decode cX8_treaty 107 = .ok (.ireturn, 1) := by decide +kernel
theorem dX8_lost_0 : decode cX8_lost 0 = .ok (.aload_n 0, 1) := by decide +kernel
theorem dX8_lost_1 : decode cX8_lost 1 = .ok (.invokevirtual 242, 3) := by decide +kernel
theorem dX8_lost_4 : decode cX8_lost 4 = .ok (.aload_n 0, 1) := by decide +kernel
theorem dX8_lost_5 : decode cX8_lost 5 = .ok (.iconst (-1), 1) := by decide +kernel
theorem dX8_lost_6 : decode cX8_lost 6 = .ok (.invokevirtual 245, 3) := by decide +kernel
theorem dX8_lost_9 : decode cX8_lost 9 = .ok (.isub, 1) := by decide +kernel
theorem dX8_lost_10 : decode cX8_lost 10 = .ok (.ireturn, 1) := by decide +kernel
theorem dX8_plain_0 : decode cX8_plain 0 = .ok (.iload_n 1, 1) := by decide +kernel
theorem dX8_plain_1 : decode cX8_plain 1 = .ok (.iconst 0, 1) := by decide +kernel
theorem dX8_plain_2 : decode cX8_plain 2 = .ok (.iconst 1, 1) := by decide +kernel
theorem dX8_plain_3 : decode cX8_plain 3 = .ok (.invokestatic 105, 3) := by decide +kernel
theorem dX8_plain_6 : decode cX8_plain 6 = .ok (.ifCond .ne 5, 3) := by decide +kernel
theorem dX8_plain_9 : decode cX8_plain 9 = .ok (.iconst (-1), 1) := by decide +kernel
theorem dX8_plain_10 : decode cX8_plain 10 = .ok (.ireturn, 1) := by decide +kernel
theorem dX8_plain_11 : decode cX8_plain 11 = .ok (.aload_n 0, 1) := by decide +kernel
theorem dX8_plain_12 : decode cX8_plain 12 = .ok (.invokevirtual 242, 3) := by decide +kernel
theorem dX8_plain_15 : decode cX8_plain 15 = .ok (.istore_n 2, 1) := by decide +kernel
theorem dX8_plain_16 : decode cX8_plain 16 = .ok (.iload_n 2, 1) := by decide +kernel
theorem dX8_plain_17 : decode cX8_plain 17 = .ok (.aload_n 0, 1) := by decide +kernel
theorem dX8_plain_18 : decode cX8_plain 18 = .ok (.iconst 0, 1) := by decide +kernel
theorem dX8_plain_19 : decode cX8_plain 19 = .ok (.invokevirtual 245, 3) := by decide +kernel
theorem dX8_plain_22 : decode cX8_plain 22 = .ok (.isub, 1) := by decide +kernel
theorem dX8_plain_23 : decode cX8_plain 23 = .ok (.istore_n 3, 1) := by decide +kernel
theorem dX8_plain_24 : decode cX8_plain 24 = .ok (.iconst 0, 1) := by decide +kernel
theorem dX8_plain_25 : decode cX8_plain 25 = .ok (.istore 4, 2) := by decide +kernel
theorem dX8_plain_27 : decode cX8_plain 27 = .ok (.iconst 1, 1) := by decide +kernel
theorem dX8_plain_28 : decode cX8_plain 28 = .ok (.istore 5, 2) := by decide +kernel
theorem dX8_plain_30 : decode cX8_plain 30 = .ok (.iload 5, 2) := by decide +kernel
theorem dX8_plain_32 : decode cX8_plain 32 = .ok (.bipush 24, 2) := by decide +kernel
theorem dX8_plain_34 : decode cX8_plain 34 = .ok (.if_icmp .gt 32, 3) := by decide +kernel
theorem dX8_plain_37 : decode cX8_plain 37 = .ok (.iload_n 2, 1) := by decide +kernel
theorem dX8_plain_38 : decode cX8_plain 38 = .ok (.aload_n 0, 1) := by decide +kernel
theorem dX8_plain_39 : decode cX8_plain 39 = .ok (.iload 5, 2) := by decide +kernel
theorem dX8_plain_41 : decode cX8_plain 41 = .ok (.invokevirtual 245, 3) := by decide +kernel
theorem dX8_plain_44 : decode cX8_plain 44 = .ok (.isub, 1) := by decide +kernel
theorem dX8_plain_45 : decode cX8_plain 45 = .ok (.istore 6, 2) := by decide +kernel
theorem dX8_plain_47 : decode cX8_plain 47 = .ok (.iload 6, 2) := by decide +kernel
theorem dX8_plain_49 : decode cX8_plain 49 = .ok (.iload_n 3, 1) := by decide +kernel
theorem dX8_plain_50 : decode cX8_plain 50 = .ok (.if_icmp .ge 10, 3) := by decide +kernel
theorem dX8_plain_53 : decode cX8_plain 53 = .ok (.iload 6, 2) := by decide +kernel
theorem dX8_plain_55 : decode cX8_plain 55 = .ok (.istore_n 3, 1) := by decide +kernel
theorem dX8_plain_56 : decode cX8_plain 56 = .ok (.iload 5, 2) := by decide +kernel
theorem dX8_plain_58 : decode cX8_plain 58 = .ok (.istore 4, 2) := by decide +kernel
theorem dX8_plain_60 : decode cX8_plain 60 = .ok (.iinc 5 1, 3) := by decide +kernel
theorem dX8_plain_63 : decode cX8_plain 63 = .ok (.goto (-33), 3) := by decide +kernel
theorem dX8_plain_66 : decode cX8_plain 66 = .ok (.iload_n 1, 1) := by decide +kernel
theorem dX8_plain_67 : decode cX8_plain 67 = .ok (.ifCond .ne 7, 3) := by decide +kernel
theorem dX8_plain_70 : decode cX8_plain 70 = .ok (.iload_n 3, 1) := by decide +kernel
theorem dX8_plain_71 : decode cX8_plain 71 = .ok (.goto 5, 3) := by decide +kernel
theorem dX8_plain_74 : decode cX8_plain 74 = .ok (.iload 4, 2) := by decide +kernel
theorem dX8_plain_76 : decode cX8_plain 76 = .ok (.ireturn, 1) := by decide +kernel
theorem dX8_breaks_0 : decode cX8_breaks 0 = .ok (.iload_n 1, 1) := by decide +kernel
theorem dX8_breaks_1 : decode cX8_breaks 1 = .ok (.invokestatic 132, 3) := by decide +kernel
theorem dX8_breaks_4 : decode cX8_breaks 4 = .ok (.ifCond .ne 5, 3) := by decide +kernel
theorem dX8_breaks_7 : decode cX8_breaks 7 = .ok (.iconst (-1), 1) := by decide +kernel
theorem dX8_breaks_8 : decode cX8_breaks 8 = .ok (.ireturn, 1) := by decide +kernel
theorem dX8_breaks_9 : decode cX8_breaks 9 = .ok (.aload_n 0, 1) := by decide +kernel
theorem dX8_breaks_10 : decode cX8_breaks 10 = .ok (.getfield 26, 3) := by decide +kernel
theorem dX8_breaks_13 : decode cX8_breaks 13 = .ok (.aload_n 0, 1) := by decide +kernel
theorem dX8_breaks_14 : decode cX8_breaks 14 = .ok (.getfield 12, 3) := by decide +kernel
theorem dX8_breaks_17 : decode cX8_breaks 17 = .ok (.iload_n 1, 1) := by decide +kernel
theorem dX8_breaks_18 : decode cX8_breaks 18 = .ok (.iconst (-1), 1) := by decide +kernel
theorem dX8_breaks_19 : decode cX8_breaks 19 = .ok (.invokevirtual 233, 3) := by decide +kernel
theorem dX8_breaks_22 : decode cX8_breaks 22 = .ok (.pop, 1) := by decide +kernel
theorem dX8_breaks_23 : decode cX8_breaks 23 = .ok (.iconst 0, 1) := by decide +kernel
theorem dX8_breaks_24 : decode cX8_breaks 24 = .ok (.istore_n 2, 1) := by decide +kernel
theorem dX8_breaks_25 : decode cX8_breaks 25 = .ok (.iload_n 2, 1) := by decide +kernel
theorem dX8_breaks_26 : decode cX8_breaks 26 = .ok (.aload_n 0, 1) := by decide +kernel
theorem dX8_breaks_27 : decode cX8_breaks 27 = .ok (.getfield 12, 3) := by decide +kernel
theorem dX8_breaks_30 : decode cX8_breaks 30 = .ok (.getfield 94, 3) := by decide +kernel
theorem dX8_breaks_33 : decode cX8_breaks 33 = .ok (.if_icmp .ge 61, 3) := by decide +kernel
theorem dX8_breaks_36 : decode cX8_breaks 36 = .ok (.aload_n 0, 1) := by decide +kernel
theorem dX8_breaks_37 : decode cX8_breaks 37 = .ok (.getfield 12, 3) := by decide +kernel
theorem dX8_breaks_40 : decode cX8_breaks 40 = .ok (.iload_n 2, 1) := by decide +kernel
theorem dX8_breaks_41 : decode cX8_breaks 41 = .ok (.aload_n 0, 1) := by decide +kernel
theorem dX8_breaks_42 : decode cX8_breaks 42 = .ok (.getfield 26, 3) := by decide +kernel
theorem dX8_breaks_45 : decode cX8_breaks 45 = .ok (.getfield 236, 3) := by decide +kernel
theorem dX8_breaks_48 : decode cX8_breaks 48 = .ok (.iload_n 2, 1) := by decide +kernel
theorem dX8_breaks_49 : decode cX8_breaks 49 = .ok (.iaload, 1) := by decide +kernel
theorem dX8_breaks_50 : decode cX8_breaks 50 = .ok (.invokevirtual 248, 3) := by decide +kernel
theorem dX8_breaks_53 : decode cX8_breaks 53 = .ok (.istore_n 3, 1) := by decide +kernel
theorem dX8_breaks_54 : decode cX8_breaks 54 = .ok (.aload_n 0, 1) := by decide +kernel
theorem dX8_breaks_55 : decode cX8_breaks 55 = .ok (.getfield 12, 3) := by decide +kernel
theorem dX8_breaks_58 : decode cX8_breaks 58 = .ok (.iload_n 2, 1) := by decide +kernel
theorem dX8_breaks_59 : decode cX8_breaks 59 = .ok (.iload_n 3, 1) := by decide +kernel
theorem dX8_breaks_60 : decode cX8_breaks 60 = .ok (.aload_n 0, 1) := by decide +kernel
theorem dX8_breaks_61 : decode cX8_breaks 61 = .ok (.getfield 26, 3) := by decide +kernel
theorem dX8_breaks_64 : decode cX8_breaks 64 = .ok (.getfield 236, 3) := by decide +kernel
theorem dX8_breaks_67 : decode cX8_breaks 67 = .ok (.iload_n 2, 1) := by decide +kernel
theorem dX8_breaks_68 : decode cX8_breaks 68 = .ok (.iaload, 1) := by decide +kernel
theorem dX8_breaks_69 : decode cX8_breaks 69 = .ok (.iload_n 3, 1) := by decide +kernel
theorem dX8_breaks_70 : decode cX8_breaks 70 = .ok (.isub, 1) := by decide +kernel
theorem dX8_breaks_71 : decode cX8_breaks 71 = .ok (.invokevirtual 252, 3) := by decide +kernel
theorem dX8_breaks_74 : decode cX8_breaks 74 = .ok (.aload_n 0, 1) := by decide +kernel
theorem dX8_breaks_75 : decode cX8_breaks 75 = .ok (.getfield 26, 3) := by decide +kernel
theorem dX8_breaks_78 : decode cX8_breaks 78 = .ok (.getfield 149, 3) := by decide +kernel
theorem dX8_breaks_81 : decode cX8_breaks 81 = .ok (.iload_n 2, 1) := by decide +kernel
theorem dX8_breaks_82 : decode cX8_breaks 82 = .ok (.iaload, 1) := by decide +kernel
theorem dX8_breaks_83 : decode cX8_breaks 83 = .ok (.if_icmp .le 5, 3) := by decide +kernel
theorem dX8_breaks_86 : decode cX8_breaks 86 = .ok (.iload_n 2, 1) := by decide +kernel
theorem dX8_breaks_87 : decode cX8_breaks 87 = .ok (.ireturn, 1) := by decide +kernel
theorem dX8_breaks_88 : decode cX8_breaks 88 = .ok (.iinc 2 1, 3) := by decide +kernel
theorem dX8_breaks_91 : decode cX8_breaks 91 = .ok (.goto (-66), 3) := by decide +kernel
theorem dX8_breaks_94 : decode cX8_breaks 94 = .ok (.bipush (-9), 2) := by decide +kernel
theorem dX8_breaks_96 : decode cX8_breaks 96 = .ok (.ireturn, 1) := by decide +kernel
theorem dX8_prove_0 : decode cX8_prove 0 = .ok (.aload_n 0, 1) := by decide +kernel
theorem dX8_prove_1 : decode cX8_prove 1 = .ok (.getfield 26, 3) := by decide +kernel
theorem dX8_prove_4 : decode cX8_prove 4 = .ok (.aload_n 0, 1) := by decide +kernel
theorem dX8_prove_5 : decode cX8_prove 5 = .ok (.getfield 12, 3) := by decide +kernel
theorem dX8_prove_8 : decode cX8_prove 8 = .ok (.bipush 10, 2) := by decide +kernel
theorem dX8_prove_10 : decode cX8_prove 10 = .ok (.invokevirtual 139, 3) := by decide +kernel
theorem dX8_prove_13 : decode cX8_prove 13 = .ok (.iconst 0, 1) := by decide +kernel
theorem dX8_prove_14 : decode cX8_prove 14 = .ok (.istore_n 1, 1) := by decide +kernel
theorem dX8_prove_15 : decode cX8_prove 15 = .ok (.iload_n 1, 1) := by decide +kernel
theorem dX8_prove_16 : decode cX8_prove 16 = .ok (.aload_n 0, 1) := by decide +kernel
theorem dX8_prove_17 : decode cX8_prove 17 = .ok (.getfield 12, 3) := by decide +kernel
theorem dX8_prove_20 : decode cX8_prove 20 = .ok (.getfield 94, 3) := by decide +kernel
theorem dX8_prove_23 : decode cX8_prove 23 = .ok (.if_icmp .ge 52, 3) := by decide +kernel
theorem dX8_prove_26 : decode cX8_prove 26 = .ok (.aload_n 0, 1) := by decide +kernel
theorem dX8_prove_27 : decode cX8_prove 27 = .ok (.getfield 57, 3) := by decide +kernel
theorem dX8_prove_30 : decode cX8_prove 30 = .ok (.iload_n 1, 1) := by decide +kernel
theorem dX8_prove_31 : decode cX8_prove 31 = .ok (.aaload, 1) := by decide +kernel
theorem dX8_prove_32 : decode cX8_prove 32 = .ok (.iconst 0, 1) := by decide +kernel
theorem dX8_prove_33 : decode cX8_prove 33 = .ok (.iload_n 1, 1) := by decide +kernel
theorem dX8_prove_34 : decode cX8_prove 34 = .ok (.iastore, 1) := by decide +kernel
theorem dX8_prove_35 : decode cX8_prove 35 = .ok (.aload_n 0, 1) := by decide +kernel
theorem dX8_prove_36 : decode cX8_prove 36 = .ok (.getfield 57, 3) := by decide +kernel
theorem dX8_prove_39 : decode cX8_prove 39 = .ok (.iload_n 1, 1) := by decide +kernel
theorem dX8_prove_40 : decode cX8_prove 40 = .ok (.aaload, 1) := by decide +kernel
theorem dX8_prove_41 : decode cX8_prove 41 = .ok (.iconst 1, 1) := by decide +kernel
theorem dX8_prove_42 : decode cX8_prove 42 = .ok (.aload_n 0, 1) := by decide +kernel
theorem dX8_prove_43 : decode cX8_prove 43 = .ok (.getfield 26, 3) := by decide +kernel
theorem dX8_prove_46 : decode cX8_prove 46 = .ok (.getfield 143, 3) := by decide +kernel
theorem dX8_prove_49 : decode cX8_prove 49 = .ok (.iload_n 1, 1) := by decide +kernel
theorem dX8_prove_50 : decode cX8_prove 50 = .ok (.iaload, 1) := by decide +kernel
theorem dX8_prove_51 : decode cX8_prove 51 = .ok (.iastore, 1) := by decide +kernel
theorem dX8_prove_52 : decode cX8_prove 52 = .ok (.aload_n 0, 1) := by decide +kernel
theorem dX8_prove_53 : decode cX8_prove 53 = .ok (.getfield 57, 3) := by decide +kernel
theorem dX8_prove_56 : decode cX8_prove 56 = .ok (.iload_n 1, 1) := by decide +kernel
theorem dX8_prove_57 : decode cX8_prove 57 = .ok (.aaload, 1) := by decide +kernel
theorem dX8_prove_58 : decode cX8_prove 58 = .ok (.iconst 2, 1) := by decide +kernel
theorem dX8_prove_59 : decode cX8_prove 59 = .ok (.aload_n 0, 1) := by decide +kernel
theorem dX8_prove_60 : decode cX8_prove 60 = .ok (.getfield 26, 3) := by decide +kernel
theorem dX8_prove_63 : decode cX8_prove 63 = .ok (.getfield 146, 3) := by decide +kernel
theorem dX8_prove_66 : decode cX8_prove 66 = .ok (.iload_n 1, 1) := by decide +kernel
theorem dX8_prove_67 : decode cX8_prove 67 = .ok (.iaload, 1) := by decide +kernel
theorem dX8_prove_68 : decode cX8_prove 68 = .ok (.iastore, 1) := by decide +kernel
theorem dX8_prove_69 : decode cX8_prove 69 = .ok (.iinc 1 1, 3) := by decide +kernel
theorem dX8_prove_72 : decode cX8_prove 72 = .ok (.goto (-57), 3) := by decide +kernel
theorem dX8_prove_75 : decode cX8_prove 75 = .ok (.aload_n 0, 1) := by decide +kernel
theorem dX8_prove_76 : decode cX8_prove 76 = .ok (.aload_n 0, 1) := by decide +kernel
theorem dX8_prove_77 : decode cX8_prove 77 = .ok (.getfield 12, 3) := by decide +kernel
theorem dX8_prove_80 : decode cX8_prove 80 = .ok (.getfield 94, 3) := by decide +kernel
theorem dX8_prove_83 : decode cX8_prove 83 = .ok (.putfield 60, 3) := by decide +kernel
theorem dX8_prove_86 : decode cX8_prove 86 = .ok (.aload_n 0, 1) := by decide +kernel
theorem dX8_prove_87 : decode cX8_prove 87 = .ok (.getfield 60, 3) := by decide +kernel
theorem dX8_prove_90 : decode cX8_prove 90 = .ok (.ireturn, 1) := by decide +kernel
theorem dX8_row_0 : decode cX8_row 0 = .ok (.aload_n 0, 1) := by decide +kernel
theorem dX8_row_1 : decode cX8_row 1 = .ok (.iload_n 1, 1) := by decide +kernel
theorem dX8_row_2 : decode cX8_row 2 = .ok (.iload_n 2, 1) := by decide +kernel
theorem dX8_row_3 : decode cX8_row 3 = .ok (.invokevirtual 256, 3) := by decide +kernel
theorem dX8_row_6 : decode cX8_row 6 = .ok (.ifCond .eq 14, 3) := by decide +kernel
theorem dX8_row_9 : decode cX8_row 9 = .ok (.aload_n 0, 1) := by decide +kernel
theorem dX8_row_10 : decode cX8_row 10 = .ok (.getfield 57, 3) := by decide +kernel
theorem dX8_row_13 : decode cX8_row 13 = .ok (.iload_n 1, 1) := by decide +kernel
theorem dX8_row_14 : decode cX8_row 14 = .ok (.aaload, 1) := by decide +kernel
theorem dX8_row_15 : decode cX8_row 15 = .ok (.iload_n 2, 1) := by decide +kernel
theorem dX8_row_16 : decode cX8_row 16 = .ok (.iaload, 1) := by decide +kernel
theorem dX8_row_17 : decode cX8_row 17 = .ok (.goto 5, 3) := by decide +kernel
theorem dX8_row_20 : decode cX8_row 20 = .ok (.bipush (-9), 2) := by decide +kernel
theorem dX8_row_22 : decode cX8_row 22 = .ok (.ireturn, 1) := by decide +kernel
theorem dX8_alterRow_0 : decode cX8_alterRow 0 = .ok (.aload_n 0, 1) := by decide +kernel
theorem dX8_alterRow_1 : decode cX8_alterRow 1 = .ok (.iload_n 1, 1) := by decide +kernel
theorem dX8_alterRow_2 : decode cX8_alterRow 2 = .ok (.iload_n 2, 1) := by decide +kernel
theorem dX8_alterRow_3 : decode cX8_alterRow 3 = .ok (.invokevirtual 256, 3) := by decide +kernel
theorem dX8_alterRow_6 : decode cX8_alterRow 6 = .ok (.ifCond .ne 6, 3) := by decide +kernel
theorem dX8_alterRow_9 : decode cX8_alterRow 9 = .ok (.bipush (-9), 2) := by decide +kernel
theorem dX8_alterRow_11 : decode cX8_alterRow 11 = .ok (.ireturn, 1) := by decide +kernel
theorem dX8_alterRow_12 : decode cX8_alterRow 12 = .ok (.aload_n 0, 1) := by decide +kernel
theorem dX8_alterRow_13 : decode cX8_alterRow 13 = .ok (.getfield 57, 3) := by decide +kernel
theorem dX8_alterRow_16 : decode cX8_alterRow 16 = .ok (.iload_n 1, 1) := by decide +kernel
theorem dX8_alterRow_17 : decode cX8_alterRow 17 = .ok (.aaload, 1) := by decide +kernel
theorem dX8_alterRow_18 : decode cX8_alterRow 18 = .ok (.iload_n 2, 1) := by decide +kernel
theorem dX8_alterRow_19 : decode cX8_alterRow 19 = .ok (.iaload, 1) := by decide +kernel
theorem dX8_alterRow_20 : decode cX8_alterRow 20 = .ok (.istore 4, 2) := by decide +kernel
theorem dX8_alterRow_22 : decode cX8_alterRow 22 = .ok (.aload_n 0, 1) := by decide +kernel
theorem dX8_alterRow_23 : decode cX8_alterRow 23 = .ok (.getfield 57, 3) := by decide +kernel
theorem dX8_alterRow_26 : decode cX8_alterRow 26 = .ok (.iload_n 1, 1) := by decide +kernel
theorem dX8_alterRow_27 : decode cX8_alterRow 27 = .ok (.aaload, 1) := by decide +kernel
theorem dX8_alterRow_28 : decode cX8_alterRow 28 = .ok (.iload_n 2, 1) := by decide +kernel
theorem dX8_alterRow_29 : decode cX8_alterRow 29 = .ok (.iload_n 3, 1) := by decide +kernel
theorem dX8_alterRow_30 : decode cX8_alterRow 30 = .ok (.iastore, 1) := by decide +kernel
theorem dX8_alterRow_31 : decode cX8_alterRow 31 = .ok (.iload 4, 2) := by decide +kernel
theorem dX8_alterRow_33 : decode cX8_alterRow 33 = .ok (.ireturn, 1) := by decide +kernel
theorem dX8_judge_0 : decode cX8_judge 0 = .ok (.aload_n 0, 1) := by decide +kernel
theorem dX8_judge_1 : decode cX8_judge 1 = .ok (.bipush 10, 2) := by decide +kernel
theorem dX8_judge_3 : decode cX8_judge 3 = .ok (.invokevirtual 135, 3) := by decide +kernel
theorem dX8_judge_6 : decode cX8_judge 6 = .ok (.istore_n 1, 1) := by decide +kernel
theorem dX8_judge_7 : decode cX8_judge 7 = .ok (.iconst 0, 1) := by decide +kernel
theorem dX8_judge_8 : decode cX8_judge 8 = .ok (.istore_n 2, 1) := by decide +kernel
theorem dX8_judge_9 : decode cX8_judge 9 = .ok (.iconst 0, 1) := by decide +kernel
theorem dX8_judge_10 : decode cX8_judge 10 = .ok (.istore_n 3, 1) := by decide +kernel
theorem dX8_judge_11 : decode cX8_judge 11 = .ok (.iconst 0, 1) := by decide +kernel
theorem dX8_judge_12 : decode cX8_judge 12 = .ok (.istore 4, 2) := by decide +kernel
theorem dX8_judge_14 : decode cX8_judge 14 = .ok (.iload 4, 2) := by decide +kernel
theorem dX8_judge_16 : decode cX8_judge 16 = .ok (.aload_n 0, 1) := by decide +kernel
theorem dX8_judge_17 : decode cX8_judge 17 = .ok (.getfield 60, 3) := by decide +kernel
theorem dX8_judge_20 : decode cX8_judge 20 = .ok (.if_icmp .ge 56, 3) := by decide +kernel
theorem dX8_judge_23 : decode cX8_judge 23 = .ok (.aload_n 0, 1) := by decide +kernel
theorem dX8_judge_24 : decode cX8_judge 24 = .ok (.iload 4, 2) := by decide +kernel
theorem dX8_judge_26 : decode cX8_judge 26 = .ok (.iload_n 2, 1) := by decide +kernel
theorem dX8_judge_27 : decode cX8_judge 27 = .ok (.invokevirtual 259, 3) := by decide +kernel
theorem dX8_judge_30 : decode cX8_judge 30 = .ok (.ifCond .ne 8, 3) := by decide +kernel
theorem dX8_judge_33 : decode cX8_judge 33 = .ok (.iload 4, 2) := by decide +kernel
theorem dX8_judge_35 : decode cX8_judge 35 = .ok (.iconst 1, 1) := by decide +kernel
theorem dX8_judge_36 : decode cX8_judge 36 = .ok (.iadd, 1) := by decide +kernel
theorem dX8_judge_37 : decode cX8_judge 37 = .ok (.ireturn, 1) := by decide +kernel
theorem dX8_judge_38 : decode cX8_judge 38 = .ok (.aload_n 0, 1) := by decide +kernel
theorem dX8_judge_39 : decode cX8_judge 39 = .ok (.getfield 57, 3) := by decide +kernel
theorem dX8_judge_42 : decode cX8_judge 42 = .ok (.iload 4, 2) := by decide +kernel
theorem dX8_judge_44 : decode cX8_judge 44 = .ok (.aaload, 1) := by decide +kernel
theorem dX8_judge_45 : decode cX8_judge 45 = .ok (.iconst 2, 1) := by decide +kernel
theorem dX8_judge_46 : decode cX8_judge 46 = .ok (.iaload, 1) := by decide +kernel
theorem dX8_judge_47 : decode cX8_judge 47 = .ok (.istore_n 2, 1) := by decide +kernel
theorem dX8_judge_48 : decode cX8_judge 48 = .ok (.iload_n 3, 1) := by decide +kernel
theorem dX8_judge_49 : decode cX8_judge 49 = .ok (.aload_n 0, 1) := by decide +kernel
theorem dX8_judge_50 : decode cX8_judge 50 = .ok (.getfield 12, 3) := by decide +kernel
theorem dX8_judge_53 : decode cX8_judge 53 = .ok (.iload 4, 2) := by decide +kernel
theorem dX8_judge_55 : decode cX8_judge 55 = .ok (.aload_n 0, 1) := by decide +kernel
theorem dX8_judge_56 : decode cX8_judge 56 = .ok (.getfield 57, 3) := by decide +kernel
theorem dX8_judge_59 : decode cX8_judge 59 = .ok (.iload 4, 2) := by decide +kernel
theorem dX8_judge_61 : decode cX8_judge 61 = .ok (.aaload, 1) := by decide +kernel
theorem dX8_judge_62 : decode cX8_judge 62 = .ok (.iconst 1, 1) := by decide +kernel
theorem dX8_judge_63 : decode cX8_judge 63 = .ok (.iaload, 1) := by decide +kernel
theorem dX8_judge_64 : decode cX8_judge 64 = .ok (.iload_n 2, 1) := by decide +kernel
theorem dX8_judge_65 : decode cX8_judge 65 = .ok (.invokevirtual 252, 3) := by decide +kernel
theorem dX8_judge_68 : decode cX8_judge 68 = .ok (.iadd, 1) := by decide +kernel
theorem dX8_judge_69 : decode cX8_judge 69 = .ok (.istore_n 3, 1) := by decide +kernel
theorem dX8_judge_70 : decode cX8_judge 70 = .ok (.iinc 4 1, 3) := by decide +kernel
theorem dX8_judge_73 : decode cX8_judge 73 = .ok (.goto (-59), 3) := by decide +kernel
theorem dX8_judge_76 : decode cX8_judge 76 = .ok (.aload_n 0, 1) := by decide +kernel
theorem dX8_judge_77 : decode cX8_judge 77 = .ok (.getfield 60, 3) := by decide +kernel
theorem dX8_judge_80 : decode cX8_judge 80 = .ok (.aload_n 0, 1) := by decide +kernel
theorem dX8_judge_81 : decode cX8_judge 81 = .ok (.getfield 12, 3) := by decide +kernel
theorem dX8_judge_84 : decode cX8_judge 84 = .ok (.getfield 94, 3) := by decide +kernel
theorem dX8_judge_87 : decode cX8_judge 87 = .ok (.if_icmp .eq 6, 3) := by decide +kernel
theorem dX8_judge_90 : decode cX8_judge 90 = .ok (.bipush 21, 2) := by decide +kernel
theorem dX8_judge_92 : decode cX8_judge 92 = .ok (.ireturn, 1) := by decide +kernel
theorem dX8_judge_93 : decode cX8_judge 93 = .ok (.iload_n 3, 1) := by decide +kernel
theorem dX8_judge_94 : decode cX8_judge 94 = .ok (.iload_n 1, 1) := by decide +kernel
theorem dX8_judge_95 : decode cX8_judge 95 = .ok (.if_icmp .ge 8, 3) := by decide +kernel
theorem dX8_judge_98 : decode cX8_judge 98 = .ok (.bipush 22, 2) := by decide +kernel
theorem dX8_judge_100 : decode cX8_judge 100 = .ok (.goto 4, 3) := by decide +kernel
theorem dX8_judge_103 : decode cX8_judge 103 = .ok (.iconst 0, 1) := by decide +kernel
theorem dX8_judge_104 : decode cX8_judge 104 = .ok (.ireturn, 1) := by decide +kernel
theorem dX8_sheet_0 : decode cX8_sheet 0 = .ok (.iload_n 1, 1) := by decide +kernel
theorem dX8_sheet_1 : decode cX8_sheet 1 = .ok (.invokestatic 112, 3) := by decide +kernel
theorem dX8_sheet_4 : decode cX8_sheet 4 = .ok (.ifCond .eq 12, 3) := by decide +kernel
theorem dX8_sheet_7 : decode cX8_sheet 7 = .ok (.iload_n 2, 1) := by decide +kernel
theorem dX8_sheet_8 : decode cX8_sheet 8 = .ok (.iconst (-1), 1) := by decide +kernel
theorem dX8_sheet_9 : decode cX8_sheet 9 = .ok (.iconst 3, 1) := by decide +kernel
theorem dX8_sheet_10 : decode cX8_sheet 10 = .ok (.invokestatic 105, 3) := by decide +kernel
theorem dX8_sheet_13 : decode cX8_sheet 13 = .ok (.ifCond .ne 5, 3) := by decide +kernel
theorem dX8_sheet_16 : decode cX8_sheet 16 = .ok (.iconst (-1), 1) := by decide +kernel
theorem dX8_sheet_17 : decode cX8_sheet 17 = .ok (.ireturn, 1) := by decide +kernel
theorem dX8_sheet_18 : decode cX8_sheet 18 = .ok (.iload_n 2, 1) := by decide +kernel
theorem dX8_sheet_19 : decode cX8_sheet 19 = .ok (.iconst (-1), 1) := by decide +kernel
theorem dX8_sheet_20 : decode cX8_sheet 20 = .ok (.if_icmp .ne 16, 3) := by decide +kernel
theorem dX8_sheet_23 : decode cX8_sheet 23 = .ok (.aload_n 0, 1) := by decide +kernel
theorem dX8_sheet_24 : decode cX8_sheet 24 = .ok (.getfield 66, 3) := by decide +kernel
theorem dX8_sheet_27 : decode cX8_sheet 27 = .ok (.iload_n 1, 1) := by decide +kernel
theorem dX8_sheet_28 : decode cX8_sheet 28 = .ok (.aaload, 1) := by decide +kernel
theorem dX8_sheet_29 : decode cX8_sheet 29 = .ok (.iconst (-1), 1) := by decide +kernel
theorem dX8_sheet_30 : decode cX8_sheet 30 = .ok (.iconst 0, 1) := by decide +kernel
theorem dX8_sheet_31 : decode cX8_sheet 31 = .ok (.invokevirtual 262, 3) := by decide +kernel
theorem dX8_sheet_34 : decode cX8_sheet 34 = .ok (.iconst 1, 1) := by decide +kernel
theorem dX8_sheet_35 : decode cX8_sheet 35 = .ok (.ireturn, 1) := by decide +kernel
theorem dX8_sheet_36 : decode cX8_sheet 36 = .ok (.iload_n 3, 1) := by decide +kernel
theorem dX8_sheet_37 : decode cX8_sheet 37 = .ok (.bipush 40, 2) := by decide +kernel
theorem dX8_sheet_39 : decode cX8_sheet 39 = .ok (.if_icmp .le 5, 3) := by decide +kernel
theorem dX8_sheet_42 : decode cX8_sheet 42 = .ok (.iconst (-1), 1) := by decide +kernel
theorem dX8_sheet_43 : decode cX8_sheet 43 = .ok (.ireturn, 1) := by decide +kernel
theorem dX8_sheet_44 : decode cX8_sheet 44 = .ok (.iload_n 3, 1) := by decide +kernel
theorem dX8_sheet_45 : decode cX8_sheet 45 = .ok (.ifCond .ge 6, 3) := by decide +kernel
theorem dX8_sheet_48 : decode cX8_sheet 48 = .ok (.bipush (-14), 2) := by decide +kernel
theorem dX8_sheet_50 : decode cX8_sheet 50 = .ok (.ireturn, 1) := by decide +kernel
theorem dX8_sheet_51 : decode cX8_sheet 51 = .ok (.aload_n 0, 1) := by decide +kernel
theorem dX8_sheet_52 : decode cX8_sheet 52 = .ok (.getfield 66, 3) := by decide +kernel
theorem dX8_sheet_55 : decode cX8_sheet 55 = .ok (.iload_n 1, 1) := by decide +kernel
theorem dX8_sheet_56 : decode cX8_sheet 56 = .ok (.aaload, 1) := by decide +kernel
theorem dX8_sheet_57 : decode cX8_sheet 57 = .ok (.iload_n 2, 1) := by decide +kernel
theorem dX8_sheet_58 : decode cX8_sheet 58 = .ok (.iload_n 3, 1) := by decide +kernel
theorem dX8_sheet_59 : decode cX8_sheet 59 = .ok (.invokevirtual 262, 3) := by decide +kernel
theorem dX8_sheet_62 : decode cX8_sheet 62 = .ok (.iconst 1, 1) := by decide +kernel
theorem dX8_sheet_63 : decode cX8_sheet 63 = .ok (.ireturn, 1) := by decide +kernel
theorem dX8_put_0 : decode cX8_put 0 = .ok (.iload_n 1, 1) := by decide +kernel
theorem dX8_put_1 : decode cX8_put 1 = .ok (.invokestatic 112, 3) := by decide +kernel
theorem dX8_put_4 : decode cX8_put 4 = .ok (.ifCond .ne 5, 3) := by decide +kernel
theorem dX8_put_7 : decode cX8_put 7 = .ok (.iconst (-1), 1) := by decide +kernel
theorem dX8_put_8 : decode cX8_put 8 = .ok (.ireturn, 1) := by decide +kernel
theorem dX8_put_9 : decode cX8_put 9 = .ok (.aload_n 0, 1) := by decide +kernel
theorem dX8_put_10 : decode cX8_put 10 = .ok (.getfield 66, 3) := by decide +kernel
theorem dX8_put_13 : decode cX8_put 13 = .ok (.iload_n 1, 1) := by decide +kernel
theorem dX8_put_14 : decode cX8_put 14 = .ok (.aaload, 1) := by decide +kernel
theorem dX8_put_15 : decode cX8_put 15 = .ok (.astore 4, 2) := by decide +kernel
theorem dX8_put_17 : decode cX8_put 17 = .ok (.aload 4, 2) := by decide +kernel
theorem dX8_put_19 : decode cX8_put 19 = .ok (.getfield 266, 3) := by decide +kernel
theorem dX8_put_22 : decode cX8_put 22 = .ok (.iconst (-1), 1) := by decide +kernel
theorem dX8_put_23 : decode cX8_put 23 = .ok (.if_icmp .ne 6, 3) := by decide +kernel
theorem dX8_put_26 : decode cX8_put 26 = .ok (.bipush (-11), 2) := by decide +kernel
theorem dX8_put_28 : decode cX8_put 28 = .ok (.ireturn, 1) := by decide +kernel
theorem dX8_put_29 : decode cX8_put 29 = .ok (.aload 4, 2) := by decide +kernel
theorem dX8_put_31 : decode cX8_put 31 = .ok (.iload_n 2, 1) := by decide +kernel
theorem dX8_put_32 : decode cX8_put 32 = .ok (.invokevirtual 269, 3) := by decide +kernel
theorem dX8_put_35 : decode cX8_put 35 = .ok (.ifCond .ne 6, 3) := by decide +kernel
theorem dX8_put_38 : decode cX8_put 38 = .ok (.bipush (-12), 2) := by decide +kernel
theorem dX8_put_40 : decode cX8_put 40 = .ok (.ireturn, 1) := by decide +kernel
theorem dX8_put_41 : decode cX8_put 41 = .ok (.aload 4, 2) := by decide +kernel
theorem dX8_put_43 : decode cX8_put 43 = .ok (.getfield 122, 3) := by decide +kernel
theorem dX8_put_46 : decode cX8_put 46 = .ok (.iload_n 2, 1) := by decide +kernel
theorem dX8_put_47 : decode cX8_put 47 = .ok (.aload 4, 2) := by decide +kernel
theorem dX8_put_49 : decode cX8_put 49 = .ok (.iload_n 3, 1) := by decide +kernel
theorem dX8_put_50 : decode cX8_put 50 = .ok (.invokevirtual 272, 3) := by decide +kernel
theorem dX8_put_53 : decode cX8_put 53 = .ok (.iastore, 1) := by decide +kernel
theorem dX8_put_54 : decode cX8_put 54 = .ok (.iconst 1, 1) := by decide +kernel
theorem dX8_put_55 : decode cX8_put 55 = .ok (.ireturn, 1) := by decide +kernel
theorem dX8_item_0 : decode cX8_item 0 = .ok (.iload_n 1, 1) := by decide +kernel
theorem dX8_item_1 : decode cX8_item 1 = .ok (.invokestatic 112, 3) := by decide +kernel
theorem dX8_item_4 : decode cX8_item 4 = .ok (.ifCond .eq 12, 3) := by decide +kernel
theorem dX8_item_7 : decode cX8_item 7 = .ok (.iload_n 2, 1) := by decide +kernel
theorem dX8_item_8 : decode cX8_item 8 = .ok (.iconst 0, 1) := by decide +kernel
theorem dX8_item_9 : decode cX8_item 9 = .ok (.iconst 3, 1) := by decide +kernel
theorem dX8_item_10 : decode cX8_item 10 = .ok (.invokestatic 105, 3) := by decide +kernel
theorem dX8_item_13 : decode cX8_item 13 = .ok (.ifCond .ne 5, 3) := by decide +kernel
theorem dX8_item_16 : decode cX8_item 16 = .ok (.iconst (-1), 1) := by decide +kernel
theorem dX8_item_17 : decode cX8_item 17 = .ok (.ireturn, 1) := by decide +kernel
theorem dX8_item_18 : decode cX8_item 18 = .ok (.aload_n 0, 1) := by decide +kernel
theorem dX8_item_19 : decode cX8_item 19 = .ok (.getfield 66, 3) := by decide +kernel
theorem dX8_item_22 : decode cX8_item 22 = .ok (.iload_n 1, 1) := by decide +kernel
theorem dX8_item_23 : decode cX8_item 23 = .ok (.aaload, 1) := by decide +kernel
theorem dX8_item_24 : decode cX8_item 24 = .ok (.astore 4, 2) := by decide +kernel
theorem dX8_item_26 : decode cX8_item 26 = .ok (.aload 4, 2) := by decide +kernel
theorem dX8_item_28 : decode cX8_item 28 = .ok (.iload_n 2, 1) := by decide +kernel
theorem dX8_item_29 : decode cX8_item 29 = .ok (.invokevirtual 115, 3) := by decide +kernel
theorem dX8_item_32 : decode cX8_item 32 = .ok (.istore 5, 2) := by decide +kernel
theorem dX8_item_34 : decode cX8_item 34 = .ok (.iload 5, 2) := by decide +kernel
theorem dX8_item_36 : decode cX8_item 36 = .ok (.ifCond .eq 6, 3) := by decide +kernel
theorem dX8_item_39 : decode cX8_item 39 = .ok (.iload 5, 2) := by decide +kernel
theorem dX8_item_41 : decode cX8_item 41 = .ok (.ireturn, 1) := by decide +kernel
theorem dX8_item_42 : decode cX8_item 42 = .ok (.aload 4, 2) := by decide +kernel
theorem dX8_item_44 : decode cX8_item 44 = .ok (.iload_n 3, 1) := by decide +kernel
theorem dX8_item_45 : decode cX8_item 45 = .ok (.invokevirtual 269, 3) := by decide +kernel
theorem dX8_item_48 : decode cX8_item 48 = .ok (.ifCond .eq 13, 3) := by decide +kernel
theorem dX8_item_51 : decode cX8_item 51 = .ok (.aload 4, 2) := by decide +kernel
theorem dX8_item_53 : decode cX8_item 53 = .ok (.getfield 122, 3) := by decide +kernel
theorem dX8_item_56 : decode cX8_item 56 = .ok (.iload_n 3, 1) := by decide +kernel
theorem dX8_item_57 : decode cX8_item 57 = .ok (.iaload, 1) := by decide +kernel
theorem dX8_item_58 : decode cX8_item 58 = .ok (.goto 5, 3) := by decide +kernel
theorem dX8_item_61 : decode cX8_item 61 = .ok (.bipush (-12), 2) := by decide +kernel
theorem dX8_item_63 : decode cX8_item 63 = .ok (.ireturn, 1) := by decide +kernel
theorem dX8_flows_0 : decode cX8_flows 0 = .ok (.aload_n 0, 1) := by decide +kernel
theorem dX8_flows_1 : decode cX8_flows 1 = .ok (.iload_n 1, 1) := by decide +kernel
theorem dX8_flows_2 : decode cX8_flows 2 = .ok (.invokevirtual 101, 3) := by decide +kernel
theorem dX8_flows_5 : decode cX8_flows 5 = .ok (.ifCond .eq 21, 3) := by decide +kernel
theorem dX8_flows_8 : decode cX8_flows 8 = .ok (.iload_n 2, 1) := by decide +kernel
theorem dX8_flows_9 : decode cX8_flows 9 = .ok (.invokestatic 112, 3) := by decide +kernel
theorem dX8_flows_12 : decode cX8_flows 12 = .ok (.ifCond .eq 14, 3) := by decide +kernel
theorem dX8_flows_15 : decode cX8_flows 15 = .ok (.iload 4, 2) := by decide +kernel
theorem dX8_flows_17 : decode cX8_flows 17 = .ok (.iconst 0, 1) := by decide +kernel
theorem dX8_flows_18 : decode cX8_flows 18 = .ok (.bipush 6, 2) := by decide +kernel
theorem dX8_flows_20 : decode cX8_flows 20 = .ok (.invokestatic 105, 3) := by decide +kernel
theorem dX8_flows_23 : decode cX8_flows 23 = .ok (.ifCond .ne 5, 3) := by decide +kernel
theorem dX8_flows_26 : decode cX8_flows 26 = .ok (.iconst (-1), 1) := by decide +kernel
theorem dX8_flows_27 : decode cX8_flows 27 = .ok (.ireturn, 1) := by decide +kernel
theorem dX8_flows_28 : decode cX8_flows 28 = .ok (.aload_n 0, 1) := by decide +kernel
theorem dX8_flows_29 : decode cX8_flows 29 = .ok (.getfield 66, 3) := by decide +kernel
theorem dX8_flows_32 : decode cX8_flows 32 = .ok (.iload_n 2, 1) := by decide +kernel
theorem dX8_flows_33 : decode cX8_flows 33 = .ok (.aaload, 1) := by decide +kernel
theorem dX8_flows_34 : decode cX8_flows 34 = .ok (.astore 5, 2) := by decide +kernel
theorem dX8_flows_36 : decode cX8_flows 36 = .ok (.aload 5, 2) := by decide +kernel
theorem dX8_flows_38 : decode cX8_flows 38 = .ok (.iconst 1, 1) := by decide +kernel
theorem dX8_flows_39 : decode cX8_flows 39 = .ok (.invokevirtual 115, 3) := by decide +kernel
theorem dX8_flows_42 : decode cX8_flows 42 = .ok (.istore 6, 2) := by decide +kernel
theorem dX8_flows_44 : decode cX8_flows 44 = .ok (.iload 6, 2) := by decide +kernel
theorem dX8_flows_46 : decode cX8_flows 46 = .ok (.ifCond .eq 6, 3) := by decide +kernel
theorem dX8_flows_49 : decode cX8_flows 49 = .ok (.iload 6, 2) := by decide +kernel
theorem dX8_flows_51 : decode cX8_flows 51 = .ok (.ireturn, 1) := by decide +kernel
theorem dX8_flows_52 : decode cX8_flows 52 = .ok (.iconst 0, 1) := by decide +kernel
theorem dX8_flows_53 : decode cX8_flows 53 = .ok (.istore 7, 2) := by decide +kernel
theorem dX8_flows_55 : decode cX8_flows 55 = .ok (.iconst 0, 1) := by decide +kernel
theorem dX8_flows_56 : decode cX8_flows 56 = .ok (.istore 8, 2) := by decide +kernel
theorem dX8_flows_58 : decode cX8_flows 58 = .ok (.iload 8, 2) := by decide +kernel
theorem dX8_flows_60 : decode cX8_flows 60 = .ok (.iload 4, 2) := by decide +kernel
theorem dX8_flows_62 : decode cX8_flows 62 = .ok (.if_icmp .ge 79, 3) := by decide +kernel
theorem dX8_flows_65 : decode cX8_flows 65 = .ok (.aload 5, 2) := by decide +kernel
theorem dX8_flows_67 : decode cX8_flows 67 = .ok (.iload_n 3, 1) := by decide +kernel
theorem dX8_flows_68 : decode cX8_flows 68 = .ok (.iload 8, 2) := by decide +kernel
theorem dX8_flows_70 : decode cX8_flows 70 = .ok (.iadd, 1) := by decide +kernel
theorem dX8_flows_71 : decode cX8_flows 71 = .ok (.invokevirtual 269, 3) := by decide +kernel
theorem dX8_flows_74 : decode cX8_flows 74 = .ok (.ifCond .ne 6, 3) := by decide +kernel
theorem dX8_flows_77 : decode cX8_flows 77 = .ok (.bipush (-12), 2) := by decide +kernel
theorem dX8_flows_79 : decode cX8_flows 79 = .ok (.ireturn, 1) := by decide +kernel
theorem dX8_flows_80 : decode cX8_flows 80 = .ok (.aload_n 0, 1) := by decide +kernel
theorem dX8_flows_81 : decode cX8_flows 81 = .ok (.iload_n 1, 1) := by decide +kernel
theorem dX8_flows_82 : decode cX8_flows 82 = .ok (.iload 8, 2) := by decide +kernel
theorem dX8_flows_84 : decode cX8_flows 84 = .ok (.iadd, 1) := by decide +kernel
theorem dX8_flows_85 : decode cX8_flows 85 = .ok (.invokevirtual 101, 3) := by decide +kernel
theorem dX8_flows_88 : decode cX8_flows 88 = .ok (.ifCond .eq 47, 3) := by decide +kernel
theorem dX8_flows_91 : decode cX8_flows 91 = .ok (.iconst 0, 1) := by decide +kernel
theorem dX8_flows_92 : decode cX8_flows 92 = .ok (.aload 5, 2) := by decide +kernel
theorem dX8_flows_94 : decode cX8_flows 94 = .ok (.getfield 122, 3) := by decide +kernel
theorem dX8_flows_97 : decode cX8_flows 97 = .ok (.iload_n 3, 1) := by decide +kernel
theorem dX8_flows_98 : decode cX8_flows 98 = .ok (.iload 8, 2) := by decide +kernel
theorem dX8_flows_100 : decode cX8_flows 100 = .ok (.iadd, 1) := by decide +kernel
theorem dX8_flows_101 : decode cX8_flows 101 = .ok (.iaload, 1) := by decide +kernel
theorem dX8_flows_102 : decode cX8_flows 102 = .ok (.invokestatic 90, 3) := by decide +kernel
theorem dX8_flows_105 : decode cX8_flows 105 = .ok (.ifCond .eq 30, 3) := by decide +kernel
theorem dX8_flows_108 : decode cX8_flows 108 = .ok (.aload_n 0, 1) := by decide +kernel
theorem dX8_flows_109 : decode cX8_flows 109 = .ok (.getfield 12, 3) := by decide +kernel
theorem dX8_flows_112 : decode cX8_flows 112 = .ok (.getfield 109, 3) := by decide +kernel
theorem dX8_flows_115 : decode cX8_flows 115 = .ok (.iload_n 1, 1) := by decide +kernel
theorem dX8_flows_116 : decode cX8_flows 116 = .ok (.iload 8, 2) := by decide +kernel
theorem dX8_flows_118 : decode cX8_flows 118 = .ok (.iadd, 1) := by decide +kernel
theorem dX8_flows_119 : decode cX8_flows 119 = .ok (.aaload, 1) := by decide +kernel
theorem dX8_flows_120 : decode cX8_flows 120 = .ok (.iconst 0, 1) := by decide +kernel
theorem dX8_flows_121 : decode cX8_flows 121 = .ok (.aload 5, 2) := by decide +kernel
theorem dX8_flows_123 : decode cX8_flows 123 = .ok (.getfield 122, 3) := by decide +kernel
theorem dX8_flows_126 : decode cX8_flows 126 = .ok (.iload_n 3, 1) := by decide +kernel
theorem dX8_flows_127 : decode cX8_flows 127 = .ok (.iload 8, 2) := by decide +kernel
theorem dX8_flows_129 : decode cX8_flows 129 = .ok (.iadd, 1) := by decide +kernel
theorem dX8_flows_130 : decode cX8_flows 130 = .ok (.iaload, 1) := by decide +kernel
theorem dX8_flows_131 : decode cX8_flows 131 = .ok (.iastore, 1) := by decide +kernel
theorem dX8_flows_132 : decode cX8_flows 132 = .ok (.iinc 7 1, 3) := by decide +kernel
theorem dX8_flows_135 : decode cX8_flows 135 = .ok (.iinc 8 1, 3) := by decide +kernel
theorem dX8_flows_138 : decode cX8_flows 138 = .ok (.goto (-80), 3) := by decide +kernel
theorem dX8_flows_141 : decode cX8_flows 141 = .ok (.iload 7, 2) := by decide +kernel
theorem dX8_flows_143 : decode cX8_flows 143 = .ok (.ireturn, 1) := by decide +kernel
theorem dX8_shelf_0 : decode cX8_shelf 0 = .ok (.iload_n 1, 1) := by decide +kernel
theorem dX8_shelf_1 : decode cX8_shelf 1 = .ok (.invokestatic 275, 3) := by decide +kernel
theorem dX8_shelf_4 : decode cX8_shelf 4 = .ok (.ifCond .eq 13, 3) := by decide +kernel
theorem dX8_shelf_7 : decode cX8_shelf 7 = .ok (.iload_n 2, 1) := by decide +kernel
theorem dX8_shelf_8 : decode cX8_shelf 8 = .ok (.iconst 0, 1) := by decide +kernel
theorem dX8_shelf_9 : decode cX8_shelf 9 = .ok (.bipush 8, 2) := by decide +kernel
theorem dX8_shelf_11 : decode cX8_shelf 11 = .ok (.invokestatic 105, 3) := by decide +kernel
theorem dX8_shelf_14 : decode cX8_shelf 14 = .ok (.ifCond .ne 5, 3) := by decide +kernel
theorem dX8_shelf_17 : decode cX8_shelf 17 = .ok (.iconst (-1), 1) := by decide +kernel
theorem dX8_shelf_18 : decode cX8_shelf 18 = .ok (.ireturn, 1) := by decide +kernel
theorem dX8_shelf_19 : decode cX8_shelf 19 = .ok (.iload_n 2, 1) := by decide +kernel
theorem dX8_shelf_20 : decode cX8_shelf 20 = .ok (.bipush 6, 2) := by decide +kernel
theorem dX8_shelf_22 : decode cX8_shelf 22 = .ok (.if_icmp .gt 11, 3) := by decide +kernel
theorem dX8_shelf_25 : decode cX8_shelf 25 = .ok (.aload_n 0, 1) := by decide +kernel
theorem dX8_shelf_26 : decode cX8_shelf 26 = .ok (.iload_n 3, 1) := by decide +kernel
theorem dX8_shelf_27 : decode cX8_shelf 27 = .ok (.invokevirtual 101, 3) := by decide +kernel
theorem dX8_shelf_30 : decode cX8_shelf 30 = .ok (.ifCond .eq 16, 3) := by decide +kernel
theorem dX8_shelf_33 : decode cX8_shelf 33 = .ok (.iload_n 2, 1) := by decide +kernel
theorem dX8_shelf_34 : decode cX8_shelf 34 = .ok (.bipush 7, 2) := by decide +kernel
theorem dX8_shelf_36 : decode cX8_shelf 36 = .ok (.if_icmp .ne 12, 3) := by decide +kernel
theorem dX8_shelf_39 : decode cX8_shelf 39 = .ok (.iload_n 3, 1) := by decide +kernel
theorem dX8_shelf_40 : decode cX8_shelf 40 = .ok (.invokestatic 112, 3) := by decide +kernel
theorem dX8_shelf_43 : decode cX8_shelf 43 = .ok (.ifCond .ne 5, 3) := by decide +kernel
theorem dX8_shelf_46 : decode cX8_shelf 46 = .ok (.iconst (-1), 1) := by decide +kernel
theorem dX8_shelf_47 : decode cX8_shelf 47 = .ok (.ireturn, 1) := by decide +kernel
theorem dX8_shelf_48 : decode cX8_shelf 48 = .ok (.aload_n 0, 1) := by decide +kernel
theorem dX8_shelf_49 : decode cX8_shelf 49 = .ok (.getfield 70, 3) := by decide +kernel
theorem dX8_shelf_52 : decode cX8_shelf 52 = .ok (.iload_n 1, 1) := by decide +kernel
theorem dX8_shelf_53 : decode cX8_shelf 53 = .ok (.iconst (-1), 1) := by decide +kernel
theorem dX8_shelf_54 : decode cX8_shelf 54 = .ok (.iastore, 1) := by decide +kernel
theorem dX8_shelf_55 : decode cX8_shelf 55 = .ok (.iload_n 2, 1) := by decide +kernel
theorem dX8_shelf_56 : decode cX8_shelf 56 = .ok (.bipush 6, 2) := by decide +kernel
theorem dX8_shelf_58 : decode cX8_shelf 58 = .ok (.if_icmp .gt 20, 3) := by decide +kernel
theorem dX8_shelf_61 : decode cX8_shelf 61 = .ok (.aload_n 0, 1) := by decide +kernel
theorem dX8_shelf_62 : decode cX8_shelf 62 = .ok (.getfield 70, 3) := by decide +kernel
theorem dX8_shelf_65 : decode cX8_shelf 65 = .ok (.iload_n 1, 1) := by decide +kernel
theorem dX8_shelf_66 : decode cX8_shelf 66 = .ok (.iload_n 2, 1) := by decide +kernel
theorem dX8_shelf_67 : decode cX8_shelf 67 = .ok (.iastore, 1) := by decide +kernel
theorem dX8_shelf_68 : decode cX8_shelf 68 = .ok (.aload_n 0, 1) := by decide +kernel
theorem dX8_shelf_69 : decode cX8_shelf 69 = .ok (.getfield 73, 3) := by decide +kernel
theorem dX8_shelf_72 : decode cX8_shelf 72 = .ok (.iload_n 1, 1) := by decide +kernel
theorem dX8_shelf_73 : decode cX8_shelf 73 = .ok (.iload_n 3, 1) := by decide +kernel
theorem dX8_shelf_74 : decode cX8_shelf 74 = .ok (.iastore, 1) := by decide +kernel
theorem dX8_shelf_75 : decode cX8_shelf 75 = .ok (.goto 55, 3) := by decide +kernel
theorem dX8_shelf_78 : decode cX8_shelf 78 = .ok (.iload_n 2, 1) := by decide +kernel
theorem dX8_shelf_79 : decode cX8_shelf 79 = .ok (.bipush 7, 2) := by decide +kernel
theorem dX8_shelf_81 : decode cX8_shelf 81 = .ok (.if_icmp .ne 49, 3) := by decide +kernel
theorem dX8_shelf_84 : decode cX8_shelf 84 = .ok (.aload_n 0, 1) := by decide +kernel
theorem dX8_shelf_85 : decode cX8_shelf 85 = .ok (.getfield 66, 3) := by decide +kernel
theorem dX8_shelf_88 : decode cX8_shelf 88 = .ok (.iload_n 3, 1) := by decide +kernel
theorem dX8_shelf_89 : decode cX8_shelf 89 = .ok (.aaload, 1) := by decide +kernel
theorem dX8_shelf_90 : decode cX8_shelf 90 = .ok (.getfield 266, 3) := by decide +kernel
theorem dX8_shelf_93 : decode cX8_shelf 93 = .ok (.iconst (-1), 1) := by decide +kernel
theorem dX8_shelf_94 : decode cX8_shelf 94 = .ok (.if_icmp .eq 36, 3) := by decide +kernel
theorem dX8_shelf_97 : decode cX8_shelf 97 = .ok (.aload_n 0, 1) := by decide +kernel
theorem dX8_shelf_98 : decode cX8_shelf 98 = .ok (.getfield 70, 3) := by decide +kernel
theorem dX8_shelf_101 : decode cX8_shelf 101 = .ok (.iload_n 1, 1) := by decide +kernel
theorem dX8_shelf_102 : decode cX8_shelf 102 = .ok (.bipush 10, 2) := by decide +kernel
theorem dX8_shelf_104 : decode cX8_shelf 104 = .ok (.aload_n 0, 1) := by decide +kernel
theorem dX8_shelf_105 : decode cX8_shelf 105 = .ok (.getfield 66, 3) := by decide +kernel
theorem dX8_shelf_108 : decode cX8_shelf 108 = .ok (.iload_n 3, 1) := by decide +kernel
theorem dX8_shelf_109 : decode cX8_shelf 109 = .ok (.aaload, 1) := by decide +kernel
theorem dX8_shelf_110 : decode cX8_shelf 110 = .ok (.getfield 266, 3) := by decide +kernel
theorem dX8_shelf_113 : decode cX8_shelf 113 = .ok (.iadd, 1) := by decide +kernel
theorem dX8_shelf_114 : decode cX8_shelf 114 = .ok (.iastore, 1) := by decide +kernel
theorem dX8_shelf_115 : decode cX8_shelf 115 = .ok (.aload_n 0, 1) := by decide +kernel
theorem dX8_shelf_116 : decode cX8_shelf 116 = .ok (.getfield 73, 3) := by decide +kernel
theorem dX8_shelf_119 : decode cX8_shelf 119 = .ok (.iload_n 1, 1) := by decide +kernel
theorem dX8_shelf_120 : decode cX8_shelf 120 = .ok (.aload_n 0, 1) := by decide +kernel
theorem dX8_shelf_121 : decode cX8_shelf 121 = .ok (.getfield 66, 3) := by decide +kernel
theorem dX8_shelf_124 : decode cX8_shelf 124 = .ok (.iload_n 3, 1) := by decide +kernel
theorem dX8_shelf_125 : decode cX8_shelf 125 = .ok (.aaload, 1) := by decide +kernel
theorem dX8_shelf_126 : decode cX8_shelf 126 = .ok (.getfield 278, 3) := by decide +kernel
theorem dX8_shelf_129 : decode cX8_shelf 129 = .ok (.iastore, 1) := by decide +kernel
theorem dX8_shelf_130 : decode cX8_shelf 130 = .ok (.iconst 1, 1) := by decide +kernel
theorem dX8_shelf_131 : decode cX8_shelf 131 = .ok (.ireturn, 1) := by decide +kernel
theorem dX8_taken_0 : decode cX8_taken 0 = .ok (.iload_n 2, 1) := by decide +kernel
theorem dX8_taken_1 : decode cX8_taken 1 = .ok (.iconst 0, 1) := by decide +kernel
theorem dX8_taken_2 : decode cX8_taken 2 = .ok (.bipush 6, 2) := by decide +kernel
theorem dX8_taken_4 : decode cX8_taken 4 = .ok (.invokestatic 105, 3) := by decide +kernel
theorem dX8_taken_7 : decode cX8_taken 7 = .ok (.istore_n 3, 1) := by decide +kernel
theorem dX8_taken_8 : decode cX8_taken 8 = .ok (.iload_n 1, 1) := by decide +kernel
theorem dX8_taken_9 : decode cX8_taken 9 = .ok (.invokestatic 275, 3) := by decide +kernel
theorem dX8_taken_12 : decode cX8_taken 12 = .ok (.ifCond .eq 18, 3) := by decide +kernel
theorem dX8_taken_15 : decode cX8_taken 15 = .ok (.iload_n 3, 1) := by decide +kernel
theorem dX8_taken_16 : decode cX8_taken 16 = .ok (.ifCond .ne 16, 3) := by decide +kernel
theorem dX8_taken_19 : decode cX8_taken 19 = .ok (.iload_n 2, 1) := by decide +kernel
theorem dX8_taken_20 : decode cX8_taken 20 = .ok (.bipush 10, 2) := by decide +kernel
theorem dX8_taken_22 : decode cX8_taken 22 = .ok (.bipush 13, 2) := by decide +kernel
theorem dX8_taken_24 : decode cX8_taken 24 = .ok (.invokestatic 105, 3) := by decide +kernel
theorem dX8_taken_27 : decode cX8_taken 27 = .ok (.ifCond .ne 5, 3) := by decide +kernel
theorem dX8_taken_30 : decode cX8_taken 30 = .ok (.iconst (-1), 1) := by decide +kernel
theorem dX8_taken_31 : decode cX8_taken 31 = .ok (.ireturn, 1) := by decide +kernel
theorem dX8_taken_32 : decode cX8_taken 32 = .ok (.aload_n 0, 1) := by decide +kernel
theorem dX8_taken_33 : decode cX8_taken 33 = .ok (.iload_n 1, 1) := by decide +kernel
theorem dX8_taken_34 : decode cX8_taken 34 = .ok (.invokevirtual 281, 3) := by decide +kernel
theorem dX8_taken_37 : decode cX8_taken 37 = .ok (.istore 4, 2) := by decide +kernel
theorem dX8_taken_39 : decode cX8_taken 39 = .ok (.iload 4, 2) := by decide +kernel
theorem dX8_taken_41 : decode cX8_taken 41 = .ok (.iconst (-1), 1) := by decide +kernel
theorem dX8_taken_42 : decode cX8_taken 42 = .ok (.if_icmp .ne 6, 3) := by decide +kernel
theorem dX8_taken_45 : decode cX8_taken 45 = .ok (.bipush (-11), 2) := by decide +kernel
theorem dX8_taken_47 : decode cX8_taken 47 = .ok (.ireturn, 1) := by decide +kernel
theorem dX8_taken_48 : decode cX8_taken 48 = .ok (.iload_n 3, 1) := by decide +kernel
theorem dX8_taken_49 : decode cX8_taken 49 = .ok (.ifCond .eq 12, 3) := by decide +kernel
theorem dX8_taken_52 : decode cX8_taken 52 = .ok (.iload 4, 2) := by decide +kernel
theorem dX8_taken_54 : decode cX8_taken 54 = .ok (.iload_n 2, 1) := by decide +kernel
theorem dX8_taken_55 : decode cX8_taken 55 = .ok (.invokestatic 284, 3) := by decide +kernel
theorem dX8_taken_58 : decode cX8_taken 58 = .ok (.goto 14, 3) := by decide +kernel
theorem dX8_taken_61 : decode cX8_taken 61 = .ok (.iload 4, 2) := by decide +kernel
theorem dX8_taken_63 : decode cX8_taken 63 = .ok (.iload_n 2, 1) := by decide +kernel
theorem dX8_taken_64 : decode cX8_taken 64 = .ok (.if_icmp .ne 7, 3) := by decide +kernel
theorem dX8_taken_67 : decode cX8_taken 67 = .ok (.iconst 1, 1) := by decide +kernel
theorem dX8_taken_68 : decode cX8_taken 68 = .ok (.goto 4, 3) := by decide +kernel
theorem dX8_taken_71 : decode cX8_taken 71 = .ok (.iconst 0, 1) := by decide +kernel
theorem dX8_taken_72 : decode cX8_taken 72 = .ok (.istore 5, 2) := by decide +kernel
theorem dX8_taken_74 : decode cX8_taken 74 = .ok (.iload 5, 2) := by decide +kernel
theorem dX8_taken_76 : decode cX8_taken 76 = .ok (.ifCond .eq 12, 3) := by decide +kernel
theorem dX8_taken_79 : decode cX8_taken 79 = .ok (.aload_n 0, 1) := by decide +kernel
theorem dX8_taken_80 : decode cX8_taken 80 = .ok (.getfield 73, 3) := by decide +kernel
theorem dX8_taken_83 : decode cX8_taken 83 = .ok (.iload_n 1, 1) := by decide +kernel
theorem dX8_taken_84 : decode cX8_taken 84 = .ok (.iaload, 1) := by decide +kernel
theorem dX8_taken_85 : decode cX8_taken 85 = .ok (.goto 5, 3) := by decide +kernel
theorem dX8_taken_88 : decode cX8_taken 88 = .ok (.bipush (-13), 2) := by decide +kernel
theorem dX8_taken_90 : decode cX8_taken 90 = .ok (.ireturn, 1) := by decide +kernel
theorem dX8_act_0 : decode cX8_act 0 = .ok (.aload_n 0, 1) := by decide +kernel
theorem dX8_act_1 : decode cX8_act 1 = .ok (.getfield 79, 3) := by decide +kernel
theorem dX8_act_4 : decode cX8_act 4 = .ok (.invokevirtual 287, 3) := by decide +kernel
theorem dX8_act_7 : decode cX8_act 7 = .ok (.iload_n 1, 1) := by decide +kernel
theorem dX8_act_8 : decode cX8_act 8 = .ok (.invokestatic 275, 3) := by decide +kernel
theorem dX8_act_11 : decode cX8_act 11 = .ok (.ifCond .eq 11, 3) := by decide +kernel
theorem dX8_act_14 : decode cX8_act 14 = .ok (.aload_n 0, 1) := by decide +kernel
theorem dX8_act_15 : decode cX8_act 15 = .ok (.iload_n 1, 1) := by decide +kernel
theorem dX8_act_16 : decode cX8_act 16 = .ok (.invokevirtual 281, 3) := by decide +kernel
theorem dX8_act_19 : decode cX8_act 19 = .ok (.goto 4, 3) := by decide +kernel
theorem dX8_act_22 : decode cX8_act 22 = .ok (.iconst (-1), 1) := by decide +kernel
theorem dX8_act_23 : decode cX8_act 23 = .ok (.istore 4, 2) := by decide +kernel
theorem dX8_act_25 : decode cX8_act 25 = .ok (.iload 4, 2) := by decide +kernel
theorem dX8_act_27 : decode cX8_act 27 = .ok (.iconst 0, 1) := by decide +kernel
theorem dX8_act_28 : decode cX8_act 28 = .ok (.bipush 6, 2) := by decide +kernel
theorem dX8_act_30 : decode cX8_act 30 = .ok (.invokestatic 105, 3) := by decide +kernel
theorem dX8_act_33 : decode cX8_act 33 = .ok (.ifCond .eq 12, 3) := by decide +kernel
theorem dX8_act_36 : decode cX8_act 36 = .ok (.iload_n 2, 1) := by decide +kernel
theorem dX8_act_37 : decode cX8_act 37 = .ok (.iconst 0, 1) := by decide +kernel
theorem dX8_act_38 : decode cX8_act 38 = .ok (.iconst 3, 1) := by decide +kernel
theorem dX8_act_39 : decode cX8_act 39 = .ok (.invokestatic 105, 3) := by decide +kernel
theorem dX8_act_42 : decode cX8_act 42 = .ok (.ifCond .ne 5, 3) := by decide +kernel
theorem dX8_act_45 : decode cX8_act 45 = .ok (.iconst 0, 1) := by decide +kernel
theorem dX8_act_46 : decode cX8_act 46 = .ok (.ireturn, 1) := by decide +kernel
theorem dX8_act_47 : decode cX8_act 47 = .ok (.aload_n 0, 1) := by decide +kernel
theorem dX8_act_48 : decode cX8_act 48 = .ok (.getfield 73, 3) := by decide +kernel
theorem dX8_act_51 : decode cX8_act 51 = .ok (.iload_n 1, 1) := by decide +kernel
theorem dX8_act_52 : decode cX8_act 52 = .ok (.iaload, 1) := by decide +kernel
theorem dX8_act_53 : decode cX8_act 53 = .ok (.istore 5, 2) := by decide +kernel
theorem dX8_act_55 : decode cX8_act 55 = .ok (.aload_n 0, 1) := by decide +kernel
theorem dX8_act_56 : decode cX8_act 56 = .ok (.getfield 79, 3) := by decide +kernel
theorem dX8_act_59 : decode cX8_act 59 = .ok (.iload 4, 2) := by decide +kernel
theorem dX8_act_61 : decode cX8_act 61 = .ok (.iload 5, 2) := by decide +kernel
theorem dX8_act_63 : decode cX8_act 63 = .ok (.aload_n 0, 1) := by decide +kernel
theorem dX8_act_64 : decode cX8_act 64 = .ok (.iload 4, 2) := by decide +kernel
theorem dX8_act_66 : decode cX8_act 66 = .ok (.iload 5, 2) := by decide +kernel
theorem dX8_act_68 : decode cX8_act 68 = .ok (.invokevirtual 290, 3) := by decide +kernel
theorem dX8_act_71 : decode cX8_act 71 = .ok (.iload_n 2, 1) := by decide +kernel
theorem dX8_act_72 : decode cX8_act 72 = .ok (.iload_n 3, 1) := by decide +kernel
theorem dX8_act_73 : decode cX8_act 73 = .ok (.invokevirtual 293, 3) := by decide +kernel
theorem dX8_act_76 : decode cX8_act 76 = .ok (.ireturn, 1) := by decide +kernel
theorem dX8_trace_0 : decode cX8_trace 0 = .ok (.iload_n 1, 1) := by decide +kernel
theorem dX8_trace_1 : decode cX8_trace 1 = .ok (.iconst 0, 1) := by decide +kernel
theorem dX8_trace_2 : decode cX8_trace 2 = .ok (.aload_n 0, 1) := by decide +kernel
theorem dX8_trace_3 : decode cX8_trace 3 = .ok (.getfield 79, 3) := by decide +kernel
theorem dX8_trace_6 : decode cX8_trace 6 = .ok (.getfield 297, 3) := by decide +kernel
theorem dX8_trace_9 : decode cX8_trace 9 = .ok (.iconst 1, 1) := by decide +kernel
theorem dX8_trace_10 : decode cX8_trace 10 = .ok (.isub, 1) := by decide +kernel
theorem dX8_trace_11 : decode cX8_trace 11 = .ok (.invokestatic 105, 3) := by decide +kernel
theorem dX8_trace_14 : decode cX8_trace 14 = .ok (.ifCond .eq 15, 3) := by decide +kernel
theorem dX8_trace_17 : decode cX8_trace 17 = .ok (.aload_n 0, 1) := by decide +kernel
theorem dX8_trace_18 : decode cX8_trace 18 = .ok (.getfield 79, 3) := by decide +kernel
theorem dX8_trace_21 : decode cX8_trace 21 = .ok (.getfield 300, 3) := by decide +kernel
theorem dX8_trace_24 : decode cX8_trace 24 = .ok (.iload_n 1, 1) := by decide +kernel
theorem dX8_trace_25 : decode cX8_trace 25 = .ok (.iaload, 1) := by decide +kernel
theorem dX8_trace_26 : decode cX8_trace 26 = .ok (.goto 5, 3) := by decide +kernel
theorem dX8_trace_29 : decode cX8_trace 29 = .ok (.bipush (-3), 2) := by decide +kernel
theorem dX8_trace_31 : decode cX8_trace 31 = .ok (.ireturn, 1) := by decide +kernel
theorem dX8_many_0 : decode cX8_many 0 = .ok (.iload_n 1, 1) := by decide +kernel
theorem dX8_many_1 : decode cX8_many 1 = .ok (.tableswitch 111 0 7 #[47, 55, 63, 74, 79, 87, 95, 103], 47) := by decide +kernel
theorem dX8_many_48 : decode cX8_many 48 = .ok (.aload_n 0, 1) := by decide +kernel
theorem dX8_many_49 : decode cX8_many 49 = .ok (.getfield 12, 3) := by decide +kernel
theorem dX8_many_52 : decode cX8_many 52 = .ok (.getfield 94, 3) := by decide +kernel
theorem dX8_many_55 : decode cX8_many 55 = .ok (.ireturn, 1) := by decide +kernel
theorem dX8_many_56 : decode cX8_many 56 = .ok (.aload_n 0, 1) := by decide +kernel
theorem dX8_many_57 : decode cX8_many 57 = .ok (.getfield 12, 3) := by decide +kernel
theorem dX8_many_60 : decode cX8_many 60 = .ok (.getfield 185, 3) := by decide +kernel
theorem dX8_many_63 : decode cX8_many 63 = .ok (.ireturn, 1) := by decide +kernel
theorem dX8_many_64 : decode cX8_many 64 = .ok (.aload_n 0, 1) := by decide +kernel
theorem dX8_many_65 : decode cX8_many 65 = .ok (.getfield 12, 3) := by decide +kernel
theorem dX8_many_68 : decode cX8_many 68 = .ok (.getfield 217, 3) := by decide +kernel
theorem dX8_many_71 : decode cX8_many 71 = .ok (.getfield 230, 3) := by decide +kernel
theorem dX8_many_74 : decode cX8_many 74 = .ok (.ireturn, 1) := by decide +kernel
theorem dX8_many_75 : decode cX8_many 75 = .ok (.aload_n 0, 1) := by decide +kernel
theorem dX8_many_76 : decode cX8_many 76 = .ok (.getfield 60, 3) := by decide +kernel
theorem dX8_many_79 : decode cX8_many 79 = .ok (.ireturn, 1) := by decide +kernel
theorem dX8_many_80 : decode cX8_many 80 = .ok (.aload_n 0, 1) := by decide +kernel
theorem dX8_many_81 : decode cX8_many 81 = .ok (.getfield 47, 3) := by decide +kernel
theorem dX8_many_84 : decode cX8_many 84 = .ok (.getfield 211, 3) := by decide +kernel
theorem dX8_many_87 : decode cX8_many 87 = .ok (.ireturn, 1) := by decide +kernel
theorem dX8_many_88 : decode cX8_many 88 = .ok (.aload_n 0, 1) := by decide +kernel
theorem dX8_many_89 : decode cX8_many 89 = .ok (.getfield 79, 3) := by decide +kernel
theorem dX8_many_92 : decode cX8_many 92 = .ok (.getfield 297, 3) := by decide +kernel
theorem dX8_many_95 : decode cX8_many 95 = .ok (.ireturn, 1) := by decide +kernel
theorem dX8_many_96 : decode cX8_many 96 = .ok (.aload_n 0, 1) := by decide +kernel
theorem dX8_many_97 : decode cX8_many 97 = .ok (.getfield 12, 3) := by decide +kernel
theorem dX8_many_100 : decode cX8_many 100 = .ok (.getfield 197, 3) := by decide +kernel
theorem dX8_many_103 : decode cX8_many 103 = .ok (.ireturn, 1) := by decide +kernel
theorem dX8_many_104 : decode cX8_many 104 = .ok (.aload_n 0, 1) := by decide +kernel
theorem dX8_many_105 : decode cX8_many 105 = .ok (.getfield 12, 3) := by decide +kernel
theorem dX8_many_108 : decode cX8_many 108 = .ok (.getfield 194, 3) := by decide +kernel
theorem dX8_many_111 : decode cX8_many 111 = .ok (.ireturn, 1) := by decide +kernel
theorem dX8_many_112 : decode cX8_many 112 = .ok (.iconst (-1), 1) := by decide +kernel
theorem dX8_many_113 : decode cX8_many 113 = .ok (.ireturn, 1) := by decide +kernel
theorem dX8_keep_0 : decode cX8_keep 0 = .ok (.aload_n 0, 1) := by decide +kernel
theorem dX8_keep_1 : decode cX8_keep 1 = .ok (.getfield 16, 3) := by decide +kernel
theorem dX8_keep_4 : decode cX8_keep 4 = .ok (.aload_n 0, 1) := by decide +kernel
theorem dX8_keep_5 : decode cX8_keep 5 = .ok (.getfield 12, 3) := by decide +kernel
theorem dX8_keep_8 : decode cX8_keep 8 = .ok (.invokevirtual 303, 3) := by decide +kernel
theorem dX8_keep_11 : decode cX8_keep 11 = .ok (.aload_n 0, 1) := by decide +kernel
theorem dX8_keep_12 : decode cX8_keep 12 = .ok (.iconst 1, 1) := by decide +kernel
theorem dX8_keep_13 : decode cX8_keep 13 = .ok (.putfield 19, 3) := by decide +kernel
theorem dX8_keep_16 : decode cX8_keep 16 = .ok (.iconst 1, 1) := by decide +kernel
theorem dX8_keep_17 : decode cX8_keep 17 = .ok (.ireturn, 1) := by decide +kernel
theorem dX8_again_0 : decode cX8_again 0 = .ok (.aload_n 0, 1) := by decide +kernel
theorem dX8_again_1 : decode cX8_again 1 = .ok (.getfield 19, 3) := by decide +kernel
theorem dX8_again_4 : decode cX8_again 4 = .ok (.ifCond .ne 6, 3) := by decide +kernel
theorem dX8_again_7 : decode cX8_again 7 = .ok (.bipush (-3), 2) := by decide +kernel
theorem dX8_again_9 : decode cX8_again 9 = .ok (.ireturn, 1) := by decide +kernel
theorem dX8_again_10 : decode cX8_again 10 = .ok (.aload_n 0, 1) := by decide +kernel
theorem dX8_again_11 : decode cX8_again 11 = .ok (.getfield 12, 3) := by decide +kernel
theorem dX8_again_14 : decode cX8_again 14 = .ok (.aload_n 0, 1) := by decide +kernel
theorem dX8_again_15 : decode cX8_again 15 = .ok (.getfield 16, 3) := by decide +kernel
theorem dX8_again_18 : decode cX8_again 18 = .ok (.invokevirtual 303, 3) := by decide +kernel
theorem dX8_again_21 : decode cX8_again 21 = .ok (.iconst 1, 1) := by decide +kernel
theorem dX8_again_22 : decode cX8_again 22 = .ok (.ireturn, 1) := by decide +kernel
theorem dX8_within_0 : decode cX8_within 0 = .ok (.iload_n 1, 1) := by decide +kernel
theorem dX8_within_1 : decode cX8_within 1 = .ok (.iload_n 0, 1) := by decide +kernel
theorem dX8_within_2 : decode cX8_within 2 = .ok (.if_icmp .gt 12, 3) := by decide +kernel
theorem dX8_within_5 : decode cX8_within 5 = .ok (.iload_n 0, 1) := by decide +kernel
theorem dX8_within_6 : decode cX8_within 6 = .ok (.iload_n 2, 1) := by decide +kernel
theorem dX8_within_7 : decode cX8_within 7 = .ok (.if_icmp .gt 7, 3) := by decide +kernel
theorem dX8_within_10 : decode cX8_within 10 = .ok (.iconst 1, 1) := by decide +kernel
theorem dX8_within_11 : decode cX8_within 11 = .ok (.goto 4, 3) := by decide +kernel
theorem dX8_within_14 : decode cX8_within 14 = .ok (.iconst 0, 1) := by decide +kernel
theorem dX8_within_15 : decode cX8_within 15 = .ok (.ireturn, 1) := by decide +kernel
theorem dX8_isWet_0 : decode cX8_isWet 0 = .ok (.iload_n 0, 1) := by decide +kernel
theorem dX8_isWet_1 : decode cX8_isWet 1 = .ok (.iconst 0, 1) := by decide +kernel
theorem dX8_isWet_2 : decode cX8_isWet 2 = .ok (.bipush 20, 2) := by decide +kernel
theorem dX8_isWet_4 : decode cX8_isWet 4 = .ok (.invokestatic 105, 3) := by decide +kernel
theorem dX8_isWet_7 : decode cX8_isWet 7 = .ok (.ireturn, 1) := by decide +kernel
theorem dX8_isSheet_0 : decode cX8_isSheet 0 = .ok (.iload_n 0, 1) := by decide +kernel
theorem dX8_isSheet_1 : decode cX8_isSheet 1 = .ok (.iconst 0, 1) := by decide +kernel
theorem dX8_isSheet_2 : decode cX8_isSheet 2 = .ok (.iconst 3, 1) := by decide +kernel
theorem dX8_isSheet_3 : decode cX8_isSheet 3 = .ok (.invokestatic 105, 3) := by decide +kernel
theorem dX8_isSheet_6 : decode cX8_isSheet 6 = .ok (.ireturn, 1) := by decide +kernel
theorem dX8_isShelf_0 : decode cX8_isShelf 0 = .ok (.iload_n 0, 1) := by decide +kernel
theorem dX8_isShelf_1 : decode cX8_isShelf 1 = .ok (.iconst 0, 1) := by decide +kernel
theorem dX8_isShelf_2 : decode cX8_isShelf 2 = .ok (.iconst 3, 1) := by decide +kernel
theorem dX8_isShelf_3 : decode cX8_isShelf 3 = .ok (.invokestatic 105, 3) := by decide +kernel
theorem dX8_isShelf_6 : decode cX8_isShelf 6 = .ok (.ireturn, 1) := by decide +kernel
theorem dX8_isFact_0 : decode cX8_isFact 0 = .ok (.iload_n 1, 1) := by decide +kernel
theorem dX8_isFact_1 : decode cX8_isFact 1 = .ok (.getstatic 306, 3) := by decide +kernel
theorem dX8_isFact_4 : decode cX8_isFact 4 = .ok (.iload_n 0, 1) := by decide +kernel
theorem dX8_isFact_5 : decode cX8_isFact 5 = .ok (.iaload, 1) := by decide +kernel
theorem dX8_isFact_6 : decode cX8_isFact 6 = .ok (.getstatic 309, 3) := by decide +kernel
theorem dX8_isFact_9 : decode cX8_isFact 9 = .ok (.iload_n 0, 1) := by decide +kernel
theorem dX8_isFact_10 : decode cX8_isFact 10 = .ok (.iaload, 1) := by decide +kernel
theorem dX8_isFact_11 : decode cX8_isFact 11 = .ok (.invokestatic 105, 3) := by decide +kernel
theorem dX8_isFact_14 : decode cX8_isFact 14 = .ok (.ireturn, 1) := by decide +kernel
theorem dX8_isVillage_0 : decode cX8_isVillage 0 = .ok (.iload_n 1, 1) := by decide +kernel
theorem dX8_isVillage_1 : decode cX8_isVillage 1 = .ok (.iconst 0, 1) := by decide +kernel
theorem dX8_isVillage_2 : decode cX8_isVillage 2 = .ok (.aload_n 0, 1) := by decide +kernel
theorem dX8_isVillage_3 : decode cX8_isVillage 3 = .ok (.getfield 12, 3) := by decide +kernel
theorem dX8_isVillage_6 : decode cX8_isVillage 6 = .ok (.getfield 94, 3) := by decide +kernel
theorem dX8_isVillage_9 : decode cX8_isVillage 9 = .ok (.iconst 1, 1) := by decide +kernel
theorem dX8_isVillage_10 : decode cX8_isVillage 10 = .ok (.isub, 1) := by decide +kernel
theorem dX8_isVillage_11 : decode cX8_isVillage 11 = .ok (.invokestatic 105, 3) := by decide +kernel
theorem dX8_isVillage_14 : decode cX8_isVillage 14 = .ok (.ireturn, 1) := by decide +kernel
theorem dX8_isYear_0 : decode cX8_isYear 0 = .ok (.iload_n 1, 1) := by decide +kernel
theorem dX8_isYear_1 : decode cX8_isYear 1 = .ok (.iconst 0, 1) := by decide +kernel
theorem dX8_isYear_2 : decode cX8_isYear 2 = .ok (.aload_n 0, 1) := by decide +kernel
theorem dX8_isYear_3 : decode cX8_isYear 3 = .ok (.getfield 12, 3) := by decide +kernel
theorem dX8_isYear_6 : decode cX8_isYear 6 = .ok (.getfield 185, 3) := by decide +kernel
theorem dX8_isYear_9 : decode cX8_isYear 9 = .ok (.iconst 1, 1) := by decide +kernel
theorem dX8_isYear_10 : decode cX8_isYear 10 = .ok (.isub, 1) := by decide +kernel
theorem dX8_isYear_11 : decode cX8_isYear 11 = .ok (.invokestatic 105, 3) := by decide +kernel
theorem dX8_isYear_14 : decode cX8_isYear 14 = .ok (.ireturn, 1) := by decide +kernel
theorem dX8_isRowPart_0 : decode cX8_isRowPart 0 = .ok (.iload_n 1, 1) := by decide +kernel
theorem dX8_isRowPart_1 : decode cX8_isRowPart 1 = .ok (.iconst 0, 1) := by decide +kernel
theorem dX8_isRowPart_2 : decode cX8_isRowPart 2 = .ok (.aload_n 0, 1) := by decide +kernel
theorem dX8_isRowPart_3 : decode cX8_isRowPart 3 = .ok (.getfield 60, 3) := by decide +kernel
theorem dX8_isRowPart_6 : decode cX8_isRowPart 6 = .ok (.iconst 1, 1) := by decide +kernel
theorem dX8_isRowPart_7 : decode cX8_isRowPart 7 = .ok (.isub, 1) := by decide +kernel
theorem dX8_isRowPart_8 : decode cX8_isRowPart 8 = .ok (.invokestatic 105, 3) := by decide +kernel
theorem dX8_isRowPart_11 : decode cX8_isRowPart 11 = .ok (.ifCond .eq 16, 3) := by decide +kernel
theorem dX8_isRowPart_14 : decode cX8_isRowPart 14 = .ok (.iload_n 2, 1) := by decide +kernel
theorem dX8_isRowPart_15 : decode cX8_isRowPart 15 = .ok (.iconst 0, 1) := by decide +kernel
theorem dX8_isRowPart_16 : decode cX8_isRowPart 16 = .ok (.iconst 2, 1) := by decide +kernel
theorem dX8_isRowPart_17 : decode cX8_isRowPart 17 = .ok (.invokestatic 105, 3) := by decide +kernel
theorem dX8_isRowPart_20 : decode cX8_isRowPart 20 = .ok (.ifCond .eq 7, 3) := by decide +kernel
theorem dX8_isRowPart_23 : decode cX8_isRowPart 23 = .ok (.iconst 1, 1) := by decide +kernel
theorem dX8_isRowPart_24 : decode cX8_isRowPart 24 = .ok (.goto 4, 3) := by decide +kernel
theorem dX8_isRowPart_27 : decode cX8_isRowPart 27 = .ok (.iconst 0, 1) := by decide +kernel
theorem dX8_isRowPart_28 : decode cX8_isRowPart 28 = .ok (.ireturn, 1) := by decide +kernel
theorem dX8_tellsWorths_0 : decode cX8_tellsWorths 0 = .ok (.aload_n 0, 1) := by decide +kernel
theorem dX8_tellsWorths_1 : decode cX8_tellsWorths 1 = .ok (.getfield 278, 3) := by decide +kernel
theorem dX8_tellsWorths_4 : decode cX8_tellsWorths 4 = .ok (.bipush 12, 2) := by decide +kernel
theorem dX8_tellsWorths_6 : decode cX8_tellsWorths 6 = .ok (.if_icmp .eq 5, 3) := by decide +kernel
theorem dX8_tellsWorths_9 : decode cX8_tellsWorths 9 = .ok (.iconst 0, 1) := by decide +kernel
theorem dX8_tellsWorths_10 : decode cX8_tellsWorths 10 = .ok (.ireturn, 1) := by decide +kernel
theorem dX8_tellsWorths_11 : decode cX8_tellsWorths 11 = .ok (.bipush 99, 2) := by decide +kernel
theorem dX8_tellsWorths_13 : decode cX8_tellsWorths 13 = .ok (.istore_n 1, 1) := by decide +kernel
theorem dX8_tellsWorths_14 : decode cX8_tellsWorths 14 = .ok (.iconst 0, 1) := by decide +kernel
theorem dX8_tellsWorths_15 : decode cX8_tellsWorths 15 = .ok (.istore_n 2, 1) := by decide +kernel
theorem dX8_tellsWorths_16 : decode cX8_tellsWorths 16 = .ok (.iload_n 2, 1) := by decide +kernel
theorem dX8_tellsWorths_17 : decode cX8_tellsWorths 17 = .ok (.bipush 12, 2) := by decide +kernel
theorem dX8_tellsWorths_19 : decode cX8_tellsWorths 19 = .ok (.if_icmp .ge 32, 3) := by decide +kernel
theorem dX8_tellsWorths_22 : decode cX8_tellsWorths 22 = .ok (.aload_n 0, 1) := by decide +kernel
theorem dX8_tellsWorths_23 : decode cX8_tellsWorths 23 = .ok (.getfield 122, 3) := by decide +kernel
theorem dX8_tellsWorths_26 : decode cX8_tellsWorths 26 = .ok (.iload_n 2, 1) := by decide +kernel
theorem dX8_tellsWorths_27 : decode cX8_tellsWorths 27 = .ok (.iaload, 1) := by decide +kernel
theorem dX8_tellsWorths_28 : decode cX8_tellsWorths 28 = .ok (.iconst 0, 1) := by decide +kernel
theorem dX8_tellsWorths_29 : decode cX8_tellsWorths 29 = .ok (.iload_n 1, 1) := by decide +kernel
theorem dX8_tellsWorths_30 : decode cX8_tellsWorths 30 = .ok (.invokestatic 105, 3) := by decide +kernel
theorem dX8_tellsWorths_33 : decode cX8_tellsWorths 33 = .ok (.ifCond .ne 5, 3) := by decide +kernel
theorem dX8_tellsWorths_36 : decode cX8_tellsWorths 36 = .ok (.iconst 0, 1) := by decide +kernel
theorem dX8_tellsWorths_37 : decode cX8_tellsWorths 37 = .ok (.ireturn, 1) := by decide +kernel
theorem dX8_tellsWorths_38 : decode cX8_tellsWorths 38 = .ok (.aload_n 0, 1) := by decide +kernel
theorem dX8_tellsWorths_39 : decode cX8_tellsWorths 39 = .ok (.getfield 122, 3) := by decide +kernel
theorem dX8_tellsWorths_42 : decode cX8_tellsWorths 42 = .ok (.iload_n 2, 1) := by decide +kernel
theorem dX8_tellsWorths_43 : decode cX8_tellsWorths 43 = .ok (.iaload, 1) := by decide +kernel
theorem dX8_tellsWorths_44 : decode cX8_tellsWorths 44 = .ok (.istore_n 1, 1) := by decide +kernel
theorem dX8_tellsWorths_45 : decode cX8_tellsWorths 45 = .ok (.iinc 2 1, 3) := by decide +kernel
theorem dX8_tellsWorths_48 : decode cX8_tellsWorths 48 = .ok (.goto (-32), 3) := by decide +kernel
theorem dX8_tellsWorths_51 : decode cX8_tellsWorths 51 = .ok (.iconst 1, 1) := by decide +kernel
theorem dX8_tellsWorths_52 : decode cX8_tellsWorths 52 = .ok (.ireturn, 1) := by decide +kernel
theorem dX8_tellsThanks_0 : decode cX8_tellsThanks 0 = .ok (.aload_n 1, 1) := by decide +kernel
theorem dX8_tellsThanks_1 : decode cX8_tellsThanks 1 = .ok (.getfield 278, 3) := by decide +kernel
theorem dX8_tellsThanks_4 : decode cX8_tellsThanks 4 = .ok (.aload_n 0, 1) := by decide +kernel
theorem dX8_tellsThanks_5 : decode cX8_tellsThanks 5 = .ok (.getfield 12, 3) := by decide +kernel
theorem dX8_tellsThanks_8 : decode cX8_tellsThanks 8 = .ok (.getfield 94, 3) := by decide +kernel
theorem dX8_tellsThanks_11 : decode cX8_tellsThanks 11 = .ok (.if_icmp .eq 5, 3) := by decide +kernel
theorem dX8_tellsThanks_14 : decode cX8_tellsThanks 14 = .ok (.iconst 0, 1) := by decide +kernel
theorem dX8_tellsThanks_15 : decode cX8_tellsThanks 15 = .ok (.ireturn, 1) := by decide +kernel
theorem dX8_tellsThanks_16 : decode cX8_tellsThanks 16 = .ok (.iconst 0, 1) := by decide +kernel
theorem dX8_tellsThanks_17 : decode cX8_tellsThanks 17 = .ok (.istore_n 2, 1) := by decide +kernel
theorem dX8_tellsThanks_18 : decode cX8_tellsThanks 18 = .ok (.iload_n 2, 1) := by decide +kernel
theorem dX8_tellsThanks_19 : decode cX8_tellsThanks 19 = .ok (.aload_n 0, 1) := by decide +kernel
theorem dX8_tellsThanks_20 : decode cX8_tellsThanks 20 = .ok (.getfield 12, 3) := by decide +kernel
theorem dX8_tellsThanks_23 : decode cX8_tellsThanks 23 = .ok (.getfield 94, 3) := by decide +kernel
theorem dX8_tellsThanks_26 : decode cX8_tellsThanks 26 = .ok (.if_icmp .ge 29, 3) := by decide +kernel
theorem dX8_tellsThanks_29 : decode cX8_tellsThanks 29 = .ok (.aload_n 1, 1) := by decide +kernel
theorem dX8_tellsThanks_30 : decode cX8_tellsThanks 30 = .ok (.getfield 122, 3) := by decide +kernel
theorem dX8_tellsThanks_33 : decode cX8_tellsThanks 33 = .ok (.iload_n 2, 1) := by decide +kernel
theorem dX8_tellsThanks_34 : decode cX8_tellsThanks 34 = .ok (.iaload, 1) := by decide +kernel
theorem dX8_tellsThanks_35 : decode cX8_tellsThanks 35 = .ok (.sipush (-9999), 3) := by decide +kernel
theorem dX8_tellsThanks_38 : decode cX8_tellsThanks 38 = .ok (.sipush 9999, 3) := by decide +kernel
theorem dX8_tellsThanks_41 : decode cX8_tellsThanks 41 = .ok (.invokestatic 105, 3) := by decide +kernel
theorem dX8_tellsThanks_44 : decode cX8_tellsThanks 44 = .ok (.ifCond .ne 5, 3) := by decide +kernel
theorem dX8_tellsThanks_47 : decode cX8_tellsThanks 47 = .ok (.iconst 0, 1) := by decide +kernel
theorem dX8_tellsThanks_48 : decode cX8_tellsThanks 48 = .ok (.ireturn, 1) := by decide +kernel
theorem dX8_tellsThanks_49 : decode cX8_tellsThanks 49 = .ok (.iinc 2 1, 3) := by decide +kernel
theorem dX8_tellsThanks_52 : decode cX8_tellsThanks 52 = .ok (.goto (-34), 3) := by decide +kernel
theorem dX8_tellsThanks_55 : decode cX8_tellsThanks 55 = .ok (.iconst 1, 1) := by decide +kernel
theorem dX8_tellsThanks_56 : decode cX8_tellsThanks 56 = .ok (.ireturn, 1) := by decide +kernel
theorem dX8_bestOf_0 : decode cX8_bestOf 0 = .ok (.aload_n 0, 1) := by decide +kernel
theorem dX8_bestOf_1 : decode cX8_bestOf 1 = .ok (.getfield 26, 3) := by decide +kernel
theorem dX8_bestOf_4 : decode cX8_bestOf 4 = .ok (.aload_n 0, 1) := by decide +kernel
theorem dX8_bestOf_5 : decode cX8_bestOf 5 = .ok (.getfield 12, 3) := by decide +kernel
theorem dX8_bestOf_8 : decode cX8_bestOf 8 = .ok (.iload_n 1, 1) := by decide +kernel
theorem dX8_bestOf_9 : decode cX8_bestOf 9 = .ok (.invokevirtual 159, 3) := by decide +kernel
theorem dX8_bestOf_12 : decode cX8_bestOf 12 = .ok (.aload_n 0, 1) := by decide +kernel
theorem dX8_bestOf_13 : decode cX8_bestOf 13 = .ok (.getfield 26, 3) := by decide +kernel
theorem dX8_bestOf_16 : decode cX8_bestOf 16 = .ok (.aload_n 0, 1) := by decide +kernel
theorem dX8_bestOf_17 : decode cX8_bestOf 17 = .ok (.getfield 12, 3) := by decide +kernel
theorem dX8_bestOf_20 : decode cX8_bestOf 20 = .ok (.iconst 0, 1) := by decide +kernel
theorem dX8_bestOf_21 : decode cX8_bestOf 21 = .ok (.aload_n 0, 1) := by decide +kernel
theorem dX8_bestOf_22 : decode cX8_bestOf 22 = .ok (.getfield 12, 3) := by decide +kernel
theorem dX8_bestOf_25 : decode cX8_bestOf 25 = .ok (.getfield 94, 3) := by decide +kernel
theorem dX8_bestOf_28 : decode cX8_bestOf 28 = .ok (.iconst 1, 1) := by decide +kernel
theorem dX8_bestOf_29 : decode cX8_bestOf 29 = .ok (.isub, 1) := by decide +kernel
theorem dX8_bestOf_30 : decode cX8_bestOf 30 = .ok (.invokevirtual 155, 3) := by decide +kernel
theorem dX8_bestOf_33 : decode cX8_bestOf 33 = .ok (.ireturn, 1) := by decide +kernel
theorem dX8_madeInBest_0 : decode cX8_madeInBest 0 = .ok (.aload_n 0, 1) := by decide +kernel
theorem dX8_madeInBest_1 : decode cX8_madeInBest 1 = .ok (.getfield 26, 3) := by decide +kernel
theorem dX8_madeInBest_4 : decode cX8_madeInBest 4 = .ok (.aload_n 0, 1) := by decide +kernel
theorem dX8_madeInBest_5 : decode cX8_madeInBest 5 = .ok (.getfield 12, 3) := by decide +kernel
theorem dX8_madeInBest_8 : decode cX8_madeInBest 8 = .ok (.bipush 10, 2) := by decide +kernel
theorem dX8_madeInBest_10 : decode cX8_madeInBest 10 = .ok (.invokevirtual 139, 3) := by decide +kernel
theorem dX8_madeInBest_13 : decode cX8_madeInBest 13 = .ok (.aload_n 0, 1) := by decide +kernel
theorem dX8_madeInBest_14 : decode cX8_madeInBest 14 = .ok (.getfield 26, 3) := by decide +kernel
theorem dX8_madeInBest_17 : decode cX8_madeInBest 17 = .ok (.getfield 149, 3) := by decide +kernel
theorem dX8_madeInBest_20 : decode cX8_madeInBest 20 = .ok (.iload_n 1, 1) := by decide +kernel
theorem dX8_madeInBest_21 : decode cX8_madeInBest 21 = .ok (.iaload, 1) := by decide +kernel
theorem dX8_madeInBest_22 : decode cX8_madeInBest 22 = .ok (.ireturn, 1) := by decide +kernel
theorem dX8_bestOfYears_0 : decode cX8_bestOfYears 0 = .ok (.iconst 0, 1) := by decide +kernel
theorem dX8_bestOfYears_1 : decode cX8_bestOfYears 1 = .ok (.istore_n 1, 1) := by decide +kernel
theorem dX8_bestOfYears_2 : decode cX8_bestOfYears 2 = .ok (.iconst 0, 1) := by decide +kernel
theorem dX8_bestOfYears_3 : decode cX8_bestOfYears 3 = .ok (.istore_n 2, 1) := by decide +kernel
theorem dX8_bestOfYears_4 : decode cX8_bestOfYears 4 = .ok (.iload_n 2, 1) := by decide +kernel
theorem dX8_bestOfYears_5 : decode cX8_bestOfYears 5 = .ok (.aload_n 0, 1) := by decide +kernel
theorem dX8_bestOfYears_6 : decode cX8_bestOfYears 6 = .ok (.getfield 12, 3) := by decide +kernel
theorem dX8_bestOfYears_9 : decode cX8_bestOfYears 9 = .ok (.getfield 185, 3) := by decide +kernel
theorem dX8_bestOfYears_12 : decode cX8_bestOfYears 12 = .ok (.if_icmp .ge 25, 3) := by decide +kernel
theorem dX8_bestOfYears_15 : decode cX8_bestOfYears 15 = .ok (.iload_n 1, 1) := by decide +kernel
theorem dX8_bestOfYears_16 : decode cX8_bestOfYears 16 = .ok (.aload_n 0, 1) := by decide +kernel
theorem dX8_bestOfYears_17 : decode cX8_bestOfYears 17 = .ok (.aload_n 0, 1) := by decide +kernel
theorem dX8_bestOfYears_18 : decode cX8_bestOfYears 18 = .ok (.getfield 12, 3) := by decide +kernel
theorem dX8_bestOfYears_21 : decode cX8_bestOfYears 21 = .ok (.getfield 188, 3) := by decide +kernel
theorem dX8_bestOfYears_24 : decode cX8_bestOfYears 24 = .ok (.iload_n 2, 1) := by decide +kernel
theorem dX8_bestOfYears_25 : decode cX8_bestOfYears 25 = .ok (.iaload, 1) := by decide +kernel
theorem dX8_bestOfYears_26 : decode cX8_bestOfYears 26 = .ok (.invokevirtual 135, 3) := by decide +kernel
theorem dX8_bestOfYears_29 : decode cX8_bestOfYears 29 = .ok (.iadd, 1) := by decide +kernel
theorem dX8_bestOfYears_30 : decode cX8_bestOfYears 30 = .ok (.istore_n 1, 1) := by decide +kernel
theorem dX8_bestOfYears_31 : decode cX8_bestOfYears 31 = .ok (.iinc 2 1, 3) := by decide +kernel
theorem dX8_bestOfYears_34 : decode cX8_bestOfYears 34 = .ok (.goto (-30), 3) := by decide +kernel
theorem dX8_bestOfYears_37 : decode cX8_bestOfYears 37 = .ok (.iload_n 1, 1) := by decide +kernel
theorem dX8_bestOfYears_38 : decode cX8_bestOfYears 38 = .ok (.ireturn, 1) := by decide +kernel
theorem dX8_madeInYears_0 : decode cX8_madeInYears 0 = .ok (.iconst 0, 1) := by decide +kernel
theorem dX8_madeInYears_1 : decode cX8_madeInYears 1 = .ok (.istore_n 2, 1) := by decide +kernel
theorem dX8_madeInYears_2 : decode cX8_madeInYears 2 = .ok (.iconst 0, 1) := by decide +kernel
theorem dX8_madeInYears_3 : decode cX8_madeInYears 3 = .ok (.istore_n 3, 1) := by decide +kernel
theorem dX8_madeInYears_4 : decode cX8_madeInYears 4 = .ok (.iload_n 3, 1) := by decide +kernel
theorem dX8_madeInYears_5 : decode cX8_madeInYears 5 = .ok (.aload_n 0, 1) := by decide +kernel
theorem dX8_madeInYears_6 : decode cX8_madeInYears 6 = .ok (.getfield 12, 3) := by decide +kernel
theorem dX8_madeInYears_9 : decode cX8_madeInYears 9 = .ok (.getfield 185, 3) := by decide +kernel
theorem dX8_madeInYears_12 : decode cX8_madeInYears 12 = .ok (.if_icmp .ge 33, 3) := by decide +kernel
theorem dX8_madeInYears_15 : decode cX8_madeInYears 15 = .ok (.iload_n 2, 1) := by decide +kernel
theorem dX8_madeInYears_16 : decode cX8_madeInYears 16 = .ok (.aload_n 0, 1) := by decide +kernel
theorem dX8_madeInYears_17 : decode cX8_madeInYears 17 = .ok (.getfield 26, 3) := by decide +kernel
theorem dX8_madeInYears_20 : decode cX8_madeInYears 20 = .ok (.aload_n 0, 1) := by decide +kernel
theorem dX8_madeInYears_21 : decode cX8_madeInYears 21 = .ok (.getfield 12, 3) := by decide +kernel
theorem dX8_madeInYears_24 : decode cX8_madeInYears 24 = .ok (.aload_n 0, 1) := by decide +kernel
theorem dX8_madeInYears_25 : decode cX8_madeInYears 25 = .ok (.getfield 12, 3) := by decide +kernel
theorem dX8_madeInYears_28 : decode cX8_madeInYears 28 = .ok (.getfield 188, 3) := by decide +kernel
theorem dX8_madeInYears_31 : decode cX8_madeInYears 31 = .ok (.iload_n 3, 1) := by decide +kernel
theorem dX8_madeInYears_32 : decode cX8_madeInYears 32 = .ok (.iaload, 1) := by decide +kernel
theorem dX8_madeInYears_33 : decode cX8_madeInYears 33 = .ok (.iload_n 1, 1) := by decide +kernel
theorem dX8_madeInYears_34 : decode cX8_madeInYears 34 = .ok (.invokevirtual 233, 3) := by decide +kernel
theorem dX8_madeInYears_37 : decode cX8_madeInYears 37 = .ok (.iadd, 1) := by decide +kernel
theorem dX8_madeInYears_38 : decode cX8_madeInYears 38 = .ok (.istore_n 2, 1) := by decide +kernel
theorem dX8_madeInYears_39 : decode cX8_madeInYears 39 = .ok (.iinc 3 1, 3) := by decide +kernel
theorem dX8_madeInYears_42 : decode cX8_madeInYears 42 = .ok (.goto (-38), 3) := by decide +kernel
theorem dX8_madeInYears_45 : decode cX8_madeInYears 45 = .ok (.iload_n 2, 1) := by decide +kernel
theorem dX8_madeInYears_46 : decode cX8_madeInYears 46 = .ok (.ireturn, 1) := by decide +kernel
theorem dX8_mostOf_0 : decode cX8_mostOf 0 = .ok (.iconst 0, 1) := by decide +kernel
theorem dX8_mostOf_1 : decode cX8_mostOf 1 = .ok (.istore_n 2, 1) := by decide +kernel
theorem dX8_mostOf_2 : decode cX8_mostOf 2 = .ok (.iconst 0, 1) := by decide +kernel
theorem dX8_mostOf_3 : decode cX8_mostOf 3 = .ok (.istore_n 3, 1) := by decide +kernel
theorem dX8_mostOf_4 : decode cX8_mostOf 4 = .ok (.iload_n 3, 1) := by decide +kernel
theorem dX8_mostOf_5 : decode cX8_mostOf 5 = .ok (.iload_n 1, 1) := by decide +kernel
theorem dX8_mostOf_6 : decode cX8_mostOf 6 = .ok (.if_icmp .gt 21, 3) := by decide +kernel
theorem dX8_mostOf_9 : decode cX8_mostOf 9 = .ok (.iload_n 2, 1) := by decide +kernel
theorem dX8_mostOf_10 : decode cX8_mostOf 10 = .ok (.aload_n 0, 1) := by decide +kernel
theorem dX8_mostOf_11 : decode cX8_mostOf 11 = .ok (.getfield 26, 3) := by decide +kernel
theorem dX8_mostOf_14 : decode cX8_mostOf 14 = .ok (.getfield 152, 3) := by decide +kernel
theorem dX8_mostOf_17 : decode cX8_mostOf 17 = .ok (.iload_n 3, 1) := by decide +kernel
theorem dX8_mostOf_18 : decode cX8_mostOf 18 = .ok (.iaload, 1) := by decide +kernel
theorem dX8_mostOf_19 : decode cX8_mostOf 19 = .ok (.iadd, 1) := by decide +kernel
theorem dX8_mostOf_20 : decode cX8_mostOf 20 = .ok (.istore_n 2, 1) := by decide +kernel
theorem dX8_mostOf_21 : decode cX8_mostOf 21 = .ok (.iinc 3 1, 3) := by decide +kernel
theorem dX8_mostOf_24 : decode cX8_mostOf 24 = .ok (.goto (-20), 3) := by decide +kernel
theorem dX8_mostOf_27 : decode cX8_mostOf 27 = .ok (.aload_n 0, 1) := by decide +kernel
theorem dX8_mostOf_28 : decode cX8_mostOf 28 = .ok (.getfield 12, 3) := by decide +kernel
theorem dX8_mostOf_31 : decode cX8_mostOf 31 = .ok (.getfield 129, 3) := by decide +kernel
theorem dX8_mostOf_34 : decode cX8_mostOf 34 = .ok (.iload_n 1, 1) := by decide +kernel
theorem dX8_mostOf_35 : decode cX8_mostOf 35 = .ok (.aaload, 1) := by decide +kernel
theorem dX8_mostOf_36 : decode cX8_mostOf 36 = .ok (.iload_n 2, 1) := by decide +kernel
theorem dX8_mostOf_37 : decode cX8_mostOf 37 = .ok (.bipush 12, 2) := by decide +kernel
theorem dX8_mostOf_39 : decode cX8_mostOf 39 = .ok (.invokestatic 312, 3) := by decide +kernel
theorem dX8_mostOf_42 : decode cX8_mostOf 42 = .ok (.iaload, 1) := by decide +kernel
theorem dX8_mostOf_43 : decode cX8_mostOf 43 = .ok (.ireturn, 1) := by decide +kernel
theorem dX8_fillShares_0 : decode cX8_fillShares 0 = .ok (.iload_n 1, 1) := by decide +kernel
theorem dX8_fillShares_1 : decode cX8_fillShares 1 = .ok (.ifCond .ne 42, 3) := by decide +kernel
theorem dX8_fillShares_4 : decode cX8_fillShares 4 = .ok (.aload_n 0, 1) := by decide +kernel
theorem dX8_fillShares_5 : decode cX8_fillShares 5 = .ok (.getfield 26, 3) := by decide +kernel
theorem dX8_fillShares_8 : decode cX8_fillShares 8 = .ok (.aload_n 0, 1) := by decide +kernel
theorem dX8_fillShares_9 : decode cX8_fillShares 9 = .ok (.getfield 12, 3) := by decide +kernel
theorem dX8_fillShares_12 : decode cX8_fillShares 12 = .ok (.bipush 10, 2) := by decide +kernel
theorem dX8_fillShares_14 : decode cX8_fillShares 14 = .ok (.iconst 0, 1) := by decide +kernel
theorem dX8_fillShares_15 : decode cX8_fillShares 15 = .ok (.invokevirtual 233, 3) := by decide +kernel
theorem dX8_fillShares_18 : decode cX8_fillShares 18 = .ok (.pop, 1) := by decide +kernel
theorem dX8_fillShares_19 : decode cX8_fillShares 19 = .ok (.aload_n 0, 1) := by decide +kernel
theorem dX8_fillShares_20 : decode cX8_fillShares 20 = .ok (.getfield 26, 3) := by decide +kernel
theorem dX8_fillShares_23 : decode cX8_fillShares 23 = .ok (.getfield 149, 3) := by decide +kernel
theorem dX8_fillShares_26 : decode cX8_fillShares 26 = .ok (.iconst 0, 1) := by decide +kernel
theorem dX8_fillShares_27 : decode cX8_fillShares 27 = .ok (.aload_n 0, 1) := by decide +kernel
theorem dX8_fillShares_28 : decode cX8_fillShares 28 = .ok (.getfield 51, 3) := by decide +kernel
theorem dX8_fillShares_31 : decode cX8_fillShares 31 = .ok (.iconst 0, 1) := by decide +kernel
theorem dX8_fillShares_32 : decode cX8_fillShares 32 = .ok (.aload_n 0, 1) := by decide +kernel
theorem dX8_fillShares_33 : decode cX8_fillShares 33 = .ok (.getfield 12, 3) := by decide +kernel
theorem dX8_fillShares_36 : decode cX8_fillShares 36 = .ok (.getfield 94, 3) := by decide +kernel
theorem dX8_fillShares_39 : decode cX8_fillShares 39 = .ok (.invokestatic 317, 3) := by decide +kernel
theorem dX8_fillShares_42 : decode cX8_fillShares 42 = .ok (.return_, 1) := by decide +kernel
theorem dX8_fillShares_43 : decode cX8_fillShares 43 = .ok (.aload_n 0, 1) := by decide +kernel
theorem dX8_fillShares_44 : decode cX8_fillShares 44 = .ok (.getfield 26, 3) := by decide +kernel
theorem dX8_fillShares_47 : decode cX8_fillShares 47 = .ok (.aload_n 0, 1) := by decide +kernel
theorem dX8_fillShares_48 : decode cX8_fillShares 48 = .ok (.getfield 12, 3) := by decide +kernel
theorem dX8_fillShares_51 : decode cX8_fillShares 51 = .ok (.bipush 10, 2) := by decide +kernel
theorem dX8_fillShares_53 : decode cX8_fillShares 53 = .ok (.invokevirtual 159, 3) := by decide +kernel
theorem dX8_fillShares_56 : decode cX8_fillShares 56 = .ok (.iload_n 1, 1) := by decide +kernel
theorem dX8_fillShares_57 : decode cX8_fillShares 57 = .ok (.iconst 1, 1) := by decide +kernel
theorem dX8_fillShares_58 : decode cX8_fillShares 58 = .ok (.if_icmp .ne 10, 3) := by decide +kernel
theorem dX8_fillShares_61 : decode cX8_fillShares 61 = .ok (.aload_n 0, 1) := by decide +kernel
theorem dX8_fillShares_62 : decode cX8_fillShares 62 = .ok (.invokevirtual 323, 3) := by decide +kernel
theorem dX8_fillShares_65 : decode cX8_fillShares 65 = .ok (.goto 19, 3) := by decide +kernel
theorem dX8_fillShares_68 : decode cX8_fillShares 68 = .ok (.iload_n 1, 1) := by decide +kernel
theorem dX8_fillShares_69 : decode cX8_fillShares 69 = .ok (.iconst 2, 1) := by decide +kernel
theorem dX8_fillShares_70 : decode cX8_fillShares 70 = .ok (.if_icmp .ne 10, 3) := by decide +kernel
theorem dX8_fillShares_73 : decode cX8_fillShares 73 = .ok (.aload_n 0, 1) := by decide +kernel
theorem dX8_fillShares_74 : decode cX8_fillShares 74 = .ok (.invokevirtual 326, 3) := by decide +kernel
theorem dX8_fillShares_77 : decode cX8_fillShares 77 = .ok (.goto 7, 3) := by decide +kernel
theorem dX8_fillShares_80 : decode cX8_fillShares 80 = .ok (.aload_n 0, 1) := by decide +kernel
theorem dX8_fillShares_81 : decode cX8_fillShares 81 = .ok (.invokevirtual 329, 3) := by decide +kernel
theorem dX8_fillShares_84 : decode cX8_fillShares 84 = .ok (.return_, 1) := by decide +kernel
theorem dX8_fillSharesDown_0 : decode cX8_fillSharesDown 0 = .ok (.iconst 0, 1) := by decide +kernel
theorem dX8_fillSharesDown_1 : decode cX8_fillSharesDown 1 = .ok (.istore_n 1, 1) := by decide +kernel
theorem dX8_fillSharesDown_2 : decode cX8_fillSharesDown 2 = .ok (.iconst 0, 1) := by decide +kernel
theorem dX8_fillSharesDown_3 : decode cX8_fillSharesDown 3 = .ok (.istore_n 2, 1) := by decide +kernel
theorem dX8_fillSharesDown_4 : decode cX8_fillSharesDown 4 = .ok (.iload_n 2, 1) := by decide +kernel
theorem dX8_fillSharesDown_5 : decode cX8_fillSharesDown 5 = .ok (.aload_n 0, 1) := by decide +kernel
theorem dX8_fillSharesDown_6 : decode cX8_fillSharesDown 6 = .ok (.getfield 12, 3) := by decide +kernel
theorem dX8_fillSharesDown_9 : decode cX8_fillSharesDown 9 = .ok (.getfield 94, 3) := by decide +kernel
theorem dX8_fillSharesDown_12 : decode cX8_fillSharesDown 12 = .ok (.if_icmp .ge 34, 3) := by decide +kernel
theorem dX8_fillSharesDown_15 : decode cX8_fillSharesDown 15 = .ok (.aload_n 0, 1) := by decide +kernel
theorem dX8_fillSharesDown_16 : decode cX8_fillSharesDown 16 = .ok (.getfield 26, 3) := by decide +kernel
theorem dX8_fillSharesDown_19 : decode cX8_fillSharesDown 19 = .ok (.aload_n 0, 1) := by decide +kernel
theorem dX8_fillSharesDown_20 : decode cX8_fillSharesDown 20 = .ok (.getfield 12, 3) := by decide +kernel
theorem dX8_fillSharesDown_23 : decode cX8_fillSharesDown 23 = .ok (.iconst 0, 1) := by decide +kernel
theorem dX8_fillSharesDown_24 : decode cX8_fillSharesDown 24 = .ok (.iload_n 2, 1) := by decide +kernel
theorem dX8_fillSharesDown_25 : decode cX8_fillSharesDown 25 = .ok (.invokevirtual 155, 3) := by decide +kernel
theorem dX8_fillSharesDown_28 : decode cX8_fillSharesDown 28 = .ok (.istore_n 3, 1) := by decide +kernel
theorem dX8_fillSharesDown_29 : decode cX8_fillSharesDown 29 = .ok (.aload_n 0, 1) := by decide +kernel
theorem dX8_fillSharesDown_30 : decode cX8_fillSharesDown 30 = .ok (.getfield 51, 3) := by decide +kernel
theorem dX8_fillSharesDown_33 : decode cX8_fillSharesDown 33 = .ok (.iload_n 2, 1) := by decide +kernel
theorem dX8_fillSharesDown_34 : decode cX8_fillSharesDown 34 = .ok (.iload_n 3, 1) := by decide +kernel
theorem dX8_fillSharesDown_35 : decode cX8_fillSharesDown 35 = .ok (.iload_n 1, 1) := by decide +kernel
theorem dX8_fillSharesDown_36 : decode cX8_fillSharesDown 36 = .ok (.isub, 1) := by decide +kernel
theorem dX8_fillSharesDown_37 : decode cX8_fillSharesDown 37 = .ok (.iastore, 1) := by decide +kernel
theorem dX8_fillSharesDown_38 : decode cX8_fillSharesDown 38 = .ok (.iload_n 3, 1) := by decide +kernel
theorem dX8_fillSharesDown_39 : decode cX8_fillSharesDown 39 = .ok (.istore_n 1, 1) := by decide +kernel
theorem dX8_fillSharesDown_40 : decode cX8_fillSharesDown 40 = .ok (.iinc 2 1, 3) := by decide +kernel
theorem dX8_fillSharesDown_43 : decode cX8_fillSharesDown 43 = .ok (.goto (-39), 3) := by decide +kernel
theorem dX8_fillSharesDown_46 : decode cX8_fillSharesDown 46 = .ok (.return_, 1) := by decide +kernel
theorem dX8_fillSharesUp_0 : decode cX8_fillSharesUp 0 = .ok (.aload_n 0, 1) := by decide +kernel
theorem dX8_fillSharesUp_1 : decode cX8_fillSharesUp 1 = .ok (.getfield 12, 3) := by decide +kernel
theorem dX8_fillSharesUp_4 : decode cX8_fillSharesUp 4 = .ok (.getfield 94, 3) := by decide +kernel
theorem dX8_fillSharesUp_7 : decode cX8_fillSharesUp 7 = .ok (.iconst 1, 1) := by decide +kernel
theorem dX8_fillSharesUp_8 : decode cX8_fillSharesUp 8 = .ok (.isub, 1) := by decide +kernel
theorem dX8_fillSharesUp_9 : decode cX8_fillSharesUp 9 = .ok (.istore_n 1, 1) := by decide +kernel
theorem dX8_fillSharesUp_10 : decode cX8_fillSharesUp 10 = .ok (.iconst 0, 1) := by decide +kernel
theorem dX8_fillSharesUp_11 : decode cX8_fillSharesUp 11 = .ok (.istore_n 2, 1) := by decide +kernel
theorem dX8_fillSharesUp_12 : decode cX8_fillSharesUp 12 = .ok (.iload_n 1, 1) := by decide +kernel
theorem dX8_fillSharesUp_13 : decode cX8_fillSharesUp 13 = .ok (.istore_n 3, 1) := by decide +kernel
theorem dX8_fillSharesUp_14 : decode cX8_fillSharesUp 14 = .ok (.iload_n 3, 1) := by decide +kernel
theorem dX8_fillSharesUp_15 : decode cX8_fillSharesUp 15 = .ok (.ifCond .lt 37, 3) := by decide +kernel
theorem dX8_fillSharesUp_18 : decode cX8_fillSharesUp 18 = .ok (.aload_n 0, 1) := by decide +kernel
theorem dX8_fillSharesUp_19 : decode cX8_fillSharesUp 19 = .ok (.getfield 26, 3) := by decide +kernel
theorem dX8_fillSharesUp_22 : decode cX8_fillSharesUp 22 = .ok (.aload_n 0, 1) := by decide +kernel
theorem dX8_fillSharesUp_23 : decode cX8_fillSharesUp 23 = .ok (.getfield 12, 3) := by decide +kernel
theorem dX8_fillSharesUp_26 : decode cX8_fillSharesUp 26 = .ok (.iload_n 3, 1) := by decide +kernel
theorem dX8_fillSharesUp_27 : decode cX8_fillSharesUp 27 = .ok (.iload_n 1, 1) := by decide +kernel
theorem dX8_fillSharesUp_28 : decode cX8_fillSharesUp 28 = .ok (.invokevirtual 155, 3) := by decide +kernel
theorem dX8_fillSharesUp_31 : decode cX8_fillSharesUp 31 = .ok (.istore 4, 2) := by decide +kernel
theorem dX8_fillSharesUp_33 : decode cX8_fillSharesUp 33 = .ok (.aload_n 0, 1) := by decide +kernel
theorem dX8_fillSharesUp_34 : decode cX8_fillSharesUp 34 = .ok (.getfield 51, 3) := by decide +kernel
theorem dX8_fillSharesUp_37 : decode cX8_fillSharesUp 37 = .ok (.iload_n 3, 1) := by decide +kernel
theorem dX8_fillSharesUp_38 : decode cX8_fillSharesUp 38 = .ok (.iload 4, 2) := by decide +kernel
theorem dX8_fillSharesUp_40 : decode cX8_fillSharesUp 40 = .ok (.iload_n 2, 1) := by decide +kernel
theorem dX8_fillSharesUp_41 : decode cX8_fillSharesUp 41 = .ok (.isub, 1) := by decide +kernel
theorem dX8_fillSharesUp_42 : decode cX8_fillSharesUp 42 = .ok (.iastore, 1) := by decide +kernel
theorem dX8_fillSharesUp_43 : decode cX8_fillSharesUp 43 = .ok (.iload 4, 2) := by decide +kernel
theorem dX8_fillSharesUp_45 : decode cX8_fillSharesUp 45 = .ok (.istore_n 2, 1) := by decide +kernel
theorem dX8_fillSharesUp_46 : decode cX8_fillSharesUp 46 = .ok (.iinc 3 (-1), 3) := by decide +kernel
theorem dX8_fillSharesUp_49 : decode cX8_fillSharesUp 49 = .ok (.goto (-35), 3) := by decide +kernel
theorem dX8_fillSharesUp_52 : decode cX8_fillSharesUp 52 = .ok (.return_, 1) := by decide +kernel
theorem dX8_fillSharesEqual_0 : decode cX8_fillSharesEqual 0 = .ok (.aload_n 0, 1) := by decide +kernel
theorem dX8_fillSharesEqual_1 : decode cX8_fillSharesEqual 1 = .ok (.getfield 12, 3) := by decide +kernel
theorem dX8_fillSharesEqual_4 : decode cX8_fillSharesEqual 4 = .ok (.getfield 94, 3) := by decide +kernel
theorem dX8_fillSharesEqual_7 : decode cX8_fillSharesEqual 7 = .ok (.istore_n 1, 1) := by decide +kernel
theorem dX8_fillSharesEqual_8 : decode cX8_fillSharesEqual 8 = .ok (.iload_n 1, 1) := by decide +kernel
theorem dX8_fillSharesEqual_9 : decode cX8_fillSharesEqual 9 = .ok (.ifCond .ne 4, 3) := by decide +kernel
theorem dX8_fillSharesEqual_12 : decode cX8_fillSharesEqual 12 = .ok (.return_, 1) := by decide +kernel
theorem dX8_fillSharesEqual_13 : decode cX8_fillSharesEqual 13 = .ok (.aload_n 0, 1) := by decide +kernel
theorem dX8_fillSharesEqual_14 : decode cX8_fillSharesEqual 14 = .ok (.getfield 26, 3) := by decide +kernel
theorem dX8_fillSharesEqual_17 : decode cX8_fillSharesEqual 17 = .ok (.aload_n 0, 1) := by decide +kernel
theorem dX8_fillSharesEqual_18 : decode cX8_fillSharesEqual 18 = .ok (.getfield 12, 3) := by decide +kernel
theorem dX8_fillSharesEqual_21 : decode cX8_fillSharesEqual 21 = .ok (.iconst 0, 1) := by decide +kernel
theorem dX8_fillSharesEqual_22 : decode cX8_fillSharesEqual 22 = .ok (.iload_n 1, 1) := by decide +kernel
theorem dX8_fillSharesEqual_23 : decode cX8_fillSharesEqual 23 = .ok (.iconst 1, 1) := by decide +kernel
theorem dX8_fillSharesEqual_24 : decode cX8_fillSharesEqual 24 = .ok (.isub, 1) := by decide +kernel
theorem dX8_fillSharesEqual_25 : decode cX8_fillSharesEqual 25 = .ok (.invokevirtual 155, 3) := by decide +kernel
theorem dX8_fillSharesEqual_28 : decode cX8_fillSharesEqual 28 = .ok (.istore_n 2, 1) := by decide +kernel
theorem dX8_fillSharesEqual_29 : decode cX8_fillSharesEqual 29 = .ok (.iload_n 2, 1) := by decide +kernel
theorem dX8_fillSharesEqual_30 : decode cX8_fillSharesEqual 30 = .ok (.iload_n 1, 1) := by decide +kernel
theorem dX8_fillSharesEqual_31 : decode cX8_fillSharesEqual 31 = .ok (.invokestatic 332, 3) := by decide +kernel
theorem dX8_fillSharesEqual_34 : decode cX8_fillSharesEqual 34 = .ok (.istore_n 3, 1) := by decide +kernel
theorem dX8_fillSharesEqual_35 : decode cX8_fillSharesEqual 35 = .ok (.iconst 0, 1) := by decide +kernel
theorem dX8_fillSharesEqual_36 : decode cX8_fillSharesEqual 36 = .ok (.istore 4, 2) := by decide +kernel
theorem dX8_fillSharesEqual_38 : decode cX8_fillSharesEqual 38 = .ok (.iload 4, 2) := by decide +kernel
theorem dX8_fillSharesEqual_40 : decode cX8_fillSharesEqual 40 = .ok (.iload_n 1, 1) := by decide +kernel
theorem dX8_fillSharesEqual_41 : decode cX8_fillSharesEqual 41 = .ok (.if_icmp .ge 33, 3) := by decide +kernel
theorem dX8_fillSharesEqual_44 : decode cX8_fillSharesEqual 44 = .ok (.aload_n 0, 1) := by decide +kernel
theorem dX8_fillSharesEqual_45 : decode cX8_fillSharesEqual 45 = .ok (.getfield 51, 3) := by decide +kernel
theorem dX8_fillSharesEqual_48 : decode cX8_fillSharesEqual 48 = .ok (.iload 4, 2) := by decide +kernel
theorem dX8_fillSharesEqual_50 : decode cX8_fillSharesEqual 50 = .ok (.iload_n 2, 1) := by decide +kernel
theorem dX8_fillSharesEqual_51 : decode cX8_fillSharesEqual 51 = .ok (.iload_n 1, 1) := by decide +kernel
theorem dX8_fillSharesEqual_52 : decode cX8_fillSharesEqual 52 = .ok (.invokestatic 335, 3) := by decide +kernel
theorem dX8_fillSharesEqual_55 : decode cX8_fillSharesEqual 55 = .ok (.iload 4, 2) := by decide +kernel
theorem dX8_fillSharesEqual_57 : decode cX8_fillSharesEqual 57 = .ok (.iload_n 3, 1) := by decide +kernel
theorem dX8_fillSharesEqual_58 : decode cX8_fillSharesEqual 58 = .ok (.if_icmp .ge 7, 3) := by decide +kernel
theorem dX8_fillSharesEqual_61 : decode cX8_fillSharesEqual 61 = .ok (.iconst 1, 1) := by decide +kernel
theorem dX8_fillSharesEqual_62 : decode cX8_fillSharesEqual 62 = .ok (.goto 4, 3) := by decide +kernel
theorem dX8_fillSharesEqual_65 : decode cX8_fillSharesEqual 65 = .ok (.iconst 0, 1) := by decide +kernel
theorem dX8_fillSharesEqual_66 : decode cX8_fillSharesEqual 66 = .ok (.iadd, 1) := by decide +kernel
theorem dX8_fillSharesEqual_67 : decode cX8_fillSharesEqual 67 = .ok (.iastore, 1) := by decide +kernel
theorem dX8_fillSharesEqual_68 : decode cX8_fillSharesEqual 68 = .ok (.iinc 4 1, 3) := by decide +kernel
theorem dX8_fillSharesEqual_71 : decode cX8_fillSharesEqual 71 = .ok (.goto (-33), 3) := by decide +kernel
theorem dX8_fillSharesEqual_74 : decode cX8_fillSharesEqual 74 = .ok (.return_, 1) := by decide +kernel
theorem dX8_breakOfShares_0 : decode cX8_breakOfShares 0 = .ok (.aload_n 0, 1) := by decide +kernel
theorem dX8_breakOfShares_1 : decode cX8_breakOfShares 1 = .ok (.getfield 26, 3) := by decide +kernel
theorem dX8_breakOfShares_4 : decode cX8_breakOfShares 4 = .ok (.aload_n 0, 1) := by decide +kernel
theorem dX8_breakOfShares_5 : decode cX8_breakOfShares 5 = .ok (.getfield 12, 3) := by decide +kernel
theorem dX8_breakOfShares_8 : decode cX8_breakOfShares 8 = .ok (.bipush 10, 2) := by decide +kernel
theorem dX8_breakOfShares_10 : decode cX8_breakOfShares 10 = .ok (.invokevirtual 159, 3) := by decide +kernel
theorem dX8_breakOfShares_13 : decode cX8_breakOfShares 13 = .ok (.iconst 0, 1) := by decide +kernel
theorem dX8_breakOfShares_14 : decode cX8_breakOfShares 14 = .ok (.istore_n 1, 1) := by decide +kernel
theorem dX8_breakOfShares_15 : decode cX8_breakOfShares 15 = .ok (.iload_n 1, 1) := by decide +kernel
theorem dX8_breakOfShares_16 : decode cX8_breakOfShares 16 = .ok (.aload_n 0, 1) := by decide +kernel
theorem dX8_breakOfShares_17 : decode cX8_breakOfShares 17 = .ok (.getfield 12, 3) := by decide +kernel
theorem dX8_breakOfShares_20 : decode cX8_breakOfShares 20 = .ok (.getfield 94, 3) := by decide +kernel
theorem dX8_breakOfShares_23 : decode cX8_breakOfShares 23 = .ok (.if_icmp .ge 66, 3) := by decide +kernel
theorem dX8_breakOfShares_26 : decode cX8_breakOfShares 26 = .ok (.iconst 0, 1) := by decide +kernel
theorem dX8_breakOfShares_27 : decode cX8_breakOfShares 27 = .ok (.istore_n 2, 1) := by decide +kernel
theorem dX8_breakOfShares_28 : decode cX8_breakOfShares 28 = .ok (.iload_n 1, 1) := by decide +kernel
theorem dX8_breakOfShares_29 : decode cX8_breakOfShares 29 = .ok (.istore_n 3, 1) := by decide +kernel
theorem dX8_breakOfShares_30 : decode cX8_breakOfShares 30 = .ok (.iload_n 3, 1) := by decide +kernel
theorem dX8_breakOfShares_31 : decode cX8_breakOfShares 31 = .ok (.aload_n 0, 1) := by decide +kernel
theorem dX8_breakOfShares_32 : decode cX8_breakOfShares 32 = .ok (.getfield 12, 3) := by decide +kernel
theorem dX8_breakOfShares_35 : decode cX8_breakOfShares 35 = .ok (.getfield 94, 3) := by decide +kernel
theorem dX8_breakOfShares_38 : decode cX8_breakOfShares 38 = .ok (.if_icmp .ge 45, 3) := by decide +kernel
theorem dX8_breakOfShares_41 : decode cX8_breakOfShares 41 = .ok (.iload_n 2, 1) := by decide +kernel
theorem dX8_breakOfShares_42 : decode cX8_breakOfShares 42 = .ok (.aload_n 0, 1) := by decide +kernel
theorem dX8_breakOfShares_43 : decode cX8_breakOfShares 43 = .ok (.getfield 51, 3) := by decide +kernel
theorem dX8_breakOfShares_46 : decode cX8_breakOfShares 46 = .ok (.iload_n 3, 1) := by decide +kernel
theorem dX8_breakOfShares_47 : decode cX8_breakOfShares 47 = .ok (.iaload, 1) := by decide +kernel
theorem dX8_breakOfShares_48 : decode cX8_breakOfShares 48 = .ok (.iadd, 1) := by decide +kernel
theorem dX8_breakOfShares_49 : decode cX8_breakOfShares 49 = .ok (.istore_n 2, 1) := by decide +kernel
theorem dX8_breakOfShares_50 : decode cX8_breakOfShares 50 = .ok (.iload_n 2, 1) := by decide +kernel
theorem dX8_breakOfShares_51 : decode cX8_breakOfShares 51 = .ok (.aload_n 0, 1) := by decide +kernel
theorem dX8_breakOfShares_52 : decode cX8_breakOfShares 52 = .ok (.getfield 26, 3) := by decide +kernel
theorem dX8_breakOfShares_55 : decode cX8_breakOfShares 55 = .ok (.aload_n 0, 1) := by decide +kernel
theorem dX8_breakOfShares_56 : decode cX8_breakOfShares 56 = .ok (.getfield 12, 3) := by decide +kernel
theorem dX8_breakOfShares_59 : decode cX8_breakOfShares 59 = .ok (.iload_n 1, 1) := by decide +kernel
theorem dX8_breakOfShares_60 : decode cX8_breakOfShares 60 = .ok (.iload_n 3, 1) := by decide +kernel
theorem dX8_breakOfShares_61 : decode cX8_breakOfShares 61 = .ok (.invokevirtual 155, 3) := by decide +kernel
theorem dX8_breakOfShares_64 : decode cX8_breakOfShares 64 = .ok (.if_icmp .ge 13, 3) := by decide +kernel
theorem dX8_breakOfShares_67 : decode cX8_breakOfShares 67 = .ok (.bipush 100, 2) := by decide +kernel
theorem dX8_breakOfShares_69 : decode cX8_breakOfShares 69 = .ok (.bipush 10, 2) := by decide +kernel
theorem dX8_breakOfShares_71 : decode cX8_breakOfShares 71 = .ok (.iload_n 1, 1) := by decide +kernel
theorem dX8_breakOfShares_72 : decode cX8_breakOfShares 72 = .ok (.imul, 1) := by decide +kernel
theorem dX8_breakOfShares_73 : decode cX8_breakOfShares 73 = .ok (.iadd, 1) := by decide +kernel
theorem dX8_breakOfShares_74 : decode cX8_breakOfShares 74 = .ok (.iload_n 3, 1) := by decide +kernel
theorem dX8_breakOfShares_75 : decode cX8_breakOfShares 75 = .ok (.iadd, 1) := by decide +kernel
theorem dX8_breakOfShares_76 : decode cX8_breakOfShares 76 = .ok (.ireturn, 1) := by decide +kernel
theorem dX8_breakOfShares_77 : decode cX8_breakOfShares 77 = .ok (.iinc 3 1, 3) := by decide +kernel
theorem dX8_breakOfShares_80 : decode cX8_breakOfShares 80 = .ok (.goto (-50), 3) := by decide +kernel
theorem dX8_breakOfShares_83 : decode cX8_breakOfShares 83 = .ok (.iinc 1 1, 3) := by decide +kernel
theorem dX8_breakOfShares_86 : decode cX8_breakOfShares 86 = .ok (.goto (-71), 3) := by decide +kernel
theorem dX8_breakOfShares_89 : decode cX8_breakOfShares 89 = .ok (.iconst 0, 1) := by decide +kernel
theorem dX8_breakOfShares_90 : decode cX8_breakOfShares 90 = .ok (.istore_n 1, 1) := by decide +kernel
theorem dX8_breakOfShares_91 : decode cX8_breakOfShares 91 = .ok (.iload_n 1, 1) := by decide +kernel
theorem dX8_breakOfShares_92 : decode cX8_breakOfShares 92 = .ok (.aload_n 0, 1) := by decide +kernel
theorem dX8_breakOfShares_93 : decode cX8_breakOfShares 93 = .ok (.getfield 12, 3) := by decide +kernel
theorem dX8_breakOfShares_96 : decode cX8_breakOfShares 96 = .ok (.getfield 94, 3) := by decide +kernel
theorem dX8_breakOfShares_99 : decode cX8_breakOfShares 99 = .ok (.if_icmp .ge 29, 3) := by decide +kernel
theorem dX8_breakOfShares_102 : decode cX8_breakOfShares 102 = .ok (.aload_n 0, 1) := by decide +kernel
theorem dX8_breakOfShares_103 : decode cX8_breakOfShares 103 = .ok (.getfield 51, 3) := by decide +kernel
theorem dX8_breakOfShares_106 : decode cX8_breakOfShares 106 = .ok (.iload_n 1, 1) := by decide +kernel
theorem dX8_breakOfShares_107 : decode cX8_breakOfShares 107 = .ok (.iaload, 1) := by decide +kernel
theorem dX8_breakOfShares_108 : decode cX8_breakOfShares 108 = .ok (.aload_n 0, 1) := by decide +kernel
theorem dX8_breakOfShares_109 : decode cX8_breakOfShares 109 = .ok (.iload_n 1, 1) := by decide +kernel
theorem dX8_breakOfShares_110 : decode cX8_breakOfShares 110 = .ok (.invokevirtual 161, 3) := by decide +kernel
theorem dX8_breakOfShares_113 : decode cX8_breakOfShares 113 = .ok (.if_icmp .le 9, 3) := by decide +kernel
theorem dX8_breakOfShares_116 : decode cX8_breakOfShares 116 = .ok (.sipush 200, 3) := by decide +kernel
theorem dX8_breakOfShares_119 : decode cX8_breakOfShares 119 = .ok (.iload_n 1, 1) := by decide +kernel
theorem dX8_breakOfShares_120 : decode cX8_breakOfShares 120 = .ok (.iadd, 1) := by decide +kernel
theorem dX8_breakOfShares_121 : decode cX8_breakOfShares 121 = .ok (.ireturn, 1) := by decide +kernel
theorem dX8_breakOfShares_122 : decode cX8_breakOfShares 122 = .ok (.iinc 1 1, 3) := by decide +kernel
theorem dX8_breakOfShares_125 : decode cX8_breakOfShares 125 = .ok (.goto (-34), 3) := by decide +kernel
theorem dX8_breakOfShares_128 : decode cX8_breakOfShares 128 = .ok (.iconst 0, 1) := by decide +kernel
theorem dX8_breakOfShares_129 : decode cX8_breakOfShares 129 = .ok (.ireturn, 1) := by decide +kernel
theorem dX8_isRight_0 : decode cX8_isRight 0 = .ok (.aload_n 0, 1) := by decide +kernel
theorem dX8_isRight_1 : decode cX8_isRight 1 = .ok (.iload_n 1, 1) := by decide +kernel
theorem dX8_isRight_2 : decode cX8_isRight 2 = .ok (.invokevirtual 101, 3) := by decide +kernel
theorem dX8_isRight_5 : decode cX8_isRight 5 = .ok (.ifCond .eq 15, 3) := by decide +kernel
theorem dX8_isRight_8 : decode cX8_isRight 8 = .ok (.aload_n 0, 1) := by decide +kernel
theorem dX8_isRight_9 : decode cX8_isRight 9 = .ok (.getfield 57, 3) := by decide +kernel
theorem dX8_isRight_12 : decode cX8_isRight 12 = .ok (.iload_n 1, 1) := by decide +kernel
theorem dX8_isRight_13 : decode cX8_isRight 13 = .ok (.aaload, 1) := by decide +kernel
theorem dX8_isRight_14 : decode cX8_isRight 14 = .ok (.iconst 0, 1) := by decide +kernel
theorem dX8_isRight_15 : decode cX8_isRight 15 = .ok (.iaload, 1) := by decide +kernel
theorem dX8_isRight_16 : decode cX8_isRight 16 = .ok (.iload_n 1, 1) := by decide +kernel
theorem dX8_isRight_17 : decode cX8_isRight 17 = .ok (.if_icmp .eq 5, 3) := by decide +kernel
theorem dX8_isRight_20 : decode cX8_isRight 20 = .ok (.iconst 0, 1) := by decide +kernel
theorem dX8_isRight_21 : decode cX8_isRight 21 = .ok (.ireturn, 1) := by decide +kernel
theorem dX8_isRight_22 : decode cX8_isRight 22 = .ok (.iload_n 2, 1) := by decide +kernel
theorem dX8_isRight_23 : decode cX8_isRight 23 = .ok (.aload_n 0, 1) := by decide +kernel
theorem dX8_isRight_24 : decode cX8_isRight 24 = .ok (.getfield 26, 3) := by decide +kernel
theorem dX8_isRight_27 : decode cX8_isRight 27 = .ok (.getfield 152, 3) := by decide +kernel
theorem dX8_isRight_30 : decode cX8_isRight 30 = .ok (.iload_n 1, 1) := by decide +kernel
theorem dX8_isRight_31 : decode cX8_isRight 31 = .ok (.iaload, 1) := by decide +kernel
theorem dX8_isRight_32 : decode cX8_isRight 32 = .ok (.iadd, 1) := by decide +kernel
theorem dX8_isRight_33 : decode cX8_isRight 33 = .ok (.istore_n 3, 1) := by decide +kernel
theorem dX8_isRight_34 : decode cX8_isRight 34 = .ok (.aload_n 0, 1) := by decide +kernel
theorem dX8_isRight_35 : decode cX8_isRight 35 = .ok (.getfield 57, 3) := by decide +kernel
theorem dX8_isRight_38 : decode cX8_isRight 38 = .ok (.iload_n 1, 1) := by decide +kernel
theorem dX8_isRight_39 : decode cX8_isRight 39 = .ok (.aaload, 1) := by decide +kernel
theorem dX8_isRight_40 : decode cX8_isRight 40 = .ok (.iconst 1, 1) := by decide +kernel
theorem dX8_isRight_41 : decode cX8_isRight 41 = .ok (.iaload, 1) := by decide +kernel
theorem dX8_isRight_42 : decode cX8_isRight 42 = .ok (.istore 4, 2) := by decide +kernel
theorem dX8_isRight_44 : decode cX8_isRight 44 = .ok (.iload 4, 2) := by decide +kernel
theorem dX8_isRight_46 : decode cX8_isRight 46 = .ok (.iconst 0, 1) := by decide +kernel
theorem dX8_isRight_47 : decode cX8_isRight 47 = .ok (.iload_n 3, 1) := by decide +kernel
theorem dX8_isRight_48 : decode cX8_isRight 48 = .ok (.bipush 12, 2) := by decide +kernel
theorem dX8_isRight_50 : decode cX8_isRight 50 = .ok (.invokestatic 312, 3) := by decide +kernel
theorem dX8_isRight_53 : decode cX8_isRight 53 = .ok (.invokestatic 105, 3) := by decide +kernel
theorem dX8_isRight_56 : decode cX8_isRight 56 = .ok (.ifCond .eq 22, 3) := by decide +kernel
theorem dX8_isRight_59 : decode cX8_isRight 59 = .ok (.aload_n 0, 1) := by decide +kernel
theorem dX8_isRight_60 : decode cX8_isRight 60 = .ok (.getfield 57, 3) := by decide +kernel
theorem dX8_isRight_63 : decode cX8_isRight 63 = .ok (.iload_n 1, 1) := by decide +kernel
theorem dX8_isRight_64 : decode cX8_isRight 64 = .ok (.aaload, 1) := by decide +kernel
theorem dX8_isRight_65 : decode cX8_isRight 65 = .ok (.iconst 2, 1) := by decide +kernel
theorem dX8_isRight_66 : decode cX8_isRight 66 = .ok (.iaload, 1) := by decide +kernel
theorem dX8_isRight_67 : decode cX8_isRight 67 = .ok (.iload_n 3, 1) := by decide +kernel
theorem dX8_isRight_68 : decode cX8_isRight 68 = .ok (.iload 4, 2) := by decide +kernel
theorem dX8_isRight_70 : decode cX8_isRight 70 = .ok (.isub, 1) := by decide +kernel
theorem dX8_isRight_71 : decode cX8_isRight 71 = .ok (.if_icmp .ne 7, 3) := by decide +kernel
theorem dX8_isRight_74 : decode cX8_isRight 74 = .ok (.iconst 1, 1) := by decide +kernel
theorem dX8_isRight_75 : decode cX8_isRight 75 = .ok (.goto 4, 3) := by decide +kernel
theorem dX8_isRight_78 : decode cX8_isRight 78 = .ok (.iconst 0, 1) := by decide +kernel
theorem dX8_isRight_79 : decode cX8_isRight 79 = .ok (.ireturn, 1) := by decide +kernel
theorem dX8_heldOn_0 : decode cX8_heldOn 0 = .ok (.aload_n 0, 1) := by decide +kernel
theorem dX8_heldOn_1 : decode cX8_heldOn 1 = .ok (.getfield 70, 3) := by decide +kernel
theorem dX8_heldOn_4 : decode cX8_heldOn 4 = .ok (.iload_n 1, 1) := by decide +kernel
theorem dX8_heldOn_5 : decode cX8_heldOn 5 = .ok (.iaload, 1) := by decide +kernel
theorem dX8_heldOn_6 : decode cX8_heldOn 6 = .ok (.istore_n 2, 1) := by decide +kernel
theorem dX8_heldOn_7 : decode cX8_heldOn 7 = .ok (.iload_n 2, 1) := by decide +kernel
theorem dX8_heldOn_8 : decode cX8_heldOn 8 = .ok (.iconst 0, 1) := by decide +kernel
theorem dX8_heldOn_9 : decode cX8_heldOn 9 = .ok (.bipush 6, 2) := by decide +kernel
theorem dX8_heldOn_11 : decode cX8_heldOn 11 = .ok (.invokestatic 105, 3) := by decide +kernel
theorem dX8_heldOn_14 : decode cX8_heldOn 14 = .ok (.ifCond .eq 20, 3) := by decide +kernel
theorem dX8_heldOn_17 : decode cX8_heldOn 17 = .ok (.aload_n 0, 1) := by decide +kernel
theorem dX8_heldOn_18 : decode cX8_heldOn 18 = .ok (.aload_n 0, 1) := by decide +kernel
theorem dX8_heldOn_19 : decode cX8_heldOn 19 = .ok (.getfield 73, 3) := by decide +kernel
theorem dX8_heldOn_22 : decode cX8_heldOn 22 = .ok (.iload_n 1, 1) := by decide +kernel
theorem dX8_heldOn_23 : decode cX8_heldOn 23 = .ok (.iaload, 1) := by decide +kernel
theorem dX8_heldOn_24 : decode cX8_heldOn 24 = .ok (.invokevirtual 101, 3) := by decide +kernel
theorem dX8_heldOn_27 : decode cX8_heldOn 27 = .ok (.ifCond .ne 7, 3) := by decide +kernel
theorem dX8_heldOn_30 : decode cX8_heldOn 30 = .ok (.iconst 1, 1) := by decide +kernel
theorem dX8_heldOn_31 : decode cX8_heldOn 31 = .ok (.goto 4, 3) := by decide +kernel
theorem dX8_heldOn_34 : decode cX8_heldOn 34 = .ok (.iconst 0, 1) := by decide +kernel
theorem dX8_heldOn_35 : decode cX8_heldOn 35 = .ok (.istore_n 3, 1) := by decide +kernel
theorem dX8_heldOn_36 : decode cX8_heldOn 36 = .ok (.iload_n 3, 1) := by decide +kernel
theorem dX8_heldOn_37 : decode cX8_heldOn 37 = .ok (.ifCond .eq 7, 3) := by decide +kernel
theorem dX8_heldOn_40 : decode cX8_heldOn 40 = .ok (.iconst (-1), 1) := by decide +kernel
theorem dX8_heldOn_41 : decode cX8_heldOn 41 = .ok (.goto 4, 3) := by decide +kernel
theorem dX8_heldOn_44 : decode cX8_heldOn 44 = .ok (.iload_n 2, 1) := by decide +kernel
theorem dX8_heldOn_45 : decode cX8_heldOn 45 = .ok (.ireturn, 1) := by decide +kernel
theorem dX8_isUnder_0 : decode cX8_isUnder 0 = .ok (.iload_n 0, 1) := by decide +kernel
theorem dX8_isUnder_1 : decode cX8_isUnder 1 = .ok (.istore_n 2, 1) := by decide +kernel
theorem dX8_isUnder_2 : decode cX8_isUnder 2 = .ok (.iconst 0, 1) := by decide +kernel
theorem dX8_isUnder_3 : decode cX8_isUnder 3 = .ok (.istore_n 3, 1) := by decide +kernel
theorem dX8_isUnder_4 : decode cX8_isUnder 4 = .ok (.iload_n 3, 1) := by decide +kernel
theorem dX8_isUnder_5 : decode cX8_isUnder 5 = .ok (.getstatic 338, 3) := by decide +kernel
theorem dX8_isUnder_8 : decode cX8_isUnder 8 = .ok (.arraylength, 1) := by decide +kernel
theorem dX8_isUnder_9 : decode cX8_isUnder 9 = .ok (.if_icmp .ge 38, 3) := by decide +kernel
theorem dX8_isUnder_12 : decode cX8_isUnder 12 = .ok (.iload_n 2, 1) := by decide +kernel
theorem dX8_isUnder_13 : decode cX8_isUnder 13 = .ok (.iload_n 1, 1) := by decide +kernel
theorem dX8_isUnder_14 : decode cX8_isUnder 14 = .ok (.if_icmp .ne 5, 3) := by decide +kernel
theorem dX8_isUnder_17 : decode cX8_isUnder 17 = .ok (.iconst 1, 1) := by decide +kernel
theorem dX8_isUnder_18 : decode cX8_isUnder 18 = .ok (.ireturn, 1) := by decide +kernel
theorem dX8_isUnder_19 : decode cX8_isUnder 19 = .ok (.iload_n 2, 1) := by decide +kernel
theorem dX8_isUnder_20 : decode cX8_isUnder 20 = .ok (.iconst 0, 1) := by decide +kernel
theorem dX8_isUnder_21 : decode cX8_isUnder 21 = .ok (.getstatic 338, 3) := by decide +kernel
theorem dX8_isUnder_24 : decode cX8_isUnder 24 = .ok (.arraylength, 1) := by decide +kernel
theorem dX8_isUnder_25 : decode cX8_isUnder 25 = .ok (.iconst 1, 1) := by decide +kernel
theorem dX8_isUnder_26 : decode cX8_isUnder 26 = .ok (.isub, 1) := by decide +kernel
theorem dX8_isUnder_27 : decode cX8_isUnder 27 = .ok (.invokestatic 105, 3) := by decide +kernel
theorem dX8_isUnder_30 : decode cX8_isUnder 30 = .ok (.ifCond .ne 5, 3) := by decide +kernel
theorem dX8_isUnder_33 : decode cX8_isUnder 33 = .ok (.iconst 0, 1) := by decide +kernel
theorem dX8_isUnder_34 : decode cX8_isUnder 34 = .ok (.ireturn, 1) := by decide +kernel
theorem dX8_isUnder_35 : decode cX8_isUnder 35 = .ok (.getstatic 338, 3) := by decide +kernel
theorem dX8_isUnder_38 : decode cX8_isUnder 38 = .ok (.iload_n 2, 1) := by decide +kernel
theorem dX8_isUnder_39 : decode cX8_isUnder 39 = .ok (.iaload, 1) := by decide +kernel
theorem dX8_isUnder_40 : decode cX8_isUnder 40 = .ok (.istore_n 2, 1) := by decide +kernel
theorem dX8_isUnder_41 : decode cX8_isUnder 41 = .ok (.iinc 3 1, 3) := by decide +kernel
theorem dX8_isUnder_44 : decode cX8_isUnder 44 = .ok (.goto (-40), 3) := by decide +kernel
theorem dX8_isUnder_47 : decode cX8_isUnder 47 = .ok (.iconst 0, 1) := by decide +kernel
theorem dX8_isUnder_48 : decode cX8_isUnder 48 = .ok (.ireturn, 1) := by decide +kernel
theorem dX8_amountOf_0 : decode cX8_amountOf 0 = .ok (.iload_n 1, 1) := by decide +kernel
theorem dX8_amountOf_1 : decode cX8_amountOf 1 = .ok (.tableswitch 85 0 6 #[43, 85, 43, 61, 69, 77, 49], 43) := by decide +kernel
theorem dX8_amountOf_44 : decode cX8_amountOf 44 = .ok (.aload_n 0, 1) := by decide +kernel
theorem dX8_amountOf_45 : decode cX8_amountOf 45 = .ok (.iload_n 2, 1) := by decide +kernel
theorem dX8_amountOf_46 : decode cX8_amountOf 46 = .ok (.invokevirtual 168, 3) := by decide +kernel
theorem dX8_amountOf_49 : decode cX8_amountOf 49 = .ok (.ireturn, 1) := by decide +kernel
theorem dX8_amountOf_50 : decode cX8_amountOf 50 = .ok (.aload_n 0, 1) := by decide +kernel
theorem dX8_amountOf_51 : decode cX8_amountOf 51 = .ok (.getfield 12, 3) := by decide +kernel
theorem dX8_amountOf_54 : decode cX8_amountOf 54 = .ok (.getfield 109, 3) := by decide +kernel
theorem dX8_amountOf_57 : decode cX8_amountOf 57 = .ok (.iload_n 2, 1) := by decide +kernel
theorem dX8_amountOf_58 : decode cX8_amountOf 58 = .ok (.aaload, 1) := by decide +kernel
theorem dX8_amountOf_59 : decode cX8_amountOf 59 = .ok (.iconst 0, 1) := by decide +kernel
theorem dX8_amountOf_60 : decode cX8_amountOf 60 = .ok (.iaload, 1) := by decide +kernel
theorem dX8_amountOf_61 : decode cX8_amountOf 61 = .ok (.ireturn, 1) := by decide +kernel
theorem dX8_amountOf_62 : decode cX8_amountOf 62 = .ok (.aload_n 0, 1) := by decide +kernel
theorem dX8_amountOf_63 : decode cX8_amountOf 63 = .ok (.iconst 1, 1) := by decide +kernel
theorem dX8_amountOf_64 : decode cX8_amountOf 64 = .ok (.invokevirtual 164, 3) := by decide +kernel
theorem dX8_amountOf_67 : decode cX8_amountOf 67 = .ok (.goto 24, 3) := by decide +kernel
theorem dX8_amountOf_70 : decode cX8_amountOf 70 = .ok (.aload_n 0, 1) := by decide +kernel
theorem dX8_amountOf_71 : decode cX8_amountOf 71 = .ok (.iconst 2, 1) := by decide +kernel
theorem dX8_amountOf_72 : decode cX8_amountOf 72 = .ok (.invokevirtual 164, 3) := by decide +kernel
theorem dX8_amountOf_75 : decode cX8_amountOf 75 = .ok (.goto 16, 3) := by decide +kernel
theorem dX8_amountOf_78 : decode cX8_amountOf 78 = .ok (.aload_n 0, 1) := by decide +kernel
theorem dX8_amountOf_79 : decode cX8_amountOf 79 = .ok (.iconst 3, 1) := by decide +kernel
theorem dX8_amountOf_80 : decode cX8_amountOf 80 = .ok (.invokevirtual 164, 3) := by decide +kernel
theorem dX8_amountOf_83 : decode cX8_amountOf 83 = .ok (.goto 8, 3) := by decide +kernel
theorem dX8_amountOf_86 : decode cX8_amountOf 86 = .ok (.aload_n 0, 1) := by decide +kernel
theorem dX8_amountOf_87 : decode cX8_amountOf 87 = .ok (.iconst 0, 1) := by decide +kernel
theorem dX8_amountOf_88 : decode cX8_amountOf 88 = .ok (.invokevirtual 164, 3) := by decide +kernel
theorem dX8_amountOf_91 : decode cX8_amountOf 91 = .ok (.aload_n 0, 1) := by decide +kernel
theorem dX8_amountOf_92 : decode cX8_amountOf 92 = .ok (.getfield 51, 3) := by decide +kernel
theorem dX8_amountOf_95 : decode cX8_amountOf 95 = .ok (.iload_n 2, 1) := by decide +kernel
theorem dX8_amountOf_96 : decode cX8_amountOf 96 = .ok (.iaload, 1) := by decide +kernel
theorem dX8_amountOf_97 : decode cX8_amountOf 97 = .ok (.ireturn, 1) := by decide +kernel
end
section
theorem dL_law_0 : decode cL_law 0 = .ok (.new 7, 3) := by decide +kernel
theorem dL_law_3 : decode cL_law 3 = .ok (.dup, 1) := by decide +kernel
theorem dL_law_4 : decode cL_law 4 = .ok (.invokespecial 9, 3) := by decide +kernel
theorem dL_law_7 : decode cL_law 7 = .ok (.astore_n 1, 1) := by decide +kernel
theorem dL_law_8 : decode cL_law 8 = .ok (.new 10, 3) := by decide +kernel
theorem dL_law_11 : decode cL_law 11 = .ok (.dup, 1) := by decide +kernel
theorem dL_law_12 : decode cL_law 12 = .ok (.invokespecial 12, 3) := by decide +kernel
theorem dL_law_15 : decode cL_law 15 = .ok (.astore_n 2, 1) := by decide +kernel
theorem dL_law_16 : decode cL_law 16 = .ok (.iconst 0, 1) := by decide +kernel
theorem dL_law_17 : decode cL_law 17 = .ok (.istore_n 3, 1) := by decide +kernel
theorem dL_law_18 : decode cL_law 18 = .ok (.iload_n 3, 1) := by decide +kernel
theorem dL_law_19 : decode cL_law 19 = .ok (.aload_n 0, 1) := by decide +kernel
theorem dL_law_20 : decode cL_law 20 = .ok (.arraylength, 1) := by decide +kernel
theorem dL_law_21 : decode cL_law 21 = .ok (.iconst 5, 1) := by decide +kernel
theorem dL_law_22 : decode cL_law 22 = .ok (.isub, 1) := by decide +kernel
theorem dL_law_23 : decode cL_law 23 = .ok (.if_icmp .gt 1364, 3) := by decide +kernel
theorem dL_law_26 : decode cL_law 26 = .ok (.aload_n 0, 1) := by decide +kernel
theorem dL_law_27 : decode cL_law 27 = .ok (.iload_n 3, 1) := by decide +kernel
theorem dL_law_28 : decode cL_law 28 = .ok (.iaload, 1) := by decide +kernel
theorem dL_law_29 : decode cL_law 29 = .ok (.bipush 63, 2) := by decide +kernel
theorem dL_law_31 : decode cL_law 31 = .ok (.iand, 1) := by decide +kernel
theorem dL_law_32 : decode cL_law 32 = .ok (.tableswitch 1349 0 38 #[172, 195, 228, 271, 304, 337, 360, 393, 416, 449, 472, 515, 538, 561, 584, 607, 640, 673, 696, 759, 772, 815, 828, 851, 874, 887, 920, 963, 976, 1019, 1062, 1105, 1158, 1201, 1234, 1277, 1300, 1323, 1336], 172) := by decide +kernel
theorem dL_law_204 : decode cL_law 204 = .ok (.aload_n 1, 1) := by decide +kernel
theorem dL_law_205 : decode cL_law 205 = .ok (.aload_n 0, 1) := by decide +kernel
theorem dL_law_206 : decode cL_law 206 = .ok (.iload_n 3, 1) := by decide +kernel
theorem dL_law_207 : decode cL_law 207 = .ok (.iconst 1, 1) := by decide +kernel
theorem dL_law_208 : decode cL_law 208 = .ok (.iadd, 1) := by decide +kernel
theorem dL_law_209 : decode cL_law 209 = .ok (.iaload, 1) := by decide +kernel
theorem dL_law_210 : decode cL_law 210 = .ok (.invokevirtual 13, 3) := by decide +kernel
theorem dL_law_213 : decode cL_law 213 = .ok (.aload_n 2, 1) := by decide +kernel
theorem dL_law_214 : decode cL_law 214 = .ok (.aload_n 0, 1) := by decide +kernel
theorem dL_law_215 : decode cL_law 215 = .ok (.iload_n 3, 1) := by decide +kernel
theorem dL_law_216 : decode cL_law 216 = .ok (.iconst 1, 1) := by decide +kernel
theorem dL_law_217 : decode cL_law 217 = .ok (.iadd, 1) := by decide +kernel
theorem dL_law_218 : decode cL_law 218 = .ok (.iaload, 1) := by decide +kernel
theorem dL_law_219 : decode cL_law 219 = .ok (.invokevirtual 17, 3) := by decide +kernel
theorem dL_law_222 : decode cL_law 222 = .ok (.if_icmp .eq 1159, 3) := by decide +kernel
theorem dL_law_225 : decode cL_law 225 = .ok (.iconst 0, 1) := by decide +kernel
theorem dL_law_226 : decode cL_law 226 = .ok (.ireturn, 1) := by decide +kernel
theorem dL_law_227 : decode cL_law 227 = .ok (.aload_n 1, 1) := by decide +kernel
theorem dL_law_228 : decode cL_law 228 = .ok (.aload_n 0, 1) := by decide +kernel
theorem dL_law_229 : decode cL_law 229 = .ok (.iload_n 3, 1) := by decide +kernel
theorem dL_law_230 : decode cL_law 230 = .ok (.iconst 1, 1) := by decide +kernel
theorem dL_law_231 : decode cL_law 231 = .ok (.iadd, 1) := by decide +kernel
theorem dL_law_232 : decode cL_law 232 = .ok (.iaload, 1) := by decide +kernel
theorem dL_law_233 : decode cL_law 233 = .ok (.aload_n 0, 1) := by decide +kernel
theorem dL_law_234 : decode cL_law 234 = .ok (.iload_n 3, 1) := by decide +kernel
theorem dL_law_235 : decode cL_law 235 = .ok (.iconst 2, 1) := by decide +kernel
theorem dL_law_236 : decode cL_law 236 = .ok (.iadd, 1) := by decide +kernel
theorem dL_law_237 : decode cL_law 237 = .ok (.iaload, 1) := by decide +kernel
theorem dL_law_238 : decode cL_law 238 = .ok (.invokevirtual 18, 3) := by decide +kernel
theorem dL_law_241 : decode cL_law 241 = .ok (.aload_n 2, 1) := by decide +kernel
theorem dL_law_242 : decode cL_law 242 = .ok (.aload_n 0, 1) := by decide +kernel
theorem dL_law_243 : decode cL_law 243 = .ok (.iload_n 3, 1) := by decide +kernel
theorem dL_law_244 : decode cL_law 244 = .ok (.iconst 1, 1) := by decide +kernel
theorem dL_law_245 : decode cL_law 245 = .ok (.iadd, 1) := by decide +kernel
theorem dL_law_246 : decode cL_law 246 = .ok (.iaload, 1) := by decide +kernel
theorem dL_law_247 : decode cL_law 247 = .ok (.aload_n 0, 1) := by decide +kernel
theorem dL_law_248 : decode cL_law 248 = .ok (.iload_n 3, 1) := by decide +kernel
theorem dL_law_249 : decode cL_law 249 = .ok (.iconst 2, 1) := by decide +kernel
theorem dL_law_250 : decode cL_law 250 = .ok (.iadd, 1) := by decide +kernel
theorem dL_law_251 : decode cL_law 251 = .ok (.iaload, 1) := by decide +kernel
theorem dL_law_252 : decode cL_law 252 = .ok (.invokevirtual 22, 3) := by decide +kernel
theorem dL_law_255 : decode cL_law 255 = .ok (.if_icmp .eq 1126, 3) := by decide +kernel
theorem dL_law_258 : decode cL_law 258 = .ok (.iconst 0, 1) := by decide +kernel
theorem dL_law_259 : decode cL_law 259 = .ok (.ireturn, 1) := by decide +kernel
theorem dL_law_260 : decode cL_law 260 = .ok (.aload_n 1, 1) := by decide +kernel
theorem dL_law_261 : decode cL_law 261 = .ok (.aload_n 0, 1) := by decide +kernel
theorem dL_law_262 : decode cL_law 262 = .ok (.iload_n 3, 1) := by decide +kernel
theorem dL_law_263 : decode cL_law 263 = .ok (.iconst 1, 1) := by decide +kernel
theorem dL_law_264 : decode cL_law 264 = .ok (.iadd, 1) := by decide +kernel
theorem dL_law_265 : decode cL_law 265 = .ok (.iaload, 1) := by decide +kernel
theorem dL_law_266 : decode cL_law 266 = .ok (.aload_n 0, 1) := by decide +kernel
theorem dL_law_267 : decode cL_law 267 = .ok (.iload_n 3, 1) := by decide +kernel
theorem dL_law_268 : decode cL_law 268 = .ok (.iconst 2, 1) := by decide +kernel
theorem dL_law_269 : decode cL_law 269 = .ok (.iadd, 1) := by decide +kernel
theorem dL_law_270 : decode cL_law 270 = .ok (.iaload, 1) := by decide +kernel
theorem dL_law_271 : decode cL_law 271 = .ok (.aload_n 0, 1) := by decide +kernel
theorem dL_law_272 : decode cL_law 272 = .ok (.iload_n 3, 1) := by decide +kernel
theorem dL_law_273 : decode cL_law 273 = .ok (.iconst 3, 1) := by decide +kernel
theorem dL_law_274 : decode cL_law 274 = .ok (.iadd, 1) := by decide +kernel
theorem dL_law_275 : decode cL_law 275 = .ok (.iaload, 1) := by decide +kernel
theorem dL_law_276 : decode cL_law 276 = .ok (.invokevirtual 23, 3) := by decide +kernel
theorem dL_law_279 : decode cL_law 279 = .ok (.aload_n 2, 1) := by decide +kernel
theorem dL_law_280 : decode cL_law 280 = .ok (.aload_n 0, 1) := by decide +kernel
theorem dL_law_281 : decode cL_law 281 = .ok (.iload_n 3, 1) := by decide +kernel
theorem dL_law_282 : decode cL_law 282 = .ok (.iconst 1, 1) := by decide +kernel
theorem dL_law_283 : decode cL_law 283 = .ok (.iadd, 1) := by decide +kernel
theorem dL_law_284 : decode cL_law 284 = .ok (.iaload, 1) := by decide +kernel
theorem dL_law_285 : decode cL_law 285 = .ok (.aload_n 0, 1) := by decide +kernel
theorem dL_law_286 : decode cL_law 286 = .ok (.iload_n 3, 1) := by decide +kernel
theorem dL_law_287 : decode cL_law 287 = .ok (.iconst 2, 1) := by decide +kernel
theorem dL_law_288 : decode cL_law 288 = .ok (.iadd, 1) := by decide +kernel
theorem dL_law_289 : decode cL_law 289 = .ok (.iaload, 1) := by decide +kernel
theorem dL_law_290 : decode cL_law 290 = .ok (.aload_n 0, 1) := by decide +kernel
theorem dL_law_291 : decode cL_law 291 = .ok (.iload_n 3, 1) := by decide +kernel
theorem dL_law_292 : decode cL_law 292 = .ok (.iconst 3, 1) := by decide +kernel
theorem dL_law_293 : decode cL_law 293 = .ok (.iadd, 1) := by decide +kernel
theorem dL_law_294 : decode cL_law 294 = .ok (.iaload, 1) := by decide +kernel
theorem dL_law_295 : decode cL_law 295 = .ok (.invokevirtual 27, 3) := by decide +kernel
theorem dL_law_298 : decode cL_law 298 = .ok (.if_icmp .eq 1083, 3) := by decide +kernel
theorem dL_law_301 : decode cL_law 301 = .ok (.iconst 0, 1) := by decide +kernel
theorem dL_law_302 : decode cL_law 302 = .ok (.ireturn, 1) := by decide +kernel
theorem dL_law_303 : decode cL_law 303 = .ok (.aload_n 1, 1) := by decide +kernel
theorem dL_law_304 : decode cL_law 304 = .ok (.aload_n 0, 1) := by decide +kernel
theorem dL_law_305 : decode cL_law 305 = .ok (.iload_n 3, 1) := by decide +kernel
theorem dL_law_306 : decode cL_law 306 = .ok (.iconst 1, 1) := by decide +kernel
theorem dL_law_307 : decode cL_law 307 = .ok (.iadd, 1) := by decide +kernel
theorem dL_law_308 : decode cL_law 308 = .ok (.iaload, 1) := by decide +kernel
theorem dL_law_309 : decode cL_law 309 = .ok (.aload_n 0, 1) := by decide +kernel
theorem dL_law_310 : decode cL_law 310 = .ok (.iload_n 3, 1) := by decide +kernel
theorem dL_law_311 : decode cL_law 311 = .ok (.iconst 2, 1) := by decide +kernel
theorem dL_law_312 : decode cL_law 312 = .ok (.iadd, 1) := by decide +kernel
theorem dL_law_313 : decode cL_law 313 = .ok (.iaload, 1) := by decide +kernel
theorem dL_law_314 : decode cL_law 314 = .ok (.invokevirtual 28, 3) := by decide +kernel
theorem dL_law_317 : decode cL_law 317 = .ok (.aload_n 2, 1) := by decide +kernel
theorem dL_law_318 : decode cL_law 318 = .ok (.aload_n 0, 1) := by decide +kernel
theorem dL_law_319 : decode cL_law 319 = .ok (.iload_n 3, 1) := by decide +kernel
theorem dL_law_320 : decode cL_law 320 = .ok (.iconst 1, 1) := by decide +kernel
theorem dL_law_321 : decode cL_law 321 = .ok (.iadd, 1) := by decide +kernel
theorem dL_law_322 : decode cL_law 322 = .ok (.iaload, 1) := by decide +kernel
theorem dL_law_323 : decode cL_law 323 = .ok (.aload_n 0, 1) := by decide +kernel
theorem dL_law_324 : decode cL_law 324 = .ok (.iload_n 3, 1) := by decide +kernel
theorem dL_law_325 : decode cL_law 325 = .ok (.iconst 2, 1) := by decide +kernel
theorem dL_law_326 : decode cL_law 326 = .ok (.iadd, 1) := by decide +kernel
theorem dL_law_327 : decode cL_law 327 = .ok (.iaload, 1) := by decide +kernel
theorem dL_law_328 : decode cL_law 328 = .ok (.invokevirtual 31, 3) := by decide +kernel
theorem dL_law_331 : decode cL_law 331 = .ok (.if_icmp .eq 1050, 3) := by decide +kernel
theorem dL_law_334 : decode cL_law 334 = .ok (.iconst 0, 1) := by decide +kernel
theorem dL_law_335 : decode cL_law 335 = .ok (.ireturn, 1) := by decide +kernel
theorem dL_law_336 : decode cL_law 336 = .ok (.aload_n 1, 1) := by decide +kernel
theorem dL_law_337 : decode cL_law 337 = .ok (.aload_n 0, 1) := by decide +kernel
theorem dL_law_338 : decode cL_law 338 = .ok (.iload_n 3, 1) := by decide +kernel
theorem dL_law_339 : decode cL_law 339 = .ok (.iconst 1, 1) := by decide +kernel
theorem dL_law_340 : decode cL_law 340 = .ok (.iadd, 1) := by decide +kernel
theorem dL_law_341 : decode cL_law 341 = .ok (.iaload, 1) := by decide +kernel
theorem dL_law_342 : decode cL_law 342 = .ok (.aload_n 0, 1) := by decide +kernel
theorem dL_law_343 : decode cL_law 343 = .ok (.iload_n 3, 1) := by decide +kernel
theorem dL_law_344 : decode cL_law 344 = .ok (.iconst 2, 1) := by decide +kernel
theorem dL_law_345 : decode cL_law 345 = .ok (.iadd, 1) := by decide +kernel
theorem dL_law_346 : decode cL_law 346 = .ok (.iaload, 1) := by decide +kernel
theorem dL_law_347 : decode cL_law 347 = .ok (.invokevirtual 32, 3) := by decide +kernel
theorem dL_law_350 : decode cL_law 350 = .ok (.aload_n 2, 1) := by decide +kernel
theorem dL_law_351 : decode cL_law 351 = .ok (.aload_n 0, 1) := by decide +kernel
theorem dL_law_352 : decode cL_law 352 = .ok (.iload_n 3, 1) := by decide +kernel
theorem dL_law_353 : decode cL_law 353 = .ok (.iconst 1, 1) := by decide +kernel
theorem dL_law_354 : decode cL_law 354 = .ok (.iadd, 1) := by decide +kernel
theorem dL_law_355 : decode cL_law 355 = .ok (.iaload, 1) := by decide +kernel
theorem dL_law_356 : decode cL_law 356 = .ok (.aload_n 0, 1) := by decide +kernel
theorem dL_law_357 : decode cL_law 357 = .ok (.iload_n 3, 1) := by decide +kernel
theorem dL_law_358 : decode cL_law 358 = .ok (.iconst 2, 1) := by decide +kernel
theorem dL_law_359 : decode cL_law 359 = .ok (.iadd, 1) := by decide +kernel
theorem dL_law_360 : decode cL_law 360 = .ok (.iaload, 1) := by decide +kernel
theorem dL_law_361 : decode cL_law 361 = .ok (.invokevirtual 35, 3) := by decide +kernel
theorem dL_law_364 : decode cL_law 364 = .ok (.if_icmp .eq 1017, 3) := by decide +kernel
theorem dL_law_367 : decode cL_law 367 = .ok (.iconst 0, 1) := by decide +kernel
theorem dL_law_368 : decode cL_law 368 = .ok (.ireturn, 1) := by decide +kernel
theorem dL_law_369 : decode cL_law 369 = .ok (.aload_n 1, 1) := by decide +kernel
theorem dL_law_370 : decode cL_law 370 = .ok (.aload_n 0, 1) := by decide +kernel
theorem dL_law_371 : decode cL_law 371 = .ok (.iload_n 3, 1) := by decide +kernel
theorem dL_law_372 : decode cL_law 372 = .ok (.iconst 1, 1) := by decide +kernel
theorem dL_law_373 : decode cL_law 373 = .ok (.iadd, 1) := by decide +kernel
theorem dL_law_374 : decode cL_law 374 = .ok (.iaload, 1) := by decide +kernel
theorem dL_law_375 : decode cL_law 375 = .ok (.invokevirtual 36, 3) := by decide +kernel
theorem dL_law_378 : decode cL_law 378 = .ok (.aload_n 2, 1) := by decide +kernel
theorem dL_law_379 : decode cL_law 379 = .ok (.aload_n 0, 1) := by decide +kernel
theorem dL_law_380 : decode cL_law 380 = .ok (.iload_n 3, 1) := by decide +kernel
theorem dL_law_381 : decode cL_law 381 = .ok (.iconst 1, 1) := by decide +kernel
theorem dL_law_382 : decode cL_law 382 = .ok (.iadd, 1) := by decide +kernel
theorem dL_law_383 : decode cL_law 383 = .ok (.iaload, 1) := by decide +kernel
theorem dL_law_384 : decode cL_law 384 = .ok (.invokevirtual 39, 3) := by decide +kernel
theorem dL_law_387 : decode cL_law 387 = .ok (.if_icmp .eq 994, 3) := by decide +kernel
theorem dL_law_390 : decode cL_law 390 = .ok (.iconst 0, 1) := by decide +kernel
theorem dL_law_391 : decode cL_law 391 = .ok (.ireturn, 1) := by decide +kernel
theorem dL_law_392 : decode cL_law 392 = .ok (.aload_n 1, 1) := by decide +kernel
theorem dL_law_393 : decode cL_law 393 = .ok (.aload_n 0, 1) := by decide +kernel
theorem dL_law_394 : decode cL_law 394 = .ok (.iload_n 3, 1) := by decide +kernel
theorem dL_law_395 : decode cL_law 395 = .ok (.iconst 1, 1) := by decide +kernel
theorem dL_law_396 : decode cL_law 396 = .ok (.iadd, 1) := by decide +kernel
theorem dL_law_397 : decode cL_law 397 = .ok (.iaload, 1) := by decide +kernel
theorem dL_law_398 : decode cL_law 398 = .ok (.aload_n 0, 1) := by decide +kernel
theorem dL_law_399 : decode cL_law 399 = .ok (.iload_n 3, 1) := by decide +kernel
theorem dL_law_400 : decode cL_law 400 = .ok (.iconst 2, 1) := by decide +kernel
theorem dL_law_401 : decode cL_law 401 = .ok (.iadd, 1) := by decide +kernel
theorem dL_law_402 : decode cL_law 402 = .ok (.iaload, 1) := by decide +kernel
theorem dL_law_403 : decode cL_law 403 = .ok (.invokevirtual 40, 3) := by decide +kernel
theorem dL_law_406 : decode cL_law 406 = .ok (.aload_n 2, 1) := by decide +kernel
theorem dL_law_407 : decode cL_law 407 = .ok (.aload_n 0, 1) := by decide +kernel
theorem dL_law_408 : decode cL_law 408 = .ok (.iload_n 3, 1) := by decide +kernel
theorem dL_law_409 : decode cL_law 409 = .ok (.iconst 1, 1) := by decide +kernel
theorem dL_law_410 : decode cL_law 410 = .ok (.iadd, 1) := by decide +kernel
theorem dL_law_411 : decode cL_law 411 = .ok (.iaload, 1) := by decide +kernel
theorem dL_law_412 : decode cL_law 412 = .ok (.aload_n 0, 1) := by decide +kernel
theorem dL_law_413 : decode cL_law 413 = .ok (.iload_n 3, 1) := by decide +kernel
theorem dL_law_414 : decode cL_law 414 = .ok (.iconst 2, 1) := by decide +kernel
theorem dL_law_415 : decode cL_law 415 = .ok (.iadd, 1) := by decide +kernel
theorem dL_law_416 : decode cL_law 416 = .ok (.iaload, 1) := by decide +kernel
theorem dL_law_417 : decode cL_law 417 = .ok (.invokevirtual 43, 3) := by decide +kernel
theorem dL_law_420 : decode cL_law 420 = .ok (.if_icmp .eq 961, 3) := by decide +kernel
theorem dL_law_423 : decode cL_law 423 = .ok (.iconst 0, 1) := by decide +kernel
theorem dL_law_424 : decode cL_law 424 = .ok (.ireturn, 1) := by decide +kernel
theorem dL_law_425 : decode cL_law 425 = .ok (.aload_n 1, 1) := by decide +kernel
theorem dL_law_426 : decode cL_law 426 = .ok (.aload_n 0, 1) := by decide +kernel
theorem dL_law_427 : decode cL_law 427 = .ok (.iload_n 3, 1) := by decide +kernel
theorem dL_law_428 : decode cL_law 428 = .ok (.iconst 1, 1) := by decide +kernel
theorem dL_law_429 : decode cL_law 429 = .ok (.iadd, 1) := by decide +kernel
theorem dL_law_430 : decode cL_law 430 = .ok (.iaload, 1) := by decide +kernel
theorem dL_law_431 : decode cL_law 431 = .ok (.invokevirtual 44, 3) := by decide +kernel
theorem dL_law_434 : decode cL_law 434 = .ok (.aload_n 2, 1) := by decide +kernel
theorem dL_law_435 : decode cL_law 435 = .ok (.aload_n 0, 1) := by decide +kernel
theorem dL_law_436 : decode cL_law 436 = .ok (.iload_n 3, 1) := by decide +kernel
theorem dL_law_437 : decode cL_law 437 = .ok (.iconst 1, 1) := by decide +kernel
theorem dL_law_438 : decode cL_law 438 = .ok (.iadd, 1) := by decide +kernel
theorem dL_law_439 : decode cL_law 439 = .ok (.iaload, 1) := by decide +kernel
theorem dL_law_440 : decode cL_law 440 = .ok (.invokevirtual 47, 3) := by decide +kernel
theorem dL_law_443 : decode cL_law 443 = .ok (.if_icmp .eq 938, 3) := by decide +kernel
theorem dL_law_446 : decode cL_law 446 = .ok (.iconst 0, 1) := by decide +kernel
theorem dL_law_447 : decode cL_law 447 = .ok (.ireturn, 1) := by decide +kernel
theorem dL_law_448 : decode cL_law 448 = .ok (.aload_n 1, 1) := by decide +kernel
theorem dL_law_449 : decode cL_law 449 = .ok (.aload_n 0, 1) := by decide +kernel
theorem dL_law_450 : decode cL_law 450 = .ok (.iload_n 3, 1) := by decide +kernel
theorem dL_law_451 : decode cL_law 451 = .ok (.iconst 1, 1) := by decide +kernel
theorem dL_law_452 : decode cL_law 452 = .ok (.iadd, 1) := by decide +kernel
theorem dL_law_453 : decode cL_law 453 = .ok (.iaload, 1) := by decide +kernel
theorem dL_law_454 : decode cL_law 454 = .ok (.aload_n 0, 1) := by decide +kernel
theorem dL_law_455 : decode cL_law 455 = .ok (.iload_n 3, 1) := by decide +kernel
theorem dL_law_456 : decode cL_law 456 = .ok (.iconst 2, 1) := by decide +kernel
theorem dL_law_457 : decode cL_law 457 = .ok (.iadd, 1) := by decide +kernel
theorem dL_law_458 : decode cL_law 458 = .ok (.iaload, 1) := by decide +kernel
theorem dL_law_459 : decode cL_law 459 = .ok (.invokevirtual 48, 3) := by decide +kernel
theorem dL_law_462 : decode cL_law 462 = .ok (.aload_n 2, 1) := by decide +kernel
theorem dL_law_463 : decode cL_law 463 = .ok (.aload_n 0, 1) := by decide +kernel
theorem dL_law_464 : decode cL_law 464 = .ok (.iload_n 3, 1) := by decide +kernel
theorem dL_law_465 : decode cL_law 465 = .ok (.iconst 1, 1) := by decide +kernel
theorem dL_law_466 : decode cL_law 466 = .ok (.iadd, 1) := by decide +kernel
theorem dL_law_467 : decode cL_law 467 = .ok (.iaload, 1) := by decide +kernel
theorem dL_law_468 : decode cL_law 468 = .ok (.aload_n 0, 1) := by decide +kernel
theorem dL_law_469 : decode cL_law 469 = .ok (.iload_n 3, 1) := by decide +kernel
theorem dL_law_470 : decode cL_law 470 = .ok (.iconst 2, 1) := by decide +kernel
theorem dL_law_471 : decode cL_law 471 = .ok (.iadd, 1) := by decide +kernel
theorem dL_law_472 : decode cL_law 472 = .ok (.iaload, 1) := by decide +kernel
theorem dL_law_473 : decode cL_law 473 = .ok (.invokevirtual 51, 3) := by decide +kernel
theorem dL_law_476 : decode cL_law 476 = .ok (.if_icmp .eq 905, 3) := by decide +kernel
theorem dL_law_479 : decode cL_law 479 = .ok (.iconst 0, 1) := by decide +kernel
theorem dL_law_480 : decode cL_law 480 = .ok (.ireturn, 1) := by decide +kernel
theorem dL_law_481 : decode cL_law 481 = .ok (.aload_n 1, 1) := by decide +kernel
theorem dL_law_482 : decode cL_law 482 = .ok (.aload_n 0, 1) := by decide +kernel
theorem dL_law_483 : decode cL_law 483 = .ok (.iload_n 3, 1) := by decide +kernel
theorem dL_law_484 : decode cL_law 484 = .ok (.iconst 1, 1) := by decide +kernel
theorem dL_law_485 : decode cL_law 485 = .ok (.iadd, 1) := by decide +kernel
theorem dL_law_486 : decode cL_law 486 = .ok (.iaload, 1) := by decide +kernel
theorem dL_law_487 : decode cL_law 487 = .ok (.invokevirtual 52, 3) := by decide +kernel
theorem dL_law_490 : decode cL_law 490 = .ok (.aload_n 2, 1) := by decide +kernel
theorem dL_law_491 : decode cL_law 491 = .ok (.aload_n 0, 1) := by decide +kernel
theorem dL_law_492 : decode cL_law 492 = .ok (.iload_n 3, 1) := by decide +kernel
theorem dL_law_493 : decode cL_law 493 = .ok (.iconst 1, 1) := by decide +kernel
theorem dL_law_494 : decode cL_law 494 = .ok (.iadd, 1) := by decide +kernel
theorem dL_law_495 : decode cL_law 495 = .ok (.iaload, 1) := by decide +kernel
theorem dL_law_496 : decode cL_law 496 = .ok (.invokevirtual 55, 3) := by decide +kernel
theorem dL_law_499 : decode cL_law 499 = .ok (.if_icmp .eq 882, 3) := by decide +kernel
theorem dL_law_502 : decode cL_law 502 = .ok (.iconst 0, 1) := by decide +kernel
theorem dL_law_503 : decode cL_law 503 = .ok (.ireturn, 1) := by decide +kernel
theorem dL_law_504 : decode cL_law 504 = .ok (.aload_n 1, 1) := by decide +kernel
theorem dL_law_505 : decode cL_law 505 = .ok (.aload_n 0, 1) := by decide +kernel
theorem dL_law_506 : decode cL_law 506 = .ok (.iload_n 3, 1) := by decide +kernel
theorem dL_law_507 : decode cL_law 507 = .ok (.iconst 1, 1) := by decide +kernel
theorem dL_law_508 : decode cL_law 508 = .ok (.iadd, 1) := by decide +kernel
theorem dL_law_509 : decode cL_law 509 = .ok (.iaload, 1) := by decide +kernel
theorem dL_law_510 : decode cL_law 510 = .ok (.aload_n 0, 1) := by decide +kernel
theorem dL_law_511 : decode cL_law 511 = .ok (.iload_n 3, 1) := by decide +kernel
theorem dL_law_512 : decode cL_law 512 = .ok (.iconst 2, 1) := by decide +kernel
theorem dL_law_513 : decode cL_law 513 = .ok (.iadd, 1) := by decide +kernel
theorem dL_law_514 : decode cL_law 514 = .ok (.iaload, 1) := by decide +kernel
theorem dL_law_515 : decode cL_law 515 = .ok (.aload_n 0, 1) := by decide +kernel
theorem dL_law_516 : decode cL_law 516 = .ok (.iload_n 3, 1) := by decide +kernel
theorem dL_law_517 : decode cL_law 517 = .ok (.iconst 3, 1) := by decide +kernel
theorem dL_law_518 : decode cL_law 518 = .ok (.iadd, 1) := by decide +kernel
theorem dL_law_519 : decode cL_law 519 = .ok (.iaload, 1) := by decide +kernel
theorem dL_law_520 : decode cL_law 520 = .ok (.invokevirtual 56, 3) := by decide +kernel
theorem dL_law_523 : decode cL_law 523 = .ok (.aload_n 2, 1) := by decide +kernel
theorem dL_law_524 : decode cL_law 524 = .ok (.aload_n 0, 1) := by decide +kernel
theorem dL_law_525 : decode cL_law 525 = .ok (.iload_n 3, 1) := by decide +kernel
theorem dL_law_526 : decode cL_law 526 = .ok (.iconst 1, 1) := by decide +kernel
theorem dL_law_527 : decode cL_law 527 = .ok (.iadd, 1) := by decide +kernel
theorem dL_law_528 : decode cL_law 528 = .ok (.iaload, 1) := by decide +kernel
theorem dL_law_529 : decode cL_law 529 = .ok (.aload_n 0, 1) := by decide +kernel
theorem dL_law_530 : decode cL_law 530 = .ok (.iload_n 3, 1) := by decide +kernel
theorem dL_law_531 : decode cL_law 531 = .ok (.iconst 2, 1) := by decide +kernel
theorem dL_law_532 : decode cL_law 532 = .ok (.iadd, 1) := by decide +kernel
theorem dL_law_533 : decode cL_law 533 = .ok (.iaload, 1) := by decide +kernel
theorem dL_law_534 : decode cL_law 534 = .ok (.aload_n 0, 1) := by decide +kernel
theorem dL_law_535 : decode cL_law 535 = .ok (.iload_n 3, 1) := by decide +kernel
theorem dL_law_536 : decode cL_law 536 = .ok (.iconst 3, 1) := by decide +kernel
theorem dL_law_537 : decode cL_law 537 = .ok (.iadd, 1) := by decide +kernel
theorem dL_law_538 : decode cL_law 538 = .ok (.iaload, 1) := by decide +kernel
theorem dL_law_539 : decode cL_law 539 = .ok (.invokevirtual 59, 3) := by decide +kernel
theorem dL_law_542 : decode cL_law 542 = .ok (.if_icmp .eq 839, 3) := by decide +kernel
theorem dL_law_545 : decode cL_law 545 = .ok (.iconst 0, 1) := by decide +kernel
theorem dL_law_546 : decode cL_law 546 = .ok (.ireturn, 1) := by decide +kernel
theorem dL_law_547 : decode cL_law 547 = .ok (.aload_n 1, 1) := by decide +kernel
theorem dL_law_548 : decode cL_law 548 = .ok (.aload_n 0, 1) := by decide +kernel
theorem dL_law_549 : decode cL_law 549 = .ok (.iload_n 3, 1) := by decide +kernel
theorem dL_law_550 : decode cL_law 550 = .ok (.iconst 1, 1) := by decide +kernel
theorem dL_law_551 : decode cL_law 551 = .ok (.iadd, 1) := by decide +kernel
theorem dL_law_552 : decode cL_law 552 = .ok (.iaload, 1) := by decide +kernel
theorem dL_law_553 : decode cL_law 553 = .ok (.invokevirtual 60, 3) := by decide +kernel
theorem dL_law_556 : decode cL_law 556 = .ok (.aload_n 2, 1) := by decide +kernel
theorem dL_law_557 : decode cL_law 557 = .ok (.aload_n 0, 1) := by decide +kernel
theorem dL_law_558 : decode cL_law 558 = .ok (.iload_n 3, 1) := by decide +kernel
theorem dL_law_559 : decode cL_law 559 = .ok (.iconst 1, 1) := by decide +kernel
theorem dL_law_560 : decode cL_law 560 = .ok (.iadd, 1) := by decide +kernel
theorem dL_law_561 : decode cL_law 561 = .ok (.iaload, 1) := by decide +kernel
theorem dL_law_562 : decode cL_law 562 = .ok (.invokevirtual 63, 3) := by decide +kernel
theorem dL_law_565 : decode cL_law 565 = .ok (.if_icmp .eq 816, 3) := by decide +kernel
theorem dL_law_568 : decode cL_law 568 = .ok (.iconst 0, 1) := by decide +kernel
theorem dL_law_569 : decode cL_law 569 = .ok (.ireturn, 1) := by decide +kernel
theorem dL_law_570 : decode cL_law 570 = .ok (.aload_n 1, 1) := by decide +kernel
theorem dL_law_571 : decode cL_law 571 = .ok (.aload_n 0, 1) := by decide +kernel
theorem dL_law_572 : decode cL_law 572 = .ok (.iload_n 3, 1) := by decide +kernel
theorem dL_law_573 : decode cL_law 573 = .ok (.iconst 1, 1) := by decide +kernel
theorem dL_law_574 : decode cL_law 574 = .ok (.iadd, 1) := by decide +kernel
theorem dL_law_575 : decode cL_law 575 = .ok (.iaload, 1) := by decide +kernel
theorem dL_law_576 : decode cL_law 576 = .ok (.invokevirtual 64, 3) := by decide +kernel
theorem dL_law_579 : decode cL_law 579 = .ok (.aload_n 2, 1) := by decide +kernel
theorem dL_law_580 : decode cL_law 580 = .ok (.aload_n 0, 1) := by decide +kernel
theorem dL_law_581 : decode cL_law 581 = .ok (.iload_n 3, 1) := by decide +kernel
theorem dL_law_582 : decode cL_law 582 = .ok (.iconst 1, 1) := by decide +kernel
theorem dL_law_583 : decode cL_law 583 = .ok (.iadd, 1) := by decide +kernel
theorem dL_law_584 : decode cL_law 584 = .ok (.iaload, 1) := by decide +kernel
theorem dL_law_585 : decode cL_law 585 = .ok (.invokevirtual 67, 3) := by decide +kernel
theorem dL_law_588 : decode cL_law 588 = .ok (.if_icmp .eq 793, 3) := by decide +kernel
theorem dL_law_591 : decode cL_law 591 = .ok (.iconst 0, 1) := by decide +kernel
theorem dL_law_592 : decode cL_law 592 = .ok (.ireturn, 1) := by decide +kernel
theorem dL_law_593 : decode cL_law 593 = .ok (.aload_n 1, 1) := by decide +kernel
theorem dL_law_594 : decode cL_law 594 = .ok (.aload_n 0, 1) := by decide +kernel
theorem dL_law_595 : decode cL_law 595 = .ok (.iload_n 3, 1) := by decide +kernel
theorem dL_law_596 : decode cL_law 596 = .ok (.iconst 1, 1) := by decide +kernel
theorem dL_law_597 : decode cL_law 597 = .ok (.iadd, 1) := by decide +kernel
theorem dL_law_598 : decode cL_law 598 = .ok (.iaload, 1) := by decide +kernel
theorem dL_law_599 : decode cL_law 599 = .ok (.invokevirtual 68, 3) := by decide +kernel
theorem dL_law_602 : decode cL_law 602 = .ok (.aload_n 2, 1) := by decide +kernel
theorem dL_law_603 : decode cL_law 603 = .ok (.aload_n 0, 1) := by decide +kernel
theorem dL_law_604 : decode cL_law 604 = .ok (.iload_n 3, 1) := by decide +kernel
theorem dL_law_605 : decode cL_law 605 = .ok (.iconst 1, 1) := by decide +kernel
theorem dL_law_606 : decode cL_law 606 = .ok (.iadd, 1) := by decide +kernel
theorem dL_law_607 : decode cL_law 607 = .ok (.iaload, 1) := by decide +kernel
theorem dL_law_608 : decode cL_law 608 = .ok (.invokevirtual 71, 3) := by decide +kernel
theorem dL_law_611 : decode cL_law 611 = .ok (.if_icmp .eq 770, 3) := by decide +kernel
theorem dL_law_614 : decode cL_law 614 = .ok (.iconst 0, 1) := by decide +kernel
theorem dL_law_615 : decode cL_law 615 = .ok (.ireturn, 1) := by decide +kernel
theorem dL_law_616 : decode cL_law 616 = .ok (.aload_n 1, 1) := by decide +kernel
theorem dL_law_617 : decode cL_law 617 = .ok (.aload_n 0, 1) := by decide +kernel
theorem dL_law_618 : decode cL_law 618 = .ok (.iload_n 3, 1) := by decide +kernel
theorem dL_law_619 : decode cL_law 619 = .ok (.iconst 1, 1) := by decide +kernel
theorem dL_law_620 : decode cL_law 620 = .ok (.iadd, 1) := by decide +kernel
theorem dL_law_621 : decode cL_law 621 = .ok (.iaload, 1) := by decide +kernel
theorem dL_law_622 : decode cL_law 622 = .ok (.invokevirtual 72, 3) := by decide +kernel
theorem dL_law_625 : decode cL_law 625 = .ok (.aload_n 2, 1) := by decide +kernel
theorem dL_law_626 : decode cL_law 626 = .ok (.aload_n 0, 1) := by decide +kernel
theorem dL_law_627 : decode cL_law 627 = .ok (.iload_n 3, 1) := by decide +kernel
theorem dL_law_628 : decode cL_law 628 = .ok (.iconst 1, 1) := by decide +kernel
theorem dL_law_629 : decode cL_law 629 = .ok (.iadd, 1) := by decide +kernel
theorem dL_law_630 : decode cL_law 630 = .ok (.iaload, 1) := by decide +kernel
theorem dL_law_631 : decode cL_law 631 = .ok (.invokevirtual 75, 3) := by decide +kernel
theorem dL_law_634 : decode cL_law 634 = .ok (.if_icmp .eq 747, 3) := by decide +kernel
theorem dL_law_637 : decode cL_law 637 = .ok (.iconst 0, 1) := by decide +kernel
theorem dL_law_638 : decode cL_law 638 = .ok (.ireturn, 1) := by decide +kernel
theorem dL_law_639 : decode cL_law 639 = .ok (.aload_n 1, 1) := by decide +kernel
theorem dL_law_640 : decode cL_law 640 = .ok (.aload_n 0, 1) := by decide +kernel
theorem dL_law_641 : decode cL_law 641 = .ok (.iload_n 3, 1) := by decide +kernel
theorem dL_law_642 : decode cL_law 642 = .ok (.iconst 1, 1) := by decide +kernel
theorem dL_law_643 : decode cL_law 643 = .ok (.iadd, 1) := by decide +kernel
theorem dL_law_644 : decode cL_law 644 = .ok (.iaload, 1) := by decide +kernel
theorem dL_law_645 : decode cL_law 645 = .ok (.aload_n 0, 1) := by decide +kernel
theorem dL_law_646 : decode cL_law 646 = .ok (.iload_n 3, 1) := by decide +kernel
theorem dL_law_647 : decode cL_law 647 = .ok (.iconst 2, 1) := by decide +kernel
theorem dL_law_648 : decode cL_law 648 = .ok (.iadd, 1) := by decide +kernel
theorem dL_law_649 : decode cL_law 649 = .ok (.iaload, 1) := by decide +kernel
theorem dL_law_650 : decode cL_law 650 = .ok (.invokevirtual 76, 3) := by decide +kernel
theorem dL_law_653 : decode cL_law 653 = .ok (.aload_n 2, 1) := by decide +kernel
theorem dL_law_654 : decode cL_law 654 = .ok (.aload_n 0, 1) := by decide +kernel
theorem dL_law_655 : decode cL_law 655 = .ok (.iload_n 3, 1) := by decide +kernel
theorem dL_law_656 : decode cL_law 656 = .ok (.iconst 1, 1) := by decide +kernel
theorem dL_law_657 : decode cL_law 657 = .ok (.iadd, 1) := by decide +kernel
theorem dL_law_658 : decode cL_law 658 = .ok (.iaload, 1) := by decide +kernel
theorem dL_law_659 : decode cL_law 659 = .ok (.aload_n 0, 1) := by decide +kernel
theorem dL_law_660 : decode cL_law 660 = .ok (.iload_n 3, 1) := by decide +kernel
theorem dL_law_661 : decode cL_law 661 = .ok (.iconst 2, 1) := by decide +kernel
theorem dL_law_662 : decode cL_law 662 = .ok (.iadd, 1) := by decide +kernel
theorem dL_law_663 : decode cL_law 663 = .ok (.iaload, 1) := by decide +kernel
theorem dL_law_664 : decode cL_law 664 = .ok (.invokevirtual 79, 3) := by decide +kernel
theorem dL_law_667 : decode cL_law 667 = .ok (.if_icmp .eq 714, 3) := by decide +kernel
theorem dL_law_670 : decode cL_law 670 = .ok (.iconst 0, 1) := by decide +kernel
theorem dL_law_671 : decode cL_law 671 = .ok (.ireturn, 1) := by decide +kernel
theorem dL_law_672 : decode cL_law 672 = .ok (.aload_n 1, 1) := by decide +kernel
theorem dL_law_673 : decode cL_law 673 = .ok (.aload_n 0, 1) := by decide +kernel
theorem dL_law_674 : decode cL_law 674 = .ok (.iload_n 3, 1) := by decide +kernel
theorem dL_law_675 : decode cL_law 675 = .ok (.iconst 1, 1) := by decide +kernel
theorem dL_law_676 : decode cL_law 676 = .ok (.iadd, 1) := by decide +kernel
theorem dL_law_677 : decode cL_law 677 = .ok (.iaload, 1) := by decide +kernel
theorem dL_law_678 : decode cL_law 678 = .ok (.aload_n 0, 1) := by decide +kernel
theorem dL_law_679 : decode cL_law 679 = .ok (.iload_n 3, 1) := by decide +kernel
theorem dL_law_680 : decode cL_law 680 = .ok (.iconst 2, 1) := by decide +kernel
theorem dL_law_681 : decode cL_law 681 = .ok (.iadd, 1) := by decide +kernel
theorem dL_law_682 : decode cL_law 682 = .ok (.iaload, 1) := by decide +kernel
theorem dL_law_683 : decode cL_law 683 = .ok (.invokevirtual 80, 3) := by decide +kernel
theorem dL_law_686 : decode cL_law 686 = .ok (.aload_n 2, 1) := by decide +kernel
theorem dL_law_687 : decode cL_law 687 = .ok (.aload_n 0, 1) := by decide +kernel
theorem dL_law_688 : decode cL_law 688 = .ok (.iload_n 3, 1) := by decide +kernel
theorem dL_law_689 : decode cL_law 689 = .ok (.iconst 1, 1) := by decide +kernel
theorem dL_law_690 : decode cL_law 690 = .ok (.iadd, 1) := by decide +kernel
theorem dL_law_691 : decode cL_law 691 = .ok (.iaload, 1) := by decide +kernel
theorem dL_law_692 : decode cL_law 692 = .ok (.aload_n 0, 1) := by decide +kernel
theorem dL_law_693 : decode cL_law 693 = .ok (.iload_n 3, 1) := by decide +kernel
theorem dL_law_694 : decode cL_law 694 = .ok (.iconst 2, 1) := by decide +kernel
theorem dL_law_695 : decode cL_law 695 = .ok (.iadd, 1) := by decide +kernel
theorem dL_law_696 : decode cL_law 696 = .ok (.iaload, 1) := by decide +kernel
theorem dL_law_697 : decode cL_law 697 = .ok (.invokevirtual 83, 3) := by decide +kernel
theorem dL_law_700 : decode cL_law 700 = .ok (.if_icmp .eq 681, 3) := by decide +kernel
theorem dL_law_703 : decode cL_law 703 = .ok (.iconst 0, 1) := by decide +kernel
theorem dL_law_704 : decode cL_law 704 = .ok (.ireturn, 1) := by decide +kernel
theorem dL_law_705 : decode cL_law 705 = .ok (.aload_n 1, 1) := by decide +kernel
theorem dL_law_706 : decode cL_law 706 = .ok (.aload_n 0, 1) := by decide +kernel
theorem dL_law_707 : decode cL_law 707 = .ok (.iload_n 3, 1) := by decide +kernel
theorem dL_law_708 : decode cL_law 708 = .ok (.iconst 1, 1) := by decide +kernel
theorem dL_law_709 : decode cL_law 709 = .ok (.iadd, 1) := by decide +kernel
theorem dL_law_710 : decode cL_law 710 = .ok (.iaload, 1) := by decide +kernel
theorem dL_law_711 : decode cL_law 711 = .ok (.invokevirtual 84, 3) := by decide +kernel
theorem dL_law_714 : decode cL_law 714 = .ok (.aload_n 2, 1) := by decide +kernel
theorem dL_law_715 : decode cL_law 715 = .ok (.aload_n 0, 1) := by decide +kernel
theorem dL_law_716 : decode cL_law 716 = .ok (.iload_n 3, 1) := by decide +kernel
theorem dL_law_717 : decode cL_law 717 = .ok (.iconst 1, 1) := by decide +kernel
theorem dL_law_718 : decode cL_law 718 = .ok (.iadd, 1) := by decide +kernel
theorem dL_law_719 : decode cL_law 719 = .ok (.iaload, 1) := by decide +kernel
theorem dL_law_720 : decode cL_law 720 = .ok (.invokevirtual 87, 3) := by decide +kernel
theorem dL_law_723 : decode cL_law 723 = .ok (.if_icmp .eq 658, 3) := by decide +kernel
theorem dL_law_726 : decode cL_law 726 = .ok (.iconst 0, 1) := by decide +kernel
theorem dL_law_727 : decode cL_law 727 = .ok (.ireturn, 1) := by decide +kernel
theorem dL_law_728 : decode cL_law 728 = .ok (.aload_n 1, 1) := by decide +kernel
theorem dL_law_729 : decode cL_law 729 = .ok (.aload_n 0, 1) := by decide +kernel
theorem dL_law_730 : decode cL_law 730 = .ok (.iload_n 3, 1) := by decide +kernel
theorem dL_law_731 : decode cL_law 731 = .ok (.iconst 1, 1) := by decide +kernel
theorem dL_law_732 : decode cL_law 732 = .ok (.iadd, 1) := by decide +kernel
theorem dL_law_733 : decode cL_law 733 = .ok (.iaload, 1) := by decide +kernel
theorem dL_law_734 : decode cL_law 734 = .ok (.i2l, 1) := by decide +kernel
theorem dL_law_735 : decode cL_law 735 = .ok (.bipush 32, 2) := by decide +kernel
theorem dL_law_737 : decode cL_law 737 = .ok (.lshl, 1) := by decide +kernel
theorem dL_law_738 : decode cL_law 738 = .ok (.aload_n 0, 1) := by decide +kernel
theorem dL_law_739 : decode cL_law 739 = .ok (.iload_n 3, 1) := by decide +kernel
theorem dL_law_740 : decode cL_law 740 = .ok (.iconst 2, 1) := by decide +kernel
theorem dL_law_741 : decode cL_law 741 = .ok (.iadd, 1) := by decide +kernel
theorem dL_law_742 : decode cL_law 742 = .ok (.iaload, 1) := by decide +kernel
theorem dL_law_743 : decode cL_law 743 = .ok (.i2l, 1) := by decide +kernel
theorem dL_law_744 : decode cL_law 744 = .ok (.ldc2_w 88, 3) := by decide +kernel
theorem dL_law_747 : decode cL_law 747 = .ok (.land, 1) := by decide +kernel
theorem dL_law_748 : decode cL_law 748 = .ok (.lor, 1) := by decide +kernel
theorem dL_law_749 : decode cL_law 749 = .ok (.aload_n 0, 1) := by decide +kernel
theorem dL_law_750 : decode cL_law 750 = .ok (.iload_n 3, 1) := by decide +kernel
theorem dL_law_751 : decode cL_law 751 = .ok (.iconst 3, 1) := by decide +kernel
theorem dL_law_752 : decode cL_law 752 = .ok (.iadd, 1) := by decide +kernel
theorem dL_law_753 : decode cL_law 753 = .ok (.iaload, 1) := by decide +kernel
theorem dL_law_754 : decode cL_law 754 = .ok (.invokevirtual 90, 3) := by decide +kernel
theorem dL_law_757 : decode cL_law 757 = .ok (.aload_n 2, 1) := by decide +kernel
theorem dL_law_758 : decode cL_law 758 = .ok (.aload_n 0, 1) := by decide +kernel
theorem dL_law_759 : decode cL_law 759 = .ok (.iload_n 3, 1) := by decide +kernel
theorem dL_law_760 : decode cL_law 760 = .ok (.iconst 1, 1) := by decide +kernel
theorem dL_law_761 : decode cL_law 761 = .ok (.iadd, 1) := by decide +kernel
theorem dL_law_762 : decode cL_law 762 = .ok (.iaload, 1) := by decide +kernel
theorem dL_law_763 : decode cL_law 763 = .ok (.i2l, 1) := by decide +kernel
theorem dL_law_764 : decode cL_law 764 = .ok (.bipush 32, 2) := by decide +kernel
theorem dL_law_766 : decode cL_law 766 = .ok (.lshl, 1) := by decide +kernel
theorem dL_law_767 : decode cL_law 767 = .ok (.aload_n 0, 1) := by decide +kernel
theorem dL_law_768 : decode cL_law 768 = .ok (.iload_n 3, 1) := by decide +kernel
theorem dL_law_769 : decode cL_law 769 = .ok (.iconst 2, 1) := by decide +kernel
theorem dL_law_770 : decode cL_law 770 = .ok (.iadd, 1) := by decide +kernel
theorem dL_law_771 : decode cL_law 771 = .ok (.iaload, 1) := by decide +kernel
theorem dL_law_772 : decode cL_law 772 = .ok (.i2l, 1) := by decide +kernel
theorem dL_law_773 : decode cL_law 773 = .ok (.ldc2_w 88, 3) := by decide +kernel
theorem dL_law_776 : decode cL_law 776 = .ok (.land, 1) := by decide +kernel
theorem dL_law_777 : decode cL_law 777 = .ok (.lor, 1) := by decide +kernel
theorem dL_law_778 : decode cL_law 778 = .ok (.aload_n 0, 1) := by decide +kernel
theorem dL_law_779 : decode cL_law 779 = .ok (.iload_n 3, 1) := by decide +kernel
theorem dL_law_780 : decode cL_law 780 = .ok (.iconst 3, 1) := by decide +kernel
theorem dL_law_781 : decode cL_law 781 = .ok (.iadd, 1) := by decide +kernel
theorem dL_law_782 : decode cL_law 782 = .ok (.iaload, 1) := by decide +kernel
theorem dL_law_783 : decode cL_law 783 = .ok (.invokevirtual 94, 3) := by decide +kernel
theorem dL_law_786 : decode cL_law 786 = .ok (.if_icmp .eq 595, 3) := by decide +kernel
theorem dL_law_789 : decode cL_law 789 = .ok (.iconst 0, 1) := by decide +kernel
theorem dL_law_790 : decode cL_law 790 = .ok (.ireturn, 1) := by decide +kernel
theorem dL_law_791 : decode cL_law 791 = .ok (.aload_n 1, 1) := by decide +kernel
theorem dL_law_792 : decode cL_law 792 = .ok (.invokevirtual 95, 3) := by decide +kernel
theorem dL_law_795 : decode cL_law 795 = .ok (.aload_n 2, 1) := by decide +kernel
theorem dL_law_796 : decode cL_law 796 = .ok (.invokevirtual 99, 3) := by decide +kernel
theorem dL_law_799 : decode cL_law 799 = .ok (.if_icmp .eq 582, 3) := by decide +kernel
theorem dL_law_802 : decode cL_law 802 = .ok (.iconst 0, 1) := by decide +kernel
theorem dL_law_803 : decode cL_law 803 = .ok (.ireturn, 1) := by decide +kernel
theorem dL_law_804 : decode cL_law 804 = .ok (.aload_n 1, 1) := by decide +kernel
theorem dL_law_805 : decode cL_law 805 = .ok (.aload_n 0, 1) := by decide +kernel
theorem dL_law_806 : decode cL_law 806 = .ok (.iload_n 3, 1) := by decide +kernel
theorem dL_law_807 : decode cL_law 807 = .ok (.iconst 1, 1) := by decide +kernel
theorem dL_law_808 : decode cL_law 808 = .ok (.iadd, 1) := by decide +kernel
theorem dL_law_809 : decode cL_law 809 = .ok (.iaload, 1) := by decide +kernel
theorem dL_law_810 : decode cL_law 810 = .ok (.aload_n 0, 1) := by decide +kernel
theorem dL_law_811 : decode cL_law 811 = .ok (.iload_n 3, 1) := by decide +kernel
theorem dL_law_812 : decode cL_law 812 = .ok (.iconst 2, 1) := by decide +kernel
theorem dL_law_813 : decode cL_law 813 = .ok (.iadd, 1) := by decide +kernel
theorem dL_law_814 : decode cL_law 814 = .ok (.iaload, 1) := by decide +kernel
theorem dL_law_815 : decode cL_law 815 = .ok (.aload_n 0, 1) := by decide +kernel
theorem dL_law_816 : decode cL_law 816 = .ok (.iload_n 3, 1) := by decide +kernel
theorem dL_law_817 : decode cL_law 817 = .ok (.iconst 3, 1) := by decide +kernel
theorem dL_law_818 : decode cL_law 818 = .ok (.iadd, 1) := by decide +kernel
theorem dL_law_819 : decode cL_law 819 = .ok (.iaload, 1) := by decide +kernel
theorem dL_law_820 : decode cL_law 820 = .ok (.invokevirtual 100, 3) := by decide +kernel
theorem dL_law_823 : decode cL_law 823 = .ok (.aload_n 2, 1) := by decide +kernel
theorem dL_law_824 : decode cL_law 824 = .ok (.aload_n 0, 1) := by decide +kernel
theorem dL_law_825 : decode cL_law 825 = .ok (.iload_n 3, 1) := by decide +kernel
theorem dL_law_826 : decode cL_law 826 = .ok (.iconst 1, 1) := by decide +kernel
theorem dL_law_827 : decode cL_law 827 = .ok (.iadd, 1) := by decide +kernel
theorem dL_law_828 : decode cL_law 828 = .ok (.iaload, 1) := by decide +kernel
theorem dL_law_829 : decode cL_law 829 = .ok (.aload_n 0, 1) := by decide +kernel
theorem dL_law_830 : decode cL_law 830 = .ok (.iload_n 3, 1) := by decide +kernel
theorem dL_law_831 : decode cL_law 831 = .ok (.iconst 2, 1) := by decide +kernel
theorem dL_law_832 : decode cL_law 832 = .ok (.iadd, 1) := by decide +kernel
theorem dL_law_833 : decode cL_law 833 = .ok (.iaload, 1) := by decide +kernel
theorem dL_law_834 : decode cL_law 834 = .ok (.aload_n 0, 1) := by decide +kernel
theorem dL_law_835 : decode cL_law 835 = .ok (.iload_n 3, 1) := by decide +kernel
theorem dL_law_836 : decode cL_law 836 = .ok (.iconst 3, 1) := by decide +kernel
theorem dL_law_837 : decode cL_law 837 = .ok (.iadd, 1) := by decide +kernel
theorem dL_law_838 : decode cL_law 838 = .ok (.iaload, 1) := by decide +kernel
theorem dL_law_839 : decode cL_law 839 = .ok (.invokevirtual 103, 3) := by decide +kernel
theorem dL_law_842 : decode cL_law 842 = .ok (.if_icmp .eq 539, 3) := by decide +kernel
theorem dL_law_845 : decode cL_law 845 = .ok (.iconst 0, 1) := by decide +kernel
theorem dL_law_846 : decode cL_law 846 = .ok (.ireturn, 1) := by decide +kernel
theorem dL_law_847 : decode cL_law 847 = .ok (.aload_n 1, 1) := by decide +kernel
theorem dL_law_848 : decode cL_law 848 = .ok (.invokevirtual 104, 3) := by decide +kernel
theorem dL_law_851 : decode cL_law 851 = .ok (.aload_n 2, 1) := by decide +kernel
theorem dL_law_852 : decode cL_law 852 = .ok (.invokevirtual 107, 3) := by decide +kernel
theorem dL_law_855 : decode cL_law 855 = .ok (.if_icmp .eq 526, 3) := by decide +kernel
theorem dL_law_858 : decode cL_law 858 = .ok (.iconst 0, 1) := by decide +kernel
theorem dL_law_859 : decode cL_law 859 = .ok (.ireturn, 1) := by decide +kernel
theorem dL_law_860 : decode cL_law 860 = .ok (.aload_n 1, 1) := by decide +kernel
theorem dL_law_861 : decode cL_law 861 = .ok (.aload_n 0, 1) := by decide +kernel
theorem dL_law_862 : decode cL_law 862 = .ok (.iload_n 3, 1) := by decide +kernel
theorem dL_law_863 : decode cL_law 863 = .ok (.iconst 1, 1) := by decide +kernel
theorem dL_law_864 : decode cL_law 864 = .ok (.iadd, 1) := by decide +kernel
theorem dL_law_865 : decode cL_law 865 = .ok (.iaload, 1) := by decide +kernel
theorem dL_law_866 : decode cL_law 866 = .ok (.invokevirtual 108, 3) := by decide +kernel
theorem dL_law_869 : decode cL_law 869 = .ok (.aload_n 2, 1) := by decide +kernel
theorem dL_law_870 : decode cL_law 870 = .ok (.aload_n 0, 1) := by decide +kernel
theorem dL_law_871 : decode cL_law 871 = .ok (.iload_n 3, 1) := by decide +kernel
theorem dL_law_872 : decode cL_law 872 = .ok (.iconst 1, 1) := by decide +kernel
theorem dL_law_873 : decode cL_law 873 = .ok (.iadd, 1) := by decide +kernel
theorem dL_law_874 : decode cL_law 874 = .ok (.iaload, 1) := by decide +kernel
theorem dL_law_875 : decode cL_law 875 = .ok (.invokevirtual 111, 3) := by decide +kernel
theorem dL_law_878 : decode cL_law 878 = .ok (.if_icmp .eq 503, 3) := by decide +kernel
theorem dL_law_881 : decode cL_law 881 = .ok (.iconst 0, 1) := by decide +kernel
theorem dL_law_882 : decode cL_law 882 = .ok (.ireturn, 1) := by decide +kernel
theorem dL_law_883 : decode cL_law 883 = .ok (.aload_n 1, 1) := by decide +kernel
theorem dL_law_884 : decode cL_law 884 = .ok (.aload_n 0, 1) := by decide +kernel
theorem dL_law_885 : decode cL_law 885 = .ok (.iload_n 3, 1) := by decide +kernel
theorem dL_law_886 : decode cL_law 886 = .ok (.iconst 1, 1) := by decide +kernel
theorem dL_law_887 : decode cL_law 887 = .ok (.iadd, 1) := by decide +kernel
theorem dL_law_888 : decode cL_law 888 = .ok (.iaload, 1) := by decide +kernel
theorem dL_law_889 : decode cL_law 889 = .ok (.invokevirtual 112, 3) := by decide +kernel
theorem dL_law_892 : decode cL_law 892 = .ok (.aload_n 2, 1) := by decide +kernel
theorem dL_law_893 : decode cL_law 893 = .ok (.aload_n 0, 1) := by decide +kernel
theorem dL_law_894 : decode cL_law 894 = .ok (.iload_n 3, 1) := by decide +kernel
theorem dL_law_895 : decode cL_law 895 = .ok (.iconst 1, 1) := by decide +kernel
theorem dL_law_896 : decode cL_law 896 = .ok (.iadd, 1) := by decide +kernel
theorem dL_law_897 : decode cL_law 897 = .ok (.iaload, 1) := by decide +kernel
theorem dL_law_898 : decode cL_law 898 = .ok (.invokevirtual 115, 3) := by decide +kernel
theorem dL_law_901 : decode cL_law 901 = .ok (.if_icmp .eq 480, 3) := by decide +kernel
theorem dL_law_904 : decode cL_law 904 = .ok (.iconst 0, 1) := by decide +kernel
theorem dL_law_905 : decode cL_law 905 = .ok (.ireturn, 1) := by decide +kernel
theorem dL_law_906 : decode cL_law 906 = .ok (.aload_n 1, 1) := by decide +kernel
theorem dL_law_907 : decode cL_law 907 = .ok (.invokevirtual 116, 3) := by decide +kernel
theorem dL_law_910 : decode cL_law 910 = .ok (.aload_n 2, 1) := by decide +kernel
theorem dL_law_911 : decode cL_law 911 = .ok (.invokevirtual 119, 3) := by decide +kernel
theorem dL_law_914 : decode cL_law 914 = .ok (.if_icmp .eq 467, 3) := by decide +kernel
theorem dL_law_917 : decode cL_law 917 = .ok (.iconst 0, 1) := by decide +kernel
theorem dL_law_918 : decode cL_law 918 = .ok (.ireturn, 1) := by decide +kernel
theorem dL_law_919 : decode cL_law 919 = .ok (.aload_n 1, 1) := by decide +kernel
theorem dL_law_920 : decode cL_law 920 = .ok (.aload_n 0, 1) := by decide +kernel
theorem dL_law_921 : decode cL_law 921 = .ok (.iload_n 3, 1) := by decide +kernel
theorem dL_law_922 : decode cL_law 922 = .ok (.iconst 1, 1) := by decide +kernel
theorem dL_law_923 : decode cL_law 923 = .ok (.iadd, 1) := by decide +kernel
theorem dL_law_924 : decode cL_law 924 = .ok (.iaload, 1) := by decide +kernel
theorem dL_law_925 : decode cL_law 925 = .ok (.aload_n 0, 1) := by decide +kernel
theorem dL_law_926 : decode cL_law 926 = .ok (.iload_n 3, 1) := by decide +kernel
theorem dL_law_927 : decode cL_law 927 = .ok (.iconst 2, 1) := by decide +kernel
theorem dL_law_928 : decode cL_law 928 = .ok (.iadd, 1) := by decide +kernel
theorem dL_law_929 : decode cL_law 929 = .ok (.iaload, 1) := by decide +kernel
theorem dL_law_930 : decode cL_law 930 = .ok (.invokevirtual 120, 3) := by decide +kernel
theorem dL_law_933 : decode cL_law 933 = .ok (.aload_n 2, 1) := by decide +kernel
theorem dL_law_934 : decode cL_law 934 = .ok (.aload_n 0, 1) := by decide +kernel
theorem dL_law_935 : decode cL_law 935 = .ok (.iload_n 3, 1) := by decide +kernel
theorem dL_law_936 : decode cL_law 936 = .ok (.iconst 1, 1) := by decide +kernel
theorem dL_law_937 : decode cL_law 937 = .ok (.iadd, 1) := by decide +kernel
theorem dL_law_938 : decode cL_law 938 = .ok (.iaload, 1) := by decide +kernel
theorem dL_law_939 : decode cL_law 939 = .ok (.aload_n 0, 1) := by decide +kernel
theorem dL_law_940 : decode cL_law 940 = .ok (.iload_n 3, 1) := by decide +kernel
theorem dL_law_941 : decode cL_law 941 = .ok (.iconst 2, 1) := by decide +kernel
theorem dL_law_942 : decode cL_law 942 = .ok (.iadd, 1) := by decide +kernel
theorem dL_law_943 : decode cL_law 943 = .ok (.iaload, 1) := by decide +kernel
theorem dL_law_944 : decode cL_law 944 = .ok (.invokevirtual 123, 3) := by decide +kernel
theorem dL_law_947 : decode cL_law 947 = .ok (.if_icmp .eq 434, 3) := by decide +kernel
theorem dL_law_950 : decode cL_law 950 = .ok (.iconst 0, 1) := by decide +kernel
theorem dL_law_951 : decode cL_law 951 = .ok (.ireturn, 1) := by decide +kernel
theorem dL_law_952 : decode cL_law 952 = .ok (.aload_n 1, 1) := by decide +kernel
theorem dL_law_953 : decode cL_law 953 = .ok (.aload_n 0, 1) := by decide +kernel
theorem dL_law_954 : decode cL_law 954 = .ok (.iload_n 3, 1) := by decide +kernel
theorem dL_law_955 : decode cL_law 955 = .ok (.iconst 1, 1) := by decide +kernel
theorem dL_law_956 : decode cL_law 956 = .ok (.iadd, 1) := by decide +kernel
theorem dL_law_957 : decode cL_law 957 = .ok (.iaload, 1) := by decide +kernel
theorem dL_law_958 : decode cL_law 958 = .ok (.aload_n 0, 1) := by decide +kernel
theorem dL_law_959 : decode cL_law 959 = .ok (.iload_n 3, 1) := by decide +kernel
theorem dL_law_960 : decode cL_law 960 = .ok (.iconst 2, 1) := by decide +kernel
theorem dL_law_961 : decode cL_law 961 = .ok (.iadd, 1) := by decide +kernel
theorem dL_law_962 : decode cL_law 962 = .ok (.iaload, 1) := by decide +kernel
theorem dL_law_963 : decode cL_law 963 = .ok (.aload_n 0, 1) := by decide +kernel
theorem dL_law_964 : decode cL_law 964 = .ok (.iload_n 3, 1) := by decide +kernel
theorem dL_law_965 : decode cL_law 965 = .ok (.iconst 3, 1) := by decide +kernel
theorem dL_law_966 : decode cL_law 966 = .ok (.iadd, 1) := by decide +kernel
theorem dL_law_967 : decode cL_law 967 = .ok (.iaload, 1) := by decide +kernel
theorem dL_law_968 : decode cL_law 968 = .ok (.invokevirtual 124, 3) := by decide +kernel
theorem dL_law_971 : decode cL_law 971 = .ok (.aload_n 2, 1) := by decide +kernel
theorem dL_law_972 : decode cL_law 972 = .ok (.aload_n 0, 1) := by decide +kernel
theorem dL_law_973 : decode cL_law 973 = .ok (.iload_n 3, 1) := by decide +kernel
theorem dL_law_974 : decode cL_law 974 = .ok (.iconst 1, 1) := by decide +kernel
theorem dL_law_975 : decode cL_law 975 = .ok (.iadd, 1) := by decide +kernel
theorem dL_law_976 : decode cL_law 976 = .ok (.iaload, 1) := by decide +kernel
theorem dL_law_977 : decode cL_law 977 = .ok (.aload_n 0, 1) := by decide +kernel
theorem dL_law_978 : decode cL_law 978 = .ok (.iload_n 3, 1) := by decide +kernel
theorem dL_law_979 : decode cL_law 979 = .ok (.iconst 2, 1) := by decide +kernel
theorem dL_law_980 : decode cL_law 980 = .ok (.iadd, 1) := by decide +kernel
theorem dL_law_981 : decode cL_law 981 = .ok (.iaload, 1) := by decide +kernel
theorem dL_law_982 : decode cL_law 982 = .ok (.aload_n 0, 1) := by decide +kernel
theorem dL_law_983 : decode cL_law 983 = .ok (.iload_n 3, 1) := by decide +kernel
theorem dL_law_984 : decode cL_law 984 = .ok (.iconst 3, 1) := by decide +kernel
theorem dL_law_985 : decode cL_law 985 = .ok (.iadd, 1) := by decide +kernel
theorem dL_law_986 : decode cL_law 986 = .ok (.iaload, 1) := by decide +kernel
theorem dL_law_987 : decode cL_law 987 = .ok (.invokevirtual 127, 3) := by decide +kernel
theorem dL_law_990 : decode cL_law 990 = .ok (.if_icmp .eq 391, 3) := by decide +kernel
theorem dL_law_993 : decode cL_law 993 = .ok (.iconst 0, 1) := by decide +kernel
theorem dL_law_994 : decode cL_law 994 = .ok (.ireturn, 1) := by decide +kernel
theorem dL_law_995 : decode cL_law 995 = .ok (.aload_n 1, 1) := by decide +kernel
theorem dL_law_996 : decode cL_law 996 = .ok (.invokevirtual 128, 3) := by decide +kernel
theorem dL_law_999 : decode cL_law 999 = .ok (.aload_n 2, 1) := by decide +kernel
theorem dL_law_1000 : decode cL_law 1000 = .ok (.invokevirtual 131, 3) := by decide +kernel
theorem dL_law_1003 : decode cL_law 1003 = .ok (.if_icmp .eq 378, 3) := by decide +kernel
theorem dL_law_1006 : decode cL_law 1006 = .ok (.iconst 0, 1) := by decide +kernel
theorem dL_law_1007 : decode cL_law 1007 = .ok (.ireturn, 1) := by decide +kernel
theorem dL_law_1008 : decode cL_law 1008 = .ok (.aload_n 1, 1) := by decide +kernel
theorem dL_law_1009 : decode cL_law 1009 = .ok (.aload_n 0, 1) := by decide +kernel
theorem dL_law_1010 : decode cL_law 1010 = .ok (.iload_n 3, 1) := by decide +kernel
theorem dL_law_1011 : decode cL_law 1011 = .ok (.iconst 1, 1) := by decide +kernel
theorem dL_law_1012 : decode cL_law 1012 = .ok (.iadd, 1) := by decide +kernel
theorem dL_law_1013 : decode cL_law 1013 = .ok (.iaload, 1) := by decide +kernel
theorem dL_law_1014 : decode cL_law 1014 = .ok (.aload_n 0, 1) := by decide +kernel
theorem dL_law_1015 : decode cL_law 1015 = .ok (.iload_n 3, 1) := by decide +kernel
theorem dL_law_1016 : decode cL_law 1016 = .ok (.iconst 2, 1) := by decide +kernel
theorem dL_law_1017 : decode cL_law 1017 = .ok (.iadd, 1) := by decide +kernel
theorem dL_law_1018 : decode cL_law 1018 = .ok (.iaload, 1) := by decide +kernel
theorem dL_law_1019 : decode cL_law 1019 = .ok (.aload_n 0, 1) := by decide +kernel
theorem dL_law_1020 : decode cL_law 1020 = .ok (.iload_n 3, 1) := by decide +kernel
theorem dL_law_1021 : decode cL_law 1021 = .ok (.iconst 3, 1) := by decide +kernel
theorem dL_law_1022 : decode cL_law 1022 = .ok (.iadd, 1) := by decide +kernel
theorem dL_law_1023 : decode cL_law 1023 = .ok (.iaload, 1) := by decide +kernel
theorem dL_law_1024 : decode cL_law 1024 = .ok (.invokevirtual 132, 3) := by decide +kernel
theorem dL_law_1027 : decode cL_law 1027 = .ok (.aload_n 2, 1) := by decide +kernel
theorem dL_law_1028 : decode cL_law 1028 = .ok (.aload_n 0, 1) := by decide +kernel
theorem dL_law_1029 : decode cL_law 1029 = .ok (.iload_n 3, 1) := by decide +kernel
theorem dL_law_1030 : decode cL_law 1030 = .ok (.iconst 1, 1) := by decide +kernel
theorem dL_law_1031 : decode cL_law 1031 = .ok (.iadd, 1) := by decide +kernel
theorem dL_law_1032 : decode cL_law 1032 = .ok (.iaload, 1) := by decide +kernel
theorem dL_law_1033 : decode cL_law 1033 = .ok (.aload_n 0, 1) := by decide +kernel
theorem dL_law_1034 : decode cL_law 1034 = .ok (.iload_n 3, 1) := by decide +kernel
theorem dL_law_1035 : decode cL_law 1035 = .ok (.iconst 2, 1) := by decide +kernel
theorem dL_law_1036 : decode cL_law 1036 = .ok (.iadd, 1) := by decide +kernel
theorem dL_law_1037 : decode cL_law 1037 = .ok (.iaload, 1) := by decide +kernel
theorem dL_law_1038 : decode cL_law 1038 = .ok (.aload_n 0, 1) := by decide +kernel
theorem dL_law_1039 : decode cL_law 1039 = .ok (.iload_n 3, 1) := by decide +kernel
theorem dL_law_1040 : decode cL_law 1040 = .ok (.iconst 3, 1) := by decide +kernel
theorem dL_law_1041 : decode cL_law 1041 = .ok (.iadd, 1) := by decide +kernel
theorem dL_law_1042 : decode cL_law 1042 = .ok (.iaload, 1) := by decide +kernel
theorem dL_law_1043 : decode cL_law 1043 = .ok (.invokevirtual 135, 3) := by decide +kernel
theorem dL_law_1046 : decode cL_law 1046 = .ok (.if_icmp .eq 335, 3) := by decide +kernel
theorem dL_law_1049 : decode cL_law 1049 = .ok (.iconst 0, 1) := by decide +kernel
theorem dL_law_1050 : decode cL_law 1050 = .ok (.ireturn, 1) := by decide +kernel
theorem dL_law_1051 : decode cL_law 1051 = .ok (.aload_n 1, 1) := by decide +kernel
theorem dL_law_1052 : decode cL_law 1052 = .ok (.aload_n 0, 1) := by decide +kernel
theorem dL_law_1053 : decode cL_law 1053 = .ok (.iload_n 3, 1) := by decide +kernel
theorem dL_law_1054 : decode cL_law 1054 = .ok (.iconst 1, 1) := by decide +kernel
theorem dL_law_1055 : decode cL_law 1055 = .ok (.iadd, 1) := by decide +kernel
theorem dL_law_1056 : decode cL_law 1056 = .ok (.iaload, 1) := by decide +kernel
theorem dL_law_1057 : decode cL_law 1057 = .ok (.aload_n 0, 1) := by decide +kernel
theorem dL_law_1058 : decode cL_law 1058 = .ok (.iload_n 3, 1) := by decide +kernel
theorem dL_law_1059 : decode cL_law 1059 = .ok (.iconst 2, 1) := by decide +kernel
theorem dL_law_1060 : decode cL_law 1060 = .ok (.iadd, 1) := by decide +kernel
theorem dL_law_1061 : decode cL_law 1061 = .ok (.iaload, 1) := by decide +kernel
theorem dL_law_1062 : decode cL_law 1062 = .ok (.aload_n 0, 1) := by decide +kernel
theorem dL_law_1063 : decode cL_law 1063 = .ok (.iload_n 3, 1) := by decide +kernel
theorem dL_law_1064 : decode cL_law 1064 = .ok (.iconst 3, 1) := by decide +kernel
theorem dL_law_1065 : decode cL_law 1065 = .ok (.iadd, 1) := by decide +kernel
theorem dL_law_1066 : decode cL_law 1066 = .ok (.iaload, 1) := by decide +kernel
theorem dL_law_1067 : decode cL_law 1067 = .ok (.invokevirtual 136, 3) := by decide +kernel
theorem dL_law_1070 : decode cL_law 1070 = .ok (.aload_n 2, 1) := by decide +kernel
theorem dL_law_1071 : decode cL_law 1071 = .ok (.aload_n 0, 1) := by decide +kernel
theorem dL_law_1072 : decode cL_law 1072 = .ok (.iload_n 3, 1) := by decide +kernel
theorem dL_law_1073 : decode cL_law 1073 = .ok (.iconst 1, 1) := by decide +kernel
theorem dL_law_1074 : decode cL_law 1074 = .ok (.iadd, 1) := by decide +kernel
theorem dL_law_1075 : decode cL_law 1075 = .ok (.iaload, 1) := by decide +kernel
theorem dL_law_1076 : decode cL_law 1076 = .ok (.aload_n 0, 1) := by decide +kernel
theorem dL_law_1077 : decode cL_law 1077 = .ok (.iload_n 3, 1) := by decide +kernel
theorem dL_law_1078 : decode cL_law 1078 = .ok (.iconst 2, 1) := by decide +kernel
theorem dL_law_1079 : decode cL_law 1079 = .ok (.iadd, 1) := by decide +kernel
theorem dL_law_1080 : decode cL_law 1080 = .ok (.iaload, 1) := by decide +kernel
theorem dL_law_1081 : decode cL_law 1081 = .ok (.aload_n 0, 1) := by decide +kernel
theorem dL_law_1082 : decode cL_law 1082 = .ok (.iload_n 3, 1) := by decide +kernel
theorem dL_law_1083 : decode cL_law 1083 = .ok (.iconst 3, 1) := by decide +kernel
theorem dL_law_1084 : decode cL_law 1084 = .ok (.iadd, 1) := by decide +kernel
theorem dL_law_1085 : decode cL_law 1085 = .ok (.iaload, 1) := by decide +kernel
theorem dL_law_1086 : decode cL_law 1086 = .ok (.invokevirtual 139, 3) := by decide +kernel
theorem dL_law_1089 : decode cL_law 1089 = .ok (.if_icmp .eq 292, 3) := by decide +kernel
theorem dL_law_1092 : decode cL_law 1092 = .ok (.iconst 0, 1) := by decide +kernel
theorem dL_law_1093 : decode cL_law 1093 = .ok (.ireturn, 1) := by decide +kernel
theorem dL_law_1094 : decode cL_law 1094 = .ok (.aload_n 1, 1) := by decide +kernel
theorem dL_law_1095 : decode cL_law 1095 = .ok (.aload_n 0, 1) := by decide +kernel
theorem dL_law_1096 : decode cL_law 1096 = .ok (.iload_n 3, 1) := by decide +kernel
theorem dL_law_1097 : decode cL_law 1097 = .ok (.iconst 1, 1) := by decide +kernel
theorem dL_law_1098 : decode cL_law 1098 = .ok (.iadd, 1) := by decide +kernel
theorem dL_law_1099 : decode cL_law 1099 = .ok (.iaload, 1) := by decide +kernel
theorem dL_law_1100 : decode cL_law 1100 = .ok (.aload_n 0, 1) := by decide +kernel
theorem dL_law_1101 : decode cL_law 1101 = .ok (.iload_n 3, 1) := by decide +kernel
theorem dL_law_1102 : decode cL_law 1102 = .ok (.iconst 2, 1) := by decide +kernel
theorem dL_law_1103 : decode cL_law 1103 = .ok (.iadd, 1) := by decide +kernel
theorem dL_law_1104 : decode cL_law 1104 = .ok (.iaload, 1) := by decide +kernel
theorem dL_law_1105 : decode cL_law 1105 = .ok (.aload_n 0, 1) := by decide +kernel
theorem dL_law_1106 : decode cL_law 1106 = .ok (.iload_n 3, 1) := by decide +kernel
theorem dL_law_1107 : decode cL_law 1107 = .ok (.iconst 3, 1) := by decide +kernel
theorem dL_law_1108 : decode cL_law 1108 = .ok (.iadd, 1) := by decide +kernel
theorem dL_law_1109 : decode cL_law 1109 = .ok (.iaload, 1) := by decide +kernel
theorem dL_law_1110 : decode cL_law 1110 = .ok (.invokevirtual 140, 3) := by decide +kernel
theorem dL_law_1113 : decode cL_law 1113 = .ok (.aload_n 2, 1) := by decide +kernel
theorem dL_law_1114 : decode cL_law 1114 = .ok (.aload_n 0, 1) := by decide +kernel
theorem dL_law_1115 : decode cL_law 1115 = .ok (.iload_n 3, 1) := by decide +kernel
theorem dL_law_1116 : decode cL_law 1116 = .ok (.iconst 1, 1) := by decide +kernel
theorem dL_law_1117 : decode cL_law 1117 = .ok (.iadd, 1) := by decide +kernel
theorem dL_law_1118 : decode cL_law 1118 = .ok (.iaload, 1) := by decide +kernel
theorem dL_law_1119 : decode cL_law 1119 = .ok (.aload_n 0, 1) := by decide +kernel
theorem dL_law_1120 : decode cL_law 1120 = .ok (.iload_n 3, 1) := by decide +kernel
theorem dL_law_1121 : decode cL_law 1121 = .ok (.iconst 2, 1) := by decide +kernel
theorem dL_law_1122 : decode cL_law 1122 = .ok (.iadd, 1) := by decide +kernel
theorem dL_law_1123 : decode cL_law 1123 = .ok (.iaload, 1) := by decide +kernel
theorem dL_law_1124 : decode cL_law 1124 = .ok (.aload_n 0, 1) := by decide +kernel
theorem dL_law_1125 : decode cL_law 1125 = .ok (.iload_n 3, 1) := by decide +kernel
theorem dL_law_1126 : decode cL_law 1126 = .ok (.iconst 3, 1) := by decide +kernel
theorem dL_law_1127 : decode cL_law 1127 = .ok (.iadd, 1) := by decide +kernel
theorem dL_law_1128 : decode cL_law 1128 = .ok (.iaload, 1) := by decide +kernel
theorem dL_law_1129 : decode cL_law 1129 = .ok (.invokevirtual 143, 3) := by decide +kernel
theorem dL_law_1132 : decode cL_law 1132 = .ok (.if_icmp .eq 249, 3) := by decide +kernel
theorem dL_law_1135 : decode cL_law 1135 = .ok (.iconst 0, 1) := by decide +kernel
theorem dL_law_1136 : decode cL_law 1136 = .ok (.ireturn, 1) := by decide +kernel
theorem dL_law_1137 : decode cL_law 1137 = .ok (.aload_n 1, 1) := by decide +kernel
theorem dL_law_1138 : decode cL_law 1138 = .ok (.aload_n 0, 1) := by decide +kernel
theorem dL_law_1139 : decode cL_law 1139 = .ok (.iload_n 3, 1) := by decide +kernel
theorem dL_law_1140 : decode cL_law 1140 = .ok (.iconst 1, 1) := by decide +kernel
theorem dL_law_1141 : decode cL_law 1141 = .ok (.iadd, 1) := by decide +kernel
theorem dL_law_1142 : decode cL_law 1142 = .ok (.iaload, 1) := by decide +kernel
theorem dL_law_1143 : decode cL_law 1143 = .ok (.aload_n 0, 1) := by decide +kernel
theorem dL_law_1144 : decode cL_law 1144 = .ok (.iload_n 3, 1) := by decide +kernel
theorem dL_law_1145 : decode cL_law 1145 = .ok (.iconst 2, 1) := by decide +kernel
theorem dL_law_1146 : decode cL_law 1146 = .ok (.iadd, 1) := by decide +kernel
theorem dL_law_1147 : decode cL_law 1147 = .ok (.iaload, 1) := by decide +kernel
theorem dL_law_1148 : decode cL_law 1148 = .ok (.aload_n 0, 1) := by decide +kernel
theorem dL_law_1149 : decode cL_law 1149 = .ok (.iload_n 3, 1) := by decide +kernel
theorem dL_law_1150 : decode cL_law 1150 = .ok (.iconst 3, 1) := by decide +kernel
theorem dL_law_1151 : decode cL_law 1151 = .ok (.iadd, 1) := by decide +kernel
theorem dL_law_1152 : decode cL_law 1152 = .ok (.iaload, 1) := by decide +kernel
theorem dL_law_1153 : decode cL_law 1153 = .ok (.aload_n 0, 1) := by decide +kernel
theorem dL_law_1154 : decode cL_law 1154 = .ok (.iload_n 3, 1) := by decide +kernel
theorem dL_law_1155 : decode cL_law 1155 = .ok (.iconst 4, 1) := by decide +kernel
theorem dL_law_1156 : decode cL_law 1156 = .ok (.iadd, 1) := by decide +kernel
theorem dL_law_1157 : decode cL_law 1157 = .ok (.iaload, 1) := by decide +kernel
theorem dL_law_1158 : decode cL_law 1158 = .ok (.invokevirtual 144, 3) := by decide +kernel
theorem dL_law_1161 : decode cL_law 1161 = .ok (.aload_n 2, 1) := by decide +kernel
theorem dL_law_1162 : decode cL_law 1162 = .ok (.aload_n 0, 1) := by decide +kernel
theorem dL_law_1163 : decode cL_law 1163 = .ok (.iload_n 3, 1) := by decide +kernel
theorem dL_law_1164 : decode cL_law 1164 = .ok (.iconst 1, 1) := by decide +kernel
theorem dL_law_1165 : decode cL_law 1165 = .ok (.iadd, 1) := by decide +kernel
theorem dL_law_1166 : decode cL_law 1166 = .ok (.iaload, 1) := by decide +kernel
theorem dL_law_1167 : decode cL_law 1167 = .ok (.aload_n 0, 1) := by decide +kernel
theorem dL_law_1168 : decode cL_law 1168 = .ok (.iload_n 3, 1) := by decide +kernel
theorem dL_law_1169 : decode cL_law 1169 = .ok (.iconst 2, 1) := by decide +kernel
theorem dL_law_1170 : decode cL_law 1170 = .ok (.iadd, 1) := by decide +kernel
theorem dL_law_1171 : decode cL_law 1171 = .ok (.iaload, 1) := by decide +kernel
theorem dL_law_1172 : decode cL_law 1172 = .ok (.aload_n 0, 1) := by decide +kernel
theorem dL_law_1173 : decode cL_law 1173 = .ok (.iload_n 3, 1) := by decide +kernel
theorem dL_law_1174 : decode cL_law 1174 = .ok (.iconst 3, 1) := by decide +kernel
theorem dL_law_1175 : decode cL_law 1175 = .ok (.iadd, 1) := by decide +kernel
theorem dL_law_1176 : decode cL_law 1176 = .ok (.iaload, 1) := by decide +kernel
theorem dL_law_1177 : decode cL_law 1177 = .ok (.aload_n 0, 1) := by decide +kernel
theorem dL_law_1178 : decode cL_law 1178 = .ok (.iload_n 3, 1) := by decide +kernel
theorem dL_law_1179 : decode cL_law 1179 = .ok (.iconst 4, 1) := by decide +kernel
theorem dL_law_1180 : decode cL_law 1180 = .ok (.iadd, 1) := by decide +kernel
theorem dL_law_1181 : decode cL_law 1181 = .ok (.iaload, 1) := by decide +kernel
theorem dL_law_1182 : decode cL_law 1182 = .ok (.invokevirtual 148, 3) := by decide +kernel
theorem dL_law_1185 : decode cL_law 1185 = .ok (.if_icmp .eq 196, 3) := by decide +kernel
theorem dL_law_1188 : decode cL_law 1188 = .ok (.iconst 0, 1) := by decide +kernel
theorem dL_law_1189 : decode cL_law 1189 = .ok (.ireturn, 1) := by decide +kernel
theorem dL_law_1190 : decode cL_law 1190 = .ok (.aload_n 1, 1) := by decide +kernel
theorem dL_law_1191 : decode cL_law 1191 = .ok (.aload_n 0, 1) := by decide +kernel
theorem dL_law_1192 : decode cL_law 1192 = .ok (.iload_n 3, 1) := by decide +kernel
theorem dL_law_1193 : decode cL_law 1193 = .ok (.iconst 1, 1) := by decide +kernel
theorem dL_law_1194 : decode cL_law 1194 = .ok (.iadd, 1) := by decide +kernel
theorem dL_law_1195 : decode cL_law 1195 = .ok (.iaload, 1) := by decide +kernel
theorem dL_law_1196 : decode cL_law 1196 = .ok (.aload_n 0, 1) := by decide +kernel
theorem dL_law_1197 : decode cL_law 1197 = .ok (.iload_n 3, 1) := by decide +kernel
theorem dL_law_1198 : decode cL_law 1198 = .ok (.iconst 2, 1) := by decide +kernel
theorem dL_law_1199 : decode cL_law 1199 = .ok (.iadd, 1) := by decide +kernel
theorem dL_law_1200 : decode cL_law 1200 = .ok (.iaload, 1) := by decide +kernel
theorem dL_law_1201 : decode cL_law 1201 = .ok (.aload_n 0, 1) := by decide +kernel
theorem dL_law_1202 : decode cL_law 1202 = .ok (.iload_n 3, 1) := by decide +kernel
theorem dL_law_1203 : decode cL_law 1203 = .ok (.iconst 3, 1) := by decide +kernel
theorem dL_law_1204 : decode cL_law 1204 = .ok (.iadd, 1) := by decide +kernel
theorem dL_law_1205 : decode cL_law 1205 = .ok (.iaload, 1) := by decide +kernel
theorem dL_law_1206 : decode cL_law 1206 = .ok (.invokevirtual 149, 3) := by decide +kernel
theorem dL_law_1209 : decode cL_law 1209 = .ok (.aload_n 2, 1) := by decide +kernel
theorem dL_law_1210 : decode cL_law 1210 = .ok (.aload_n 0, 1) := by decide +kernel
theorem dL_law_1211 : decode cL_law 1211 = .ok (.iload_n 3, 1) := by decide +kernel
theorem dL_law_1212 : decode cL_law 1212 = .ok (.iconst 1, 1) := by decide +kernel
theorem dL_law_1213 : decode cL_law 1213 = .ok (.iadd, 1) := by decide +kernel
theorem dL_law_1214 : decode cL_law 1214 = .ok (.iaload, 1) := by decide +kernel
theorem dL_law_1215 : decode cL_law 1215 = .ok (.aload_n 0, 1) := by decide +kernel
theorem dL_law_1216 : decode cL_law 1216 = .ok (.iload_n 3, 1) := by decide +kernel
theorem dL_law_1217 : decode cL_law 1217 = .ok (.iconst 2, 1) := by decide +kernel
theorem dL_law_1218 : decode cL_law 1218 = .ok (.iadd, 1) := by decide +kernel
theorem dL_law_1219 : decode cL_law 1219 = .ok (.iaload, 1) := by decide +kernel
theorem dL_law_1220 : decode cL_law 1220 = .ok (.aload_n 0, 1) := by decide +kernel
theorem dL_law_1221 : decode cL_law 1221 = .ok (.iload_n 3, 1) := by decide +kernel
theorem dL_law_1222 : decode cL_law 1222 = .ok (.iconst 3, 1) := by decide +kernel
theorem dL_law_1223 : decode cL_law 1223 = .ok (.iadd, 1) := by decide +kernel
theorem dL_law_1224 : decode cL_law 1224 = .ok (.iaload, 1) := by decide +kernel
theorem dL_law_1225 : decode cL_law 1225 = .ok (.invokevirtual 152, 3) := by decide +kernel
theorem dL_law_1228 : decode cL_law 1228 = .ok (.if_icmp .eq 153, 3) := by decide +kernel
theorem dL_law_1231 : decode cL_law 1231 = .ok (.iconst 0, 1) := by decide +kernel
theorem dL_law_1232 : decode cL_law 1232 = .ok (.ireturn, 1) := by decide +kernel
theorem dL_law_1233 : decode cL_law 1233 = .ok (.aload_n 1, 1) := by decide +kernel
theorem dL_law_1234 : decode cL_law 1234 = .ok (.aload_n 0, 1) := by decide +kernel
theorem dL_law_1235 : decode cL_law 1235 = .ok (.iload_n 3, 1) := by decide +kernel
theorem dL_law_1236 : decode cL_law 1236 = .ok (.iconst 1, 1) := by decide +kernel
theorem dL_law_1237 : decode cL_law 1237 = .ok (.iadd, 1) := by decide +kernel
theorem dL_law_1238 : decode cL_law 1238 = .ok (.iaload, 1) := by decide +kernel
theorem dL_law_1239 : decode cL_law 1239 = .ok (.aload_n 0, 1) := by decide +kernel
theorem dL_law_1240 : decode cL_law 1240 = .ok (.iload_n 3, 1) := by decide +kernel
theorem dL_law_1241 : decode cL_law 1241 = .ok (.iconst 2, 1) := by decide +kernel
theorem dL_law_1242 : decode cL_law 1242 = .ok (.iadd, 1) := by decide +kernel
theorem dL_law_1243 : decode cL_law 1243 = .ok (.iaload, 1) := by decide +kernel
theorem dL_law_1244 : decode cL_law 1244 = .ok (.invokevirtual 153, 3) := by decide +kernel
theorem dL_law_1247 : decode cL_law 1247 = .ok (.aload_n 2, 1) := by decide +kernel
theorem dL_law_1248 : decode cL_law 1248 = .ok (.aload_n 0, 1) := by decide +kernel
theorem dL_law_1249 : decode cL_law 1249 = .ok (.iload_n 3, 1) := by decide +kernel
theorem dL_law_1250 : decode cL_law 1250 = .ok (.iconst 1, 1) := by decide +kernel
theorem dL_law_1251 : decode cL_law 1251 = .ok (.iadd, 1) := by decide +kernel
theorem dL_law_1252 : decode cL_law 1252 = .ok (.iaload, 1) := by decide +kernel
theorem dL_law_1253 : decode cL_law 1253 = .ok (.aload_n 0, 1) := by decide +kernel
theorem dL_law_1254 : decode cL_law 1254 = .ok (.iload_n 3, 1) := by decide +kernel
theorem dL_law_1255 : decode cL_law 1255 = .ok (.iconst 2, 1) := by decide +kernel
theorem dL_law_1256 : decode cL_law 1256 = .ok (.iadd, 1) := by decide +kernel
theorem dL_law_1257 : decode cL_law 1257 = .ok (.iaload, 1) := by decide +kernel
theorem dL_law_1258 : decode cL_law 1258 = .ok (.invokevirtual 156, 3) := by decide +kernel
theorem dL_law_1261 : decode cL_law 1261 = .ok (.if_icmp .eq 120, 3) := by decide +kernel
theorem dL_law_1264 : decode cL_law 1264 = .ok (.iconst 0, 1) := by decide +kernel
theorem dL_law_1265 : decode cL_law 1265 = .ok (.ireturn, 1) := by decide +kernel
theorem dL_law_1266 : decode cL_law 1266 = .ok (.aload_n 1, 1) := by decide +kernel
theorem dL_law_1267 : decode cL_law 1267 = .ok (.aload_n 0, 1) := by decide +kernel
theorem dL_law_1268 : decode cL_law 1268 = .ok (.iload_n 3, 1) := by decide +kernel
theorem dL_law_1269 : decode cL_law 1269 = .ok (.iconst 1, 1) := by decide +kernel
theorem dL_law_1270 : decode cL_law 1270 = .ok (.iadd, 1) := by decide +kernel
theorem dL_law_1271 : decode cL_law 1271 = .ok (.iaload, 1) := by decide +kernel
theorem dL_law_1272 : decode cL_law 1272 = .ok (.aload_n 0, 1) := by decide +kernel
theorem dL_law_1273 : decode cL_law 1273 = .ok (.iload_n 3, 1) := by decide +kernel
theorem dL_law_1274 : decode cL_law 1274 = .ok (.iconst 2, 1) := by decide +kernel
theorem dL_law_1275 : decode cL_law 1275 = .ok (.iadd, 1) := by decide +kernel
theorem dL_law_1276 : decode cL_law 1276 = .ok (.iaload, 1) := by decide +kernel
theorem dL_law_1277 : decode cL_law 1277 = .ok (.aload_n 0, 1) := by decide +kernel
theorem dL_law_1278 : decode cL_law 1278 = .ok (.iload_n 3, 1) := by decide +kernel
theorem dL_law_1279 : decode cL_law 1279 = .ok (.iconst 3, 1) := by decide +kernel
theorem dL_law_1280 : decode cL_law 1280 = .ok (.iadd, 1) := by decide +kernel
theorem dL_law_1281 : decode cL_law 1281 = .ok (.iaload, 1) := by decide +kernel
theorem dL_law_1282 : decode cL_law 1282 = .ok (.invokevirtual 157, 3) := by decide +kernel
theorem dL_law_1285 : decode cL_law 1285 = .ok (.aload_n 2, 1) := by decide +kernel
theorem dL_law_1286 : decode cL_law 1286 = .ok (.aload_n 0, 1) := by decide +kernel
theorem dL_law_1287 : decode cL_law 1287 = .ok (.iload_n 3, 1) := by decide +kernel
theorem dL_law_1288 : decode cL_law 1288 = .ok (.iconst 1, 1) := by decide +kernel
theorem dL_law_1289 : decode cL_law 1289 = .ok (.iadd, 1) := by decide +kernel
theorem dL_law_1290 : decode cL_law 1290 = .ok (.iaload, 1) := by decide +kernel
theorem dL_law_1291 : decode cL_law 1291 = .ok (.aload_n 0, 1) := by decide +kernel
theorem dL_law_1292 : decode cL_law 1292 = .ok (.iload_n 3, 1) := by decide +kernel
theorem dL_law_1293 : decode cL_law 1293 = .ok (.iconst 2, 1) := by decide +kernel
theorem dL_law_1294 : decode cL_law 1294 = .ok (.iadd, 1) := by decide +kernel
theorem dL_law_1295 : decode cL_law 1295 = .ok (.iaload, 1) := by decide +kernel
theorem dL_law_1296 : decode cL_law 1296 = .ok (.aload_n 0, 1) := by decide +kernel
theorem dL_law_1297 : decode cL_law 1297 = .ok (.iload_n 3, 1) := by decide +kernel
theorem dL_law_1298 : decode cL_law 1298 = .ok (.iconst 3, 1) := by decide +kernel
theorem dL_law_1299 : decode cL_law 1299 = .ok (.iadd, 1) := by decide +kernel
theorem dL_law_1300 : decode cL_law 1300 = .ok (.iaload, 1) := by decide +kernel
theorem dL_law_1301 : decode cL_law 1301 = .ok (.invokevirtual 160, 3) := by decide +kernel
theorem dL_law_1304 : decode cL_law 1304 = .ok (.if_icmp .eq 77, 3) := by decide +kernel
theorem dL_law_1307 : decode cL_law 1307 = .ok (.iconst 0, 1) := by decide +kernel
theorem dL_law_1308 : decode cL_law 1308 = .ok (.ireturn, 1) := by decide +kernel
theorem dL_law_1309 : decode cL_law 1309 = .ok (.aload_n 1, 1) := by decide +kernel
theorem dL_law_1310 : decode cL_law 1310 = .ok (.aload_n 0, 1) := by decide +kernel
theorem dL_law_1311 : decode cL_law 1311 = .ok (.iload_n 3, 1) := by decide +kernel
theorem dL_law_1312 : decode cL_law 1312 = .ok (.iconst 1, 1) := by decide +kernel
theorem dL_law_1313 : decode cL_law 1313 = .ok (.iadd, 1) := by decide +kernel
theorem dL_law_1314 : decode cL_law 1314 = .ok (.iaload, 1) := by decide +kernel
theorem dL_law_1315 : decode cL_law 1315 = .ok (.invokevirtual 161, 3) := by decide +kernel
theorem dL_law_1318 : decode cL_law 1318 = .ok (.aload_n 2, 1) := by decide +kernel
theorem dL_law_1319 : decode cL_law 1319 = .ok (.aload_n 0, 1) := by decide +kernel
theorem dL_law_1320 : decode cL_law 1320 = .ok (.iload_n 3, 1) := by decide +kernel
theorem dL_law_1321 : decode cL_law 1321 = .ok (.iconst 1, 1) := by decide +kernel
theorem dL_law_1322 : decode cL_law 1322 = .ok (.iadd, 1) := by decide +kernel
theorem dL_law_1323 : decode cL_law 1323 = .ok (.iaload, 1) := by decide +kernel
theorem dL_law_1324 : decode cL_law 1324 = .ok (.invokevirtual 164, 3) := by decide +kernel
theorem dL_law_1327 : decode cL_law 1327 = .ok (.if_icmp .eq 54, 3) := by decide +kernel
theorem dL_law_1330 : decode cL_law 1330 = .ok (.iconst 0, 1) := by decide +kernel
theorem dL_law_1331 : decode cL_law 1331 = .ok (.ireturn, 1) := by decide +kernel
theorem dL_law_1332 : decode cL_law 1332 = .ok (.aload_n 1, 1) := by decide +kernel
theorem dL_law_1333 : decode cL_law 1333 = .ok (.aload_n 0, 1) := by decide +kernel
theorem dL_law_1334 : decode cL_law 1334 = .ok (.iload_n 3, 1) := by decide +kernel
theorem dL_law_1335 : decode cL_law 1335 = .ok (.iconst 1, 1) := by decide +kernel
theorem dL_law_1336 : decode cL_law 1336 = .ok (.iadd, 1) := by decide +kernel
theorem dL_law_1337 : decode cL_law 1337 = .ok (.iaload, 1) := by decide +kernel
theorem dL_law_1338 : decode cL_law 1338 = .ok (.invokevirtual 165, 3) := by decide +kernel
theorem dL_law_1341 : decode cL_law 1341 = .ok (.aload_n 2, 1) := by decide +kernel
theorem dL_law_1342 : decode cL_law 1342 = .ok (.aload_n 0, 1) := by decide +kernel
theorem dL_law_1343 : decode cL_law 1343 = .ok (.iload_n 3, 1) := by decide +kernel
theorem dL_law_1344 : decode cL_law 1344 = .ok (.iconst 1, 1) := by decide +kernel
theorem dL_law_1345 : decode cL_law 1345 = .ok (.iadd, 1) := by decide +kernel
theorem dL_law_1346 : decode cL_law 1346 = .ok (.iaload, 1) := by decide +kernel
theorem dL_law_1347 : decode cL_law 1347 = .ok (.invokevirtual 168, 3) := by decide +kernel
theorem dL_law_1350 : decode cL_law 1350 = .ok (.if_icmp .eq 31, 3) := by decide +kernel
theorem dL_law_1353 : decode cL_law 1353 = .ok (.iconst 0, 1) := by decide +kernel
theorem dL_law_1354 : decode cL_law 1354 = .ok (.ireturn, 1) := by decide +kernel
theorem dL_law_1355 : decode cL_law 1355 = .ok (.aload_n 1, 1) := by decide +kernel
theorem dL_law_1356 : decode cL_law 1356 = .ok (.invokevirtual 169, 3) := by decide +kernel
theorem dL_law_1359 : decode cL_law 1359 = .ok (.aload_n 2, 1) := by decide +kernel
theorem dL_law_1360 : decode cL_law 1360 = .ok (.invokevirtual 172, 3) := by decide +kernel
theorem dL_law_1363 : decode cL_law 1363 = .ok (.if_icmp .eq 18, 3) := by decide +kernel
theorem dL_law_1366 : decode cL_law 1366 = .ok (.iconst 0, 1) := by decide +kernel
theorem dL_law_1367 : decode cL_law 1367 = .ok (.ireturn, 1) := by decide +kernel
theorem dL_law_1368 : decode cL_law 1368 = .ok (.aload_n 1, 1) := by decide +kernel
theorem dL_law_1369 : decode cL_law 1369 = .ok (.invokevirtual 173, 3) := by decide +kernel
theorem dL_law_1372 : decode cL_law 1372 = .ok (.aload_n 2, 1) := by decide +kernel
theorem dL_law_1373 : decode cL_law 1373 = .ok (.invokevirtual 176, 3) := by decide +kernel
theorem dL_law_1376 : decode cL_law 1376 = .ok (.if_icmp .eq 5, 3) := by decide +kernel
theorem dL_law_1379 : decode cL_law 1379 = .ok (.iconst 0, 1) := by decide +kernel
theorem dL_law_1380 : decode cL_law 1380 = .ok (.ireturn, 1) := by decide +kernel
theorem dL_law_1381 : decode cL_law 1381 = .ok (.iinc 3 5, 3) := by decide +kernel
theorem dL_law_1384 : decode cL_law 1384 = .ok (.goto (-1366), 3) := by decide +kernel
theorem dL_law_1387 : decode cL_law 1387 = .ok (.iconst 1, 1) := by decide +kernel
theorem dL_law_1388 : decode cL_law 1388 = .ok (.ireturn, 1) := by decide +kernel
end
section
/-! THE LOGIC, a: values with whole numbers, a memory of numbered cells, the world that it stands for, and the judgement Wp -/
def wr (z : Int) : Int := z.bmod 4294967296
abbrev i32 (z : Int) : Int32 := Int32.ofInt z
def inR (z : Int) : Prop := -2147483648 ≤ z ∧ z ≤ 2147483647
theorem inR_0 : inR 0 := ⟨by omega, by omega⟩
theorem wr_in (z : Int) : inR (wr z) := by
  have h1 := Int.le_bmod (x := z) (m := 4294967296) (by omega)
  have h2 := Int.bmod_lt (x := z) (m := 4294967296) (by omega)
  unfold inR wr
  omega
theorem wr_id {z : Int} (h : -2147483648 ≤ z ∧ z ≤ 2147483647) : wr z = z := by
  unfold wr
  exact Int.bmod_eq_of_le (by omega) (by omega)
theorem wr_wr (z : Int) : wr (wr z) = wr z := by unfold wr; exact Int.bmod_bmod
theorem i32_wr (z : Int) : i32 (wr z) = i32 z := by
  apply Int32.toInt_inj.mp
  rw [Int32.toInt_ofInt, Int32.toInt_ofInt]
  exact Int.bmod_bmod
theorem i32_add (x y : Int) : i32 x + i32 y = i32 (wr (x + y)) := by rw [i32_wr]; exact (Int32.ofInt_add x y).symm
theorem i32_sub (x y : Int) : i32 x - i32 y = i32 (wr (x - y)) := by rw [i32_wr]; exact (Int32.ofInt_sub x y).symm
theorem i32_mul (x y : Int) : i32 x * i32 y = i32 (wr (x * y)) := by rw [i32_wr]; exact (Int32.ofInt_mul x y).symm
theorem i32_neg (x : Int) : -i32 x = i32 (wr (-x)) := by rw [i32_wr]; exact (Int32.ofInt_neg x).symm
theorem i32_t {z : Int} (h : inR z) : (i32 z).toInt = z := Int32.toInt_ofInt_of_le h.1 (by have := h.2; omega)
theorem i32_c {z : Int} (h : inR z) : (i32 z).toNatClampNeg = z.toNat := by
  show (i32 z).toInt.toNat = _
  rw [i32_t h]
theorem i32_of (x : Int32) : i32 x.toInt = x := Int32.ofInt_toInt x
theorem i32_R (x : Int32) : inR x.toInt := ⟨Int32.le_toInt x, by have := Int32.toInt_lt x; omega⟩
theorem i32_eq {x y : Int} (hx : inR x) (hy : inR y) : i32 x = i32 y ↔ x = y := by
  rw [← Int32.toInt_inj, i32_t hx, i32_t hy]
theorem i32_lt {x y : Int} (hx : inR x) (hy : inR y) : i32 x < i32 y ↔ x < y := by
  rw [Int32.lt_iff_toInt_lt, i32_t hx, i32_t hy]
theorem i32_le {x y : Int} (hx : inR x) (hy : inR y) : i32 x ≤ i32 y ↔ x ≤ y := by
  rw [Int32.le_iff_toInt_le, i32_t hx, i32_t hy]
theorem i32_0 : i32 0 = 0 := rfl
theorem i32_pin {z : Int} {n : Nat} (hz : inR z) (h0 : 0 ≤ z) (h : z < n) : vp_in (i32 z) n := by
  rintro (q | q)
  · have := (i32_lt hz inR_0).mp q
    omega
  · rw [i32_c hz] at q
    omega
abbrev Vl : Type := Int ⊕ (Int64 ⊕ Option Nat)
abbrev vi (z : Int) : Vl := .inl z
abbrev vj (z : Int64) : Vl := .inr (.inl z)
abbrev vr (k : Nat) : Vl := .inr (.inr (some k))
abbrev vu : Vl := .inr (.inr none)
abbrev Mem : Type := (Nat → Int → Int) × (Nat → Int → Option Nat) × List (Nat × Nat)
def toV (α : Nat → Nat) : Vl → Value
  | .inl z => .int (i32 z)
  | .inr (.inl z) => .long z
  | .inr (.inr none) => .null
  | .inr (.inr (some k)) => .ref (α k)
def okV (N : Nat) : Vl → Prop
  | .inl z => inR z
  | .inr (.inl _) => True
  | .inr (.inr none) => True
  | .inr (.inr (some k)) => k < N ∨ 1000 ≤ k
theorem okV.mono {N N' : Nat} (h : N ≤ N') {v : Vl} (hv : okV N v) : okV N' v := by
  rcases v with z | z | _ | k
  · exact hv
  · exact hv
  · exact hv
  · exact hv.imp (fun q => Nat.lt_of_lt_of_le q h) id
abbrev GE : Type := Launch × va_G × (Nat × Nat × Nat × Nat) × (Nat → Nat) × Nat × (Nat → Nat × (Int → Int))
abbrev gD (G : GE) : va_G := G.2.1
abbrev gA (G : GE) : Nat → Nat := G.2.2.2.1
abbrev gB (G : GE) : Nat → Prop := fun q => G.2.2.2.2.1 ≤ q
abbrev gT (G : GE) : Nat → Nat × (Int → Int) := G.2.2.2.2.2
abbrev gY (G : GE) : List (ClassId × FieldType) := [(G.2.2.1.1, .int), (G.2.2.1.2.1, .boolean), (G.2.2.1.2.2.1, .array .int), (G.2.2.1.2.2.2, .object "WaterThanks$Sheet")]
def tyOf (c j : Nat) : FieldType := match c with
  | 0 => tyX0 j
  | 1 => tyX1 j
  | 2 => tyX2 j
  | 3 => tyX3 j
  | 4 => tyX4 j
  | 5 => tyX5 j
  | 6 => tyX6 j
  | 7 => tyX7 j
  | 8 => tyX8 j
  | _ => tyX9 j
def isRf : FieldType → Bool
  | .array _ => true
  | .object _ => true
  | _ => false
def fR (c j : Nat) : Bool := isRf (tyOf c j)
def cF (α : Nat → Nat) (M : Mem) (k c j : Nat) : Value := if fR c j = true then va_rf ((M.2.1 k j).map α) else .int (i32 (M.1 k j))
def cE (G : GE) (α : Nat → Nat) (M : Mem) (k : Nat) (s : Nat × Nat) : va_E :=
  if s.1 < 16 then .inr (s.1, (List.range s.2).map (cF α M k s.1))
  else if s.1 = 16 then .inl (G.2.2.1.1, s.2, .inl (fun j => i32 (M.1 k j)))
  else if s.1 = 17 then .inl (G.2.2.1.2.1, s.2, .inl (fun j => i32 (M.1 k j)))
  else if s.1 = 18 then .inl (G.2.2.1.2.2.1, s.2, .inr (.inr (.inr (.inr (fun j => (M.2.1 k j).map α)))))
  else .inl (G.2.2.1.2.2.2, s.2, .inr (.inr (.inr (.inr (fun j => (M.2.1 k j).map α)))))
def wd (G : GE) (α : Nat → Nat) (M : Mem) : va_W := (List.range M.2.2.length).map (fun k => (α k, cE G α M k (M.2.2.getD k (0, 0))))
theorem wd_len {G : GE} {α : Nat → Nat} {M : Mem} : (wd G α M).length = M.2.2.length := by simp [wd]
theorem wd_at {G : GE} {α : Nat → Nat} {M : Mem} {k : Nat} {s : Nat × Nat} (h : M.2.2[k]? = some s) : (wd G α M)[k]? = some (α k, cE G α M k s) := by
  have hk := (List.getElem?_eq_some_iff.mp h).1
  simp [wd, List.getElem?_map, List.getElem?_range hk, h]
theorem wd_ext {G : GE} {α : Nat → Nat} {M : Mem} {W : va_W} (hl : W.length = M.2.2.length) (h : ∀ (k : Nat) (s : Nat × Nat), M.2.2[k]? = some s → W[k]? = some (α k, cE G α M k s)) : W = wd G α M := by
  apply List.ext_getElem?
  intro k
  cases hs : M.2.2[k]? with
  | some s => rw [h k s hs, wd_at hs]
  | none =>
    have hk : M.2.2.length ≤ k := List.getElem?_eq_none_iff.mp hs
    rw [List.getElem?_eq_none (by omega), List.getElem?_eq_none (by rw [wd_len]; exact hk)]
theorem cE_congr {G : GE} {α : Nat → Nat} {M M' : Mem} {k : Nat} {s : Nat × Nat} (h1 : M'.1 k = M.1 k) (h2 : M'.2.1 k = M.2.1 k) : cE G α M' k s = cE G α M k s := by
  have h3 : cF α M' k s.1 = cF α M k s.1 := by
    funext j
    unfold cF
    rw [h1, h2]
  unfold cE
  rw [h1, h2, h3]
/-- one cell of the world written -/
theorem wd_set {G : GE} {α : Nat → Nat} {M M' : Mem} {k : Nat} {s : Nat × Nat} {e : va_E} (hk : M.2.2[k]? = some s) (hS : M'.2.2 = M.2.2) (h1 : ∀ a, a ≠ k → M'.1 a = M.1 a) (h2 : ∀ a, a ≠ k → M'.2.1 a = M.2.1 a) (he : e = cE G α M' k s) : (wd G α M).set k (α k, e) = wd G α M' := by
  have hl := (List.getElem?_eq_some_iff.mp hk).1
  refine wd_ext (by rw [List.length_set, wd_len, hS]) fun a t ht => ?_
  rw [hS] at ht
  by_cases ha : a = k
  · subst ha
    rw [List.getElem?_set_self (by rw [wd_len]; exact hl)]
    cases hk.symm.trans ht
    rw [he]
  · rw [List.getElem?_set_ne (Ne.symm ha), wd_at ht, cE_congr (h1 a ha) (h2 a ha)]
def upI (I : Nat → Int → Int) (k : Nat) (j v : Int) : Nat → Int → Int := fun a b => if a = k ∧ b = j then v else I a b
def upR (R : Nat → Int → Option Nat) (k : Nat) (j : Int) (v : Option Nat) : Nat → Int → Option Nat := fun a b => if a = k ∧ b = j then v else R a b
theorem upI_ne {I : Nat → Int → Int} {k a : Nat} {j v : Int} (h : a ≠ k) : upI I k j v a = I a := funext fun b => by simp [upI, h]
theorem upR_ne {R : Nat → Int → Option Nat} {k a : Nat} {j : Int} {v : Option Nat} (h : a ≠ k) : upR R k j v a = R a := funext fun b => by simp [upR, h]
theorem upI_at {I : Nat → Int → Int} {k : Nat} {j v b : Int} : upI I k j v k b = if b = j then v else I k b := by simp [upI]
theorem upR_at {R : Nat → Int → Option Nat} {k : Nat} {j b : Int} {v : Option Nat} : upR R k j v k b = if b = j then v else R k b := by simp [upR]
def okM (M : Mem) : Prop := (∀ k j, inR (M.1 k j)) ∧ ∀ k j r, M.2.1 k j = some r → r < M.2.2.length ∨ 1000 ≤ r
theorem okM_upI {M : Mem} (h : okM M) {k : Nat} {j v : Int} (hv : inR v) : okM (upI M.1 k j v, M.2) := by
  refine ⟨fun a b => ?_, h.2⟩
  show inR (upI M.1 k j v a b)
  unfold upI
  split
  · exact hv
  · exact h.1 a b
theorem okM_upR {M : Mem} (h : okM M) {k r : Nat} {j : Int} (hv : r < M.2.2.length ∨ 1000 ≤ r) : okM (M.1, upR M.2.1 k j (some r), M.2.2) := by
  refine ⟨h.1, fun a b q => ?_⟩
  show upR M.2.1 k j (some r) a b = some q → _
  unfold upR
  split
  · intro e
    cases e
    exact hv
  · exact h.2 a b q
def lvs (α : Nat → Nat) : Nat → List Vl → List (Nat × Value)
  | _, [] => []
  | n, .inr (.inr none) :: r => lvs α (n + 1) r
  | n, .inl z :: r => (n, toV α (.inl z)) :: lvs α (n + 1) r
  | n, .inr (.inl z) :: r => (n, toV α (.inr (.inl z))) :: lvs α (n + 1) r
  | n, .inr (.inr (some k)) :: r => (n, toV α (.inr (.inr (some k)))) :: lvs α (n + 1) r
theorem lvs_mem {α : Nat → Nat} : ∀ (ls : List Vl) (n : Nat) (q : Nat × Value), q ∈ lvs α n ls ↔ ∃ (i : Nat) (v : Vl), ls[i]? = some v ∧ v ≠ vu ∧ q = (n + i, toV α v)
  | [], n, q => by simp [lvs]
  | a :: r, n, q => by
    have ih := lvs_mem (α := α) r (n + 1) q
    have step : (∃ (i : Nat) (v : Vl), r[i]? = some v ∧ v ≠ vu ∧ q = (n + 1 + i, toV α v)) ↔ ∃ (i : Nat) (v : Vl), (a :: r)[i + 1]? = some v ∧ v ≠ vu ∧ q = (n + (i + 1), toV α v) := by
      constructor
      · rintro ⟨i, v, h1, h2, h3⟩
        exact ⟨i, v, by simpa using h1, h2, by rw [h3]; congr 1; omega⟩
      · rintro ⟨i, v, h1, h2, h3⟩
        exact ⟨i, v, by simpa using h1, h2, by rw [h3]; congr 1; omega⟩
    have split : (∃ (i : Nat) (v : Vl), (a :: r)[i]? = some v ∧ v ≠ vu ∧ q = (n + i, toV α v)) ↔ (a ≠ vu ∧ q = (n, toV α a)) ∨ ∃ (i : Nat) (v : Vl), (a :: r)[i + 1]? = some v ∧ v ≠ vu ∧ q = (n + (i + 1), toV α v) := by
      constructor
      · rintro ⟨i, v, h1, h2, h3⟩
        cases i with
        | zero => simp at h1; subst h1; exact Or.inl ⟨h2, h3⟩
        | succ i => exact Or.inr ⟨i, v, h1, h2, h3⟩
      · rintro (⟨h2, h3⟩ | ⟨i, v, h1, h2, h3⟩)
        · exact ⟨0, a, rfl, h2, h3⟩
        · exact ⟨i + 1, v, h1, h2, h3⟩
    rw [split, ← step, ← ih]
    rcases a with z | z | _ | k <;> simp [lvs]
theorem lvs_get {α : Nat → Nat} {la : Array Slot} {n i : Nat} {ls : List Vl} {v : Vl} (h : lv_has la n (lvs α 0 ls)) (hi : ls[i]? = some v) (hv : v ≠ vu) : la[i]? = some (.val (toV α v)) := by
  have := h.2.2 (i, toV α v) ((lvs_mem ls 0 _).mpr ⟨i, v, hi, hv, by simp⟩)
  exact this
/-- the place ahead of i holds no long -/
def noL (ls : List Vl) (i : Nat) : Bool := match i with
  | 0 => true
  | i + 1 => match ls[i]? with
    | some (.inr (.inl _)) => false
    | _ => true
theorem toV_cat {α : Nat → Nat} {v : Vl} (h : (toV α v).category = 2) : ∃ z, v = vj z := by
  rcases v with z | z | _ | k
  · cases h
  · exact ⟨z, rfl⟩
  · cases h
  · cases h
theorem lvs_set {α : Nat → Nat} {ls : List Vl} {i : Nat} {v : Vl} (hn : noL ls i = true) : ∀ q ∈ lvs α 0 (ls.set i v), q ∈ (i, toV α v) :: (lvs α 0 ls).filter (fun q => !(q.1 == i) && !(q.1 + 1 == i && q.2.category == 2)) := by
  intro q hq
  obtain ⟨j, w, h1, h2, rfl⟩ := (lvs_mem _ 0 _).mp hq
  rw [Nat.zero_add]
  by_cases hj : j = i
  · subst hj
    have hl : j < ls.length := by
      have := (List.getElem?_eq_some_iff.mp h1).1
      simpa using this
    rw [List.getElem?_set_self hl] at h1
    cases h1
    exact List.mem_cons_self
  · rw [List.getElem?_set_ne (Ne.symm hj)] at h1
    refine List.mem_cons_of_mem _ (List.mem_filter.mpr ⟨(lvs_mem _ 0 _).mpr ⟨j, w, h1, h2, by rw [Nat.zero_add]⟩, ?_⟩)
    have hc : ¬ (j + 1 = i ∧ (toV α w).category = 2) := by
      rintro ⟨e, hc⟩
      obtain ⟨z, rfl⟩ := toV_cat hc
      subst e
      simp [noL, h1] at hn
    simp only [Bool.and_eq_true, Bool.not_eq_true', beq_eq_false_iff_ne, ne_eq, Bool.and_eq_false_iff]
    refine ⟨hj, ?_⟩
    by_cases e : j + 1 = i
    · exact Or.inr (fun z => hc ⟨e, z⟩)
    · exact Or.inl e
theorem lvs_has {α : Nat → Nat} {la : Array Slot} {n i : Nat} {ls : List Vl} {v : Vl} (hn : noL ls i = true) (h : lv_has la n ((i, toV α v) :: (lvs α 0 ls).filter (fun q => !(q.1 == i) && !(q.1 + 1 == i && q.2.category == 2)))) : lv_has la n (lvs α 0 (ls.set i v)) :=
  ⟨h.1, h.2.1, fun q hq => h.2.2 q (lvs_set hn q hq)⟩
def ssum (S : List (Nat × Nat)) : Nat := (S.map (fun s => s.2)).sum
def zTb (i : Nat) : String × String := match i with
  | 0 => ("WaterThanks", "LEAST_FACT")
  | 1 => ("WaterThanks", "MOST_FACT")
  | 2 => ("WaterThanks", "FIRST_FACT")
  | 3 => ("WaterThanks", "UNDER")
  | _ => ("WaterThanks$Acts", "BODIES")
def sTL : List (String × Nat × String × List Int) := [
  (RX6, 76, "let", [108, 101, 116]),
  (RX6, 82, "if", [105, 102]),
  (RX6, 84, "or", [111, 114]),
  (RX6, 86, "and", [97, 110, 100]),
  (RX6, 88, "not", [110, 111, 116]),
  (RX6, 90, "wet", [119, 101, 116]),
  (RX6, 92, "comes", [99, 111, 109, 101, 115]),
  (RX6, 94, "flow", [102, 108, 111, 119]),
  (RX9, 255, "let", [108, 101, 116]),
  (RX9, 257, "if", [105, 102]),
  (RX9, 224, "not", [110, 111, 116]),
  (RX9, 226, "(", [40]),
  (RX9, 234, ")", [41]),
  (RX9, 210, "wet", [119, 101, 116]),
  (RX9, 216, "comes", [99, 111, 109, 101, 115]),
  (RX9, 217, "flow", [102, 108, 111, 119]),
  (RX9, 239, "<", [60]),
  (RX9, 241, "=", [61]),
  (RX9, 243, ">", [62]),
  (RX9, 248, "and", [97, 110, 100]),
  (RX9, 253, "or", [111, 114]),
  (RX9, 259, ";", [59])]
def sTx (i : Nat) : String × Nat × String × List Int := sTL.getD i ("", 0, "", [])
/-- what lies outside: the text constants, the tables, the script (table 5) -/
def Ext (G : GE) (U : State) (H : Heap) : Prop :=
  (∀ i, i < 22 → vk_R (sTx i).1 (sTx i).2.1 (sTx i).2.2.1 (gA G (1000 + i)) U ∧ va_O "java/lang/String" (gA G (1000 + i)) (gB G) U H ∧ va_OF "java/lang/String" "coder" "B" (.int 0) (gA G (1000 + i)) (gB G) U H ∧ va_OF "java/lang/String" "value" "[B" (.ref (gA G (1100 + i))) (gA G (1000 + i)) (gB G) U H ∧ va_T .byte (gA G (1100 + i)) (sTx i).2.2.2.length (fun j => .int (i32 ((sTx i).2.2.2.getD j 0))) (gB G) U H) ∧
  (∀ i, i < 6 → va_T .int (gA G (2000 + i)) (gT G i).1 (fun j => .int (i32 ((gT G i).2 j))) (gB G) U H) ∧
  (∀ i, i < 5 → va_Z (zTb i).1 (zTb i).2 "[I" (.ref (gA G (2000 + i))) (gB G) U H) ∧
  va_Z "java/lang/String" "COMPACT_STRINGS" "Z" (.int 1) (gB G) U H ∧
  va_Z "jdk/internal/util/Preconditions" "SIOOBE_FORMATTER" "Ljava/util/function/BiFunction;" (if (gT G 10).1 = 0 then .null else .ref (gA G 2010)) (gB G) U H
theorem Ext_kept {G : GE} {U : State} {H H1 : Heap} (h : Ext G U H) (hq : ∀ a : Nat, a < H.size → ¬ gB G a → H1[a]? = H[a]?) : Ext G U H1 :=
  ⟨fun i hi => ⟨(h.1 i hi).1, (h.1 i hi).2.1.kept hq, (h.1 i hi).2.2.1.kept hq, (h.1 i hi).2.2.2.1.kept hq, (h.1 i hi).2.2.2.2.kept hq⟩, fun i hi => (h.2.1 i hi).kept hq, fun i hi => (h.2.2.1 i hi).kept hq, h.2.2.2.1.kept hq, h.2.2.2.2.kept hq⟩
theorem Ext_warm {G : GE} {s U : State} {H : Heap} (hW : s.WarmedH U.vm) (h : Ext G s H) : Ext G U H :=
  ⟨fun i hi => ⟨(h.1 i hi).1.warm hW, (h.1 i hi).2.1.moved hW.alike, (h.1 i hi).2.2.1.moved hW.alike, (h.1 i hi).2.2.2.1.moved hW.alike, (h.1 i hi).2.2.2.2.moved hW.alike⟩, fun i hi => (h.2.1 i hi).moved hW.alike, fun i hi => (h.2.2.1 i hi).moved hW.alike, h.2.2.2.1.moved hW.alike, h.2.2.2.2.moved hW.alike⟩
theorem Ext_same {G : GE} {u U : State} {H : Heap} (hv : U.vm = u.vm) (h : Ext G u H) : Ext G U H := by
  have hA : u.vm.Alike U.vm := by rw [hv]; exact Vm.Alike.refl _
  exact ⟨fun i hi => ⟨(h.1 i hi).1.same hv, (h.1 i hi).2.1.moved hA, (h.1 i hi).2.2.1.moved hA, (h.1 i hi).2.2.2.1.moved hA, (h.1 i hi).2.2.2.2.moved hA⟩, fun i hi => (h.2.1 i hi).moved hA, fun i hi => (h.2.2.1 i hi).moved hA, h.2.2.2.1.moved hA, h.2.2.2.2.moved hA⟩
/-- what holds while a method runs -/
def Wi (G : GE) (s : State) (α0 : Nat → Nat) (N0 n0 maxL nC nS : Nat) (α : Nat → Nat) (H : Heap) (locs : List Loc) (la : Array Slot) (ls st : List Vl) (M : Mem) : Prop :=
  ((∀ k, k < N0 → α k = α0 k) ∧ (∀ k, 1000 ≤ k → α k = gA G k)) ∧ (va_P (gD G) vwCl (wd G α M) H ∧ va_D (gB G) (wd G α M) ∧ va_S (gB G) s.heap H locs) ∧ okM M ∧
  (∀ v ∈ ls, okV M.2.2.length v) ∧ (∀ v ∈ st, okV M.2.2.length v) ∧ lv_has la maxL (lvs α 0 ls) ∧ (N0 ≤ M.2.2.length ∧ n0 ≤ ssum M.2.2 ∧ M.2.2.length ≤ nC ∧ ssum M.2.2 ≤ nS ∧ nC ≤ 1000)
def Wp (G : GE) (p : Program) (e : Env) (s : State) (m : MethodId) (args : Array Value) (below : List Frame) (meth : Method) (c : Code) (R : Room) (α0 : Nat → Nat) (N0 n0 maxL nC nS : Nat) (Qf : State → Prop) (pc : Nat) (ls st : List Vl) (M : Mem) : Prop :=
  ∀ (α : Nat → Nat) (H : Heap) (locs : List Loc) (la : Array Slot), Wi G s α0 N0 n0 maxL nC nS α H locs la ls st M →
    W p G.1 e R s m args below meth c H locs (M.2.2.length - N0) (ssum M.2.2 - n0) Qf (F0 m pc la (st.map (toV α)))
abbrev Jd : Type := Nat → List Vl → List Vl → Mem → Prop
/-- J is the judgement of a method's run: own its class, cc its bytes -/
def OkJ (G : GE) (own : String) (ini : Bool) (cc : ByteArray) (maxL d nC nS : Nat) (J : Jd) : Prop :=
  ∃ (p : Program) (e : Env) (s : State) (m : MethodId) (args : Array Value) (below : List Frame) (meth : Method) (c : Code) (R : Room) (α0 : Nat → Nat) (N0 n0 : Nat) (Qf : State → Prop),
    (p.tables.exec = Jvm.exec ∧ c.code = cc ∧ c.maxLocals = maxL ∧ s.vm.findClass own = some m.cls ∧ (ini = true → meth.name = "<init>")) ∧
    ((∀ w ∈ lw_tbl, w.before args s = true) ∧ G.2.2.2.2.1 ≤ s.heap.size ∧ va_K (gD G) vwCl (gY G) s ∧ Ext G s s.heap) ∧ (R.frames = d ∧ R.locals = 100 * d + 100 ∧ R.cells + N0 = nC ∧ R.slots + n0 = nS) ∧
    J = Wp G p e s m args below meth c R α0 N0 n0 maxL nC nS Qf
end
section
/-! THE LOGIC, b: rows of the stack, the locals, the branches -/
theorem Wi_st {G : GE} {s : State} {α0 : Nat → Nat} {N0 n0 maxL nC nS : Nat} {α : Nat → Nat} {H : Heap} {locs : List Loc} {la : Array Slot} {ls st st' : List Vl} {M : Mem} (h : Wi G s α0 N0 n0 maxL nC nS α H locs la ls st M) (hs : ∀ v ∈ st', okV M.2.2.length v) : Wi G s α0 N0 n0 maxL nC nS α H locs la ls st' M :=
  ⟨h.1, h.2.1, h.2.2.1, h.2.2.2.1, hs, h.2.2.2.2.2⟩
theorem Wi_ls {G : GE} {s : State} {α0 : Nat → Nat} {N0 n0 maxL nC nS : Nat} {α : Nat → Nat} {H : Heap} {locs : List Loc} {la la' : Array Slot} {ls ls' st st' : List Vl} {M : Mem} (h : Wi G s α0 N0 n0 maxL nC nS α H locs la ls st M) (h1 : ∀ v ∈ ls', okV M.2.2.length v) (hs : ∀ v ∈ st', okV M.2.2.length v) (h2 : lv_has la' maxL (lvs α 0 ls')) : Wi G s α0 N0 n0 maxL nC nS α H locs la' ls' st' M :=
  ⟨h.1, h.2.1, h.2.2.1, h1, hs, h2, h.2.2.2.2.2.2⟩
theorem ok_cons {N : Nat} {v : Vl} {st : List Vl} (h1 : okV N v) (h2 : ∀ w ∈ st, okV N w) : ∀ w ∈ v :: st, okV N w := List.forall_mem_cons.mpr ⟨h1, h2⟩
theorem ok_t {N : Nat} {v : Vl} {st : List Vl} (h : ∀ w ∈ v :: st, okV N w) : ∀ w ∈ st, okV N w := (List.forall_mem_cons.mp h).2
theorem ok_h {N : Nat} {v : Vl} {st : List Vl} (h : ∀ w ∈ v :: st, okV N w) : okV N v := (List.forall_mem_cons.mp h).1
theorem ok_get {N i : Nat} {v : Vl} {ls : List Vl} (h : ∀ w ∈ ls, okV N w) (hi : ls[i]? = some v) : okV N v := h v (List.mem_of_getElem? hi)
theorem ok_set {N i : Nat} {v : Vl} {ls : List Vl} (h : ∀ w ∈ ls, okV N w) (hv : okV N v) : ∀ w ∈ ls.set i v, okV N w := by
  intro w hw
  rcases List.mem_or_eq_of_mem_set hw with q | q
  · exact h w q
  · rw [q]; exact hv
section MJB
variable {G : GE} {own : String} {ini : Bool} {cc : ByteArray} {maxL d nC nS : Nat} {J : Jd} {pc : Nat} {ls st : List Vl} {M : Mem}
theorem ok_rem {x y : Int} (hx : inR x) (hy : inR y) : inR (x.tmod y) := by
  rw [← i32_t hx, ← i32_t hy, ← Int32.toInt_mod]
  exact i32_R _
theorem mj_iconst (hJ : OkJ G own ini cc maxL d nC nS J) {n : Int} (hd : decode cc pc = .ok (.iconst n, 1)) (hn : -128 ≤ n ∧ n ≤ 127) (k : J (pc + 1) ls (vi n :: st) M) : J pc ls st M := by
  obtain ⟨p, e, s, m, args, below, meth, c, R, α0, N0, n0, Qf, ⟨hx, hb, hml, hown, hin⟩, ⟨hts, hbs, hK, hE⟩, hR, rfl⟩ := hJ
  intro α H locs la hw
  have hs := hw.2.2.2.2.1
  have hk := k α H locs la (Wi_st hw (ok_cons ⟨by omega, by omega⟩ hs))
  exact lv_iconst hx hb hd rfl hk
theorem mj_bipush (hJ : OkJ G own ini cc maxL d nC nS J) {n : Int} (hd : decode cc pc = .ok (.bipush n, 2)) (hn : -128 ≤ n ∧ n ≤ 127) (k : J (pc + 2) ls (vi n :: st) M) : J pc ls st M := by
  obtain ⟨p, e, s, m, args, below, meth, c, R, α0, N0, n0, Qf, ⟨hx, hb, hml, hown, hin⟩, ⟨hts, hbs, hK, hE⟩, hR, rfl⟩ := hJ
  intro α H locs la hw
  have hs := hw.2.2.2.2.1
  have hk := k α H locs la (Wi_st hw (ok_cons ⟨by omega, by omega⟩ hs))
  refine lv_bipush (v := i32 n) hx hb hd ?_ hk
  apply Int32.toInt_inj.mp
  rw [i32_t ⟨by omega, by omega⟩]
  exact (Int8.toInt_toInt32 _).trans (Int8.toInt_ofInt_of_le (by omega) (by omega))
theorem mj_sipush (hJ : OkJ G own ini cc maxL d nC nS J) {n : Int} (hd : decode cc pc = .ok (.sipush n, 3)) (hn : -32768 ≤ n ∧ n ≤ 32767) (k : J (pc + 3) ls (vi n :: st) M) : J pc ls st M := by
  obtain ⟨p, e, s, m, args, below, meth, c, R, α0, N0, n0, Qf, ⟨hx, hb, hml, hown, hin⟩, ⟨hts, hbs, hK, hE⟩, hR, rfl⟩ := hJ
  intro α H locs la hw
  have hs := hw.2.2.2.2.1
  have hk := k α H locs la (Wi_st hw (ok_cons ⟨by omega, by omega⟩ hs))
  refine lv_sipush (v := i32 n) hx hb hd ?_ hk
  apply Int32.toInt_inj.mp
  rw [i32_t ⟨by omega, by omega⟩]
  exact (Int16.toInt_toInt32 _).trans (Int16.toInt_ofInt_of_le (by omega) (by omega))
theorem mj_ldc (hJ : OkJ G own ini cc maxL d nC nS J) {idx : Nat} {z : Int} (hd : decode cc pc = .ok (.ldc idx, 2)) (hz : -2147483648 ≤ z ∧ z ≤ 2147483647) (hc : Cond.constant own idx (i32 z) ∈ lw_tbl) (k : J (pc + 2) ls (vi z :: st) M) : J pc ls st M := by
  obtain ⟨p, e, s, m, args, below, meth, c, R, α0, N0, n0, Qf, ⟨hx, hb, hml, hown, hin⟩, ⟨hts, hbs, hK, hE⟩, hR, rfl⟩ := hJ
  intro α H locs la hw
  have hs := hw.2.2.2.2.1
  have hk := k α H locs la (Wi_st hw (ok_cons hz hs))
  exact lv_ldc hx hb hown (hts _ hc) hd hk
theorem mj_ldcw (hJ : OkJ G own ini cc maxL d nC nS J) {idx : Nat} {z : Int} (hd : decode cc pc = .ok (.ldc_w idx, 3)) (hz : -2147483648 ≤ z ∧ z ≤ 2147483647) (hc : Cond.constant own idx (i32 z) ∈ lw_tbl) (k : J (pc + 3) ls (vi z :: st) M) : J pc ls st M := by
  obtain ⟨p, e, s, m, args, below, meth, c, R, α0, N0, n0, Qf, ⟨hx, hb, hml, hown, hin⟩, ⟨hts, hbs, hK, hE⟩, hR, rfl⟩ := hJ
  intro α H locs la hw
  have hs := hw.2.2.2.2.1
  have hk := k α H locs la (Wi_st hw (ok_cons hz hs))
  exact lv_ldcw hx hb hown (hts _ hc) hd hk
theorem mj_ldc2 (hJ : OkJ G own ini cc maxL d nC nS J) {idx : Nat} {z : Int64} (hd : decode cc pc = .ok (.ldc2_w idx, 3)) (hc : Cond.constantLong own idx z ∈ lw_tbl) (k : J (pc + 3) ls (vj z :: st) M) : J pc ls st M := by
  obtain ⟨p, e, s, m, args, below, meth, c, R, α0, N0, n0, Qf, ⟨hx, hb, hml, hown, hin⟩, ⟨hts, hbs, hK, hE⟩, hR, rfl⟩ := hJ
  intro α H locs la hw
  have hs := hw.2.2.2.2.1
  have hk := k α H locs la (Wi_st hw (ok_cons trivial hs))
  exact lv_ldc2 hx hb hown (hts _ hc) hd hk
theorem mj_iload (hJ : OkJ G own ini cc maxL d nC nS J) {i : Nat} {z : Int} (hd : decode cc pc = .ok (.iload i, 2)) (hl : ls[i]? = some (vi z)) (k : J (pc + 2) ls (vi z :: st) M) : J pc ls st M := by
  obtain ⟨p, e, s, m, args, below, meth, c, R, α0, N0, n0, Qf, ⟨hx, hb, hml, hown, hin⟩, ⟨hts, hbs, hK, hE⟩, hR, rfl⟩ := hJ
  intro α H locs la hw
  have hs := hw.2.2.2.2.1
  have hk := k α H locs la (Wi_st hw (ok_cons (ok_get hw.2.2.2.1 hl) hs))
  exact lv_iload hx hb hd (lvs_get hw.2.2.2.2.2.1 hl (by simp)) hk
theorem mj_iload_n (hJ : OkJ G own ini cc maxL d nC nS J) {n : Fin 4} {z : Int} (hd : decode cc pc = .ok (.iload_n n, 1)) (hl : ls[n.val]? = some (vi z)) (k : J (pc + 1) ls (vi z :: st) M) : J pc ls st M := by
  obtain ⟨p, e, s, m, args, below, meth, c, R, α0, N0, n0, Qf, ⟨hx, hb, hml, hown, hin⟩, ⟨hts, hbs, hK, hE⟩, hR, rfl⟩ := hJ
  intro α H locs la hw
  have hs := hw.2.2.2.2.1
  have hk := k α H locs la (Wi_st hw (ok_cons (ok_get hw.2.2.2.1 hl) hs))
  exact lv_iload_n hx hb hd rfl (lvs_get hw.2.2.2.2.2.1 hl (by simp)) hk
theorem mj_aload (hJ : OkJ G own ini cc maxL d nC nS J) {i r : Nat} (hd : decode cc pc = .ok (.aload i, 2)) (hl : ls[i]? = some (vr r)) (k : J (pc + 2) ls (vr r :: st) M) : J pc ls st M := by
  obtain ⟨p, e, s, m, args, below, meth, c, R, α0, N0, n0, Qf, ⟨hx, hb, hml, hown, hin⟩, ⟨hts, hbs, hK, hE⟩, hR, rfl⟩ := hJ
  intro α H locs la hw
  have hs := hw.2.2.2.2.1
  have hk := k α H locs la (Wi_st hw (ok_cons (ok_get hw.2.2.2.1 hl) hs))
  exact lv_aload hx hb hd (lvs_get hw.2.2.2.2.2.1 hl (by simp)) hk
theorem mj_aload_n (hJ : OkJ G own ini cc maxL d nC nS J) {n : Fin 4} {r : Nat} (hd : decode cc pc = .ok (.aload_n n, 1)) (hl : ls[n.val]? = some (vr r)) (k : J (pc + 1) ls (vr r :: st) M) : J pc ls st M := by
  obtain ⟨p, e, s, m, args, below, meth, c, R, α0, N0, n0, Qf, ⟨hx, hb, hml, hown, hin⟩, ⟨hts, hbs, hK, hE⟩, hR, rfl⟩ := hJ
  intro α H locs la hw
  have hs := hw.2.2.2.2.1
  have hk := k α H locs la (Wi_st hw (ok_cons (ok_get hw.2.2.2.1 hl) hs))
  exact lv_aload_n hx hb hd rfl (lvs_get hw.2.2.2.2.2.1 hl (by simp)) hk
theorem mj_lload_n (hJ : OkJ G own ini cc maxL d nC nS J) {n : Fin 4} {z : Int64} (hd : decode cc pc = .ok (.lload_n n, 1)) (hl : ls[n.val]? = some (vj z)) (k : J (pc + 1) ls (vj z :: st) M) : J pc ls st M := by
  obtain ⟨p, e, s, m, args, below, meth, c, R, α0, N0, n0, Qf, ⟨hx, hb, hml, hown, hin⟩, ⟨hts, hbs, hK, hE⟩, hR, rfl⟩ := hJ
  intro α H locs la hw
  have hs := hw.2.2.2.2.1
  have hk := k α H locs la (Wi_st hw (ok_cons (ok_get hw.2.2.2.1 hl) hs))
  exact lv_lload_n hx hb hd rfl (lvs_get hw.2.2.2.2.2.1 hl (by simp)) hk
theorem mj_istore (hJ : OkJ G own ini cc maxL d nC nS J) {i : Nat} {z : Int} (hd : decode cc pc = .ok (.istore i, 2)) (hi : i < maxL) (hn : noL ls i = true) (k : J (pc + 2) (ls.set i (vi z)) st M) : J pc ls (vi z :: st) M := by
  obtain ⟨p, e, s, m, args, below, meth, c, R, α0, N0, n0, Qf, ⟨hx, hb, hml, hown, hin⟩, ⟨hts, hbs, hK, hE⟩, hR, rfl⟩ := hJ
  intro α H locs la hw
  have hs := hw.2.2.2.2.1
  refine lv_istore hx hb hd hw.2.2.2.2.2.1 hi rfl (fun la' hl => ?_)
  exact k α H locs la' (Wi_ls hw (ok_set hw.2.2.2.1 (ok_h hs)) (ok_t hs) (lvs_has hn hl))
theorem mj_astore (hJ : OkJ G own ini cc maxL d nC nS J) {i : Nat} {z : Nat} (hd : decode cc pc = .ok (.astore i, 2)) (hi : i < maxL) (hn : noL ls i = true) (k : J (pc + 2) (ls.set i (vr z)) st M) : J pc ls (vr z :: st) M := by
  obtain ⟨p, e, s, m, args, below, meth, c, R, α0, N0, n0, Qf, ⟨hx, hb, hml, hown, hin⟩, ⟨hts, hbs, hK, hE⟩, hR, rfl⟩ := hJ
  intro α H locs la hw
  have hs := hw.2.2.2.2.1
  refine lv_astore hx hb hd hw.2.2.2.2.2.1 hi rfl (fun la' hl => ?_)
  exact k α H locs la' (Wi_ls hw (ok_set hw.2.2.2.1 (ok_h hs)) (ok_t hs) (lvs_has hn hl))
theorem mj_istore_n (hJ : OkJ G own ini cc maxL d nC nS J) {n : Fin 4} {z : Int} (hd : decode cc pc = .ok (.istore_n n, 1)) (hi : n.val < maxL) (hn : noL ls n.val = true) (k : J (pc + 1) (ls.set n.val (vi z)) st M) : J pc ls (vi z :: st) M := by
  obtain ⟨p, e, s, m, args, below, meth, c, R, α0, N0, n0, Qf, ⟨hx, hb, hml, hown, hin⟩, ⟨hts, hbs, hK, hE⟩, hR, rfl⟩ := hJ
  intro α H locs la hw
  have hs := hw.2.2.2.2.1
  refine lv_istore_n hx hb hd rfl hw.2.2.2.2.2.1 hi rfl (fun la' hl => ?_)
  exact k α H locs la' (Wi_ls hw (ok_set hw.2.2.2.1 (ok_h hs)) (ok_t hs) (lvs_has hn hl))
theorem mj_astore_n (hJ : OkJ G own ini cc maxL d nC nS J) {n : Fin 4} {z : Nat} (hd : decode cc pc = .ok (.astore_n n, 1)) (hi : n.val < maxL) (hn : noL ls n.val = true) (k : J (pc + 1) (ls.set n.val (vr z)) st M) : J pc ls (vr z :: st) M := by
  obtain ⟨p, e, s, m, args, below, meth, c, R, α0, N0, n0, Qf, ⟨hx, hb, hml, hown, hin⟩, ⟨hts, hbs, hK, hE⟩, hR, rfl⟩ := hJ
  intro α H locs la hw
  have hs := hw.2.2.2.2.1
  refine lv_astore_n hx hb hd rfl hw.2.2.2.2.2.1 hi rfl (fun la' hl => ?_)
  exact k α H locs la' (Wi_ls hw (ok_set hw.2.2.2.1 (ok_h hs)) (ok_t hs) (lvs_has hn hl))
theorem mj_iinc (hJ : OkJ G own ini cc maxL d nC nS J) {i : Nat} {n z : Int} (hd : decode cc pc = .ok (.iinc i n, 3)) (hl : ls[i]? = some (vi z)) (hi : i < maxL) (hn : noL ls i = true) (k : J (pc + 3) (ls.set i (vi (wr (z + n)))) st M) : J pc ls st M := by
  obtain ⟨p, e, s, m, args, below, meth, c, R, α0, N0, n0, Qf, ⟨hx, hb, hml, hown, hin⟩, ⟨hts, hbs, hK, hE⟩, hR, rfl⟩ := hJ
  intro α H locs la hw
  have hs := hw.2.2.2.2.1
  obtain ⟨q, hq⟩ := List.mem_iff_getElem?.mp ((lvs_mem (α := α) ls 0 _).mpr ⟨i, vi z, hl, by simp, rfl⟩)
  rw [Nat.zero_add] at hq
  refine lv_iinc (v := i32 (wr (z + n))) hx hb hd hw.2.2.2.2.2.1 hq (by rw [i32_wr]; exact (Int32.ofInt_add z n).symm) hi rfl (fun la' hl' => ?_)
  exact k α H locs la' (Wi_ls hw (ok_set hw.2.2.2.1 (wr_in _)) hs (lvs_has hn hl'))
theorem mj_iadd (hJ : OkJ G own ini cc maxL d nC nS J) (hd : decode cc pc = .ok (.iadd, 1)) {x y : Int} (k : J (pc + 1) ls (vi (wr (x + y)) :: st) M) : J pc ls (vi y :: vi x :: st) M := by
  obtain ⟨p, e, s, m, args, below, meth, c, R, α0, N0, n0, Qf, ⟨hx, hb, hml, hown, hin⟩, ⟨hts, hbs, hK, hE⟩, hR, rfl⟩ := hJ
  intro α H locs la hw
  have hs := hw.2.2.2.2.1
  have hyR : inR y := ok_h hs
  have hxR : inR x := ok_h (ok_t hs)
  have hk := k α H locs la (Wi_st hw (ok_cons (wr_in _) (ok_t (ok_t hs))))
  refine lv_iadd hx hb hd ?_
  rw [i32_add]
  exact hk
theorem mj_isub (hJ : OkJ G own ini cc maxL d nC nS J) (hd : decode cc pc = .ok (.isub, 1)) {x y : Int} (k : J (pc + 1) ls (vi (wr (x - y)) :: st) M) : J pc ls (vi y :: vi x :: st) M := by
  obtain ⟨p, e, s, m, args, below, meth, c, R, α0, N0, n0, Qf, ⟨hx, hb, hml, hown, hin⟩, ⟨hts, hbs, hK, hE⟩, hR, rfl⟩ := hJ
  intro α H locs la hw
  have hs := hw.2.2.2.2.1
  have hyR : inR y := ok_h hs
  have hxR : inR x := ok_h (ok_t hs)
  have hk := k α H locs la (Wi_st hw (ok_cons (wr_in _) (ok_t (ok_t hs))))
  refine lv_isub hx hb hd ?_
  rw [i32_sub]
  exact hk
theorem mj_imul (hJ : OkJ G own ini cc maxL d nC nS J) (hd : decode cc pc = .ok (.imul, 1)) {x y : Int} (k : J (pc + 1) ls (vi (wr (x * y)) :: st) M) : J pc ls (vi y :: vi x :: st) M := by
  obtain ⟨p, e, s, m, args, below, meth, c, R, α0, N0, n0, Qf, ⟨hx, hb, hml, hown, hin⟩, ⟨hts, hbs, hK, hE⟩, hR, rfl⟩ := hJ
  intro α H locs la hw
  have hs := hw.2.2.2.2.1
  have hyR : inR y := ok_h hs
  have hxR : inR x := ok_h (ok_t hs)
  have hk := k α H locs la (Wi_st hw (ok_cons (wr_in _) (ok_t (ok_t hs))))
  refine lv_imul hx hb hd ?_
  rw [i32_mul]
  exact hk
theorem mj_idiv (hJ : OkJ G own ini cc maxL d nC nS J) (hd : decode cc pc = .ok (.idiv, 1)) {x y : Int} (hy : y ≠ 0) (k : J (pc + 1) ls (vi (wr (x.tdiv y)) :: st) M) : J pc ls (vi y :: vi x :: st) M := by
  obtain ⟨p, e, s, m, args, below, meth, c, R, α0, N0, n0, Qf, ⟨hx, hb, hml, hown, hin⟩, ⟨hts, hbs, hK, hE⟩, hR, rfl⟩ := hJ
  intro α H locs la hw
  have hs := hw.2.2.2.2.1
  have hyR : inR y := ok_h hs
  have hxR : inR x := ok_h (ok_t hs)
  have hk := k α H locs la (Wi_st hw (ok_cons (wr_in _) (ok_t (ok_t hs))))
  refine lv_idiv hx hb hd (fun q => hy ((i32_eq hyR inR_0).mp q)) ?_
  rw [show i32 x / i32 y = i32 (wr (x.tdiv y)) by rw [i32_wr]; exact (Int32.ofInt_tdiv hxR.1 hxR.2 hyR.1 hyR.2).symm]
  exact hk
theorem mj_irem (hJ : OkJ G own ini cc maxL d nC nS J) (hd : decode cc pc = .ok (.irem, 1)) {x y : Int} (hy : y ≠ 0) (k : J (pc + 1) ls (vi (x.tmod y) :: st) M) : J pc ls (vi y :: vi x :: st) M := by
  obtain ⟨p, e, s, m, args, below, meth, c, R, α0, N0, n0, Qf, ⟨hx, hb, hml, hown, hin⟩, ⟨hts, hbs, hK, hE⟩, hR, rfl⟩ := hJ
  intro α H locs la hw
  have hs := hw.2.2.2.2.1
  have hyR : inR y := ok_h hs
  have hxR : inR x := ok_h (ok_t hs)
  have hk := k α H locs la (Wi_st hw (ok_cons (ok_rem hxR hyR) (ok_t (ok_t hs))))
  refine lv_irem hx hb hd (fun q => hy ((i32_eq hyR inR_0).mp q)) ?_
  rw [show i32 x - i32 x / i32 y * i32 y = i32 (x.tmod y) by rw [show i32 x - i32 x / i32 y * i32 y = i32 x % i32 y from irem_eq_mod _ _]; exact (Int32.ofInt_tmod hxR.1 hxR.2 hyR.1 hyR.2).symm]
  exact hk
theorem mj_iand (hJ : OkJ G own ini cc maxL d nC nS J) (hd : decode cc pc = .ok (.iand, 1)) {x y : Int} (k : J (pc + 1) ls (vi ((i32 x &&& i32 y).toInt) :: st) M) : J pc ls (vi y :: vi x :: st) M := by
  obtain ⟨p, e, s, m, args, below, meth, c, R, α0, N0, n0, Qf, ⟨hx, hb, hml, hown, hin⟩, ⟨hts, hbs, hK, hE⟩, hR, rfl⟩ := hJ
  intro α H locs la hw
  have hs := hw.2.2.2.2.1
  have hyR : inR y := ok_h hs
  have hxR : inR x := ok_h (ok_t hs)
  have hk := k α H locs la (Wi_st hw (ok_cons (i32_R _) (ok_t (ok_t hs))))
  refine lv_iand hx hb hd ?_
  rw [← i32_of (i32 x &&& i32 y)]
  exact hk
theorem mj_ior (hJ : OkJ G own ini cc maxL d nC nS J) (hd : decode cc pc = .ok (.ior, 1)) {x y : Int} (k : J (pc + 1) ls (vi ((i32 x ||| i32 y).toInt) :: st) M) : J pc ls (vi y :: vi x :: st) M := by
  obtain ⟨p, e, s, m, args, below, meth, c, R, α0, N0, n0, Qf, ⟨hx, hb, hml, hown, hin⟩, ⟨hts, hbs, hK, hE⟩, hR, rfl⟩ := hJ
  intro α H locs la hw
  have hs := hw.2.2.2.2.1
  have hyR : inR y := ok_h hs
  have hxR : inR x := ok_h (ok_t hs)
  have hk := k α H locs la (Wi_st hw (ok_cons (i32_R _) (ok_t (ok_t hs))))
  refine lv_ior hx hb hd ?_
  rw [← i32_of (i32 x ||| i32 y)]
  exact hk
theorem mj_ixor (hJ : OkJ G own ini cc maxL d nC nS J) (hd : decode cc pc = .ok (.ixor, 1)) {x y : Int} (k : J (pc + 1) ls (vi ((i32 x ^^^ i32 y).toInt) :: st) M) : J pc ls (vi y :: vi x :: st) M := by
  obtain ⟨p, e, s, m, args, below, meth, c, R, α0, N0, n0, Qf, ⟨hx, hb, hml, hown, hin⟩, ⟨hts, hbs, hK, hE⟩, hR, rfl⟩ := hJ
  intro α H locs la hw
  have hs := hw.2.2.2.2.1
  have hyR : inR y := ok_h hs
  have hxR : inR x := ok_h (ok_t hs)
  have hk := k α H locs la (Wi_st hw (ok_cons (i32_R _) (ok_t (ok_t hs))))
  refine lv_ixor hx hb hd ?_
  rw [← i32_of (i32 x ^^^ i32 y)]
  exact hk
theorem mj_ishl (hJ : OkJ G own ini cc maxL d nC nS J) (hd : decode cc pc = .ok (.ishl, 1)) {x y : Int} (k : J (pc + 1) ls (vi ((i32 x <<< (i32 y &&& 31)).toInt) :: st) M) : J pc ls (vi y :: vi x :: st) M := by
  obtain ⟨p, e, s, m, args, below, meth, c, R, α0, N0, n0, Qf, ⟨hx, hb, hml, hown, hin⟩, ⟨hts, hbs, hK, hE⟩, hR, rfl⟩ := hJ
  intro α H locs la hw
  have hs := hw.2.2.2.2.1
  have hyR : inR y := ok_h hs
  have hxR : inR x := ok_h (ok_t hs)
  have hk := k α H locs la (Wi_st hw (ok_cons (i32_R _) (ok_t (ok_t hs))))
  refine lv_ishl hx hb hd ?_
  rw [← i32_of (i32 x <<< (i32 y &&& 31))]
  exact hk
theorem mj_ishr (hJ : OkJ G own ini cc maxL d nC nS J) (hd : decode cc pc = .ok (.ishr, 1)) {x y : Int} (k : J (pc + 1) ls (vi ((i32 x >>> (i32 y &&& 31)).toInt) :: st) M) : J pc ls (vi y :: vi x :: st) M := by
  obtain ⟨p, e, s, m, args, below, meth, c, R, α0, N0, n0, Qf, ⟨hx, hb, hml, hown, hin⟩, ⟨hts, hbs, hK, hE⟩, hR, rfl⟩ := hJ
  intro α H locs la hw
  have hs := hw.2.2.2.2.1
  have hyR : inR y := ok_h hs
  have hxR : inR x := ok_h (ok_t hs)
  have hk := k α H locs la (Wi_st hw (ok_cons (i32_R _) (ok_t (ok_t hs))))
  refine lv_ishr hx hb hd ?_
  rw [← i32_of (i32 x >>> (i32 y &&& 31))]
  exact hk
theorem mj_ineg (hJ : OkJ G own ini cc maxL d nC nS J) (hd : decode cc pc = .ok (.ineg, 1)) {x : Int} (k : J (pc + 1) ls (vi (wr (-x)) :: st) M) : J pc ls (vi x :: st) M := by
  obtain ⟨p, e, s, m, args, below, meth, c, R, α0, N0, n0, Qf, ⟨hx, hb, hml, hown, hin⟩, ⟨hts, hbs, hK, hE⟩, hR, rfl⟩ := hJ
  intro α H locs la hw
  have hs := hw.2.2.2.2.1
  have hk := k α H locs la (Wi_st hw (ok_cons (wr_in _) (ok_t hs)))
  refine lv_ineg hx hb hd ?_
  rw [i32_neg]
  exact hk
theorem mj_i2b (hJ : OkJ G own ini cc maxL d nC nS J) (hd : decode cc pc = .ok (.i2b, 1)) {x : Int} (k : J (pc + 1) ls (vi ((i32 x).toInt8.toInt32.toInt) :: st) M) : J pc ls (vi x :: st) M := by
  obtain ⟨p, e, s, m, args, below, meth, c, R, α0, N0, n0, Qf, ⟨hx, hb, hml, hown, hin⟩, ⟨hts, hbs, hK, hE⟩, hR, rfl⟩ := hJ
  intro α H locs la hw
  have hs := hw.2.2.2.2.1
  have hk := k α H locs la (Wi_st hw (ok_cons (i32_R _) (ok_t hs)))
  exact lv_i2b hx hb hd (by rw [i32_of]) hk
theorem mj_i2s (hJ : OkJ G own ini cc maxL d nC nS J) (hd : decode cc pc = .ok (.i2s, 1)) {x : Int} (k : J (pc + 1) ls (vi ((i32 x).toInt16.toInt32.toInt) :: st) M) : J pc ls (vi x :: st) M := by
  obtain ⟨p, e, s, m, args, below, meth, c, R, α0, N0, n0, Qf, ⟨hx, hb, hml, hown, hin⟩, ⟨hts, hbs, hK, hE⟩, hR, rfl⟩ := hJ
  intro α H locs la hw
  have hs := hw.2.2.2.2.1
  have hk := k α H locs la (Wi_st hw (ok_cons (i32_R _) (ok_t hs)))
  exact lv_i2s hx hb hd (by rw [i32_of]) hk
theorem mj_i2c (hJ : OkJ G own ini cc maxL d nC nS J) (hd : decode cc pc = .ok (.i2c, 1)) {x : Int} (k : J (pc + 1) ls (vi (((i32 x).toUInt32 % 65536).toInt32.toInt) :: st) M) : J pc ls (vi x :: st) M := by
  obtain ⟨p, e, s, m, args, below, meth, c, R, α0, N0, n0, Qf, ⟨hx, hb, hml, hown, hin⟩, ⟨hts, hbs, hK, hE⟩, hR, rfl⟩ := hJ
  intro α H locs la hw
  have hs := hw.2.2.2.2.1
  have hk := k α H locs la (Wi_st hw (ok_cons (i32_R _) (ok_t hs)))
  exact lv_i2c hx hb hd (by rw [i32_of]) hk
theorem mj_i2l (hJ : OkJ G own ini cc maxL d nC nS J) (hd : decode cc pc = .ok (.i2l, 1)) {x : Int} (k : J (pc + 1) ls (vj (i32 x).toInt64 :: st) M) : J pc ls (vi x :: st) M := by
  obtain ⟨p, e, s, m, args, below, meth, c, R, α0, N0, n0, Qf, ⟨hx, hb, hml, hown, hin⟩, ⟨hts, hbs, hK, hE⟩, hR, rfl⟩ := hJ
  intro α H locs la hw
  have hs := hw.2.2.2.2.1
  have hk := k α H locs la (Wi_st hw (ok_cons trivial (ok_t hs)))
  exact lv_i2l hx hb hd rfl hk
theorem mj_l2i (hJ : OkJ G own ini cc maxL d nC nS J) (hd : decode cc pc = .ok (.l2i, 1)) {x : Int64} (k : J (pc + 1) ls (vi x.toInt32.toInt :: st) M) : J pc ls (vj x :: st) M := by
  obtain ⟨p, e, s, m, args, below, meth, c, R, α0, N0, n0, Qf, ⟨hx, hb, hml, hown, hin⟩, ⟨hts, hbs, hK, hE⟩, hR, rfl⟩ := hJ
  intro α H locs la hw
  have hs := hw.2.2.2.2.1
  have hk := k α H locs la (Wi_st hw (ok_cons (i32_R _) (ok_t hs)))
  exact lv_l2i hx hb hd (i32_of _).symm hk
theorem mj_land (hJ : OkJ G own ini cc maxL d nC nS J) (hd : decode cc pc = .ok (.land, 1)) {x y : Int64} (k : J (pc + 1) ls (vj (x &&& y) :: st) M) : J pc ls (vj y :: vj x :: st) M := by
  obtain ⟨p, e, s, m, args, below, meth, c, R, α0, N0, n0, Qf, ⟨hx, hb, hml, hown, hin⟩, ⟨hts, hbs, hK, hE⟩, hR, rfl⟩ := hJ
  intro α H locs la hw
  have hs := hw.2.2.2.2.1
  have hk := k α H locs la (Wi_st hw (ok_cons trivial (ok_t (ok_t hs))))
  exact lv_land hx hb hd hk
theorem mj_lor (hJ : OkJ G own ini cc maxL d nC nS J) (hd : decode cc pc = .ok (.lor, 1)) {x y : Int64} (k : J (pc + 1) ls (vj (x ||| y) :: st) M) : J pc ls (vj y :: vj x :: st) M := by
  obtain ⟨p, e, s, m, args, below, meth, c, R, α0, N0, n0, Qf, ⟨hx, hb, hml, hown, hin⟩, ⟨hts, hbs, hK, hE⟩, hR, rfl⟩ := hJ
  intro α H locs la hw
  have hs := hw.2.2.2.2.1
  have hk := k α H locs la (Wi_st hw (ok_cons trivial (ok_t (ok_t hs))))
  exact lv_lor hx hb hd hk
theorem mj_lshl (hJ : OkJ G own ini cc maxL d nC nS J) (hd : decode cc pc = .ok (.lshl, 1)) {x : Int64} {y : Int} (k : J (pc + 1) ls (vj (x <<< ((i32 y).toInt64 &&& 63)) :: st) M) : J pc ls (vi y :: vj x :: st) M := by
  obtain ⟨p, e, s, m, args, below, meth, c, R, α0, N0, n0, Qf, ⟨hx, hb, hml, hown, hin⟩, ⟨hts, hbs, hK, hE⟩, hR, rfl⟩ := hJ
  intro α H locs la hw
  have hs := hw.2.2.2.2.1
  have hk := k α H locs la (Wi_st hw (ok_cons trivial (ok_t (ok_t hs))))
  exact lv_lshl hx hb hd rfl hk
theorem mj_lshr (hJ : OkJ G own ini cc maxL d nC nS J) (hd : decode cc pc = .ok (.lshr, 1)) {x : Int64} {y : Int} (k : J (pc + 1) ls (vj (x >>> ((i32 y).toInt64 &&& 63)) :: st) M) : J pc ls (vi y :: vj x :: st) M := by
  obtain ⟨p, e, s, m, args, below, meth, c, R, α0, N0, n0, Qf, ⟨hx, hb, hml, hown, hin⟩, ⟨hts, hbs, hK, hE⟩, hR, rfl⟩ := hJ
  intro α H locs la hw
  have hs := hw.2.2.2.2.1
  have hk := k α H locs la (Wi_st hw (ok_cons trivial (ok_t (ok_t hs))))
  exact lv_lshr hx hb hd rfl hk
theorem mj_dupi (hJ : OkJ G own ini cc maxL d nC nS J) (hd : decode cc pc = .ok (.dup, 1)) {x : Int} (k : J (pc + 1) ls (vi x :: vi x :: st) M) : J pc ls (vi x :: st) M := by
  obtain ⟨p, e, s, m, args, below, meth, c, R, α0, N0, n0, Qf, ⟨hx, hb, hml, hown, hin⟩, ⟨hts, hbs, hK, hE⟩, hR, rfl⟩ := hJ
  intro α H locs la hw
  have hs := hw.2.2.2.2.1
  exact lv_dup hx hb hd rfl (k α H locs la (Wi_st hw (ok_cons (ok_h hs) hs)))
theorem mj_dupr (hJ : OkJ G own ini cc maxL d nC nS J) (hd : decode cc pc = .ok (.dup, 1)) {x : Nat} (k : J (pc + 1) ls (vr x :: vr x :: st) M) : J pc ls (vr x :: st) M := by
  obtain ⟨p, e, s, m, args, below, meth, c, R, α0, N0, n0, Qf, ⟨hx, hb, hml, hown, hin⟩, ⟨hts, hbs, hK, hE⟩, hR, rfl⟩ := hJ
  intro α H locs la hw
  have hs := hw.2.2.2.2.1
  exact lv_dup hx hb hd rfl (k α H locs la (Wi_st hw (ok_cons (ok_h hs) hs)))
theorem mj_popi (hJ : OkJ G own ini cc maxL d nC nS J) (hd : decode cc pc = .ok (.pop, 1)) {x : Int} (k : J (pc + 1) ls st M) : J pc ls (vi x :: st) M := by
  obtain ⟨p, e, s, m, args, below, meth, c, R, α0, N0, n0, Qf, ⟨hx, hb, hml, hown, hin⟩, ⟨hts, hbs, hK, hE⟩, hR, rfl⟩ := hJ
  intro α H locs la hw
  have hs := hw.2.2.2.2.1
  exact lv_pop hx hb hd rfl (k α H locs la (Wi_st hw (ok_t hs)))
theorem mj_dup2 (hJ : OkJ G own ini cc maxL d nC nS J) (hd : decode cc pc = .ok (.dup2, 1)) {x : Int} {r : Nat} (k : J (pc + 1) ls (vi x :: vr r :: vi x :: vr r :: st) M) : J pc ls (vi x :: vr r :: st) M := by
  obtain ⟨p, e, s, m, args, below, meth, c, R, α0, N0, n0, Qf, ⟨hx, hb, hml, hown, hin⟩, ⟨hts, hbs, hK, hE⟩, hR, rfl⟩ := hJ
  intro α H locs la hw
  have hs := hw.2.2.2.2.1
  exact lv_dup2_11 hx hb hd rfl rfl (k α H locs la (Wi_st hw (ok_cons (ok_h hs) (ok_cons (ok_h (ok_t hs)) hs))))
theorem mj_icmp_eq (hJ : OkJ G own ini cc maxL d nC nS J) {off : Int} {tgt : Nat} (hd : decode cc pc = .ok (.if_icmp .eq off, 3)) (ht : (pc : Int) + off = (tgt : Int)) {x y : Int} (kt : x = y → J tgt ls st M) (kf : ¬ (x = y) → J (pc + 3) ls st M) : J pc ls (vi y :: vi x :: st) M := by
  obtain ⟨p, e, s, m, args, below, meth, c, R, α0, N0, n0, Qf, ⟨hx, hb, hml, hown, hin⟩, ⟨hts, hbs, hK, hE⟩, hR, rfl⟩ := hJ
  intro α H locs la hw
  have hs := hw.2.2.2.2.1
  have hyR : inR y := ok_h hs
  have hxR : inR x := ok_h (ok_t hs)
  have hi := i32_eq hxR hyR
  exact lv_icmp_eq hx hb hd ht (fun q => kt (hi.mp q) α H locs la (Wi_st hw (ok_t (ok_t hs)))) (fun q => kf (fun z => q (hi.mpr z)) α H locs la (Wi_st hw (ok_t (ok_t hs))))
theorem mj_icmp_ne (hJ : OkJ G own ini cc maxL d nC nS J) {off : Int} {tgt : Nat} (hd : decode cc pc = .ok (.if_icmp .ne off, 3)) (ht : (pc : Int) + off = (tgt : Int)) {x y : Int} (kt : ¬ x = y → J tgt ls st M) (kf : x = y → J (pc + 3) ls st M) : J pc ls (vi y :: vi x :: st) M := by
  obtain ⟨p, e, s, m, args, below, meth, c, R, α0, N0, n0, Qf, ⟨hx, hb, hml, hown, hin⟩, ⟨hts, hbs, hK, hE⟩, hR, rfl⟩ := hJ
  intro α H locs la hw
  have hs := hw.2.2.2.2.1
  have hyR : inR y := ok_h hs
  have hxR : inR x := ok_h (ok_t hs)
  have hi := not_congr (i32_eq hxR hyR)
  exact lv_icmp_ne hx hb hd ht (fun q => kt (hi.mp q) α H locs la (Wi_st hw (ok_t (ok_t hs)))) (fun q => kf ((i32_eq hxR hyR).mp q) α H locs la (Wi_st hw (ok_t (ok_t hs))))
theorem mj_icmp_lt (hJ : OkJ G own ini cc maxL d nC nS J) {off : Int} {tgt : Nat} (hd : decode cc pc = .ok (.if_icmp .lt off, 3)) (ht : (pc : Int) + off = (tgt : Int)) {x y : Int} (kt : x < y → J tgt ls st M) (kf : ¬ (x < y) → J (pc + 3) ls st M) : J pc ls (vi y :: vi x :: st) M := by
  obtain ⟨p, e, s, m, args, below, meth, c, R, α0, N0, n0, Qf, ⟨hx, hb, hml, hown, hin⟩, ⟨hts, hbs, hK, hE⟩, hR, rfl⟩ := hJ
  intro α H locs la hw
  have hs := hw.2.2.2.2.1
  have hyR : inR y := ok_h hs
  have hxR : inR x := ok_h (ok_t hs)
  have hi := i32_lt hxR hyR
  exact lv_icmp_lt hx hb hd ht (fun q => kt (hi.mp q) α H locs la (Wi_st hw (ok_t (ok_t hs)))) (fun q => kf (fun z => q (hi.mpr z)) α H locs la (Wi_st hw (ok_t (ok_t hs))))
theorem mj_icmp_ge (hJ : OkJ G own ini cc maxL d nC nS J) {off : Int} {tgt : Nat} (hd : decode cc pc = .ok (.if_icmp .ge off, 3)) (ht : (pc : Int) + off = (tgt : Int)) {x y : Int} (kt : y ≤ x → J tgt ls st M) (kf : ¬ (y ≤ x) → J (pc + 3) ls st M) : J pc ls (vi y :: vi x :: st) M := by
  obtain ⟨p, e, s, m, args, below, meth, c, R, α0, N0, n0, Qf, ⟨hx, hb, hml, hown, hin⟩, ⟨hts, hbs, hK, hE⟩, hR, rfl⟩ := hJ
  intro α H locs la hw
  have hs := hw.2.2.2.2.1
  have hyR : inR y := ok_h hs
  have hxR : inR x := ok_h (ok_t hs)
  have hi := i32_le hyR hxR
  exact lv_icmp_ge hx hb hd ht (fun q => kt (hi.mp q) α H locs la (Wi_st hw (ok_t (ok_t hs)))) (fun q => kf (fun z => q (hi.mpr z)) α H locs la (Wi_st hw (ok_t (ok_t hs))))
theorem mj_icmp_gt (hJ : OkJ G own ini cc maxL d nC nS J) {off : Int} {tgt : Nat} (hd : decode cc pc = .ok (.if_icmp .gt off, 3)) (ht : (pc : Int) + off = (tgt : Int)) {x y : Int} (kt : y < x → J tgt ls st M) (kf : ¬ (y < x) → J (pc + 3) ls st M) : J pc ls (vi y :: vi x :: st) M := by
  obtain ⟨p, e, s, m, args, below, meth, c, R, α0, N0, n0, Qf, ⟨hx, hb, hml, hown, hin⟩, ⟨hts, hbs, hK, hE⟩, hR, rfl⟩ := hJ
  intro α H locs la hw
  have hs := hw.2.2.2.2.1
  have hyR : inR y := ok_h hs
  have hxR : inR x := ok_h (ok_t hs)
  have hi := i32_lt hyR hxR
  exact lv_icmp_gt hx hb hd ht (fun q => kt (hi.mp q) α H locs la (Wi_st hw (ok_t (ok_t hs)))) (fun q => kf (fun z => q (hi.mpr z)) α H locs la (Wi_st hw (ok_t (ok_t hs))))
theorem mj_icmp_le (hJ : OkJ G own ini cc maxL d nC nS J) {off : Int} {tgt : Nat} (hd : decode cc pc = .ok (.if_icmp .le off, 3)) (ht : (pc : Int) + off = (tgt : Int)) {x y : Int} (kt : x ≤ y → J tgt ls st M) (kf : ¬ (x ≤ y) → J (pc + 3) ls st M) : J pc ls (vi y :: vi x :: st) M := by
  obtain ⟨p, e, s, m, args, below, meth, c, R, α0, N0, n0, Qf, ⟨hx, hb, hml, hown, hin⟩, ⟨hts, hbs, hK, hE⟩, hR, rfl⟩ := hJ
  intro α H locs la hw
  have hs := hw.2.2.2.2.1
  have hyR : inR y := ok_h hs
  have hxR : inR x := ok_h (ok_t hs)
  have hi := i32_le hxR hyR
  exact lv_icmp_le hx hb hd ht (fun q => kt (hi.mp q) α H locs la (Wi_st hw (ok_t (ok_t hs)))) (fun q => kf (fun z => q (hi.mpr z)) α H locs la (Wi_st hw (ok_t (ok_t hs))))
theorem mj_if_eq (hJ : OkJ G own ini cc maxL d nC nS J) {off : Int} {tgt : Nat} (hd : decode cc pc = .ok (.ifCond .eq off, 3)) (ht : (pc : Int) + off = (tgt : Int)) {x : Int} (kt : x = 0 → J tgt ls st M) (kf : ¬ (x = 0) → J (pc + 3) ls st M) : J pc ls (vi x :: st) M := by
  obtain ⟨p, e, s, m, args, below, meth, c, R, α0, N0, n0, Qf, ⟨hx, hb, hml, hown, hin⟩, ⟨hts, hbs, hK, hE⟩, hR, rfl⟩ := hJ
  intro α H locs la hw
  have hs := hw.2.2.2.2.1
  have hxR : inR x := ok_h hs
  have hi := i32_eq hxR inR_0
  exact lv_if_eq hx hb hd ht (fun q => kt (hi.mp q) α H locs la (Wi_st hw (ok_t hs))) (fun q => kf (fun z => q (hi.mpr z)) α H locs la (Wi_st hw (ok_t hs)))
theorem mj_if_ne (hJ : OkJ G own ini cc maxL d nC nS J) {off : Int} {tgt : Nat} (hd : decode cc pc = .ok (.ifCond .ne off, 3)) (ht : (pc : Int) + off = (tgt : Int)) {x : Int} (kt : ¬ x = 0 → J tgt ls st M) (kf : x = 0 → J (pc + 3) ls st M) : J pc ls (vi x :: st) M := by
  obtain ⟨p, e, s, m, args, below, meth, c, R, α0, N0, n0, Qf, ⟨hx, hb, hml, hown, hin⟩, ⟨hts, hbs, hK, hE⟩, hR, rfl⟩ := hJ
  intro α H locs la hw
  have hs := hw.2.2.2.2.1
  have hxR : inR x := ok_h hs
  have hi := not_congr (i32_eq hxR inR_0)
  exact lv_if_ne hx hb hd ht (fun q => kt (hi.mp q) α H locs la (Wi_st hw (ok_t hs))) (fun q => kf ((i32_eq hxR inR_0).mp q) α H locs la (Wi_st hw (ok_t hs)))
theorem mj_if_lt (hJ : OkJ G own ini cc maxL d nC nS J) {off : Int} {tgt : Nat} (hd : decode cc pc = .ok (.ifCond .lt off, 3)) (ht : (pc : Int) + off = (tgt : Int)) {x : Int} (kt : x < 0 → J tgt ls st M) (kf : ¬ (x < 0) → J (pc + 3) ls st M) : J pc ls (vi x :: st) M := by
  obtain ⟨p, e, s, m, args, below, meth, c, R, α0, N0, n0, Qf, ⟨hx, hb, hml, hown, hin⟩, ⟨hts, hbs, hK, hE⟩, hR, rfl⟩ := hJ
  intro α H locs la hw
  have hs := hw.2.2.2.2.1
  have hxR : inR x := ok_h hs
  have hi := i32_lt hxR inR_0
  exact lv_if_lt hx hb hd ht (fun q => kt (hi.mp q) α H locs la (Wi_st hw (ok_t hs))) (fun q => kf (fun z => q (hi.mpr z)) α H locs la (Wi_st hw (ok_t hs)))
theorem mj_if_ge (hJ : OkJ G own ini cc maxL d nC nS J) {off : Int} {tgt : Nat} (hd : decode cc pc = .ok (.ifCond .ge off, 3)) (ht : (pc : Int) + off = (tgt : Int)) {x : Int} (kt : 0 ≤ x → J tgt ls st M) (kf : ¬ (0 ≤ x) → J (pc + 3) ls st M) : J pc ls (vi x :: st) M := by
  obtain ⟨p, e, s, m, args, below, meth, c, R, α0, N0, n0, Qf, ⟨hx, hb, hml, hown, hin⟩, ⟨hts, hbs, hK, hE⟩, hR, rfl⟩ := hJ
  intro α H locs la hw
  have hs := hw.2.2.2.2.1
  have hxR : inR x := ok_h hs
  have hi := i32_le inR_0 hxR
  exact lv_if_ge hx hb hd ht (fun q => kt (hi.mp q) α H locs la (Wi_st hw (ok_t hs))) (fun q => kf (fun z => q (hi.mpr z)) α H locs la (Wi_st hw (ok_t hs)))
theorem mj_if_gt (hJ : OkJ G own ini cc maxL d nC nS J) {off : Int} {tgt : Nat} (hd : decode cc pc = .ok (.ifCond .gt off, 3)) (ht : (pc : Int) + off = (tgt : Int)) {x : Int} (kt : 0 < x → J tgt ls st M) (kf : ¬ (0 < x) → J (pc + 3) ls st M) : J pc ls (vi x :: st) M := by
  obtain ⟨p, e, s, m, args, below, meth, c, R, α0, N0, n0, Qf, ⟨hx, hb, hml, hown, hin⟩, ⟨hts, hbs, hK, hE⟩, hR, rfl⟩ := hJ
  intro α H locs la hw
  have hs := hw.2.2.2.2.1
  have hxR : inR x := ok_h hs
  have hi := i32_lt inR_0 hxR
  exact lv_if_gt hx hb hd ht (fun q => kt (hi.mp q) α H locs la (Wi_st hw (ok_t hs))) (fun q => kf (fun z => q (hi.mpr z)) α H locs la (Wi_st hw (ok_t hs)))
theorem mj_if_le (hJ : OkJ G own ini cc maxL d nC nS J) {off : Int} {tgt : Nat} (hd : decode cc pc = .ok (.ifCond .le off, 3)) (ht : (pc : Int) + off = (tgt : Int)) {x : Int} (kt : x ≤ 0 → J tgt ls st M) (kf : ¬ (x ≤ 0) → J (pc + 3) ls st M) : J pc ls (vi x :: st) M := by
  obtain ⟨p, e, s, m, args, below, meth, c, R, α0, N0, n0, Qf, ⟨hx, hb, hml, hown, hin⟩, ⟨hts, hbs, hK, hE⟩, hR, rfl⟩ := hJ
  intro α H locs la hw
  have hs := hw.2.2.2.2.1
  have hxR : inR x := ok_h hs
  have hi := i32_le hxR inR_0
  exact lv_if_le hx hb hd ht (fun q => kt (hi.mp q) α H locs la (Wi_st hw (ok_t hs))) (fun q => kf (fun z => q (hi.mpr z)) α H locs la (Wi_st hw (ok_t hs)))
theorem mj_goto (hJ : OkJ G own ini cc maxL d nC nS J) {off : Int} {tgt : Nat} (hd : decode cc pc = .ok (.goto off, 3)) (ht : (pc : Int) + off = (tgt : Int)) (k : J tgt ls st M) : J pc ls st M := by
  obtain ⟨p, e, s, m, args, below, meth, c, R, α0, N0, n0, Qf, ⟨hx, hb, hml, hown, hin⟩, ⟨hts, hbs, hK, hE⟩, hR, rfl⟩ := hJ
  intro α H locs la hw
  have hs := hw.2.2.2.2.1
  exact lv_goto hx hb hd ht (k α H locs la hw)
theorem mj_tabIn (hJ : OkJ G own ini cc maxL d nC nS J) {dflt lo hi : Int} {offs : Array Int} {len : Nat} {x off : Int} {tgt : Nat} (hd : decode cc pc = .ok (.tableswitch dflt lo hi offs, len)) (h1 : lo ≤ x) (h2 : x ≤ hi) (ho : offs[(x - lo).toNat]? = some off) (ht : (pc : Int) + off = (tgt : Int)) (k : J tgt ls st M) : J pc ls (vi x :: st) M := by
  obtain ⟨p, e, s, m, args, below, meth, c, R, α0, N0, n0, Qf, ⟨hx, hb, hml, hown, hin⟩, ⟨hts, hbs, hK, hE⟩, hR, rfl⟩ := hJ
  intro α H locs la hw
  have hs := hw.2.2.2.2.1
  have hxR : inR x := ok_h hs
  have ex : (i32 x).toInt = x := i32_t hxR
  exact lv_tableIn hx hb hd (by rw [ex]; omega) (by rw [ex]; omega) (by rw [ex]; exact ho) ht (k α H locs la (Wi_st hw (ok_t hs)))
theorem mj_tabOut (hJ : OkJ G own ini cc maxL d nC nS J) {dflt lo hi : Int} {offs : Array Int} {len : Nat} {x : Int} {tgt : Nat} (hd : decode cc pc = .ok (.tableswitch dflt lo hi offs, len)) (h : x < lo ∨ hi < x) (ht : (pc : Int) + dflt = (tgt : Int)) (k : J tgt ls st M) : J pc ls (vi x :: st) M := by
  obtain ⟨p, e, s, m, args, below, meth, c, R, α0, N0, n0, Qf, ⟨hx, hb, hml, hown, hin⟩, ⟨hts, hbs, hK, hE⟩, hR, rfl⟩ := hJ
  intro α H locs la hw
  have hs := hw.2.2.2.2.1
  have hxR : inR x := ok_h hs
  have ex : (i32 x).toInt = x := i32_t hxR
  exact lv_tableOut hx hb hd (by rw [ex]; exact h) ht (k α H locs la (Wi_st hw (ok_t hs)))
theorem mj_look (hJ : OkJ G own ini cc maxL d nC nS J) {dflt : Int} {ps : Array (Int × Int)} {len : Nat} {x off : Int} {tgt : Nat} (hd : decode cc pc = .ok (.lookupswitch dflt ps, len)) (hp : (ps.toList.zip (ps.toList.drop 1)).all (fun (a, next) => a.1 < next.1) = true) (ho : Op.lookupswitch.offset ps.toList dflt x = off) (ht : (pc : Int) + off = (tgt : Int)) (k : J tgt ls st M) : J pc ls (vi x :: st) M := by
  obtain ⟨p, e, s, m, args, below, meth, c, R, α0, N0, n0, Qf, ⟨hx, hb, hml, hown, hin⟩, ⟨hts, hbs, hK, hE⟩, hR, rfl⟩ := hJ
  intro α H locs la hw
  have hs := hw.2.2.2.2.1
  have hxR : inR x := ok_h hs
  have ex : (i32 x).toInt = x := i32_t hxR
  exact lv_lookup hx hb hd hp (by rw [ex]; exact ho) ht (k α H locs la (Wi_st hw (ok_t hs)))
end MJB
end
section
/-! THE LOGIC, c: rows of the memory -/
def Fw (own : String) (idx c j : Nat) (fin : Bool) : Prop := ∃ (C : String) (T : u_T) (N : Nat), vwCl[c]? = some (C, T, N) ∧ j < N ∧ Cond.fieldLink own idx (T j).1 (T j).2.1 (T j).2.2.1 ∈ lw_tbl ∧ (T j).2.2.2 = fin
theorem cl_ok {c : Nat} {C : String} {T : u_T} {N : Nat} (h : vwCl[c]? = some (C, T, N)) : (∀ w ∈ u_ws C T N, w ∈ lw_tbl) ∧ (∀ k, k < N → parseFieldDescriptor (T k).2.2.1 = some (tyOf c k)) ∧ (∀ a, a < N → ∀ b, b < N → a ≠ b → (T a).2.1 ≠ (T b).2.1) ∧ c < 16 := by
  match c, h with
  | 0, h => cases h; exact ⟨inX0, tyX0_ok, nmX0, by omega⟩
  | 1, h => cases h; exact ⟨inX1, tyX1_ok, nmX1, by omega⟩
  | 2, h => cases h; exact ⟨inX2, tyX2_ok, nmX2, by omega⟩
  | 3, h => cases h; exact ⟨inX3, tyX3_ok, nmX3, by omega⟩
  | 4, h => cases h; exact ⟨inX4, tyX4_ok, nmX4, by omega⟩
  | 5, h => cases h; exact ⟨inX5, tyX5_ok, nmX5, by omega⟩
  | 6, h => cases h; exact ⟨inX6, tyX6_ok, nmX6, by omega⟩
  | 7, h => cases h; exact ⟨inX7, tyX7_ok, nmX7, by omega⟩
  | 8, h => cases h; exact ⟨inX8, tyX8_ok, nmX8, by omega⟩
  | 9, h => cases h; exact ⟨inX9, tyX9_ok, nmX9, by omega⟩
  | k + 10, h => simp at h
theorem cE_o {G : GE} {α : Nat → Nat} {M : Mem} {k c n : Nat} (h : c < 16) : cE G α M k (c, n) = .inr (c, (List.range n).map (cF α M k c)) := by
  unfold cE
  rw [if_pos h]
theorem cE_16 {G : GE} {α : Nat → Nat} {M : Mem} {k n : Nat} : cE G α M k (16, n) = .inl (G.2.2.1.1, n, .inl (fun j => i32 (M.1 k j))) := rfl
theorem cE_17 {G : GE} {α : Nat → Nat} {M : Mem} {k n : Nat} : cE G α M k (17, n) = .inl (G.2.2.1.2.1, n, .inl (fun j => i32 (M.1 k j))) := rfl
theorem cE_18 {G : GE} {α : Nat → Nat} {M : Mem} {k n : Nat} : cE G α M k (18, n) = .inl (G.2.2.1.2.2.1, n, .inr (.inr (.inr (.inr (fun j => (M.2.1 k j).map α))))) := rfl
theorem cE_19 {G : GE} {α : Nat → Nat} {M : Mem} {k n : Nat} : cE G α M k (19, n) = .inl (G.2.2.1.2.2.2, n, .inr (.inr (.inr (.inr (fun j => (M.2.1 k j).map α))))) := rfl
theorem cF_at {α : Nat → Nat} {M : Mem} {k c n j : Nat} (h : j < n) : ((List.range n).map (cF α M k c))[j]? = some (cF α M k c j) := by
  simp [List.getElem?_map, List.getElem?_range h]
theorem cF_I {α : Nat → Nat} {M : Mem} {k c j : Nat} (h : fR c j = false) : cF α M k c j = .int (i32 (M.1 k j)) := by
  unfold cF
  rw [if_neg (by rw [h]; decide)]
theorem cF_R {α : Nat → Nat} {M : Mem} {k c j r : Nat} (h : fR c j = true) (hr : M.2.1 k j = some r) : cF α M k c j = .ref (α r) := by
  unfold cF
  rw [if_pos h, hr]
  rfl
theorem cF_set {α : Nat → Nat} {M M' : Mem} {k c n j : Nat} {v : Value} (hj : j < n) (h1 : ∀ i : Nat, i ≠ j → M'.1 k i = M.1 k i) (h2 : ∀ i : Nat, i ≠ j → M'.2.1 k i = M.2.1 k i) (hv : v = cF α M' k c j) : ((List.range n).map (cF α M k c)).set j v = (List.range n).map (cF α M' k c) := by
  apply List.ext_getElem?
  intro i
  by_cases hi : i = j
  · subst hi
    rw [List.getElem?_set_self (by simpa using hj), cF_at hj, hv]
  · rw [List.getElem?_set_ne (Ne.symm hi)]
    by_cases hn : i < n
    · rw [cF_at hn, cF_at hn]
      unfold cF
      rw [h1 i hi, h2 i hi]
    · rw [List.getElem?_eq_none (by simpa using Nat.le_of_not_lt hn), List.getElem?_eq_none (by simpa using Nat.le_of_not_lt hn)]
theorem toN {i : Int} (h : 0 ≤ i) : ((i.toNat : Nat) : Int) = i := Int.toNat_of_nonneg h
theorem nar_ref {ty : FieldType} {a : Nat} (h : isRf ty = true) : narrow ty (.ref a) = .ref a ∧ fits ty (.ref a) = true := by
  cases ty <;> first | exact ⟨rfl, rfl⟩ | cases h
section MJC
variable {G : GE} {own : String} {ini : Bool} {cc : ByteArray} {maxL d nC nS : Nat} {J : Jd} {pc : Nat} {ls st : List Vl} {M : Mem}
theorem mj_getI (hJ : OkJ G own ini cc maxL d nC nS J) {idx c j k n : Nat} {fin : Bool} (hd : decode cc pc = .ok (.getfield idx, 3)) (hf : Fw own idx c j fin) (hk : M.2.2[k]? = some (c, n)) (hn : j < n) (hr : fR c j = false) (kk : J (pc + 3) ls (vi (M.1 k j) :: st) M) : J pc ls (vr k :: st) M := by
  obtain ⟨p, e, s, m, args, below, meth, c0, R, α0, N0, n0, Qf, ⟨hx, hb, hml, hown, hin⟩, ⟨hts, hbs, hK, hE⟩, hR, rfl⟩ := hJ
  intro α H locs la hw
  have hs := hw.2.2.2.2.1
  obtain ⟨C, T, N, hc, hj, hl, -⟩ := hf
  have ho := cl_ok hc
  have he := wd_at (G := G) (α := α) hk
  rw [cE_o ho.2.2.2] at he
  refine va_get hx hb hts ho.1 hown hK hw.2.1.1 k he hc j hj (hts _ hl) (fun _ h => h) (cF_at hn) hd ?_
  rw [cF_I hr]
  exact kk α H locs la (Wi_st hw (ok_cons (hw.2.2.1.1 k j) (ok_t hs)))
theorem mj_getR (hJ : OkJ G own ini cc maxL d nC nS J) {idx c j k n r : Nat} {fin : Bool} (hd : decode cc pc = .ok (.getfield idx, 3)) (hf : Fw own idx c j fin) (hk : M.2.2[k]? = some (c, n)) (hn : j < n) (hr : fR c j = true) (hv : M.2.1 k j = some r) (kk : J (pc + 3) ls (vr r :: st) M) : J pc ls (vr k :: st) M := by
  obtain ⟨p, e, s, m, args, below, meth, c0, R, α0, N0, n0, Qf, ⟨hx, hb, hml, hown, hin⟩, ⟨hts, hbs, hK, hE⟩, hR, rfl⟩ := hJ
  intro α H locs la hw
  have hs := hw.2.2.2.2.1
  obtain ⟨C, T, N, hc, hj, hl, -⟩ := hf
  have ho := cl_ok hc
  have he := wd_at (G := G) (α := α) hk
  rw [cE_o ho.2.2.2] at he
  refine va_get hx hb hts ho.1 hown hK hw.2.1.1 k he hc j hj (hts _ hl) (fun _ h => h) (cF_at hn) hd ?_
  rw [cF_R hr hv]
  exact kk α H locs la (Wi_st hw (ok_cons (hw.2.2.1.2 k j r hv) (ok_t hs)))
/-- behind a write of one cell -/
theorem Wi_put {s : State} {α0 : Nat → Nat} {N0 n0 : Nat} {α : Nat → Nat} {H H1 : Heap} {locs locs1 : List Loc} {la : Array Slot} {st' : List Vl} {M' : Mem} (h : Wi G s α0 N0 n0 maxL nC nS α H locs la ls st M) (hS : M'.2.2 = M.2.2) (hP : va_P (gD G) vwCl (wd G α M') H1) (hD : va_D (gB G) (wd G α M')) (hs : va_S (gB G) s.heap H1 locs1) (hm : okM M') (hst : ∀ v ∈ st', okV M.2.2.length v) : Wi G s α0 N0 n0 maxL nC nS α H1 locs1 la ls st' M' := by
  obtain ⟨a1, a2, a3, a4, a5, a6, a7⟩ := h
  refine ⟨a1, ⟨hP, hD, hs⟩, hm, ?_, ?_, a6, ?_⟩
  · rw [hS]; exact a4
  · rw [hS]; exact hst
  · rw [hS]; exact a7
theorem mj_putI (hJ : OkJ G own ini cc maxL d nC nS J) {idx c j k n : Nat} {z : Int} (hd : decode cc pc = .ok (.putfield idx, 3)) (hf : Fw own idx c j false) (hk : M.2.2[k]? = some (c, n)) (hn : j < n) (ht : tyOf c j = .int) (kk : J (pc + 3) ls st (upI M.1 k j z, M.2)) : J pc ls (vi z :: vr k :: st) M := by
  obtain ⟨p, e, s, m, args, below, meth, c0, R, α0, N0, n0, Qf, ⟨hx, hb, hml, hown, hin⟩, ⟨hts, hbs, hK, hE⟩, hR, rfl⟩ := hJ
  intro α H locs la hw
  have hs := hw.2.2.2.2.1
  obtain ⟨C, T, N, hc, hj, hl, hfin⟩ := hf
  have ho := cl_ok hc
  have hr : fR c j = false := by unfold fR; rw [ht]; rfl
  have he := wd_at (G := G) (α := α) hk
  rw [cE_o ho.2.2.2] at he
  refine va_put (ty := tyOf c j) (v := .int (i32 z)) hx hb hts ho.1 (tyOf c) ho.2.1 ho.2.2.1 hown hK hw.2.1.1 hw.2.1.2.1 hw.2.1.2.2 k he hc j hj (hts _ hl) (fun _ h => h) hfin (ho.2.1 j hj) (by rw [ht]; rfl) (by rw [ht]; rfl) (by simpa using hn) hd (fun H1 locs1 hP hD hS => ?_)
  have e := wd_set (G := G) (α := α) (M := M) (M' := (upI M.1 k j z, M.2)) (e := .inr (c, ((List.range n).map (cF α M k c)).set j (.int (i32 z)))) hk rfl (fun a ha => upI_ne ha) (fun _ _ => rfl)
    (by
      rw [cE_o ho.2.2.2]
      exact congrArg (fun l => Sum.inr (c, l)) (cF_set (M := M) (α := α) (k := k) (c := c) hn (M' := (upI M.1 k j z, M.2)) (fun i hi => by show upI M.1 k j z k i = _; rw [upI_at, if_neg (by omega)]) (fun _ _ => rfl) (by rw [cF_I hr]; show _ = Value.int (i32 (upI M.1 k j z k j)); rw [upI_at, if_pos rfl])))
  rw [e] at hP hD
  exact kk α H1 locs1 la (Wi_put hw rfl hP hD hS (okM_upI hw.2.2.1 (ok_h hs)) (ok_t (ok_t hs)))
theorem mj_putZ (hJ : OkJ G own ini cc maxL d nC nS J) {idx c j k n : Nat} {z : Int} (hd : decode cc pc = .ok (.putfield idx, 3)) (hf : Fw own idx c j false) (hk : M.2.2[k]? = some (c, n)) (hn : j < n) (ht : tyOf c j = .boolean) (hz : z = 0 ∨ z = 1) (kk : J (pc + 3) ls st (upI M.1 k j z, M.2)) : J pc ls (vi z :: vr k :: st) M := by
  obtain ⟨p, e, s, m, args, below, meth, c0, R, α0, N0, n0, Qf, ⟨hx, hb, hml, hown, hin⟩, ⟨hts, hbs, hK, hE⟩, hR, rfl⟩ := hJ
  intro α H locs la hw
  have hs := hw.2.2.2.2.1
  obtain ⟨C, T, N, hc, hj, hl, hfin⟩ := hf
  have ho := cl_ok hc
  have hr : fR c j = false := by unfold fR; rw [ht]; rfl
  have he := wd_at (G := G) (α := α) hk
  rw [cE_o ho.2.2.2] at he
  refine va_put (ty := tyOf c j) (v := .int (i32 z)) hx hb hts ho.1 (tyOf c) ho.2.1 ho.2.2.1 hown hK hw.2.1.1 hw.2.1.2.1 hw.2.1.2.2 k he hc j hj (hts _ hl) (fun _ h => h) hfin (ho.2.1 j hj) (by rw [ht]; rcases hz with rfl | rfl <;> rfl) (by rw [ht]; rcases hz with rfl | rfl <;> rfl) (by simpa using hn) hd (fun H1 locs1 hP hD hS => ?_)
  have e := wd_set (G := G) (α := α) (M := M) (M' := (upI M.1 k j z, M.2)) (e := .inr (c, ((List.range n).map (cF α M k c)).set j (.int (i32 z)))) hk rfl (fun a ha => upI_ne ha) (fun _ _ => rfl)
    (by
      rw [cE_o ho.2.2.2]
      exact congrArg (fun l => Sum.inr (c, l)) (cF_set (M := M) (α := α) (k := k) (c := c) hn (M' := (upI M.1 k j z, M.2)) (fun i hi => by show upI M.1 k j z k i = _; rw [upI_at, if_neg (by omega)]) (fun _ _ => rfl) (by rw [cF_I hr]; show _ = Value.int (i32 (upI M.1 k j z k j)); rw [upI_at, if_pos rfl])))
  rw [e] at hP hD
  exact kk α H1 locs1 la (Wi_put hw rfl hP hD hS (okM_upI hw.2.2.1 (ok_h hs)) (ok_t (ok_t hs)))
theorem mj_putR (hJ : OkJ G own ini cc maxL d nC nS J) {idx c j k n r : Nat} (hd : decode cc pc = .ok (.putfield idx, 3)) (hf : Fw own idx c j false) (hk : M.2.2[k]? = some (c, n)) (hn : j < n) (ht : fR c j = true) (kk : J (pc + 3) ls st (M.1, upR M.2.1 k j (some r), M.2.2)) : J pc ls (vr r :: vr k :: st) M := by
  obtain ⟨p, e, s, m, args, below, meth, c0, R, α0, N0, n0, Qf, ⟨hx, hb, hml, hown, hin⟩, ⟨hts, hbs, hK, hE⟩, hR, rfl⟩ := hJ
  intro α H locs la hw
  have hs := hw.2.2.2.2.1
  obtain ⟨C, T, N, hc, hj, hl, hfin⟩ := hf
  have ho := cl_ok hc
  have he := wd_at (G := G) (α := α) hk
  rw [cE_o ho.2.2.2] at he
  refine va_put (ty := tyOf c j) (v := .ref (α r)) hx hb hts ho.1 (tyOf c) ho.2.1 ho.2.2.1 hown hK hw.2.1.1 hw.2.1.2.1 hw.2.1.2.2 k he hc j hj (hts _ hl) (fun _ h => h) hfin (ho.2.1 j hj) (nar_ref ht).1 (nar_ref ht).2 (by simpa using hn) hd (fun H1 locs1 hP hD hS => ?_)
  have e := wd_set (G := G) (α := α) (M := M) (M' := (M.1, upR M.2.1 k j (some r), M.2.2)) (e := .inr (c, ((List.range n).map (cF α M k c)).set j (.ref (α r)))) hk rfl (fun _ _ => rfl) (fun a ha => upR_ne ha)
    (by
      rw [cE_o ho.2.2.2]
      exact congrArg (fun l => Sum.inr (c, l)) (cF_set (M := M) (α := α) (k := k) (c := c) hn (M' := (M.1, upR M.2.1 k j (some r), M.2.2)) (fun _ _ => rfl) (fun i hi => by show upR M.2.1 k j (some r) k i = _; rw [upR_at, if_neg (by omega)]) (by rw [cF_R ht (r := r) (by show upR M.2.1 k j (some r) k j = _; rw [upR_at, if_pos rfl])])))
  rw [e] at hP hD
  exact kk α H1 locs1 la (Wi_put hw rfl hP hD hS (okM_upR hw.2.2.1 (ok_h hs)) (ok_t (ok_t hs)))
theorem mj_putFR (hJ : OkJ G own true cc maxL d nC nS J) {idx c j k n r : Nat} (hd : decode cc pc = .ok (.putfield idx, 3)) (hf : Fw own idx c j true) (hdc : ∀ C T N, vwCl[c]? = some (C, T, N) → (T j).1 = own) (hk : M.2.2[k]? = some (c, n)) (hn : j < n) (ht : fR c j = true) (kk : J (pc + 3) ls st (M.1, upR M.2.1 k j (some r), M.2.2)) : J pc ls (vr r :: vr k :: st) M := by
  obtain ⟨p, e, s, m, args, below, meth, c0, R, α0, N0, n0, Qf, ⟨hx, hb, hml, hown, hin⟩, ⟨hts, hbs, hK, hE⟩, hR, rfl⟩ := hJ
  intro α H locs la hw
  have hs := hw.2.2.2.2.1
  obtain ⟨C, T, N, hc, hj, hl, hfin⟩ := hf
  have ho := cl_ok hc
  have he := wd_at (G := G) (α := α) hk
  rw [cE_o ho.2.2.2] at he
  refine va_putF (ty := tyOf c j) (v := .ref (α r)) hx hb hts ho.1 (tyOf c) ho.2.1 ho.2.2.1 hown hK hw.2.1.1 hw.2.1.2.1 hw.2.1.2.2 k he hc j hj (hts _ hl) (fun _ h => h) hfin (hin rfl) (hdc C T N hc) (ho.2.1 j hj) (nar_ref ht).1 (nar_ref ht).2 (by simpa using hn) hd (fun H1 locs1 hP hD hS => ?_)
  have e := wd_set (G := G) (α := α) (M := M) (M' := (M.1, upR M.2.1 k j (some r), M.2.2)) (e := .inr (c, ((List.range n).map (cF α M k c)).set j (.ref (α r)))) hk rfl (fun _ _ => rfl) (fun a ha => upR_ne ha)
    (by
      rw [cE_o ho.2.2.2]
      exact congrArg (fun l => Sum.inr (c, l)) (cF_set (M := M) (α := α) (k := k) (c := c) hn (M' := (M.1, upR M.2.1 k j (some r), M.2.2)) (fun _ _ => rfl) (fun i hi => by show upR M.2.1 k j (some r) k i = _; rw [upR_at, if_neg (by omega)]) (by rw [cF_R ht (r := r) (by show upR M.2.1 k j (some r) k j = _; rw [upR_at, if_pos rfl])])))
  rw [e] at hP hD
  exact kk α H1 locs1 la (Wi_put hw rfl hP hD hS (okM_upR hw.2.2.1 (ok_h hs)) (ok_t (ok_t hs)))
theorem mj_iald (hJ : OkJ G own ini cc maxL d nC nS J) {k n : Nat} {i : Int} (hd : decode cc pc = .ok (.iaload, 1)) (hk : M.2.2[k]? = some (16, n)) (h0 : 0 ≤ i) (hi : i < n) (kk : J (pc + 1) ls (vi (M.1 k i) :: st) M) : J pc ls (vi i :: vr k :: st) M := by
  obtain ⟨p, e, s, m, args, below, meth, c0, R, α0, N0, n0, Qf, ⟨hx, hb, hml, hown, hin⟩, ⟨hts, hbs, hK, hE⟩, hR, rfl⟩ := hJ
  intro α H locs la hw
  have hs := hw.2.2.2.2.1
  have hiR : inR i := ok_h hs
  have he := wd_at (G := G) (α := α) hk
  rw [cE_16] at he
  refine va_iald hx hb hK hw.2.1.1 k 0 he rfl (i32_pin hiR h0 hi) hd ?_
  rw [i32_c hiR, toN h0]
  exact kk α H locs la (Wi_st hw (ok_cons (hw.2.2.1.1 k i) (ok_t (ok_t hs))))
theorem mj_zald (hJ : OkJ G own ini cc maxL d nC nS J) {k n : Nat} {i : Int} (hd : decode cc pc = .ok (.baload, 1)) (hk : M.2.2[k]? = some (17, n)) (h0 : 0 ≤ i) (hi : i < n) (kk : J (pc + 1) ls (vi (M.1 k i) :: st) M) : J pc ls (vi i :: vr k :: st) M := by
  obtain ⟨p, e, s, m, args, below, meth, c0, R, α0, N0, n0, Qf, ⟨hx, hb, hml, hown, hin⟩, ⟨hts, hbs, hK, hE⟩, hR, rfl⟩ := hJ
  intro α H locs la hw
  have hs := hw.2.2.2.2.1
  have hiR : inR i := ok_h hs
  have he := wd_at (G := G) (α := α) hk
  rw [cE_17] at he
  refine va_zald hx hb hK hw.2.1.1 k 1 he rfl (i32_pin hiR h0 hi) hd ?_
  rw [i32_c hiR, toN h0]
  exact kk α H locs la (Wi_st hw (ok_cons (hw.2.2.1.1 k i) (ok_t (ok_t hs))))
theorem upd_fn {f : Int → Int} {i z : Int} (h0 : 0 ≤ i) : upd (fun j => i32 (f j)) i.toNat (i32 z) = fun j : Nat => i32 (if (j : Int) = i then z else f j) := by
  funext j
  unfold upd
  by_cases h : j = i.toNat
  · rw [if_pos h, if_pos (by omega)]
  · rw [if_neg h, if_neg (by omega)]
theorem mj_iast (hJ : OkJ G own ini cc maxL d nC nS J) {k n : Nat} {i z : Int} (hd : decode cc pc = .ok (.iastore, 1)) (hk : M.2.2[k]? = some (16, n)) (h0 : 0 ≤ i) (hi : i < n) (kk : J (pc + 1) ls st (upI M.1 k i z, M.2)) : J pc ls (vi z :: vi i :: vr k :: st) M := by
  obtain ⟨p, e, s, m, args, below, meth, c0, R, α0, N0, n0, Qf, ⟨hx, hb, hml, hown, hin⟩, ⟨hts, hbs, hK, hE⟩, hR, rfl⟩ := hJ
  intro α H locs la hw
  have hs := hw.2.2.2.2.1
  have hiR : inR i := ok_h (ok_t hs)
  have he := wd_at (G := G) (α := α) hk
  rw [cE_16] at he
  refine va_iast hx hb hK hw.2.1.1 hw.2.1.2.1 hw.2.1.2.2 k 0 he rfl (i32_pin hiR h0 hi) hd (fun H1 locs1 hP hD hS => ?_)
  have e := wd_set (G := G) (α := α) (M := M) (M' := (upI M.1 k i z, M.2)) (e := .inl (G.2.2.1.1, n, .inl (upd (fun j => i32 (M.1 k j)) (i32 i).toNatClampNeg (i32 z)))) hk rfl (fun a ha => upI_ne ha) (fun _ _ => rfl)
    (by
      rw [cE_16, i32_c hiR, upd_fn h0]
      congr 4
      funext j
      show _ = i32 (upI M.1 k i z k j)
      rw [upI_at])
  rw [e] at hP hD
  exact kk α H1 locs1 la (Wi_put hw rfl hP hD hS (okM_upI hw.2.2.1 (ok_h hs)) (ok_t (ok_t (ok_t hs))))
theorem mj_zast (hJ : OkJ G own ini cc maxL d nC nS J) {k n : Nat} {i z : Int} (hd : decode cc pc = .ok (.bastore, 1)) (hk : M.2.2[k]? = some (17, n)) (h0 : 0 ≤ i) (hi : i < n) (hz : z = 0 ∨ z = 1) (kk : J (pc + 1) ls st (upI M.1 k i z, M.2)) : J pc ls (vi z :: vi i :: vr k :: st) M := by
  obtain ⟨p, e, s, m, args, below, meth, c0, R, α0, N0, n0, Qf, ⟨hx, hb, hml, hown, hin⟩, ⟨hts, hbs, hK, hE⟩, hR, rfl⟩ := hJ
  intro α H locs la hw
  have hs := hw.2.2.2.2.1
  have hiR : inR i := ok_h (ok_t hs)
  have he := wd_at (G := G) (α := α) hk
  rw [cE_17] at he
  refine va_zast hx hb hK hw.2.1.1 hw.2.1.2.1 hw.2.1.2.2 k 1 he rfl (i32_pin hiR h0 hi) hd (fun H1 locs1 hP hD hS => ?_)
  have hnz : vp_nar .boolean (i32 z) = i32 z := by rcases hz with rfl | rfl <;> rfl
  rw [hnz] at hP hD
  have e := wd_set (G := G) (α := α) (M := M) (M' := (upI M.1 k i z, M.2)) (e := .inl (G.2.2.1.2.1, n, .inl (upd (fun j => i32 (M.1 k j)) (i32 i).toNatClampNeg (i32 z)))) hk rfl (fun a ha => upI_ne ha) (fun _ _ => rfl)
    (by
      rw [cE_17, i32_c hiR, upd_fn h0]
      congr 4
      funext j
      show _ = i32 (upI M.1 k i z k j)
      rw [upI_at])
  rw [e] at hP hD
  exact kk α H1 locs1 la (Wi_put hw rfl hP hD hS (okM_upI hw.2.2.1 (ok_h hs)) (ok_t (ok_t (ok_t hs))))
theorem mj_aald (hJ : OkJ G own ini cc maxL d nC nS J) {k n r kd : Nat} {i : Int} (hd : decode cc pc = .ok (.aaload, 1)) (hk : M.2.2[k]? = some (kd, n)) (hkd : kd = 18 ∨ kd = 19) (h0 : 0 ≤ i) (hi : i < n) (hr : M.2.1 k i = some r) (kk : J (pc + 1) ls (vr r :: st) M) : J pc ls (vi i :: vr k :: st) M := by
  obtain ⟨p, e, s, m, args, below, meth, c0, R, α0, N0, n0, Qf, ⟨hx, hb, hml, hown, hin⟩, ⟨hts, hbs, hK, hE⟩, hR, rfl⟩ := hJ
  intro α H locs la hw
  have hs := hw.2.2.2.2.1
  have hiR : inR i := ok_h hs
  have he := wd_at (G := G) (α := α) hk
  have hpi := i32_pin hiR h0 hi
  have hlt : (i32 i).toNatClampNeg < n := by rw [i32_c hiR]; omega
  have hk2 := kk α H locs la (Wi_st hw (ok_cons (hw.2.2.1.2 k i r hr) (ok_t (ok_t hs))))
  have hv : ((M.2.1 k (((i32 i).toNatClampNeg : Nat) : Int)).map α) = some (α r) := by rw [i32_c hiR, toN h0, hr]; rfl
  rcases hkd with rfl | rfl
  · rw [cE_18] at he
    exact W.aald (v := .ref (α r)) (ty := .array .int) hx hb (hw.2.1.1 k _ he) ((hK.2 2 _ rfl).1 n (fun j => va_rf ((M.2.1 k j).map α))) rfl (fun q => by cases q) (by show ¬ (i32 i < 0 ∨ (arrV _ _ _).slots.size ≤ _); rw [arrV_size]; exact hpi) (by show (arrV _ _ _).slots[_]? = _; rw [arrV_read _ _ hlt]; exact congrArg (fun o => some (va_rf o)) hv) rfl rfl hd hk2
  · rw [cE_19] at he
    exact W.aald (v := .ref (α r)) (ty := .object "WaterThanks$Sheet") hx hb (hw.2.1.1 k _ he) ((hK.2 3 _ rfl).1 n (fun j => va_rf ((M.2.1 k j).map α))) rfl (fun q => by cases q) (by show ¬ (i32 i < 0 ∨ (arrV _ _ _).slots.size ≤ _); rw [arrV_size]; exact hpi) (by show (arrV _ _ _).slots[_]? = _; rw [arrV_read _ _ hlt]; exact congrArg (fun o => some (va_rf o)) hv) rfl rfl hd hk2
theorem mj_alen (hJ : OkJ G own ini cc maxL d nC nS J) {k n : Nat} (hd : decode cc pc = .ok (.arraylength, 1)) (hk : M.2.2[k]? = some (16, n)) (hn : n < 2147483648) (kk : J (pc + 1) ls (vi n :: st) M) : J pc ls (vr k :: st) M := by
  obtain ⟨p, e, s, m, args, below, meth, c0, R, α0, N0, n0, Qf, ⟨hx, hb, hml, hown, hin⟩, ⟨hts, hbs, hK, hE⟩, hR, rfl⟩ := hJ
  intro α H locs la hw
  have hs := hw.2.2.2.2.1
  have he := wd_at (G := G) (α := α) hk
  rw [cE_16] at he
  exact va_alen (ty := .int) hx hb hK hw.2.1.1 k 0 he rfl (v := i32 n) (Int32.ofInt_eq_ofNat).symm hd (kk α H locs la (Wi_st hw (ok_cons ⟨by omega, by omega⟩ (ok_t hs))))
/-! what lies outside -/
theorem gA_of {s : State} {α0 : Nat → Nat} {N0 n0 : Nat} {α : Nat → Nat} {H : Heap} {locs : List Loc} {la : Array Slot} (h : Wi G s α0 N0 n0 maxL nC nS α H locs la ls st M) {k : Nat} (hk : 1000 ≤ k) : α k = gA G k := h.1.2 k hk
theorem mj_tald (hJ : OkJ G own ini cc maxL d nC nS J) {t n : Nat} {f : Int → Int} {i : Int} (hd : decode cc pc = .ok (.iaload, 1)) (ht : t < 6) (hG : gT G t = (n, f)) (h0 : 0 ≤ i) (hi : i < n) (hR0 : inR (f i)) (kk : J (pc + 1) ls (vi (f i) :: st) M) : J pc ls (vi i :: vr (2000 + t) :: st) M := by
  obtain ⟨p, e, s, m, args, below, meth, c0, R, α0, N0, n0, Qf, ⟨hx, hb, hml, hown, hin⟩, ⟨hts, hbs, hK, hE⟩, hR, rfl⟩ := hJ
  intro α H locs la hw
  have hs := hw.2.2.2.2.1
  have hiR : inR i := ok_h hs
  have hT := hE.2.1 t ht
  rw [hG] at hT
  have hk2 := kk α H locs la (Wi_st hw (ok_cons hR0 (ok_t (ok_t hs))))
  have e2 : toV α (vr (2000 + t)) = .ref (gA G (2000 + t)) := congrArg Value.ref (gA_of hw (by omega))
  rw [List.map_cons, List.map_cons, e2]
  exact va_ti hx hb hT hw.2.1.2.2 (i32_pin hiR h0 hi) (by rw [i32_c hiR, toN h0]; rfl) hd hk2
theorem mj_tlen (hJ : OkJ G own ini cc maxL d nC nS J) {t n : Nat} {f : Int → Int} (hd : decode cc pc = .ok (.arraylength, 1)) (ht : t < 6) (hG : gT G t = (n, f)) (hn : n < 2147483648) (kk : J (pc + 1) ls (vi n :: st) M) : J pc ls (vr (2000 + t) :: st) M := by
  obtain ⟨p, e, s, m, args, below, meth, c0, R, α0, N0, n0, Qf, ⟨hx, hb, hml, hown, hin⟩, ⟨hts, hbs, hK, hE⟩, hR, rfl⟩ := hJ
  intro α H locs la hw
  have hs := hw.2.2.2.2.1
  have hT := hE.2.1 t ht
  rw [hG] at hT
  have hk2 := kk α H locs la (Wi_st hw (ok_cons ⟨by omega, by omega⟩ (ok_t hs)))
  have e2 : toV α (vr (2000 + t)) = .ref (gA G (2000 + t)) := congrArg Value.ref (gA_of hw (by omega))
  rw [List.map_cons, e2]
  exact va_tlen hx hb hT hw.2.1.2.2 (v := i32 n) (Int32.ofInt_eq_ofNat).symm hd hk2
theorem mj_gst (hJ : OkJ G own ini cc maxL d nC nS J) {t idx : Nat} (hd : decode cc pc = .ok (.getstatic idx, 3)) (ht : t < 5) (hl : Cond.fieldLink own idx (zTb t).1 (zTb t).2 "[I" ∈ lw_tbl) (kk : J (pc + 3) ls (vr (2000 + t) :: st) M) : J pc ls st M := by
  obtain ⟨p, e, s, m, args, below, meth, c0, R, α0, N0, n0, Qf, ⟨hx, hb, hml, hown, hin⟩, ⟨hts, hbs, hK, hE⟩, hR, rfl⟩ := hJ
  intro α H locs la hw
  have hs := hw.2.2.2.2.1
  have hk2 := kk α H locs la (Wi_st hw (ok_cons (Or.inr (by omega)) hs))
  have e2 : toV α (vr (2000 + t)) = .ref (gA G (2000 + t)) := congrArg Value.ref (gA_of hw (by omega))
  rw [List.map_cons, e2] at hk2
  exact va_gets hx hb (hE.2.2.1 t ht) hw.2.1.2.2 hown (hts _ hl) (fun _ h => h) hd hk2
theorem mj_gstN (hJ : OkJ G own ini cc maxL d nC nS J) {t idx : Nat} {host : String} (hd : decode cc pc = .ok (.getstatic idx, 3)) (ht : t < 5) (hl : Cond.fieldLinkNest own idx (zTb t).1 (zTb t).2 "[I" host ∈ lw_tbl) (kk : J (pc + 3) ls (vr (2000 + t) :: st) M) : J pc ls st M := by
  obtain ⟨p, e, s, m, args, below, meth, c0, R, α0, N0, n0, Qf, ⟨hx, hb, hml, hown, hin⟩, ⟨hts, hbs, hK, hE⟩, hR, rfl⟩ := hJ
  intro α H locs la hw
  have hs := hw.2.2.2.2.1
  have hk2 := kk α H locs la (Wi_st hw (ok_cons (Or.inr (by omega)) hs))
  have e2 : toV α (vr (2000 + t)) = .ref (gA G (2000 + t)) := congrArg Value.ref (gA_of hw (by omega))
  rw [List.map_cons, e2] at hk2
  exact va_getsN hx hb (hE.2.2.1 t ht) hw.2.1.2.2 hown (hts _ hl) (fun _ h => h) hd hk2
theorem mj_gsC (hJ : OkJ G own ini cc maxL d nC nS J) {idx : Nat} (hd : decode cc pc = .ok (.getstatic idx, 3)) (hl : Cond.fieldLink own idx "java/lang/String" "COMPACT_STRINGS" "Z" ∈ lw_tbl) (kk : J (pc + 3) ls (vi 1 :: st) M) : J pc ls st M := by
  obtain ⟨p, e, s, m, args, below, meth, c0, R, α0, N0, n0, Qf, ⟨hx, hb, hml, hown, hin⟩, ⟨hts, hbs, hK, hE⟩, hR, rfl⟩ := hJ
  intro α H locs la hw
  have hs := hw.2.2.2.2.1
  exact va_gets hx hb hE.2.2.2.1 hw.2.1.2.2 hown (hts _ hl) (fun _ h => h) hd (kk α H locs la (Wi_st hw (ok_cons ⟨by omega, by omega⟩ hs)))
def sioV (G : GE) : Vl := if (gT G 10).1 = 0 then vu else vr 2010
theorem mj_gsF (hJ : OkJ G own ini cc maxL d nC nS J) {idx : Nat} (hd : decode cc pc = .ok (.getstatic idx, 3)) (hl : Cond.fieldLink own idx "jdk/internal/util/Preconditions" "SIOOBE_FORMATTER" "Ljava/util/function/BiFunction;" ∈ lw_tbl) (kk : J (pc + 3) ls (sioV G :: st) M) : J pc ls st M := by
  obtain ⟨p, e, s, m, args, below, meth, c0, R, α0, N0, n0, Qf, ⟨hx, hb, hml, hown, hin⟩, ⟨hts, hbs, hK, hE⟩, hR, rfl⟩ := hJ
  intro α H locs la hw
  have hs := hw.2.2.2.2.1
  have ho : okV M.2.2.length (sioV G) := by
    unfold sioV
    split
    · exact trivial
    · exact Or.inr (by omega)
  have hk2 := kk α H locs la (Wi_st hw (ok_cons ho hs))
  have e2 : toV α (sioV G) = if (gT G 10).1 = 0 then .null else .ref (gA G 2010) := by
    unfold sioV
    split
    · rfl
    · exact congrArg Value.ref (gA_of hw (by omega))
  rw [List.map_cons, e2] at hk2
  exact va_gets hx hb hE.2.2.2.2 hw.2.1.2.2 hown (hts _ hl) (fun _ h => h) hd hk2
theorem mj_ldcS (hJ : OkJ G own ini cc maxL d nC nS J) {i idx : Nat} (hd : decode cc pc = .ok (.ldc idx, 2)) (hi : i < 22) (h1 : (sTx i).1 = own) (h2 : (sTx i).2.1 = idx) (kk : J (pc + 2) ls (vr (1000 + i) :: st) M) : J pc ls st M := by
  obtain ⟨p, e, s, m, args, below, meth, c0, R, α0, N0, n0, Qf, ⟨hx, hb, hml, hown, hin⟩, ⟨hts, hbs, hK, hE⟩, hR, rfl⟩ := hJ
  intro α H locs la hw
  have hs := hw.2.2.2.2.1
  have hk2 := kk α H locs la (Wi_st hw (ok_cons (Or.inr (by omega)) hs))
  have e2 : toV α (vr (1000 + i)) = .ref (gA G (1000 + i)) := congrArg Value.ref (gA_of hw (by omega))
  rw [List.map_cons, e2] at hk2
  have hZ := (hE.1 i hi).1
  rw [h1, h2] at hZ
  exact va_ldcS hx hb hown hZ hd hk2
theorem mj_strV (hJ : OkJ G own ini cc maxL d nC nS J) {i idx : Nat} (hd : decode cc pc = .ok (.getfield idx, 3)) (hi : i < 22) (hl : Cond.fieldLink own idx "java/lang/String" "value" "[B" ∈ lw_tbl) (kk : J (pc + 3) ls (vr (1100 + i) :: st) M) : J pc ls (vr (1000 + i) :: st) M := by
  obtain ⟨p, e, s, m, args, below, meth, c0, R, α0, N0, n0, Qf, ⟨hx, hb, hml, hown, hin⟩, ⟨hts, hbs, hK, hE⟩, hR, rfl⟩ := hJ
  intro α H locs la hw
  have hs := hw.2.2.2.2.1
  have hk2 := kk α H locs la (Wi_st hw (ok_cons (Or.inr (by omega)) (ok_t hs)))
  have e2 : toV α (vr (1000 + i)) = .ref (gA G (1000 + i)) := congrArg Value.ref (gA_of hw (by omega))
  have e3 : toV α (vr (1100 + i)) = .ref (gA G (1100 + i)) := congrArg Value.ref (gA_of hw (by omega))
  rw [List.map_cons, e3] at hk2
  rw [List.map_cons, e2]
  exact vk_getf hx hb (hE.1 i hi).2.2.2.1 hw.2.1.2.2 hown (hts _ hl) (fun _ h => h) hd hk2
theorem mj_strC (hJ : OkJ G own ini cc maxL d nC nS J) {i idx : Nat} (hd : decode cc pc = .ok (.getfield idx, 3)) (hi : i < 22) (hl : Cond.fieldLink own idx "java/lang/String" "coder" "B" ∈ lw_tbl) (kk : J (pc + 3) ls (vi 0 :: st) M) : J pc ls (vr (1000 + i) :: st) M := by
  obtain ⟨p, e, s, m, args, below, meth, c0, R, α0, N0, n0, Qf, ⟨hx, hb, hml, hown, hin⟩, ⟨hts, hbs, hK, hE⟩, hR, rfl⟩ := hJ
  intro α H locs la hw
  have hs := hw.2.2.2.2.1
  have hk2 := kk α H locs la (Wi_st hw (ok_cons inR_0 (ok_t hs)))
  have e2 : toV α (vr (1000 + i)) = .ref (gA G (1000 + i)) := congrArg Value.ref (gA_of hw (by omega))
  rw [List.map_cons, e2]
  exact vk_getf hx hb (hE.1 i hi).2.2.1 hw.2.1.2.2 hown (hts _ hl) (fun _ h => h) hd hk2
theorem sTx_R : ∀ i, i < 22 → ((sTx i).2.2.2.length < 10 ∧ ∀ x ∈ (sTx i).2.2.2, 0 ≤ x ∧ x < 128) := by decide +kernel
theorem sTx_get {i : Nat} (hi : i < 22) {j : Int} (h0 : 0 ≤ j) (h1 : j < (sTx i).2.2.2.length) : 0 ≤ (sTx i).2.2.2.getD j.toNat 0 ∧ (sTx i).2.2.2.getD j.toNat 0 < 128 := by
  have hj : j.toNat < (sTx i).2.2.2.length := by omega
  have : (sTx i).2.2.2.getD j.toNat 0 ∈ (sTx i).2.2.2 := by
    rw [List.getD_eq_getElem?_getD, List.getElem?_eq_getElem hj]
    exact List.getElem_mem hj
  exact (sTx_R i hi).2 _ this
theorem mj_sald (hJ : OkJ G own ini cc maxL d nC nS J) {t : Nat} {i : Int} (hd : decode cc pc = .ok (.baload, 1)) (ht : t < 22) (h0 : 0 ≤ i) (hi : i < (sTx t).2.2.2.length) (kk : J (pc + 1) ls (vi ((sTx t).2.2.2.getD i.toNat 0) :: st) M) : J pc ls (vi i :: vr (1100 + t) :: st) M := by
  obtain ⟨p, e, s, m, args, below, meth, c0, R, α0, N0, n0, Qf, ⟨hx, hb, hml, hown, hin⟩, ⟨hts, hbs, hK, hE⟩, hR, rfl⟩ := hJ
  intro α H locs la hw
  have hs := hw.2.2.2.2.1
  have hiR : inR i := ok_h hs
  have hg := sTx_get ht h0 hi
  have hk2 := kk α H locs la (Wi_st hw (ok_cons ⟨by omega, by omega⟩ (ok_t (ok_t hs))))
  have e2 : toV α (vr (1100 + t)) = .ref (gA G (1100 + t)) := congrArg Value.ref (gA_of hw (by omega))
  rw [List.map_cons, List.map_cons, e2]
  exact va_tb hx hb (hE.1 t ht).2.2.2.2 hw.2.1.2.2 (i32_pin hiR h0 hi) (by rw [i32_c hiR]; rfl) hd hk2
theorem mj_slen (hJ : OkJ G own ini cc maxL d nC nS J) {t : Nat} (hd : decode cc pc = .ok (.arraylength, 1)) (ht : t < 22) (kk : J (pc + 1) ls (vi (sTx t).2.2.2.length :: st) M) : J pc ls (vr (1100 + t) :: st) M := by
  obtain ⟨p, e, s, m, args, below, meth, c0, R, α0, N0, n0, Qf, ⟨hx, hb, hml, hown, hin⟩, ⟨hts, hbs, hK, hE⟩, hR, rfl⟩ := hJ
  intro α H locs la hw
  have hs := hw.2.2.2.2.1
  have hl := (sTx_R t ht).1
  have hk2 := kk α H locs la (Wi_st hw (ok_cons ⟨by omega, by omega⟩ (ok_t hs)))
  have e2 : toV α (vr (1100 + t)) = .ref (gA G (1100 + t)) := congrArg Value.ref (gA_of hw (by omega))
  rw [List.map_cons, e2]
  exact va_tlen hx hb (hE.1 t ht).2.2.2.2 hw.2.1.2.2 (v := i32 (sTx t).2.2.2.length) (Int32.ofInt_eq_ofNat).symm hd hk2
end MJC
end
section
theorem zz_end : True := trivial
end
