-- ===== PART A: goes FIRST, ahead of the names: the tables' words, and 'selects' of the private methods out of them =====
/-- a private method of a class that the tables say can be made, by its rows of tables_1 -/
def lw_okq (q : MethodName × Nat) : Prop := (q.1.cls ≠ "java/lang/invoke/MethodHandle" ∧ q.1.cls ≠ "java/lang/invoke/VarHandle") ∧ Cond.instantiable q.1.cls q.2 ∈ tables_1 ∧ Cond.privateMethod q.1 ∈ tables_1 ∧ Cond.instanceMethod q.1 ∈ tables_1
theorem lw_p0 : lw_okq (⟨"BlackBalls$Page", "codeAt", "(I)I"⟩, 2) := ⟨⟨by decide +kernel, by decide +kernel⟩, List.mem_of_getElem? (i := 27) (by decide +kernel), List.mem_of_getElem? (i := 226) (by decide +kernel), List.mem_of_getElem? (i := 227) (by decide +kernel)⟩
theorem lw_p1 : lw_okq (⟨"BlackBalls", "ruleAt", "(I)LBlackBalls$Rule;"⟩, 13) := ⟨⟨by decide +kernel, by decide +kernel⟩, List.mem_of_getElem? (i := 19) (by decide +kernel), List.mem_of_getElem? (i := 259) (by decide +kernel), List.mem_of_getElem? (i := 260) (by decide +kernel)⟩
theorem lw_p2 : lw_okq (⟨"BlackBalls", "personAt", "(I)LBlackBalls$Person;"⟩, 13) := ⟨⟨by decide +kernel, by decide +kernel⟩, List.mem_of_getElem? (i := 19) (by decide +kernel), List.mem_of_getElem? (i := 272) (by decide +kernel), List.mem_of_getElem? (i := 273) (by decide +kernel)⟩
theorem lw_p3 : lw_okq (⟨"BlackBalls", "newPerson", "(III)LBlackBalls$Person;"⟩, 13) := ⟨⟨by decide +kernel, by decide +kernel⟩, List.mem_of_getElem? (i := 19) (by decide +kernel), List.mem_of_getElem? (i := 276) (by decide +kernel), List.mem_of_getElem? (i := 277) (by decide +kernel)⟩
theorem lw_p4 : lw_okq (⟨"BlackBalls", "isCandidate", "(I)Z"⟩, 13) := ⟨⟨by decide +kernel, by decide +kernel⟩, List.mem_of_getElem? (i := 19) (by decide +kernel), List.mem_of_getElem? (i := 418) (by decide +kernel), List.mem_of_getElem? (i := 419) (by decide +kernel)⟩
theorem lw_p5 : lw_okq (⟨"BlackBalls", "friendOf", "(I)I"⟩, 13) := ⟨⟨by decide +kernel, by decide +kernel⟩, List.mem_of_getElem? (i := 19) (by decide +kernel), List.mem_of_getElem? (i := 444) (by decide +kernel), List.mem_of_getElem? (i := 445) (by decide +kernel)⟩
theorem lw_p6 : lw_okq (⟨"BlackBalls", "isMinded", "(I)Z"⟩, 13) := ⟨⟨by decide +kernel, by decide +kernel⟩, List.mem_of_getElem? (i := 19) (by decide +kernel), List.mem_of_getElem? (i := 448) (by decide +kernel), List.mem_of_getElem? (i := 449) (by decide +kernel)⟩
theorem lw_p7 : lw_okq (⟨"BlackBalls", "howManyMindMuch", "(I)I"⟩, 13) := ⟨⟨by decide +kernel, by decide +kernel⟩, List.mem_of_getElem? (i := 19) (by decide +kernel), List.mem_of_getElem? (i := 452) (by decide +kernel), List.mem_of_getElem? (i := 453) (by decide +kernel)⟩
theorem lw_p8 : lw_okq (⟨"BlackBalls", "areComers", "(I)Z"⟩, 13) := ⟨⟨by decide +kernel, by decide +kernel⟩, List.mem_of_getElem? (i := 19) (by decide +kernel), List.mem_of_getElem? (i := 470) (by decide +kernel), List.mem_of_getElem? (i := 471) (by decide +kernel)⟩
theorem lw_p9 : lw_okq (⟨"BlackBalls", "everybody", "()I"⟩, 13) := ⟨⟨by decide +kernel, by decide +kernel⟩, List.mem_of_getElem? (i := 19) (by decide +kernel), List.mem_of_getElem? (i := 474) (by decide +kernel), List.mem_of_getElem? (i := 475) (by decide +kernel)⟩
theorem lw_p10 : lw_okq (⟨"BlackBalls", "blackOf", "(LBlackBalls$Person;IZ)I"⟩, 13) := ⟨⟨by decide +kernel, by decide +kernel⟩, List.mem_of_getElem? (i := 19) (by decide +kernel), List.mem_of_getElem? (i := 490) (by decide +kernel), List.mem_of_getElem? (i := 491) (by decide +kernel)⟩
theorem lw_p11 : lw_okq (⟨"BlackBalls", "tallyBalls", "(IIZ)V"⟩, 13) := ⟨⟨by decide +kernel, by decide +kernel⟩, List.mem_of_getElem? (i := 19) (by decide +kernel), List.mem_of_getElem? (i := 531) (by decide +kernel), List.mem_of_getElem? (i := 532) (by decide +kernel)⟩
theorem lw_p12 : lw_okq (⟨"BlackBalls", "inWays", "(LBlackBalls$Rule;II)J"⟩, 13) := ⟨⟨by decide +kernel, by decide +kernel⟩, List.mem_of_getElem? (i := 19) (by decide +kernel), List.mem_of_getElem? (i := 565) (by decide +kernel), List.mem_of_getElem? (i := 566) (by decide +kernel)⟩
theorem lw_p13 : lw_okq (⟨"BlackBalls$Turnout", "waysTo", "(II)J"⟩, 3) := ⟨⟨by decide +kernel, by decide +kernel⟩, List.mem_of_getElem? (i := 63) (by decide +kernel), List.mem_of_getElem? (i := 601) (by decide +kernel), List.mem_of_getElem? (i := 602) (by decide +kernel)⟩
theorem lw_p14 : lw_okq (⟨"BlackBalls", "wrongWays", "(LBlackBalls$Rule;I)J"⟩, 13) := ⟨⟨by decide +kernel, by decide +kernel⟩, List.mem_of_getElem? (i := 19) (by decide +kernel), List.mem_of_getElem? (i := 623) (by decide +kernel), List.mem_of_getElem? (i := 624) (by decide +kernel)⟩
theorem lw_p15 : lw_okq (⟨"BlackBalls$Ballot", "putBalls", "()V"⟩, 5) := ⟨⟨by decide +kernel, by decide +kernel⟩, List.mem_of_getElem? (i := 79) (by decide +kernel), List.mem_of_getElem? (i := 675) (by decide +kernel), List.mem_of_getElem? (i := 676) (by decide +kernel)⟩
def lw_privs_1 : List (MethodName × Nat) := [(⟨"BlackBalls$Page", "codeAt", "(I)I"⟩, 2), (⟨"BlackBalls", "ruleAt", "(I)LBlackBalls$Rule;"⟩, 13), (⟨"BlackBalls", "personAt", "(I)LBlackBalls$Person;"⟩, 13), (⟨"BlackBalls", "newPerson", "(III)LBlackBalls$Person;"⟩, 13), (⟨"BlackBalls", "isCandidate", "(I)Z"⟩, 13), (⟨"BlackBalls", "friendOf", "(I)I"⟩, 13), (⟨"BlackBalls", "isMinded", "(I)Z"⟩, 13), (⟨"BlackBalls", "howManyMindMuch", "(I)I"⟩, 13), (⟨"BlackBalls", "areComers", "(I)Z"⟩, 13), (⟨"BlackBalls", "everybody", "()I"⟩, 13), (⟨"BlackBalls", "blackOf", "(LBlackBalls$Person;IZ)I"⟩, 13), (⟨"BlackBalls", "tallyBalls", "(IIZ)V"⟩, 13), (⟨"BlackBalls", "inWays", "(LBlackBalls$Rule;II)J"⟩, 13), (⟨"BlackBalls$Turnout", "waysTo", "(II)J"⟩, 3), (⟨"BlackBalls", "wrongWays", "(LBlackBalls$Rule;I)J"⟩, 13), (⟨"BlackBalls$Ballot", "putBalls", "()V"⟩, 5)]
theorem lw_r1 : ∀ q ∈ lw_privs_1, lw_okq q := List.forall_mem_cons.mpr ⟨lw_p0, List.forall_mem_cons.mpr ⟨lw_p1, List.forall_mem_cons.mpr ⟨lw_p2, List.forall_mem_cons.mpr ⟨lw_p3, List.forall_mem_cons.mpr ⟨lw_p4, List.forall_mem_cons.mpr ⟨lw_p5, List.forall_mem_cons.mpr ⟨lw_p6, List.forall_mem_cons.mpr ⟨lw_p7, List.forall_mem_cons.mpr ⟨lw_p8, List.forall_mem_cons.mpr ⟨lw_p9, List.forall_mem_cons.mpr ⟨lw_p10, List.forall_mem_cons.mpr ⟨lw_p11, List.forall_mem_cons.mpr ⟨lw_p12, List.forall_mem_cons.mpr ⟨lw_p13, List.forall_mem_cons.mpr ⟨lw_p14, List.forall_mem_cons.mpr ⟨lw_p15, fun _ h => absurd h List.not_mem_nil⟩⟩⟩⟩⟩⟩⟩⟩⟩⟩⟩⟩⟩⟩⟩⟩
theorem lw_p16 : lw_okq (⟨"BlackBalls", "letInByOneBall", "(LBlackBalls$Rule;III)I"⟩, 13) := ⟨⟨by decide +kernel, by decide +kernel⟩, List.mem_of_getElem? (i := 19) (by decide +kernel), List.mem_of_getElem? (i := 693) (by decide +kernel), List.mem_of_getElem? (i := 694) (by decide +kernel)⟩
theorem lw_p17 : lw_okq (⟨"BlackBalls", "expectVetoes", "(I)J"⟩, 13) := ⟨⟨by decide +kernel, by decide +kernel⟩, List.mem_of_getElem? (i := 19) (by decide +kernel), List.mem_of_getElem? (i := 705) (by decide +kernel), List.mem_of_getElem? (i := 706) (by decide +kernel)⟩
theorem lw_p18 : lw_okq (⟨"BlackBalls$Club", "drawTaste", "()I"⟩, 5) := ⟨⟨by decide +kernel, by decide +kernel⟩, List.mem_of_getElem? (i := 106) (by decide +kernel), List.mem_of_getElem? (i := 726) (by decide +kernel), List.mem_of_getElem? (i := 727) (by decide +kernel)⟩
theorem lw_p19 : lw_okq (⟨"BlackBalls$Club", "firstGoes", "()V"⟩, 5) := ⟨⟨by decide +kernel, by decide +kernel⟩, List.mem_of_getElem? (i := 106) (by decide +kernel), List.mem_of_getElem? (i := 736) (by decide +kernel), List.mem_of_getElem? (i := 737) (by decide +kernel)⟩
theorem lw_p20 : lw_okq (⟨"BlackBalls", "howManyMinded", "()I"⟩, 13) := ⟨⟨by decide +kernel, by decide +kernel⟩, List.mem_of_getElem? (i := 19) (by decide +kernel), List.mem_of_getElem? (i := 758) (by decide +kernel), List.mem_of_getElem? (i := 759) (by decide +kernel)⟩
theorem lw_p21 : lw_okq (⟨"BlackBalls", "digestRules", "(J)J"⟩, 13) := ⟨⟨by decide +kernel, by decide +kernel⟩, List.mem_of_getElem? (i := 19) (by decide +kernel), List.mem_of_getElem? (i := 801) (by decide +kernel), List.mem_of_getElem? (i := 802) (by decide +kernel)⟩
theorem lw_p22 : lw_okq (⟨"BlackBalls", "digestPeople", "(J)J"⟩, 13) := ⟨⟨by decide +kernel, by decide +kernel⟩, List.mem_of_getElem? (i := 19) (by decide +kernel), List.mem_of_getElem? (i := 809) (by decide +kernel), List.mem_of_getElem? (i := 810) (by decide +kernel)⟩
theorem lw_p23 : lw_okq (⟨"BlackBalls", "digestCandidates", "(J)J"⟩, 13) := ⟨⟨by decide +kernel, by decide +kernel⟩, List.mem_of_getElem? (i := 19) (by decide +kernel), List.mem_of_getElem? (i := 814) (by decide +kernel), List.mem_of_getElem? (i := 815) (by decide +kernel)⟩
theorem lw_p24 : lw_okq (⟨"BlackBalls", "digestIn", "(J)J"⟩, 13) := ⟨⟨by decide +kernel, by decide +kernel⟩, List.mem_of_getElem? (i := 19) (by decide +kernel), List.mem_of_getElem? (i := 819) (by decide +kernel), List.mem_of_getElem? (i := 820) (by decide +kernel)⟩
theorem lw_p25 : lw_okq (⟨"BlackBallsModel", "readPage", "()V"⟩, 37) := ⟨⟨by decide +kernel, by decide +kernel⟩, List.mem_of_getElem? (i := 829) (by decide +kernel), List.mem_of_getElem? (i := 962) (by decide +kernel), List.mem_of_getElem? (i := 963) (by decide +kernel)⟩
theorem lw_p26 : lw_okq (⟨"BlackBallsModel", "next", "(II)I"⟩, 37) := ⟨⟨by decide +kernel, by decide +kernel⟩, List.mem_of_getElem? (i := 829) (by decide +kernel), List.mem_of_getElem? (i := 966) (by decide +kernel), List.mem_of_getElem? (i := 967) (by decide +kernel)⟩
theorem lw_p27 : lw_okq (⟨"BlackBallsModel", "nextRatio", "(I)I"⟩, 37) := ⟨⟨by decide +kernel, by decide +kernel⟩, List.mem_of_getElem? (i := 829) (by decide +kernel), List.mem_of_getElem? (i := 973) (by decide +kernel), List.mem_of_getElem? (i := 974) (by decide +kernel)⟩
theorem lw_p28 : lw_okq (⟨"BlackBallsModel", "isRule", "(I)Z"⟩, 37) := ⟨⟨by decide +kernel, by decide +kernel⟩, List.mem_of_getElem? (i := 829) (by decide +kernel), List.mem_of_getElem? (i := 988) (by decide +kernel), List.mem_of_getElem? (i := 989) (by decide +kernel)⟩
theorem lw_p29 : lw_okq (⟨"BlackBallsModel", "ruleNow", "(II)I"⟩, 37) := ⟨⟨by decide +kernel, by decide +kernel⟩, List.mem_of_getElem? (i := 829) (by decide +kernel), List.mem_of_getElem? (i := 992) (by decide +kernel), List.mem_of_getElem? (i := 993) (by decide +kernel)⟩
theorem lw_p30 : lw_okq (⟨"BlackBallsModel", "isMember", "(I)Z"⟩, 37) := ⟨⟨by decide +kernel, by decide +kernel⟩, List.mem_of_getElem? (i := 829) (by decide +kernel), List.mem_of_getElem? (i := 1000) (by decide +kernel), List.mem_of_getElem? (i := 1001) (by decide +kernel)⟩
theorem lw_p31 : lw_okq (⟨"BlackBallsModel", "memberNow", "(II)I"⟩, 37) := ⟨⟨by decide +kernel, by decide +kernel⟩, List.mem_of_getElem? (i := 829) (by decide +kernel), List.mem_of_getElem? (i := 1012) (by decide +kernel), List.mem_of_getElem? (i := 1013) (by decide +kernel)⟩
def lw_privs_2 : List (MethodName × Nat) := [(⟨"BlackBalls", "letInByOneBall", "(LBlackBalls$Rule;III)I"⟩, 13), (⟨"BlackBalls", "expectVetoes", "(I)J"⟩, 13), (⟨"BlackBalls$Club", "drawTaste", "()I"⟩, 5), (⟨"BlackBalls$Club", "firstGoes", "()V"⟩, 5), (⟨"BlackBalls", "howManyMinded", "()I"⟩, 13), (⟨"BlackBalls", "digestRules", "(J)J"⟩, 13), (⟨"BlackBalls", "digestPeople", "(J)J"⟩, 13), (⟨"BlackBalls", "digestCandidates", "(J)J"⟩, 13), (⟨"BlackBalls", "digestIn", "(J)J"⟩, 13), (⟨"BlackBallsModel", "readPage", "()V"⟩, 37), (⟨"BlackBallsModel", "next", "(II)I"⟩, 37), (⟨"BlackBallsModel", "nextRatio", "(I)I"⟩, 37), (⟨"BlackBallsModel", "isRule", "(I)Z"⟩, 37), (⟨"BlackBallsModel", "ruleNow", "(II)I"⟩, 37), (⟨"BlackBallsModel", "isMember", "(I)Z"⟩, 37), (⟨"BlackBallsModel", "memberNow", "(II)I"⟩, 37)]
theorem lw_r2 : ∀ q ∈ lw_privs_2, lw_okq q := List.forall_mem_cons.mpr ⟨lw_p16, List.forall_mem_cons.mpr ⟨lw_p17, List.forall_mem_cons.mpr ⟨lw_p18, List.forall_mem_cons.mpr ⟨lw_p19, List.forall_mem_cons.mpr ⟨lw_p20, List.forall_mem_cons.mpr ⟨lw_p21, List.forall_mem_cons.mpr ⟨lw_p22, List.forall_mem_cons.mpr ⟨lw_p23, List.forall_mem_cons.mpr ⟨lw_p24, List.forall_mem_cons.mpr ⟨lw_p25, List.forall_mem_cons.mpr ⟨lw_p26, List.forall_mem_cons.mpr ⟨lw_p27, List.forall_mem_cons.mpr ⟨lw_p28, List.forall_mem_cons.mpr ⟨lw_p29, List.forall_mem_cons.mpr ⟨lw_p30, List.forall_mem_cons.mpr ⟨lw_p31, fun _ h => absurd h List.not_mem_nil⟩⟩⟩⟩⟩⟩⟩⟩⟩⟩⟩⟩⟩⟩⟩⟩
theorem lw_p32 : lw_okq (⟨"BlackBallsModel", "isCandidate", "(I)Z"⟩, 37) := ⟨⟨by decide +kernel, by decide +kernel⟩, List.mem_of_getElem? (i := 829) (by decide +kernel), List.mem_of_getElem? (i := 1028) (by decide +kernel), List.mem_of_getElem? (i := 1029) (by decide +kernel)⟩
theorem lw_p33 : lw_okq (⟨"BlackBallsModel", "candidateNow", "(II)I"⟩, 37) := ⟨⟨by decide +kernel, by decide +kernel⟩, List.mem_of_getElem? (i := 829) (by decide +kernel), List.mem_of_getElem? (i := 1036) (by decide +kernel), List.mem_of_getElem? (i := 1037) (by decide +kernel)⟩
theorem lw_p34 : lw_okq (⟨"BlackBallsModel", "isMinded", "(I)Z"⟩, 37) := ⟨⟨by decide +kernel, by decide +kernel⟩, List.mem_of_getElem? (i := 829) (by decide +kernel), List.mem_of_getElem? (i := 1040) (by decide +kernel), List.mem_of_getElem? (i := 1041) (by decide +kernel)⟩
theorem lw_p35 : lw_okq (⟨"BlackBallsModel", "mindedBy", "(I)I"⟩, 37) := ⟨⟨by decide +kernel, by decide +kernel⟩, List.mem_of_getElem? (i := 829) (by decide +kernel), List.mem_of_getElem? (i := 1044) (by decide +kernel), List.mem_of_getElem? (i := 1045) (by decide +kernel)⟩
theorem lw_p36 : lw_okq (⟨"BlackBallsModel", "areComers", "(I)Z"⟩, 37) := ⟨⟨by decide +kernel, by decide +kernel⟩, List.mem_of_getElem? (i := 829) (by decide +kernel), List.mem_of_getElem? (i := 1052) (by decide +kernel), List.mem_of_getElem? (i := 1053) (by decide +kernel)⟩
theorem lw_p37 : lw_okq (⟨"BlackBallsModel", "blackBy", "(IIII)I"⟩, 37) := ⟨⟨by decide +kernel, by decide +kernel⟩, List.mem_of_getElem? (i := 829) (by decide +kernel), List.mem_of_getElem? (i := 1062) (by decide +kernel), List.mem_of_getElem? (i := 1063) (by decide +kernel)⟩
theorem lw_p38 : lw_okq (⟨"BlackBallsModel", "areThere", "(II)Z"⟩, 37) := ⟨⟨by decide +kernel, by decide +kernel⟩, List.mem_of_getElem? (i := 829) (by decide +kernel), List.mem_of_getElem? (i := 1070) (by decide +kernel), List.mem_of_getElem? (i := 1071) (by decide +kernel)⟩
theorem lw_p39 : lw_okq (⟨"BlackBallsModel", "layWays", "(IIIII)V"⟩, 37) := ⟨⟨by decide +kernel, by decide +kernel⟩, List.mem_of_getElem? (i := 829) (by decide +kernel), List.mem_of_getElem? (i := 1077) (by decide +kernel), List.mem_of_getElem? (i := 1078) (by decide +kernel)⟩
theorem lw_p40 : lw_okq (⟨"BlackBallsModel", "inBy", "(III)J"⟩, 37) := ⟨⟨by decide +kernel, by decide +kernel⟩, List.mem_of_getElem? (i := 829) (by decide +kernel), List.mem_of_getElem? (i := 1094) (by decide +kernel), List.mem_of_getElem? (i := 1095) (by decide +kernel)⟩
theorem lw_p41 : lw_okq (⟨"BlackBallsModel", "shutBy", "(IIII)J"⟩, 37) := ⟨⟨by decide +kernel, by decide +kernel⟩, List.mem_of_getElem? (i := 829) (by decide +kernel), List.mem_of_getElem? (i := 1098) (by decide +kernel), List.mem_of_getElem? (i := 1099) (by decide +kernel)⟩
theorem lw_p42 : lw_okq (⟨"BlackBallsModel", "shuts", "(III)Z"⟩, 37) := ⟨⟨by decide +kernel, by decide +kernel⟩, List.mem_of_getElem? (i := 829) (by decide +kernel), List.mem_of_getElem? (i := 1102) (by decide +kernel), List.mem_of_getElem? (i := 1103) (by decide +kernel)⟩
theorem lw_p43 : lw_okq (⟨"BlackBallsModel", "comesBy", "(I)J"⟩, 37) := ⟨⟨by decide +kernel, by decide +kernel⟩, List.mem_of_getElem? (i := 829) (by decide +kernel), List.mem_of_getElem? (i := 1111) (by decide +kernel), List.mem_of_getElem? (i := 1112) (by decide +kernel)⟩
theorem lw_p44 : lw_okq (⟨"BlackBallsModel", "wrongBy", "(II)J"⟩, 37) := ⟨⟨by decide +kernel, by decide +kernel⟩, List.mem_of_getElem? (i := 829) (by decide +kernel), List.mem_of_getElem? (i := 1119) (by decide +kernel), List.mem_of_getElem? (i := 1120) (by decide +kernel)⟩
theorem lw_p45 : lw_okq (⟨"BlackBallsModel", "isAsked", "(III)Z"⟩, 37) := ⟨⟨by decide +kernel, by decide +kernel⟩, List.mem_of_getElem? (i := 829) (by decide +kernel), List.mem_of_getElem? (i := 1131) (by decide +kernel), List.mem_of_getElem? (i := 1132) (by decide +kernel)⟩
theorem lw_p46 : lw_okq (⟨"BlackBallsModel", "withdraws", "(IIII)Z"⟩, 37) := ⟨⟨by decide +kernel, by decide +kernel⟩, List.mem_of_getElem? (i := 829) (by decide +kernel), List.mem_of_getElem? (i := 1148) (by decide +kernel), List.mem_of_getElem? (i := 1149) (by decide +kernel)⟩
theorem lw_p47 : lw_okq (⟨"BlackBallsModel", "goRound", "(III)I"⟩, 37) := ⟨⟨by decide +kernel, by decide +kernel⟩, List.mem_of_getElem? (i := 829) (by decide +kernel), List.mem_of_getElem? (i := 1160) (by decide +kernel), List.mem_of_getElem? (i := 1161) (by decide +kernel)⟩
def lw_privs_3 : List (MethodName × Nat) := [(⟨"BlackBallsModel", "isCandidate", "(I)Z"⟩, 37), (⟨"BlackBallsModel", "candidateNow", "(II)I"⟩, 37), (⟨"BlackBallsModel", "isMinded", "(I)Z"⟩, 37), (⟨"BlackBallsModel", "mindedBy", "(I)I"⟩, 37), (⟨"BlackBallsModel", "areComers", "(I)Z"⟩, 37), (⟨"BlackBallsModel", "blackBy", "(IIII)I"⟩, 37), (⟨"BlackBallsModel", "areThere", "(II)Z"⟩, 37), (⟨"BlackBallsModel", "layWays", "(IIIII)V"⟩, 37), (⟨"BlackBallsModel", "inBy", "(III)J"⟩, 37), (⟨"BlackBallsModel", "shutBy", "(IIII)J"⟩, 37), (⟨"BlackBallsModel", "shuts", "(III)Z"⟩, 37), (⟨"BlackBallsModel", "comesBy", "(I)J"⟩, 37), (⟨"BlackBallsModel", "wrongBy", "(II)J"⟩, 37), (⟨"BlackBallsModel", "isAsked", "(III)Z"⟩, 37), (⟨"BlackBallsModel", "withdraws", "(IIII)Z"⟩, 37), (⟨"BlackBallsModel", "goRound", "(III)I"⟩, 37)]
theorem lw_r3 : ∀ q ∈ lw_privs_3, lw_okq q := List.forall_mem_cons.mpr ⟨lw_p32, List.forall_mem_cons.mpr ⟨lw_p33, List.forall_mem_cons.mpr ⟨lw_p34, List.forall_mem_cons.mpr ⟨lw_p35, List.forall_mem_cons.mpr ⟨lw_p36, List.forall_mem_cons.mpr ⟨lw_p37, List.forall_mem_cons.mpr ⟨lw_p38, List.forall_mem_cons.mpr ⟨lw_p39, List.forall_mem_cons.mpr ⟨lw_p40, List.forall_mem_cons.mpr ⟨lw_p41, List.forall_mem_cons.mpr ⟨lw_p42, List.forall_mem_cons.mpr ⟨lw_p43, List.forall_mem_cons.mpr ⟨lw_p44, List.forall_mem_cons.mpr ⟨lw_p45, List.forall_mem_cons.mpr ⟨lw_p46, List.forall_mem_cons.mpr ⟨lw_p47, fun _ h => absurd h List.not_mem_nil⟩⟩⟩⟩⟩⟩⟩⟩⟩⟩⟩⟩⟩⟩⟩⟩
theorem lw_p48 : lw_okq (⟨"BlackBallsModel", "draw", "(I)I"⟩, 37) := ⟨⟨by decide +kernel, by decide +kernel⟩, List.mem_of_getElem? (i := 829) (by decide +kernel), List.mem_of_getElem? (i := 1164) (by decide +kernel), List.mem_of_getElem? (i := 1165) (by decide +kernel)⟩
theorem lw_p49 : lw_okq (⟨"BlackBallsModel", "gain", "(III)I"⟩, 37) := ⟨⟨by decide +kernel, by decide +kernel⟩, List.mem_of_getElem? (i := 829) (by decide +kernel), List.mem_of_getElem? (i := 1176) (by decide +kernel), List.mem_of_getElem? (i := 1177) (by decide +kernel)⟩
theorem lw_p50 : lw_okq (⟨"BlackBallsModel", "isInBy", "(IIIII)Z"⟩, 37) := ⟨⟨by decide +kernel, by decide +kernel⟩, List.mem_of_getElem? (i := 829) (by decide +kernel), List.mem_of_getElem? (i := 1180) (by decide +kernel), List.mem_of_getElem? (i := 1181) (by decide +kernel)⟩
theorem lw_p51 : lw_okq (⟨"BlackBallsModel", "layVetoes", "(I)V"⟩, 37) := ⟨⟨by decide +kernel, by decide +kernel⟩, List.mem_of_getElem? (i := 829) (by decide +kernel), List.mem_of_getElem? (i := 1188) (by decide +kernel), List.mem_of_getElem? (i := 1189) (by decide +kernel)⟩
theorem lw_p52 : lw_okq (⟨"BlackBallsModel", "isUsed", "(III)Z"⟩, 37) := ⟨⟨by decide +kernel, by decide +kernel⟩, List.mem_of_getElem? (i := 829) (by decide +kernel), List.mem_of_getElem? (i := 1192) (by decide +kernel), List.mem_of_getElem? (i := 1193) (by decide +kernel)⟩
theorem lw_p53 : lw_okq (⟨"BlackBallsModel", "isLetIn", "(II)Z"⟩, 37) := ⟨⟨by decide +kernel, by decide +kernel⟩, List.mem_of_getElem? (i := 829) (by decide +kernel), List.mem_of_getElem? (i := 1208) (by decide +kernel), List.mem_of_getElem? (i := 1209) (by decide +kernel)⟩
theorem lw_p54 : lw_okq (⟨"BlackBallsModel", "clubRound", "(I)I"⟩, 37) := ⟨⟨by decide +kernel, by decide +kernel⟩, List.mem_of_getElem? (i := 829) (by decide +kernel), List.mem_of_getElem? (i := 1212) (by decide +kernel), List.mem_of_getElem? (i := 1213) (by decide +kernel)⟩
theorem lw_p55 : lw_okq (⟨"BlackBallsModel", "unlike", "()I"⟩, 37) := ⟨⟨by decide +kernel, by decide +kernel⟩, List.mem_of_getElem? (i := 829) (by decide +kernel), List.mem_of_getElem? (i := 1216) (by decide +kernel), List.mem_of_getElem? (i := 1217) (by decide +kernel)⟩
theorem lw_p56 : lw_okq (⟨"BlackBallsModel", "mindedMany", "()I"⟩, 37) := ⟨⟨by decide +kernel, by decide +kernel⟩, List.mem_of_getElem? (i := 829) (by decide +kernel), List.mem_of_getElem? (i := 1224) (by decide +kernel), List.mem_of_getElem? (i := 1225) (by decide +kernel)⟩
theorem lw_p57 : lw_okq (⟨"BlackBallsModel", "howMany", "(I)I"⟩, 37) := ⟨⟨by decide +kernel, by decide +kernel⟩, List.mem_of_getElem? (i := 829) (by decide +kernel), List.mem_of_getElem? (i := 1240) (by decide +kernel), List.mem_of_getElem? (i := 1241) (by decide +kernel)⟩
theorem lw_p58 : lw_okq (⟨"BlackBallsModel", "mix", "(J)V"⟩, 37) := ⟨⟨by decide +kernel, by decide +kernel⟩, List.mem_of_getElem? (i := 829) (by decide +kernel), List.mem_of_getElem? (i := 1249) (by decide +kernel), List.mem_of_getElem? (i := 1250) (by decide +kernel)⟩
theorem lw_p59 : lw_okq (⟨"BlackBallsModel", "mixIns", "()V"⟩, 37) := ⟨⟨by decide +kernel, by decide +kernel⟩, List.mem_of_getElem? (i := 829) (by decide +kernel), List.mem_of_getElem? (i := 1254) (by decide +kernel), List.mem_of_getElem? (i := 1255) (by decide +kernel)⟩
def lw_privs_4 : List (MethodName × Nat) := [(⟨"BlackBallsModel", "draw", "(I)I"⟩, 37), (⟨"BlackBallsModel", "gain", "(III)I"⟩, 37), (⟨"BlackBallsModel", "isInBy", "(IIIII)Z"⟩, 37), (⟨"BlackBallsModel", "layVetoes", "(I)V"⟩, 37), (⟨"BlackBallsModel", "isUsed", "(III)Z"⟩, 37), (⟨"BlackBallsModel", "isLetIn", "(II)Z"⟩, 37), (⟨"BlackBallsModel", "clubRound", "(I)I"⟩, 37), (⟨"BlackBallsModel", "unlike", "()I"⟩, 37), (⟨"BlackBallsModel", "mindedMany", "()I"⟩, 37), (⟨"BlackBallsModel", "howMany", "(I)I"⟩, 37), (⟨"BlackBallsModel", "mix", "(J)V"⟩, 37), (⟨"BlackBallsModel", "mixIns", "()V"⟩, 37)]
theorem lw_r4 : ∀ q ∈ lw_privs_4, lw_okq q := List.forall_mem_cons.mpr ⟨lw_p48, List.forall_mem_cons.mpr ⟨lw_p49, List.forall_mem_cons.mpr ⟨lw_p50, List.forall_mem_cons.mpr ⟨lw_p51, List.forall_mem_cons.mpr ⟨lw_p52, List.forall_mem_cons.mpr ⟨lw_p53, List.forall_mem_cons.mpr ⟨lw_p54, List.forall_mem_cons.mpr ⟨lw_p55, List.forall_mem_cons.mpr ⟨lw_p56, List.forall_mem_cons.mpr ⟨lw_p57, List.forall_mem_cons.mpr ⟨lw_p58, List.forall_mem_cons.mpr ⟨lw_p59, fun _ h => absurd h List.not_mem_nil⟩⟩⟩⟩⟩⟩⟩⟩⟩⟩⟩⟩
def lw_privs : List (MethodName × Nat) := lw_privs_1 ++ (lw_privs_2 ++ (lw_privs_3 ++ (lw_privs_4)))
def lw_tbl : List Cond := k2_sels lw_privs ++ tables_1
theorem lw_privs_ok : ∀ q ∈ lw_privs, lw_okq q := by
  show ∀ q ∈ lw_privs_1 ++ (lw_privs_2 ++ (lw_privs_3 ++ (lw_privs_4))), lw_okq q
  exact List.forall_mem_append.mpr ⟨lw_r1, List.forall_mem_append.mpr ⟨lw_r2, List.forall_mem_append.mpr ⟨lw_r3, lw_r4⟩⟩⟩
def RX0 : String := "BlackBalls$Ballot"
def TX0 : u_T := fun k => match k with
  | 0 => ("BlackBalls$Ballot", "blackTenths", "[I", true)
  | 1 => ("BlackBalls$Ballot", "came", "I", false)
  | 2 => ("BlackBalls$Ballot", "seed", "I", false)
  | 3 => ("BlackBalls$Ballot", "lastBlacks", "I", false)
  | _ => ("BlackBalls$Ballot", "letIn", "Z", false)
def tyX0 : Nat → FieldType := fun k => match k with
  | 0 => .array .int
  | 1 => .int
  | 2 => .int
  | 3 => .int
  | _ => .boolean
theorem nmX0 : ∀ a, a < 5 → ∀ b, b < 5 → a ≠ b → (TX0 a).2.1 ≠ (TX0 b).2.1 := by decide +kernel
theorem tyX0_ok : ∀ k, k < 5 → parseFieldDescriptor (TX0 k).2.2.1 = some (tyX0 k) := by decide +kernel
abbrev cX0_init : ByteArray := prog_2_method_1_code
def yX0_init : MethodName := ⟨RX0, "<init>", "()V"⟩
abbrev cX0_begin : ByteArray := prog_2_method_2_code
def yX0_begin : MethodName := ⟨RX0, "begin", "()V"⟩
abbrev cX0_seat : ByteArray := prog_2_method_3_code
def yX0_seat : MethodName := ⟨RX0, "seat", "(I)V"⟩
abbrev cX0_hold : ByteArray := prog_2_method_4_code
def yX0_hold : MethodName := ⟨RX0, "hold", "(LBlackBalls$Rule;I)V"⟩
abbrev cX0_putBalls : ByteArray := prog_2_method_5_code
def yX0_putBalls : MethodName := ⟨RX0, "putBalls", "()V"⟩
abbrev cX0_nextSeed : ByteArray := prog_2_method_6_code
def yX0_nextSeed : MethodName := ⟨RX0, "nextSeed", "(I)I"⟩
abbrev cX0_drawnTenth : ByteArray := prog_2_method_7_code
def yX0_drawnTenth : MethodName := ⟨RX0, "drawnTenth", "(I)I"⟩
def RX1 : String := "BlackBalls$Club"
def TX1 : u_T := fun k => match k with
  | 0 => ("BlackBalls$Club", "tastes", "[I", true)
  | 1 => ("BlackBalls$Club", "ballot", "LBlackBalls$Ballot;", true)
  | 2 => ("BlackBalls$Club", "size", "I", false)
  | 3 => ("BlackBalls$Club", "letIn", "I", false)
  | _ => ("BlackBalls$Club", "seed", "I", false)
def tyX1 : Nat → FieldType := fun k => match k with
  | 0 => .array .int
  | 1 => .object "BlackBalls$Ballot"
  | 2 => .int
  | 3 => .int
  | _ => .int
theorem nmX1 : ∀ a, a < 5 → ∀ b, b < 5 → a ≠ b → (TX1 a).2.1 ≠ (TX1 b).2.1 := by decide +kernel
theorem tyX1_ok : ∀ k, k < 5 → parseFieldDescriptor (TX1 k).2.2.1 = some (tyX1 k) := by decide +kernel
abbrev cX1_init : ByteArray := prog_3_method_1_code
def yX1_init : MethodName := ⟨RX1, "<init>", "()V"⟩
abbrev cX1_found : ByteArray := prog_3_method_2_code
def yX1_found : MethodName := ⟨RX1, "found", "(I)V"⟩
abbrev cX1_passYear : ByteArray := prog_3_method_3_code
def yX1_passYear : MethodName := ⟨RX1, "passYear", "(LBlackBalls$Rule;)V"⟩
abbrev cX1_unlikeTastes : ByteArray := prog_3_method_4_code
def yX1_unlikeTastes : MethodName := ⟨RX1, "unlikeTastes", "()I"⟩
abbrev cX1_firstGoes : ByteArray := prog_3_method_5_code
def yX1_firstGoes : MethodName := ⟨RX1, "firstGoes", "()V"⟩
abbrev cX1_drawTaste : ByteArray := prog_3_method_6_code
def yX1_drawTaste : MethodName := ⟨RX1, "drawTaste", "()I"⟩
def RX2 : String := "BlackBalls$Feared"
def TX2 : u_T := fun k => match k with
  | 0 => ("BlackBalls$Person", "number", "I", true)
  | 1 => ("BlackBalls$Person", "mindsEach", "[I", true)
  | 2 => ("BlackBalls$Person", "keptMinds", "[I", true)
  | 3 => ("BlackBalls$Person", "comesTenths", "I", false)
  | 4 => ("BlackBalls$Person", "keptComes", "I", false)
  | _ => ("BlackBalls$Person", "keptCandidates", "I", false)
def tyX2 : Nat → FieldType := fun k => match k with
  | 0 => .int
  | 1 => .array .int
  | 2 => .array .int
  | 3 => .int
  | 4 => .int
  | _ => .int
theorem nmX2 : ∀ a, a < 6 → ∀ b, b < 6 → a ≠ b → (TX2 a).2.1 ≠ (TX2 b).2.1 := by decide +kernel
theorem tyX2_ok : ∀ k, k < 6 → parseFieldDescriptor (TX2 k).2.2.1 = some (tyX2 k) := by decide +kernel
abbrev cX2_init : ByteArray := prog_4_method_1_code
def yX2_init : MethodName := ⟨RX2, "<init>", "(II)V"⟩
abbrev cX2_kind : ByteArray := prog_4_method_2_code
def yX2_kind : MethodName := ⟨RX2, "kind", "()I"⟩
abbrev cX2_blackOfStranger : ByteArray := prog_4_method_3_code
def yX2_blackOfStranger : MethodName := ⟨RX2, "blackOfStranger", "(IIZ)I"⟩
def RX3 : String := "BlackBalls$Mistaken"
def TX3 : u_T := fun k => match k with
  | 0 => ("BlackBalls$Person", "number", "I", true)
  | 1 => ("BlackBalls$Person", "mindsEach", "[I", true)
  | 2 => ("BlackBalls$Person", "keptMinds", "[I", true)
  | 3 => ("BlackBalls$Person", "comesTenths", "I", false)
  | 4 => ("BlackBalls$Person", "keptComes", "I", false)
  | 5 => ("BlackBalls$Person", "keptCandidates", "I", false)
  | _ => ("BlackBalls$Mistaken", "slips", "I", true)
def tyX3 : Nat → FieldType := fun k => match k with
  | 0 => .int
  | 1 => .array .int
  | 2 => .array .int
  | 3 => .int
  | 4 => .int
  | 5 => .int
  | _ => .int
theorem nmX3 : ∀ a, a < 7 → ∀ b, b < 7 → a ≠ b → (TX3 a).2.1 ≠ (TX3 b).2.1 := by decide +kernel
theorem tyX3_ok : ∀ k, k < 7 → parseFieldDescriptor (TX3 k).2.2.1 = some (tyX3 k) := by decide +kernel
abbrev cX3_init : ByteArray := prog_5_method_1_code
def yX3_init : MethodName := ⟨RX3, "<init>", "(III)V"⟩
abbrev cX3_kind : ByteArray := prog_5_method_2_code
def yX3_kind : MethodName := ⟨RX3, "kind", "()I"⟩
abbrev cX3_n : ByteArray := prog_5_method_3_code
def yX3_n : MethodName := ⟨RX3, "n", "()I"⟩
abbrev cX3_blackOfStranger : ByteArray := prog_5_method_4_code
def yX3_blackOfStranger : MethodName := ⟨RX3, "blackOfStranger", "(IIZ)I"⟩
def RX4 : String := "BlackBalls$Page"
def TX4 : u_T := fun k => match k with
  | 0 => ("BlackBalls$Page", "codes", "[I", true)
  | _ => ("BlackBalls$Page", "length", "I", false)
def tyX4 : Nat → FieldType := fun k => match k with
  | 0 => .array .int
  | _ => .int
theorem nmX4 : ∀ a, a < 2 → ∀ b, b < 2 → a ≠ b → (TX4 a).2.1 ≠ (TX4 b).2.1 := by decide +kernel
theorem tyX4_ok : ∀ k, k < 2 → parseFieldDescriptor (TX4 k).2.2.1 = some (tyX4 k) := by decide +kernel
abbrev cX4_init : ByteArray := prog_6_method_1_code
def yX4_init : MethodName := ⟨RX4, "<init>", "()V"⟩
abbrev cX4_write : ByteArray := prog_6_method_2_code
def yX4_write : MethodName := ⟨RX4, "write", "(J)I"⟩
abbrev cX4_wipe : ByteArray := prog_6_method_3_code
def yX4_wipe : MethodName := ⟨RX4, "wipe", "()I"⟩
abbrev cX4_firstFault : ByteArray := prog_6_method_4_code
def yX4_firstFault : MethodName := ⟨RX4, "firstFault", "()I"⟩
abbrev cX4_isRule : ByteArray := prog_6_method_5_code
def yX4_isRule : MethodName := ⟨RX4, "isRule", "()Z"⟩
abbrev cX4_toRule : ByteArray := prog_6_method_6_code
def yX4_toRule : MethodName := ⟨RX4, "toRule", "()LBlackBalls$Rule;"⟩
abbrev cX4_digestLetters : ByteArray := prog_6_method_7_code
def yX4_digestLetters : MethodName := ⟨RX4, "digestLetters", "(J)J"⟩
abbrev cX4_codeAt : ByteArray := prog_6_method_8_code
def yX4_codeAt : MethodName := ⟨RX4, "codeAt", "(I)I"⟩
abbrev cX4_codeIn : ByteArray := prog_6_method_9_code
def yX4_codeIn : MethodName := ⟨RX4, "codeIn", "(JI)I"⟩
abbrev cX4_howManyLetters : ByteArray := prog_6_method_10_code
def yX4_howManyLetters : MethodName := ⟨RX4, "howManyLetters", "(J)I"⟩
abbrev cX4_dueBehind : ByteArray := prog_6_method_11_code
def yX4_dueBehind : MethodName := ⟨RX4, "dueBehind", "(II)I"⟩
abbrev cX4_isCount : ByteArray := prog_6_method_12_code
def yX4_isCount : MethodName := ⟨RX4, "isCount", "(I)Z"⟩
def RX5 : String := "BlackBalls$Person"
def TX5 : u_T := fun k => match k with
  | 0 => ("BlackBalls$Person", "number", "I", true)
  | 1 => ("BlackBalls$Person", "mindsEach", "[I", true)
  | 2 => ("BlackBalls$Person", "keptMinds", "[I", true)
  | 3 => ("BlackBalls$Person", "comesTenths", "I", false)
  | 4 => ("BlackBalls$Person", "keptComes", "I", false)
  | _ => ("BlackBalls$Person", "keptCandidates", "I", false)
def tyX5 : Nat → FieldType := fun k => match k with
  | 0 => .int
  | 1 => .array .int
  | 2 => .array .int
  | 3 => .int
  | 4 => .int
  | _ => .int
theorem nmX5 : ∀ a, a < 6 → ∀ b, b < 6 → a ≠ b → (TX5 a).2.1 ≠ (TX5 b).2.1 := by decide +kernel
theorem tyX5_ok : ∀ k, k < 6 → parseFieldDescriptor (TX5 k).2.2.1 = some (tyX5 k) := by decide +kernel
abbrev cX5_init : ByteArray := prog_7_method_1_code
def yX5_init : MethodName := ⟨RX5, "<init>", "(II)V"⟩
abbrev cX5_kind : ByteArray := prog_7_method_2_code
def yX5_kind : MethodName := ⟨RX5, "kind", "()I"⟩
abbrev cX5_n : ByteArray := prog_7_method_3_code
def yX5_n : MethodName := ⟨RX5, "n", "()I"⟩
abbrev cX5_blackOfStranger : ByteArray := prog_7_method_4_code
def yX5_blackOfStranger : MethodName := ⟨RX5, "blackOfStranger", "(IIZ)I"⟩
abbrev cX5_blackFor : ByteArray := prog_7_method_5_code
def yX5_blackFor : MethodName := ⟨RX5, "blackFor", "(IIZ)I"⟩
abbrev cX5_mindsOf : ByteArray := prog_7_method_6_code
def yX5_mindsOf : MethodName := ⟨RX5, "mindsOf", "(I)I"⟩
abbrev cX5_mindsMuch : ByteArray := prog_7_method_7_code
def yX5_mindsMuch : MethodName := ⟨RX5, "mindsMuch", "(I)Z"⟩
abbrev cX5_mindFrom : ByteArray := prog_7_method_8_code
def yX5_mindFrom : MethodName := ⟨RX5, "mindFrom", "(II)V"⟩
abbrev cX5_keep : ByteArray := prog_7_method_9_code
def yX5_keep : MethodName := ⟨RX5, "keep", "(I)V"⟩
abbrev cX5_takeBack : ByteArray := prog_7_method_10_code
def yX5_takeBack : MethodName := ⟨RX5, "takeBack", "()V"⟩
def RX6 : String := "BlackBalls$Rule"
def TX6 : u_T := fun k => match k with
  | 0 => ("BlackBalls$Rule", "blacks", "I", true)
  | 1 => ("BlackBalls$Rule", "ratio", "I", true)
  | 2 => ("BlackBalls$Rule", "quorum", "I", true)
  | 3 => ("BlackBalls$Rule", "twice", "Z", true)
  | _ => ("BlackBalls$Rule", "countTold", "Z", true)
def tyX6 : Nat → FieldType := fun k => match k with
  | 0 => .int
  | 1 => .int
  | 2 => .int
  | 3 => .boolean
  | _ => .boolean
theorem nmX6 : ∀ a, a < 5 → ∀ b, b < 5 → a ≠ b → (TX6 a).2.1 ≠ (TX6 b).2.1 := by decide +kernel
theorem tyX6_ok : ∀ k, k < 5 → parseFieldDescriptor (TX6 k).2.2.1 = some (tyX6 k) := by decide +kernel
abbrev cX6_init : ByteArray := prog_8_method_1_code
def yX6_init : MethodName := ⟨RX6, "<init>", "(IIIZZ)V"⟩
abbrev cX6_told : ByteArray := prog_8_method_2_code
def yX6_told : MethodName := ⟨RX6, "told", "(I)I"⟩
abbrev cX6_hasQuorum : ByteArray := prog_8_method_3_code
def yX6_hasQuorum : MethodName := ⟨RX6, "hasQuorum", "(I)Z"⟩
abbrev cX6_shutsOut : ByteArray := prog_8_method_4_code
def yX6_shutsOut : MethodName := ⟨RX6, "shutsOut", "(II)Z"⟩
abbrev cX6_letsIn : ByteArray := prog_8_method_5_code
def yX6_letsIn : MethodName := ⟨RX6, "letsIn", "(II)Z"⟩
def RX7 : String := "BlackBalls$Tally"
def TX7 : u_T := fun k => match k with
  | 0 => ("BlackBalls$Tally", "ways", "[J", true)
  | 1 => ("BlackBalls$Tally", "balls", "I", false)
  | _ => ("BlackBalls$Tally", "all", "J", false)
def tyX7 : Nat → FieldType := fun k => match k with
  | 0 => .array .long
  | 1 => .int
  | _ => .long
theorem nmX7 : ∀ a, a < 3 → ∀ b, b < 3 → a ≠ b → (TX7 a).2.1 ≠ (TX7 b).2.1 := by decide +kernel
theorem tyX7_ok : ∀ k, k < 3 → parseFieldDescriptor (TX7 k).2.2.1 = some (tyX7 k) := by decide +kernel
abbrev cX7_init : ByteArray := prog_9_method_1_code
def yX7_init : MethodName := ⟨RX7, "<init>", "()V"⟩
abbrev cX7_begin : ByteArray := prog_9_method_2_code
def yX7_begin : MethodName := ⟨RX7, "begin", "()V"⟩
abbrev cX7_put : ByteArray := prog_9_method_3_code
def yX7_put : MethodName := ⟨RX7, "put", "(I)V"⟩
abbrev cX7_waysTo : ByteArray := prog_9_method_4_code
def yX7_waysTo : MethodName := ⟨RX7, "waysTo", "(I)J"⟩
abbrev cX7_all : ByteArray := prog_9_method_5_code
def yX7_all : MethodName := ⟨RX7, "all", "()J"⟩
def RX8 : String := "BlackBalls$Traded"
def TX8 : u_T := fun k => match k with
  | 0 => ("BlackBalls$Vengeful", "other", "I", true)
  | 1 => ("BlackBalls$Person", "number", "I", true)
  | 2 => ("BlackBalls$Person", "mindsEach", "[I", true)
  | 3 => ("BlackBalls$Person", "keptMinds", "[I", true)
  | 4 => ("BlackBalls$Person", "comesTenths", "I", false)
  | 5 => ("BlackBalls$Person", "keptComes", "I", false)
  | _ => ("BlackBalls$Person", "keptCandidates", "I", false)
def tyX8 : Nat → FieldType := fun k => match k with
  | 0 => .int
  | 1 => .int
  | 2 => .array .int
  | 3 => .array .int
  | 4 => .int
  | 5 => .int
  | _ => .int
theorem nmX8 : ∀ a, a < 7 → ∀ b, b < 7 → a ≠ b → (TX8 a).2.1 ≠ (TX8 b).2.1 := by decide +kernel
theorem tyX8_ok : ∀ k, k < 7 → parseFieldDescriptor (TX8 k).2.2.1 = some (tyX8 k) := by decide +kernel
abbrev cX8_init : ByteArray := prog_10_method_1_code
def yX8_init : MethodName := ⟨RX8, "<init>", "(III)V"⟩
abbrev cX8_kind : ByteArray := prog_10_method_2_code
def yX8_kind : MethodName := ⟨RX8, "kind", "()I"⟩
abbrev cX8_blackOfStranger : ByteArray := prog_10_method_3_code
def yX8_blackOfStranger : MethodName := ⟨RX8, "blackOfStranger", "(IIZ)I"⟩
def RX9 : String := "BlackBalls$Turnout"
def TX9 : u_T := fun k => match k with
  | 0 => ("BlackBalls$Turnout", "ways", "[J", true)
  | 1 => ("BlackBalls$Turnout", "asked", "I", false)
  | _ => ("BlackBalls$Turnout", "all", "J", false)
def tyX9 : Nat → FieldType := fun k => match k with
  | 0 => .array .long
  | 1 => .int
  | _ => .long
theorem nmX9 : ∀ a, a < 3 → ∀ b, b < 3 → a ≠ b → (TX9 a).2.1 ≠ (TX9 b).2.1 := by decide +kernel
theorem tyX9_ok : ∀ k, k < 3 → parseFieldDescriptor (TX9 k).2.2.1 = some (tyX9 k) := by decide +kernel
abbrev cX9_init : ByteArray := prog_11_method_1_code
def yX9_init : MethodName := ⟨RX9, "<init>", "()V"⟩
abbrev cX9_begin : ByteArray := prog_11_method_2_code
def yX9_begin : MethodName := ⟨RX9, "begin", "()V"⟩
abbrev cX9_mayCome : ByteArray := prog_11_method_3_code
def yX9_mayCome : MethodName := ⟨RX9, "mayCome", "(II)V"⟩
abbrev cX9_waysIn : ByteArray := prog_11_method_4_code
def yX9_waysIn : MethodName := ⟨RX9, "waysIn", "(LBlackBalls$Rule;)J"⟩
abbrev cX9_all : ByteArray := prog_11_method_5_code
def yX9_all : MethodName := ⟨RX9, "all", "()J"⟩
abbrev cX9_waysTo : ByteArray := prog_11_method_6_code
def yX9_waysTo : MethodName := ⟨RX9, "waysTo", "(II)J"⟩
def RX10 : String := "BlackBalls$Vengeful"
def TX10 : u_T := fun k => match k with
  | 0 => ("BlackBalls$Person", "number", "I", true)
  | 1 => ("BlackBalls$Person", "mindsEach", "[I", true)
  | 2 => ("BlackBalls$Person", "keptMinds", "[I", true)
  | 3 => ("BlackBalls$Person", "comesTenths", "I", false)
  | 4 => ("BlackBalls$Person", "keptComes", "I", false)
  | 5 => ("BlackBalls$Person", "keptCandidates", "I", false)
  | _ => ("BlackBalls$Vengeful", "other", "I", true)
def tyX10 : Nat → FieldType := fun k => match k with
  | 0 => .int
  | 1 => .array .int
  | 2 => .array .int
  | 3 => .int
  | 4 => .int
  | 5 => .int
  | _ => .int
theorem nmX10 : ∀ a, a < 7 → ∀ b, b < 7 → a ≠ b → (TX10 a).2.1 ≠ (TX10 b).2.1 := by decide +kernel
theorem tyX10_ok : ∀ k, k < 7 → parseFieldDescriptor (TX10 k).2.2.1 = some (tyX10 k) := by decide +kernel
abbrev cX10_init : ByteArray := prog_12_method_1_code
def yX10_init : MethodName := ⟨RX10, "<init>", "(III)V"⟩
abbrev cX10_kind : ByteArray := prog_12_method_2_code
def yX10_kind : MethodName := ⟨RX10, "kind", "()I"⟩
abbrev cX10_n : ByteArray := prog_12_method_3_code
def yX10_n : MethodName := ⟨RX10, "n", "()I"⟩
abbrev cX10_blackOfStranger : ByteArray := prog_12_method_4_code
def yX10_blackOfStranger : MethodName := ⟨RX10, "blackOfStranger", "(IIZ)I"⟩
def RX11 : String := "BlackBalls"
def TX11 : u_T := fun k => match k with
  | 0 => ("BlackBalls", "page", "LBlackBalls$Page;", true)
  | 1 => ("BlackBalls", "rules", "[LBlackBalls$Rule;", true)
  | 2 => ("BlackBalls", "people", "[LBlackBalls$Person;", true)
  | 3 => ("BlackBalls", "friends", "[I", true)
  | 4 => ("BlackBalls", "tally", "LBlackBalls$Tally;", true)
  | 5 => ("BlackBalls", "turnout", "LBlackBalls$Turnout;", true)
  | 6 => ("BlackBalls", "ballot", "LBlackBalls$Ballot;", true)
  | 7 => ("BlackBalls", "club", "LBlackBalls$Club;", true)
  | 8 => ("BlackBalls", "vetoRow", "[J", true)
  | 9 => ("BlackBalls", "ruleCount", "I", false)
  | 10 => ("BlackBalls", "peopleCount", "I", false)
  | 11 => ("BlackBalls", "candidateCount", "I", false)
  | _ => ("BlackBalls", "imageKept", "Z", false)
def tyX11 : Nat → FieldType := fun k => match k with
  | 0 => .object "BlackBalls$Page"
  | 1 => .array (.object "BlackBalls$Rule")
  | 2 => .array (.object "BlackBalls$Person")
  | 3 => .array .int
  | 4 => .object "BlackBalls$Tally"
  | 5 => .object "BlackBalls$Turnout"
  | 6 => .object "BlackBalls$Ballot"
  | 7 => .object "BlackBalls$Club"
  | 8 => .array .long
  | 9 => .int
  | 10 => .int
  | 11 => .int
  | _ => .boolean
theorem nmX11 : ∀ a, a < 13 → ∀ b, b < 13 → a ≠ b → (TX11 a).2.1 ≠ (TX11 b).2.1 := by decide +kernel
theorem tyX11_ok : ∀ k, k < 13 → parseFieldDescriptor (TX11 k).2.2.1 = some (tyX11 k) := by decide +kernel
abbrev cX11_init : ByteArray := prog_1_method_1_code
def yX11_init : MethodName := ⟨RX11, "<init>", "()V"⟩
abbrev cX11_letters : ByteArray := prog_1_method_2_code
def yX11_letters : MethodName := ⟨RX11, "letters", "(J)I"⟩
abbrev cX11_blank : ByteArray := prog_1_method_3_code
def yX11_blank : MethodName := ⟨RX11, "blank", "()I"⟩
abbrev cX11_fault : ByteArray := prog_1_method_4_code
def yX11_fault : MethodName := ⟨RX11, "fault", "()I"⟩
abbrev cX11_rule : ByteArray := prog_1_method_5_code
def yX11_rule : MethodName := ⟨RX11, "rule", "()I"⟩
abbrev cX11_ruleTold : ByteArray := prog_1_method_6_code
def yX11_ruleTold : MethodName := ⟨RX11, "ruleTold", "(II)I"⟩
abbrev cX11_member : ByteArray := prog_1_method_7_code
def yX11_member : MethodName := ⟨RX11, "member", "(III)I"⟩
abbrev cX11_as : ByteArray := prog_1_method_8_code
def yX11_as : MethodName := ⟨RX11, "as", "(II)I"⟩
abbrev cX11_about : ByteArray := prog_1_method_9_code
def yX11_about : MethodName := ⟨RX11, "about", "(II)I"⟩
abbrev cX11_comes : ByteArray := prog_1_method_10_code
def yX11_comes : MethodName := ⟨RX11, "comes", "(II)I"⟩
abbrev cX11_candidate : ByteArray := prog_1_method_11_code
def yX11_candidate : MethodName := ⟨RX11, "candidate", "(I)I"⟩
abbrev cX11_minds : ByteArray := prog_1_method_12_code
def yX11_minds : MethodName := ⟨RX11, "minds", "(III)I"⟩
abbrev cX11_friend : ByteArray := prog_1_method_13_code
def yX11_friend : MethodName := ⟨RX11, "friend", "(II)I"⟩
abbrev cX11_black : ByteArray := prog_1_method_14_code
def yX11_black : MethodName := ⟨RX11, "black", "(IIII)I"⟩
abbrev cX11_balls : ByteArray := prog_1_method_15_code
def yX11_balls : MethodName := ⟨RX11, "balls", "(IIIII)I"⟩
abbrev cX11_in : ByteArray := prog_1_method_16_code
def yX11_in : MethodName := ⟨RX11, "in", "(IIII)J"⟩
abbrev cX11_large : ByteArray := prog_1_method_17_code
def yX11_large : MethodName := ⟨RX11, "large", "(III)J"⟩
abbrev cX11_wrong : ByteArray := prog_1_method_18_code
def yX11_wrong : MethodName := ⟨RX11, "wrong", "(II)J"⟩
abbrev cX11_best : ByteArray := prog_1_method_19_code
def yX11_best : MethodName := ⟨RX11, "best", "(I)I"⟩
abbrev cX11_who : ByteArray := prog_1_method_20_code
def yX11_who : MethodName := ⟨RX11, "who", "(IIIIII)I"⟩
abbrev cX11_heard : ByteArray := prog_1_method_21_code
def yX11_heard : MethodName := ⟨RX11, "heard", "(IIIIIZI)I"⟩
abbrev cX11_sway : ByteArray := prog_1_method_22_code
def yX11_sway : MethodName := ⟨RX11, "sway", "(III)I"⟩
abbrev cX11_word : ByteArray := prog_1_method_23_code
def yX11_word : MethodName := ⟨RX11, "word", "(III)I"⟩
abbrev cX11_seen : ByteArray := prog_1_method_24_code
def yX11_seen : MethodName := ⟨RX11, "seen", "(IIII)J"⟩
abbrev cX11_evening : ByteArray := prog_1_method_25_code
def yX11_evening : MethodName := ⟨RX11, "evening", "(IIIII)I"⟩
abbrev cX11_trade : ByteArray := prog_1_method_26_code
def yX11_trade : MethodName := ⟨RX11, "trade", "(IIIII)I"⟩
abbrev cX11_veto : ByteArray := prog_1_method_27_code
def yX11_veto : MethodName := ⟨RX11, "veto", "(III)I"⟩
abbrev cX11_worth : ByteArray := prog_1_method_28_code
def yX11_worth : MethodName := ⟨RX11, "worth", "(III)J"⟩
abbrev cX11_years : ByteArray := prog_1_method_29_code
def yX11_years : MethodName := ⟨RX11, "years", "(IIII)I"⟩
abbrev cX11_lot : ByteArray := prog_1_method_30_code
def yX11_lot : MethodName := ⟨RX11, "lot", "(II)I"⟩
abbrev cX11_image : ByteArray := prog_1_method_31_code
def yX11_image : MethodName := ⟨RX11, "image", "()I"⟩
abbrev cX11_restore : ByteArray := prog_1_method_32_code
def yX11_restore : MethodName := ⟨RX11, "restore", "()I"⟩
abbrev cX11_count : ByteArray := prog_1_method_33_code
def yX11_count : MethodName := ⟨RX11, "count", "(I)I"⟩
abbrev cX11_digest : ByteArray := prog_1_method_34_code
def yX11_digest : MethodName := ⟨RX11, "digest", "()J"⟩
abbrev cX11_ruleAt : ByteArray := prog_1_method_35_code
def yX11_ruleAt : MethodName := ⟨RX11, "ruleAt", "(I)LBlackBalls$Rule;"⟩
abbrev cX11_personAt : ByteArray := prog_1_method_36_code
def yX11_personAt : MethodName := ⟨RX11, "personAt", "(I)LBlackBalls$Person;"⟩
abbrev cX11_isCandidate : ByteArray := prog_1_method_37_code
def yX11_isCandidate : MethodName := ⟨RX11, "isCandidate", "(I)Z"⟩
abbrev cX11_friendOf : ByteArray := prog_1_method_38_code
def yX11_friendOf : MethodName := ⟨RX11, "friendOf", "(I)I"⟩
abbrev cX11_everybody : ByteArray := prog_1_method_39_code
def yX11_everybody : MethodName := ⟨RX11, "everybody", "()I"⟩
abbrev cX11_areComers : ByteArray := prog_1_method_40_code
def yX11_areComers : MethodName := ⟨RX11, "areComers", "(I)Z"⟩
abbrev cX11_isOneOf : ByteArray := prog_1_method_41_code
def yX11_isOneOf : MethodName := ⟨RX11, "isOneOf", "(II)Z"⟩
abbrev cX11_isPart : ByteArray := prog_1_method_42_code
def yX11_isPart : MethodName := ⟨RX11, "isPart", "(I)Z"⟩
abbrev cX11_within : ByteArray := prog_1_method_43_code
def yX11_within : MethodName := ⟨RX11, "within", "(III)Z"⟩
abbrev cX11_newPerson : ByteArray := prog_1_method_44_code
def yX11_newPerson : MethodName := ⟨RX11, "newPerson", "(III)LBlackBalls$Person;"⟩
abbrev cX11_isSuch : ByteArray := prog_1_method_45_code
def yX11_isSuch : MethodName := ⟨RX11, "isSuch", "(LBlackBalls$Person;I)Z"⟩
abbrev cX11_howManyMindMuch : ByteArray := prog_1_method_46_code
def yX11_howManyMindMuch : MethodName := ⟨RX11, "howManyMindMuch", "(I)I"⟩
abbrev cX11_isMinded : ByteArray := prog_1_method_47_code
def yX11_isMinded : MethodName := ⟨RX11, "isMinded", "(I)Z"⟩
abbrev cX11_howManyMinded : ByteArray := prog_1_method_48_code
def yX11_howManyMinded : MethodName := ⟨RX11, "howManyMinded", "()I"⟩
abbrev cX11_isWatched : ByteArray := prog_1_method_49_code
def yX11_isWatched : MethodName := ⟨RX11, "isWatched", "(LBlackBalls$Rule;I)Z"⟩
abbrev cX11_blackOf : ByteArray := prog_1_method_50_code
def yX11_blackOf : MethodName := ⟨RX11, "blackOf", "(LBlackBalls$Person;IZ)I"⟩
abbrev cX11_tallyBalls : ByteArray := prog_1_method_51_code
def yX11_tallyBalls : MethodName := ⟨RX11, "tallyBalls", "(IIZ)V"⟩
abbrev cX11_inWays : ByteArray := prog_1_method_52_code
def yX11_inWays : MethodName := ⟨RX11, "inWays", "(LBlackBalls$Rule;II)J"⟩
abbrev cX11_squaredTens : ByteArray := prog_1_method_53_code
def yX11_squaredTens : MethodName := ⟨RX11, "squaredTens", "(I)J"⟩
abbrev cX11_wrongWays : ByteArray := prog_1_method_54_code
def yX11_wrongWays : MethodName := ⟨RX11, "wrongWays", "(LBlackBalls$Rule;I)J"⟩
abbrev cX11_withdraws : ByteArray := prog_1_method_55_code
def yX11_withdraws : MethodName := ⟨RX11, "withdraws", "(JII)Z"⟩
abbrev cX11_letInByOneBall : ByteArray := prog_1_method_56_code
def yX11_letInByOneBall : MethodName := ⟨RX11, "letInByOneBall", "(LBlackBalls$Rule;III)I"⟩
abbrev cX11_gain : ByteArray := prog_1_method_57_code
def yX11_gain : MethodName := ⟨RX11, "gain", "(LBlackBalls$Person;IIIII)I"⟩
abbrev cX11_expectVetoes : ByteArray := prog_1_method_58_code
def yX11_expectVetoes : MethodName := ⟨RX11, "expectVetoes", "(I)J"⟩
abbrev cX11_digestRules : ByteArray := prog_1_method_59_code
def yX11_digestRules : MethodName := ⟨RX11, "digestRules", "(J)J"⟩
abbrev cX11_digestPeople : ByteArray := prog_1_method_60_code
def yX11_digestPeople : MethodName := ⟨RX11, "digestPeople", "(J)J"⟩
abbrev cX11_digestCandidates : ByteArray := prog_1_method_61_code
def yX11_digestCandidates : MethodName := ⟨RX11, "digestCandidates", "(J)J"⟩
abbrev cX11_digestIn : ByteArray := prog_1_method_62_code
def yX11_digestIn : MethodName := ⟨RX11, "digestIn", "(J)J"⟩
abbrev cX11_mix : ByteArray := prog_1_method_63_code
def yX11_mix : MethodName := ⟨RX11, "mix", "(JJ)J"⟩
abbrev cX11_power : ByteArray := prog_1_method_64_code
def yX11_power : MethodName := ⟨RX11, "power", "(JI)J"⟩
abbrev cX11_commonDivisor : ByteArray := prog_1_method_65_code
def yX11_commonDivisor : MethodName := ⟨RX11, "commonDivisor", "(JJ)J"⟩
abbrev cX11_lowest : ByteArray := prog_1_method_66_code
def yX11_lowest : MethodName := ⟨RX11, "lowest", "(JJI)J"⟩
def RX12 : String := "BlackBallsModel"
def TX12 : u_T := fun k => match k with
  | 0 => ("BlackBallsModel", "members", "I", false)
  | 1 => ("BlackBallsModel", "kindOf", "[I", true)
  | 2 => ("BlackBallsModel", "numberOf", "[I", true)
  | 3 => ("BlackBallsModel", "comesOf", "[I", true)
  | 4 => ("BlackBallsModel", "candidates", "I", false)
  | 5 => ("BlackBallsModel", "friendOf", "[I", true)
  | 6 => ("BlackBallsModel", "mindsOf", "[I", true)
  | 7 => ("BlackBallsModel", "rules", "I", false)
  | 8 => ("BlackBallsModel", "blacksOf", "[I", true)
  | 9 => ("BlackBallsModel", "ratioOf", "[I", true)
  | 10 => ("BlackBallsModel", "quorumOf", "[I", true)
  | 11 => ("BlackBallsModel", "isTwice", "[Z", true)
  | 12 => ("BlackBallsModel", "isTold", "[Z", true)
  | 13 => ("BlackBallsModel", "pageLength", "I", false)
  | 14 => ("BlackBallsModel", "page", "[B", true)
  | 15 => ("BlackBallsModel", "isKept", "Z", false)
  | 16 => ("BlackBallsModel", "keptMembers", "I", false)
  | 17 => ("BlackBallsModel", "keptCandidates", "I", false)
  | 18 => ("BlackBallsModel", "keptComes", "[I", true)
  | 19 => ("BlackBallsModel", "keptMinds", "[I", true)
  | 20 => ("BlackBallsModel", "faultAt", "I", false)
  | 21 => ("BlackBallsModel", "isWhole", "Z", false)
  | 22 => ("BlackBallsModel", "newBlacks", "I", false)
  | 23 => ("BlackBallsModel", "newRatio", "I", false)
  | 24 => ("BlackBallsModel", "newQuorum", "I", false)
  | 25 => ("BlackBallsModel", "newTwice", "Z", false)
  | 26 => ("BlackBallsModel", "newTold", "Z", false)
  | 27 => ("BlackBallsModel", "ways", "[J", true)
  | 28 => ("BlackBallsModel", "seedNow", "J", false)
  | 29 => ("BlackBallsModel", "tradeX", "I", false)
  | 30 => ("BlackBallsModel", "tradeY", "I", false)
  | 31 => ("BlackBallsModel", "tradeA", "I", false)
  | 32 => ("BlackBallsModel", "tradeB", "I", false)
  | 33 => ("BlackBallsModel", "expected", "[J", true)
  | 34 => ("BlackBallsModel", "people", "I", false)
  | 35 => ("BlackBallsModel", "taste", "[I", true)
  | _ => ("BlackBallsModel", "h", "J", false)
def tyX12 : Nat → FieldType := fun k => match k with
  | 0 => .int
  | 1 => .array .int
  | 2 => .array .int
  | 3 => .array .int
  | 4 => .int
  | 5 => .array .int
  | 6 => .array .int
  | 7 => .int
  | 8 => .array .int
  | 9 => .array .int
  | 10 => .array .int
  | 11 => .array .boolean
  | 12 => .array .boolean
  | 13 => .int
  | 14 => .array .byte
  | 15 => .boolean
  | 16 => .int
  | 17 => .int
  | 18 => .array .int
  | 19 => .array .int
  | 20 => .int
  | 21 => .boolean
  | 22 => .int
  | 23 => .int
  | 24 => .int
  | 25 => .boolean
  | 26 => .boolean
  | 27 => .array .long
  | 28 => .long
  | 29 => .int
  | 30 => .int
  | 31 => .int
  | 32 => .int
  | 33 => .array .long
  | 34 => .int
  | 35 => .array .int
  | _ => .long
theorem nmX12 : ∀ a, a < 37 → ∀ b, b < 37 → a ≠ b → (TX12 a).2.1 ≠ (TX12 b).2.1 := by decide +kernel
theorem tyX12_ok : ∀ k, k < 37 → parseFieldDescriptor (TX12 k).2.2.1 = some (tyX12 k) := by decide +kernel
abbrev cX12_init : ByteArray := prog_14_method_1_code
def yX12_init : MethodName := ⟨RX12, "<init>", "()V"⟩
abbrev cX12_within : ByteArray := prog_14_method_3_code
def yX12_within : MethodName := ⟨RX12, "within", "(III)Z"⟩
abbrev cX12_has : ByteArray := prog_14_method_4_code
def yX12_has : MethodName := ⟨RX12, "has", "(II)Z"⟩
abbrev cX12_ones : ByteArray := prog_14_method_5_code
def yX12_ones : MethodName := ⟨RX12, "ones", "(I)I"⟩
abbrev cX12_isPart : ByteArray := prog_14_method_6_code
def yX12_isPart : MethodName := ⟨RX12, "isPart", "(I)Z"⟩
abbrev cX12_lowest : ByteArray := prog_14_method_7_code
def yX12_lowest : MethodName := ⟨RX12, "lowest", "(JJI)J"⟩
abbrev cX12_tens : ByteArray := prog_14_method_8_code
def yX12_tens : MethodName := ⟨RX12, "tens", "(I)J"⟩
abbrev cX12_letters : ByteArray := prog_14_method_9_code
def yX12_letters : MethodName := ⟨RX12, "letters", "(J)I"⟩
abbrev cX12_blank : ByteArray := prog_14_method_10_code
def yX12_blank : MethodName := ⟨RX12, "blank", "()I"⟩
abbrev cX12_isDigit : ByteArray := prog_14_method_11_code
def yX12_isDigit : MethodName := ⟨RX12, "isDigit", "(I)Z"⟩
abbrev cX12_next : ByteArray := prog_14_method_12_code
def yX12_next : MethodName := ⟨RX12, "next", "(II)I"⟩
abbrev cX12_nextRatio : ByteArray := prog_14_method_13_code
def yX12_nextRatio : MethodName := ⟨RX12, "nextRatio", "(I)I"⟩
abbrev cX12_readPage : ByteArray := prog_14_method_14_code
def yX12_readPage : MethodName := ⟨RX12, "readPage", "()V"⟩
abbrev cX12_fault : ByteArray := prog_14_method_15_code
def yX12_fault : MethodName := ⟨RX12, "fault", "()I"⟩
abbrev cX12_rule : ByteArray := prog_14_method_16_code
def yX12_rule : MethodName := ⟨RX12, "rule", "()I"⟩
abbrev cX12_isRule : ByteArray := prog_14_method_17_code
def yX12_isRule : MethodName := ⟨RX12, "isRule", "(I)Z"⟩
abbrev cX12_ruleNow : ByteArray := prog_14_method_18_code
def yX12_ruleNow : MethodName := ⟨RX12, "ruleNow", "(II)I"⟩
abbrev cX12_ruleTold : ByteArray := prog_14_method_19_code
def yX12_ruleTold : MethodName := ⟨RX12, "ruleTold", "(II)I"⟩
abbrev cX12_isMember : ByteArray := prog_14_method_20_code
def yX12_isMember : MethodName := ⟨RX12, "isMember", "(I)Z"⟩
abbrev cX12_isCandidate : ByteArray := prog_14_method_21_code
def yX12_isCandidate : MethodName := ⟨RX12, "isCandidate", "(I)Z"⟩
abbrev cX12_member : ByteArray := prog_14_method_22_code
def yX12_member : MethodName := ⟨RX12, "member", "(III)I"⟩
abbrev cX12_as : ByteArray := prog_14_method_23_code
def yX12_as : MethodName := ⟨RX12, "as", "(II)I"⟩
abbrev cX12_memberNow : ByteArray := prog_14_method_24_code
def yX12_memberNow : MethodName := ⟨RX12, "memberNow", "(II)I"⟩
abbrev cX12_about : ByteArray := prog_14_method_25_code
def yX12_about : MethodName := ⟨RX12, "about", "(II)I"⟩
abbrev cX12_comes : ByteArray := prog_14_method_26_code
def yX12_comes : MethodName := ⟨RX12, "comes", "(II)I"⟩
abbrev cX12_candidate : ByteArray := prog_14_method_27_code
def yX12_candidate : MethodName := ⟨RX12, "candidate", "(I)I"⟩
abbrev cX12_minds : ByteArray := prog_14_method_28_code
def yX12_minds : MethodName := ⟨RX12, "minds", "(III)I"⟩
abbrev cX12_mindedBy : ByteArray := prog_14_method_29_code
def yX12_mindedBy : MethodName := ⟨RX12, "mindedBy", "(I)I"⟩
abbrev cX12_isMinded : ByteArray := prog_14_method_30_code
def yX12_isMinded : MethodName := ⟨RX12, "isMinded", "(I)Z"⟩
abbrev cX12_candidateNow : ByteArray := prog_14_method_31_code
def yX12_candidateNow : MethodName := ⟨RX12, "candidateNow", "(II)I"⟩
abbrev cX12_friend : ByteArray := prog_14_method_32_code
def yX12_friend : MethodName := ⟨RX12, "friend", "(II)I"⟩
abbrev cX12_areComers : ByteArray := prog_14_method_33_code
def yX12_areComers : MethodName := ⟨RX12, "areComers", "(I)Z"⟩
abbrev cX12_blackBy : ByteArray := prog_14_method_34_code
def yX12_blackBy : MethodName := ⟨RX12, "blackBy", "(IIII)I"⟩
abbrev cX12_black : ByteArray := prog_14_method_35_code
def yX12_black : MethodName := ⟨RX12, "black", "(IIII)I"⟩
abbrev cX12_layWays : ByteArray := prog_14_method_36_code
def yX12_layWays : MethodName := ⟨RX12, "layWays", "(IIIII)V"⟩
abbrev cX12_shuts : ByteArray := prog_14_method_37_code
def yX12_shuts : MethodName := ⟨RX12, "shuts", "(III)Z"⟩
abbrev cX12_shutBy : ByteArray := prog_14_method_38_code
def yX12_shutBy : MethodName := ⟨RX12, "shutBy", "(IIII)J"⟩
abbrev cX12_inBy : ByteArray := prog_14_method_39_code
def yX12_inBy : MethodName := ⟨RX12, "inBy", "(III)J"⟩
abbrev cX12_areThere : ByteArray := prog_14_method_40_code
def yX12_areThere : MethodName := ⟨RX12, "areThere", "(II)Z"⟩
abbrev cX12_balls : ByteArray := prog_14_method_41_code
def yX12_balls : MethodName := ⟨RX12, "balls", "(IIIII)I"⟩
abbrev cX12_in : ByteArray := prog_14_method_42_code
def yX12_in : MethodName := ⟨RX12, "in", "(IIII)J"⟩
abbrev cX12_comesBy : ByteArray := prog_14_method_43_code
def yX12_comesBy : MethodName := ⟨RX12, "comesBy", "(I)J"⟩
abbrev cX12_large : ByteArray := prog_14_method_44_code
def yX12_large : MethodName := ⟨RX12, "large", "(III)J"⟩
abbrev cX12_wrongBy : ByteArray := prog_14_method_45_code
def yX12_wrongBy : MethodName := ⟨RX12, "wrongBy", "(II)J"⟩
abbrev cX12_wrong : ByteArray := prog_14_method_46_code
def yX12_wrong : MethodName := ⟨RX12, "wrong", "(II)J"⟩
abbrev cX12_best : ByteArray := prog_14_method_47_code
def yX12_best : MethodName := ⟨RX12, "best", "(I)I"⟩
abbrev cX12_isAsked : ByteArray := prog_14_method_48_code
def yX12_isAsked : MethodName := ⟨RX12, "isAsked", "(III)Z"⟩
abbrev cX12_who : ByteArray := prog_14_method_49_code
def yX12_who : MethodName := ⟨RX12, "who", "(IIIIII)I"⟩
abbrev cX12_heard : ByteArray := prog_14_method_50_code
def yX12_heard : MethodName := ⟨RX12, "heard", "(IIIIIZI)I"⟩
abbrev cX12_sway : ByteArray := prog_14_method_51_code
def yX12_sway : MethodName := ⟨RX12, "sway", "(III)I"⟩
abbrev cX12_withdraws : ByteArray := prog_14_method_52_code
def yX12_withdraws : MethodName := ⟨RX12, "withdraws", "(IIII)Z"⟩
abbrev cX12_word : ByteArray := prog_14_method_53_code
def yX12_word : MethodName := ⟨RX12, "word", "(III)I"⟩
abbrev cX12_seen : ByteArray := prog_14_method_54_code
def yX12_seen : MethodName := ⟨RX12, "seen", "(IIII)J"⟩
abbrev cX12_draw : ByteArray := prog_14_method_55_code
def yX12_draw : MethodName := ⟨RX12, "draw", "(I)I"⟩
abbrev cX12_goRound : ByteArray := prog_14_method_56_code
def yX12_goRound : MethodName := ⟨RX12, "goRound", "(III)I"⟩
abbrev cX12_evening : ByteArray := prog_14_method_57_code
def yX12_evening : MethodName := ⟨RX12, "evening", "(IIIII)I"⟩
abbrev cX12_isInBy : ByteArray := prog_14_method_58_code
def yX12_isInBy : MethodName := ⟨RX12, "isInBy", "(IIIII)Z"⟩
abbrev cX12_gain : ByteArray := prog_14_method_59_code
def yX12_gain : MethodName := ⟨RX12, "gain", "(III)I"⟩
abbrev cX12_trade : ByteArray := prog_14_method_60_code
def yX12_trade : MethodName := ⟨RX12, "trade", "(IIIII)I"⟩
abbrev cX12_elevens : ByteArray := prog_14_method_61_code
def yX12_elevens : MethodName := ⟨RX12, "elevens", "(I)J"⟩
abbrev cX12_isUsed : ByteArray := prog_14_method_62_code
def yX12_isUsed : MethodName := ⟨RX12, "isUsed", "(III)Z"⟩
abbrev cX12_layVetoes : ByteArray := prog_14_method_63_code
def yX12_layVetoes : MethodName := ⟨RX12, "layVetoes", "(I)V"⟩
abbrev cX12_veto : ByteArray := prog_14_method_64_code
def yX12_veto : MethodName := ⟨RX12, "veto", "(III)I"⟩
abbrev cX12_worth : ByteArray := prog_14_method_65_code
def yX12_worth : MethodName := ⟨RX12, "worth", "(III)J"⟩
abbrev cX12_clubRound : ByteArray := prog_14_method_66_code
def yX12_clubRound : MethodName := ⟨RX12, "clubRound", "(I)I"⟩
abbrev cX12_isLetIn : ByteArray := prog_14_method_67_code
def yX12_isLetIn : MethodName := ⟨RX12, "isLetIn", "(II)Z"⟩
abbrev cX12_unlike : ByteArray := prog_14_method_68_code
def yX12_unlike : MethodName := ⟨RX12, "unlike", "()I"⟩
abbrev cX12_years : ByteArray := prog_14_method_69_code
def yX12_years : MethodName := ⟨RX12, "years", "(IIII)I"⟩
abbrev cX12_mindedMany : ByteArray := prog_14_method_70_code
def yX12_mindedMany : MethodName := ⟨RX12, "mindedMany", "()I"⟩
abbrev cX12_lot : ByteArray := prog_14_method_71_code
def yX12_lot : MethodName := ⟨RX12, "lot", "(II)I"⟩
abbrev cX12_image : ByteArray := prog_14_method_72_code
def yX12_image : MethodName := ⟨RX12, "image", "()I"⟩
abbrev cX12_restore : ByteArray := prog_14_method_73_code
def yX12_restore : MethodName := ⟨RX12, "restore", "()I"⟩
abbrev cX12_howMany : ByteArray := prog_14_method_74_code
def yX12_howMany : MethodName := ⟨RX12, "howMany", "(I)I"⟩
abbrev cX12_count : ByteArray := prog_14_method_75_code
def yX12_count : MethodName := ⟨RX12, "count", "(I)I"⟩
abbrev cX12_mix : ByteArray := prog_14_method_76_code
def yX12_mix : MethodName := ⟨RX12, "mix", "(J)V"⟩
abbrev cX12_mixIns : ByteArray := prog_14_method_77_code
def yX12_mixIns : MethodName := ⟨RX12, "mixIns", "()V"⟩
abbrev cX12_digest : ByteArray := prog_14_method_78_code
def yX12_digest : MethodName := ⟨RX12, "digest", "()J"⟩
def RJ6 : String := "java/lang/Integer"
def TJ6 : u_T := fun k => match k with
  | _ => ("", "", "", false)
def tyJ6 : Nat → FieldType := fun k => match k with
  | _ => .int
abbrev cJ6_bitCount_0f7a4 : ByteArray := prog_15_method_49_code
def yJ6_bitCount_0f7a4 : MethodName := ⟨RJ6, "bitCount", "(I)I"⟩
def RJ9 : String := "java/lang/Math"
def TJ9 : u_T := fun k => match k with
  | _ => ("", "", "", false)
def tyJ9 : Nat → FieldType := fun k => match k with
  | _ => .int
abbrev cJ9_abs_0f7a4 : ByteArray := prog_16_method_59_code
def yJ9_abs_0f7a4 : MethodName := ⟨RJ9, "abs", "(I)I"⟩
abbrev cJ9_abs_067f4 : ByteArray := prog_16_method_61_code
def yJ9_abs_067f4 : MethodName := ⟨RJ9, "abs", "(J)J"⟩
abbrev cJ9_max_f86c9 : ByteArray := prog_16_method_66_code
def yJ9_max_f86c9 : MethodName := ⟨RJ9, "max", "(JJ)J"⟩
abbrev cJ9_min_7cf53 : ByteArray := prog_16_method_69_code
def yJ9_min_7cf53 : MethodName := ⟨RJ9, "min", "(II)I"⟩
def RJ10 : String := "java/lang/System"
def TJ10 : u_T := fun k => match k with
  | _ => ("", "", "", false)
def tyJ10 : Nat → FieldType := fun k => match k with
  | _ => .int
def RJ7 : String := "java/util/Arrays"
def TJ7 : u_T := fun k => match k with
  | _ => ("", "", "", false)
def tyJ7 : Nat → FieldType := fun k => match k with
  | _ => .int
abbrev cJ7_fill_d0a16 : ByteArray := prog_18_method_101_code
def yJ7_fill_d0a16 : MethodName := ⟨RJ7, "fill", "([JJ)V"⟩
def RL : String := "BlackBallsLaw"
abbrev cL_law : ByteArray := code
def yL_law : MethodName := ⟨RL, "law", "([I)Z"⟩
abbrev vwCl : List vw_C := [(RX0, TX0, 5), (RX1, TX1, 5), (RX2, TX2, 6), (RX3, TX3, 7), (RX4, TX4, 2), (RX5, TX5, 6), (RX6, TX6, 5), (RX7, TX7, 3), (RX8, TX8, 7), (RX9, TX9, 3), (RX10, TX10, 7), (RX11, TX11, 13), (RX12, TX12, 37)]
