section
-- ===== PART A: goes FIRST, ahead of the names: the tables' words, and 'selects' of the private methods out of them =====
/-- a private method of a class that the tables say can be made, by its rows of tables_1 -/
def lw_okq (q : MethodName × Nat) : Prop := (q.1.cls ≠ "java/lang/invoke/MethodHandle" ∧ q.1.cls ≠ "java/lang/invoke/VarHandle") ∧ Cond.instantiable q.1.cls q.2 ∈ tables_1 ∧ Cond.privateMethod q.1 ∈ tables_1 ∧ Cond.instanceMethod q.1 ∈ tables_1
theorem lw_p0 : lw_okq (⟨"BlackBalls$Page", "codeAt", "(I)I"⟩, 2) := ⟨⟨by decide +kernel, by decide +kernel⟩, List.mem_of_getElem? (i := 27) (by decide +kernel), List.mem_of_getElem? (i := 226) (by decide +kernel), List.mem_of_getElem? (i := 227) (by decide +kernel)⟩
theorem lw_p1 : lw_okq (⟨"BlackBalls", "ruleAt", "(I)LBlackBalls$Rule;"⟩, 13) := ⟨⟨by decide +kernel, by decide +kernel⟩, List.mem_of_getElem? (i := 19) (by decide +kernel), List.mem_of_getElem? (i := 259) (by decide +kernel), List.mem_of_getElem? (i := 260) (by decide +kernel)⟩
theorem lw_p2 : lw_okq (⟨"BlackBalls", "personAt", "(I)LBlackBalls$Person;"⟩, 13) := ⟨⟨by decide +kernel, by decide +kernel⟩, List.mem_of_getElem? (i := 19) (by decide +kernel), List.mem_of_getElem? (i := 272) (by decide +kernel), List.mem_of_getElem? (i := 273) (by decide +kernel)⟩
theorem lw_p3 : lw_okq (⟨"BlackBalls", "newPerson", "(III)LBlackBalls$Person;"⟩, 13) := ⟨⟨by decide +kernel, by decide +kernel⟩, List.mem_of_getElem? (i := 19) (by decide +kernel), List.mem_of_getElem? (i := 276) (by decide +kernel), List.mem_of_getElem? (i := 277) (by decide +kernel)⟩
theorem lw_p4 : lw_okq (⟨"BlackBalls", "isCandidate", "(I)Z"⟩, 13) := ⟨⟨by decide +kernel, by decide +kernel⟩, List.mem_of_getElem? (i := 19) (by decide +kernel), List.mem_of_getElem? (i := 418) (by decide +kernel), List.mem_of_getElem? (i := 419) (by decide +kernel)⟩
theorem lw_p5 : lw_okq (⟨"BlackBalls", "friendOf", "(I)I"⟩, 13) := ⟨⟨by decide +kernel, by decide +kernel⟩, List.mem_of_getElem? (i := 19) (by decide +kernel), List.mem_of_getElem? (i := 444) (by decide +kernel), List.mem_of_getElem? (i := 445) (by decide +kernel)⟩
theorem lw_p6 : lw_okq (⟨"BlackBalls", "isMinded", "(I)Z"⟩, 13) := ⟨⟨by decide +kernel, by decide +kernel⟩, List.mem_of_getElem? (i := 19) (by decide +kernel), List.mem_of_getElem? (i := 448) (by decide +kernel), List.mem_of_getElem? (i := 449) (by decide +kernel)⟩
theorem lw_p7 : lw_okq (⟨"BlackBalls", "howManyMindMuch", "(I)I"⟩, 13) := ⟨⟨by decide +kernel, by decide +kernel⟩, List.mem_of_getElem? (i := 19) (by decide +kernel), List.mem_of_getElem? (i := 452) (by decide +kernel), List.mem_of_getElem? (i := 453) (by decide +kernel)⟩
theorem lw_p8 : lw_okq (⟨"BlackBalls", "areComers", "(I)Z"⟩, 13) := ⟨⟨by decide +kernel, by decide +kernel⟩, List.mem_of_getElem? (i := 19) (by decide +kernel), List.mem_of_getElem? (i := 470) (by decide +kernel), List.mem_of_getElem? (i := 471) (by decide +kernel)⟩
theorem lw_p9 : lw_okq (⟨"BlackBalls", "everybody", "()I"⟩, 13) := ⟨⟨by decide +kernel, by decide +kernel⟩, List.mem_of_getElem? (i := 19) (by decide +kernel), List.mem_of_getElem? (i := 474) (by decide +kernel), List.mem_of_getElem? (i := 475) (by decide +kernel)⟩
theorem lw_p10 : lw_okq (⟨"BlackBalls", "blackOf", "(LBlackBalls$Person;IZ)I"⟩, 13) := ⟨⟨by decide +kernel, by decide +kernel⟩, List.mem_of_getElem? (i := 19) (by decide +kernel), List.mem_of_getElem? (i := 490) (by decide +kernel), List.mem_of_getElem? (i := 491) (by decide +kernel)⟩
theorem lw_p11 : lw_okq (⟨"BlackBalls", "tallyBalls", "(IIZ)V"⟩, 13) := ⟨⟨by decide +kernel, by decide +kernel⟩, List.mem_of_getElem? (i := 19) (by decide +kernel), List.mem_of_getElem? (i := 531) (by decide +kernel), List.mem_of_getElem? (i := 532) (by decide +kernel)⟩
theorem lw_p12 : lw_okq (⟨"BlackBalls", "inWays", "(LBlackBalls$Rule;II)J"⟩, 13) := ⟨⟨by decide +kernel, by decide +kernel⟩, List.mem_of_getElem? (i := 19) (by decide +kernel), List.mem_of_getElem? (i := 565) (by decide +kernel), List.mem_of_getElem? (i := 566) (by decide +kernel)⟩
theorem lw_p13 : lw_okq (⟨"BlackBalls$Turnout", "waysTo", "(II)J"⟩, 3) := ⟨⟨by decide +kernel, by decide +kernel⟩, List.mem_of_getElem? (i := 63) (by decide +kernel), List.mem_of_getElem? (i := 601) (by decide +kernel), List.mem_of_getElem? (i := 602) (by decide +kernel)⟩
theorem lw_p14 : lw_okq (⟨"BlackBalls", "wrongWays", "(LBlackBalls$Rule;I)J"⟩, 13) := ⟨⟨by decide +kernel, by decide +kernel⟩, List.mem_of_getElem? (i := 19) (by decide +kernel), List.mem_of_getElem? (i := 623) (by decide +kernel), List.mem_of_getElem? (i := 624) (by decide +kernel)⟩
theorem lw_p15 : lw_okq (⟨"BlackBalls$Ballot", "putBalls", "()V"⟩, 5) := ⟨⟨by decide +kernel, by decide +kernel⟩, List.mem_of_getElem? (i := 79) (by decide +kernel), List.mem_of_getElem? (i := 675) (by decide +kernel), List.mem_of_getElem? (i := 676) (by decide +kernel)⟩
def lw_privs_1 : List (MethodName × Nat) := [(⟨"BlackBalls$Page", "codeAt", "(I)I"⟩, 2), (⟨"BlackBalls", "ruleAt", "(I)LBlackBalls$Rule;"⟩, 13), (⟨"BlackBalls", "personAt", "(I)LBlackBalls$Person;"⟩, 13), (⟨"BlackBalls", "newPerson", "(III)LBlackBalls$Person;"⟩, 13), (⟨"BlackBalls", "isCandidate", "(I)Z"⟩, 13), (⟨"BlackBalls", "friendOf", "(I)I"⟩, 13), (⟨"BlackBalls", "isMinded", "(I)Z"⟩, 13), (⟨"BlackBalls", "howManyMindMuch", "(I)I"⟩, 13), (⟨"BlackBalls", "areComers", "(I)Z"⟩, 13), (⟨"BlackBalls", "everybody", "()I"⟩, 13), (⟨"BlackBalls", "blackOf", "(LBlackBalls$Person;IZ)I"⟩, 13), (⟨"BlackBalls", "tallyBalls", "(IIZ)V"⟩, 13), (⟨"BlackBalls", "inWays", "(LBlackBalls$Rule;II)J"⟩, 13), (⟨"BlackBalls$Turnout", "waysTo", "(II)J"⟩, 3), (⟨"BlackBalls", "wrongWays", "(LBlackBalls$Rule;I)J"⟩, 13), (⟨"BlackBalls$Ballot", "putBalls", "()V"⟩, 5)]
theorem lw_r1 : ∀ q ∈ lw_privs_1, lw_okq q := List.forall_mem_cons.mpr ⟨lw_p0, List.forall_mem_cons.mpr ⟨lw_p1, List.forall_mem_cons.mpr ⟨lw_p2, List.forall_mem_cons.mpr ⟨lw_p3, List.forall_mem_cons.mpr ⟨lw_p4, List.forall_mem_cons.mpr ⟨lw_p5, List.forall_mem_cons.mpr ⟨lw_p6, List.forall_mem_cons.mpr ⟨lw_p7, List.forall_mem_cons.mpr ⟨lw_p8, List.forall_mem_cons.mpr ⟨lw_p9, List.forall_mem_cons.mpr ⟨lw_p10, List.forall_mem_cons.mpr ⟨lw_p11, List.forall_mem_cons.mpr ⟨lw_p12, List.forall_mem_cons.mpr ⟨lw_p13, List.forall_mem_cons.mpr ⟨lw_p14, List.forall_mem_cons.mpr ⟨lw_p15, fun _ h => absurd h List.not_mem_nil⟩⟩⟩⟩⟩⟩⟩⟩⟩⟩⟩⟩⟩⟩⟩⟩
theorem lw_p16 : lw_okq (⟨"BlackBalls", "letInByOneBall", "(LBlackBalls$Rule;III)I"⟩, 13) := ⟨⟨by decide +kernel, by decide +kernel⟩, List.mem_of_getElem? (i := 19) (by decide +kernel), List.mem_of_getElem? (i := 693) (by decide +kernel), List.mem_of_getElem? (i := 694) (by decide +kernel)⟩
theorem lw_p17 : lw_okq (⟨"BlackBalls", "expectVetoes", "(I)J"⟩, 13) := ⟨⟨by decide +kernel, by decide +kernel⟩, List.mem_of_getElem? (i := 19) (by decide +kernel), List.mem_of_getElem? (i := 705) (by decide +kernel), List.mem_of_getElem? (i := 706) (by decide +kernel)⟩
theorem lw_p18 : lw_okq (⟨"BlackBalls$Club", "drawTaste", "()I"⟩, 5) := ⟨⟨by decide +kernel, by decide +kernel⟩, List.mem_of_getElem? (i := 106) (by decide +kernel), List.mem_of_getElem? (i := 726) (by decide +kernel), List.mem_of_getElem? (i := 727) (by decide +kernel)⟩
theorem lw_p19 : lw_okq (⟨"BlackBalls$Club", "firstGoes", "()V"⟩, 5) := ⟨⟨by decide +kernel, by decide +kernel⟩, List.mem_of_getElem? (i := 106) (by decide +kernel), List.mem_of_getElem? (i := 736) (by decide +kernel), List.mem_of_getElem? (i := 737) (by decide +kernel)⟩
theorem lw_p20 : lw_okq (⟨"BlackBalls", "howManyMinded", "()I"⟩, 13) := ⟨⟨by decide +kernel, by decide +kernel⟩, List.mem_of_getElem? (i := 19) (by decide +kernel), List.mem_of_getElem? (i := 758) (by decide +kernel), List.mem_of_getElem? (i := 759) (by decide +kernel)⟩
theorem lw_p21 : lw_okq (⟨"BlackBalls", "digestRules", "(J)J"⟩, 13) := ⟨⟨by decide +kernel, by decide +kernel⟩, List.mem_of_getElem? (i := 19) (by decide +kernel), List.mem_of_getElem? (i := 801) (by decide +kernel), List.mem_of_getElem? (i := 802) (by decide +kernel)⟩
theorem lw_p22 : lw_okq (⟨"BlackBalls", "digestPeople", "(J)J"⟩, 13) := ⟨⟨by decide +kernel, by decide +kernel⟩, List.mem_of_getElem? (i := 19) (by decide +kernel), List.mem_of_getElem? (i := 809) (by decide +kernel), List.mem_of_getElem? (i := 810) (by decide +kernel)⟩
theorem lw_p23 : lw_okq (⟨"BlackBalls", "digestCandidates", "(J)J"⟩, 13) := ⟨⟨by decide +kernel, by decide +kernel⟩, List.mem_of_getElem? (i := 19) (by decide +kernel), List.mem_of_getElem? (i := 814) (by decide +kernel), List.mem_of_getElem? (i := 815) (by decide +kernel)⟩
theorem lw_p24 : lw_okq (⟨"BlackBalls", "digestIn", "(J)J"⟩, 13) := ⟨⟨by decide +kernel, by decide +kernel⟩, List.mem_of_getElem? (i := 19) (by decide +kernel), List.mem_of_getElem? (i := 819) (by decide +kernel), List.mem_of_getElem? (i := 820) (by decide +kernel)⟩
theorem lw_p25 : lw_okq (⟨"BlackBallsModel", "readPage", "()V"⟩, 37) := ⟨⟨by decide +kernel, by decide +kernel⟩, List.mem_of_getElem? (i := 829) (by decide +kernel), List.mem_of_getElem? (i := 962) (by decide +kernel), List.mem_of_getElem? (i := 963) (by decide +kernel)⟩
theorem lw_p26 : lw_okq (⟨"BlackBallsModel", "next", "(II)I"⟩, 37) := ⟨⟨by decide +kernel, by decide +kernel⟩, List.mem_of_getElem? (i := 829) (by decide +kernel), List.mem_of_getElem? (i := 966) (by decide +kernel), List.mem_of_getElem? (i := 967) (by decide +kernel)⟩
theorem lw_p27 : lw_okq (⟨"BlackBallsModel", "nextRatio", "(I)I"⟩, 37) := ⟨⟨by decide +kernel, by decide +kernel⟩, List.mem_of_getElem? (i := 829) (by decide +kernel), List.mem_of_getElem? (i := 973) (by decide +kernel), List.mem_of_getElem? (i := 974) (by decide +kernel)⟩
theorem lw_p28 : lw_okq (⟨"BlackBallsModel", "isRule", "(I)Z"⟩, 37) := ⟨⟨by decide +kernel, by decide +kernel⟩, List.mem_of_getElem? (i := 829) (by decide +kernel), List.mem_of_getElem? (i := 988) (by decide +kernel), List.mem_of_getElem? (i := 989) (by decide +kernel)⟩
theorem lw_p29 : lw_okq (⟨"BlackBallsModel", "ruleNow", "(II)I"⟩, 37) := ⟨⟨by decide +kernel, by decide +kernel⟩, List.mem_of_getElem? (i := 829) (by decide +kernel), List.mem_of_getElem? (i := 992) (by decide +kernel), List.mem_of_getElem? (i := 993) (by decide +kernel)⟩
theorem lw_p30 : lw_okq (⟨"BlackBallsModel", "isMember", "(I)Z"⟩, 37) := ⟨⟨by decide +kernel, by decide +kernel⟩, List.mem_of_getElem? (i := 829) (by decide +kernel), List.mem_of_getElem? (i := 1000) (by decide +kernel), List.mem_of_getElem? (i := 1001) (by decide +kernel)⟩
theorem lw_p31 : lw_okq (⟨"BlackBallsModel", "memberNow", "(II)I"⟩, 37) := ⟨⟨by decide +kernel, by decide +kernel⟩, List.mem_of_getElem? (i := 829) (by decide +kernel), List.mem_of_getElem? (i := 1012) (by decide +kernel), List.mem_of_getElem? (i := 1013) (by decide +kernel)⟩
def lw_privs_2 : List (MethodName × Nat) := [(⟨"BlackBalls", "letInByOneBall", "(LBlackBalls$Rule;III)I"⟩, 13), (⟨"BlackBalls", "expectVetoes", "(I)J"⟩, 13), (⟨"BlackBalls$Club", "drawTaste", "()I"⟩, 5), (⟨"BlackBalls$Club", "firstGoes", "()V"⟩, 5), (⟨"BlackBalls", "howManyMinded", "()I"⟩, 13), (⟨"BlackBalls", "digestRules", "(J)J"⟩, 13), (⟨"BlackBalls", "digestPeople", "(J)J"⟩, 13), (⟨"BlackBalls", "digestCandidates", "(J)J"⟩, 13), (⟨"BlackBalls", "digestIn", "(J)J"⟩, 13), (⟨"BlackBallsModel", "readPage", "()V"⟩, 37), (⟨"BlackBallsModel", "next", "(II)I"⟩, 37), (⟨"BlackBallsModel", "nextRatio", "(I)I"⟩, 37), (⟨"BlackBallsModel", "isRule", "(I)Z"⟩, 37), (⟨"BlackBallsModel", "ruleNow", "(II)I"⟩, 37), (⟨"BlackBallsModel", "isMember", "(I)Z"⟩, 37), (⟨"BlackBallsModel", "memberNow", "(II)I"⟩, 37)]
theorem lw_r2 : ∀ q ∈ lw_privs_2, lw_okq q := List.forall_mem_cons.mpr ⟨lw_p16, List.forall_mem_cons.mpr ⟨lw_p17, List.forall_mem_cons.mpr ⟨lw_p18, List.forall_mem_cons.mpr ⟨lw_p19, List.forall_mem_cons.mpr ⟨lw_p20, List.forall_mem_cons.mpr ⟨lw_p21, List.forall_mem_cons.mpr ⟨lw_p22, List.forall_mem_cons.mpr ⟨lw_p23, List.forall_mem_cons.mpr ⟨lw_p24, List.forall_mem_cons.mpr ⟨lw_p25, List.forall_mem_cons.mpr ⟨lw_p26, List.forall_mem_cons.mpr ⟨lw_p27, List.forall_mem_cons.mpr ⟨lw_p28, List.forall_mem_cons.mpr ⟨lw_p29, List.forall_mem_cons.mpr ⟨lw_p30, List.forall_mem_cons.mpr ⟨lw_p31, fun _ h => absurd h List.not_mem_nil⟩⟩⟩⟩⟩⟩⟩⟩⟩⟩⟩⟩⟩⟩⟩⟩
theorem lw_p32 : lw_okq (⟨"BlackBallsModel", "isCandidate", "(I)Z"⟩, 37) := ⟨⟨by decide +kernel, by decide +kernel⟩, List.mem_of_getElem? (i := 829) (by decide +kernel), List.mem_of_getElem? (i := 1028) (by decide +kernel), List.mem_of_getElem? (i := 1029) (by decide +kernel)⟩
theorem lw_p33 : lw_okq (⟨"BlackBallsModel", "candidateNow", "(II)I"⟩, 37) := ⟨⟨by decide +kernel, by decide +kernel⟩, List.mem_of_getElem? (i := 829) (by decide +kernel), List.mem_of_getElem? (i := 1036) (by decide +kernel), List.mem_of_getElem? (i := 1037) (by decide +kernel)⟩
theorem lw_p34 : lw_okq (⟨"BlackBallsModel", "isMinded", "(I)Z"⟩, 37) := ⟨⟨by decide +kernel, by decide +kernel⟩, List.mem_of_getElem? (i := 829) (by decide +kernel), List.mem_of_getElem? (i := 1040) (by decide +kernel), List.mem_of_getElem? (i := 1041) (by decide +kernel)⟩
theorem lw_p35 : lw_okq (⟨"BlackBallsModel", "mindedBy", "(I)I"⟩, 37) := ⟨⟨by decide +kernel, by decide +kernel⟩, List.mem_of_getElem? (i := 829) (by decide +kernel), List.mem_of_getElem? (i := 1044) (by decide +kernel), List.mem_of_getElem? (i := 1045) (by decide +kernel)⟩
theorem lw_p36 : lw_okq (⟨"BlackBallsModel", "areComers", "(I)Z"⟩, 37) := ⟨⟨by decide +kernel, by decide +kernel⟩, List.mem_of_getElem? (i := 829) (by decide +kernel), List.mem_of_getElem? (i := 1052) (by decide +kernel), List.mem_of_getElem? (i := 1053) (by decide +kernel)⟩
theorem lw_p37 : lw_okq (⟨"BlackBallsModel", "blackBy", "(IIII)I"⟩, 37) := ⟨⟨by decide +kernel, by decide +kernel⟩, List.mem_of_getElem? (i := 829) (by decide +kernel), List.mem_of_getElem? (i := 1062) (by decide +kernel), List.mem_of_getElem? (i := 1063) (by decide +kernel)⟩
theorem lw_p38 : lw_okq (⟨"BlackBallsModel", "areThere", "(II)Z"⟩, 37) := ⟨⟨by decide +kernel, by decide +kernel⟩, List.mem_of_getElem? (i := 829) (by decide +kernel), List.mem_of_getElem? (i := 1070) (by decide +kernel), List.mem_of_getElem? (i := 1071) (by decide +kernel)⟩
theorem lw_p39 : lw_okq (⟨"BlackBallsModel", "layWays", "(IIIII)V"⟩, 37) := ⟨⟨by decide +kernel, by decide +kernel⟩, List.mem_of_getElem? (i := 829) (by decide +kernel), List.mem_of_getElem? (i := 1077) (by decide +kernel), List.mem_of_getElem? (i := 1078) (by decide +kernel)⟩
theorem lw_p40 : lw_okq (⟨"BlackBallsModel", "inBy", "(III)J"⟩, 37) := ⟨⟨by decide +kernel, by decide +kernel⟩, List.mem_of_getElem? (i := 829) (by decide +kernel), List.mem_of_getElem? (i := 1094) (by decide +kernel), List.mem_of_getElem? (i := 1095) (by decide +kernel)⟩
theorem lw_p41 : lw_okq (⟨"BlackBallsModel", "shutBy", "(IIII)J"⟩, 37) := ⟨⟨by decide +kernel, by decide +kernel⟩, List.mem_of_getElem? (i := 829) (by decide +kernel), List.mem_of_getElem? (i := 1098) (by decide +kernel), List.mem_of_getElem? (i := 1099) (by decide +kernel)⟩
theorem lw_p42 : lw_okq (⟨"BlackBallsModel", "shuts", "(III)Z"⟩, 37) := ⟨⟨by decide +kernel, by decide +kernel⟩, List.mem_of_getElem? (i := 829) (by decide +kernel), List.mem_of_getElem? (i := 1102) (by decide +kernel), List.mem_of_getElem? (i := 1103) (by decide +kernel)⟩
theorem lw_p43 : lw_okq (⟨"BlackBallsModel", "comesBy", "(I)J"⟩, 37) := ⟨⟨by decide +kernel, by decide +kernel⟩, List.mem_of_getElem? (i := 829) (by decide +kernel), List.mem_of_getElem? (i := 1111) (by decide +kernel), List.mem_of_getElem? (i := 1112) (by decide +kernel)⟩
theorem lw_p44 : lw_okq (⟨"BlackBallsModel", "wrongBy", "(II)J"⟩, 37) := ⟨⟨by decide +kernel, by decide +kernel⟩, List.mem_of_getElem? (i := 829) (by decide +kernel), List.mem_of_getElem? (i := 1119) (by decide +kernel), List.mem_of_getElem? (i := 1120) (by decide +kernel)⟩
theorem lw_p45 : lw_okq (⟨"BlackBallsModel", "isAsked", "(III)Z"⟩, 37) := ⟨⟨by decide +kernel, by decide +kernel⟩, List.mem_of_getElem? (i := 829) (by decide +kernel), List.mem_of_getElem? (i := 1131) (by decide +kernel), List.mem_of_getElem? (i := 1132) (by decide +kernel)⟩
theorem lw_p46 : lw_okq (⟨"BlackBallsModel", "withdraws", "(IIII)Z"⟩, 37) := ⟨⟨by decide +kernel, by decide +kernel⟩, List.mem_of_getElem? (i := 829) (by decide +kernel), List.mem_of_getElem? (i := 1148) (by decide +kernel), List.mem_of_getElem? (i := 1149) (by decide +kernel)⟩
theorem lw_p47 : lw_okq (⟨"BlackBallsModel", "goRound", "(III)I"⟩, 37) := ⟨⟨by decide +kernel, by decide +kernel⟩, List.mem_of_getElem? (i := 829) (by decide +kernel), List.mem_of_getElem? (i := 1160) (by decide +kernel), List.mem_of_getElem? (i := 1161) (by decide +kernel)⟩
def lw_privs_3 : List (MethodName × Nat) := [(⟨"BlackBallsModel", "isCandidate", "(I)Z"⟩, 37), (⟨"BlackBallsModel", "candidateNow", "(II)I"⟩, 37), (⟨"BlackBallsModel", "isMinded", "(I)Z"⟩, 37), (⟨"BlackBallsModel", "mindedBy", "(I)I"⟩, 37), (⟨"BlackBallsModel", "areComers", "(I)Z"⟩, 37), (⟨"BlackBallsModel", "blackBy", "(IIII)I"⟩, 37), (⟨"BlackBallsModel", "areThere", "(II)Z"⟩, 37), (⟨"BlackBallsModel", "layWays", "(IIIII)V"⟩, 37), (⟨"BlackBallsModel", "inBy", "(III)J"⟩, 37), (⟨"BlackBallsModel", "shutBy", "(IIII)J"⟩, 37), (⟨"BlackBallsModel", "shuts", "(III)Z"⟩, 37), (⟨"BlackBallsModel", "comesBy", "(I)J"⟩, 37), (⟨"BlackBallsModel", "wrongBy", "(II)J"⟩, 37), (⟨"BlackBallsModel", "isAsked", "(III)Z"⟩, 37), (⟨"BlackBallsModel", "withdraws", "(IIII)Z"⟩, 37), (⟨"BlackBallsModel", "goRound", "(III)I"⟩, 37)]
theorem lw_r3 : ∀ q ∈ lw_privs_3, lw_okq q := List.forall_mem_cons.mpr ⟨lw_p32, List.forall_mem_cons.mpr ⟨lw_p33, List.forall_mem_cons.mpr ⟨lw_p34, List.forall_mem_cons.mpr ⟨lw_p35, List.forall_mem_cons.mpr ⟨lw_p36, List.forall_mem_cons.mpr ⟨lw_p37, List.forall_mem_cons.mpr ⟨lw_p38, List.forall_mem_cons.mpr ⟨lw_p39, List.forall_mem_cons.mpr ⟨lw_p40, List.forall_mem_cons.mpr ⟨lw_p41, List.forall_mem_cons.mpr ⟨lw_p42, List.forall_mem_cons.mpr ⟨lw_p43, List.forall_mem_cons.mpr ⟨lw_p44, List.forall_mem_cons.mpr ⟨lw_p45, List.forall_mem_cons.mpr ⟨lw_p46, List.forall_mem_cons.mpr ⟨lw_p47, fun _ h => absurd h List.not_mem_nil⟩⟩⟩⟩⟩⟩⟩⟩⟩⟩⟩⟩⟩⟩⟩⟩
theorem lw_p48 : lw_okq (⟨"BlackBallsModel", "draw", "(I)I"⟩, 37) := ⟨⟨by decide +kernel, by decide +kernel⟩, List.mem_of_getElem? (i := 829) (by decide +kernel), List.mem_of_getElem? (i := 1164) (by decide +kernel), List.mem_of_getElem? (i := 1165) (by decide +kernel)⟩
theorem lw_p49 : lw_okq (⟨"BlackBallsModel", "gain", "(III)I"⟩, 37) := ⟨⟨by decide +kernel, by decide +kernel⟩, List.mem_of_getElem? (i := 829) (by decide +kernel), List.mem_of_getElem? (i := 1176) (by decide +kernel), List.mem_of_getElem? (i := 1177) (by decide +kernel)⟩
theorem lw_p50 : lw_okq (⟨"BlackBallsModel", "isInBy", "(IIIII)Z"⟩, 37) := ⟨⟨by decide +kernel, by decide +kernel⟩, List.mem_of_getElem? (i := 829) (by decide +kernel), List.mem_of_getElem? (i := 1180) (by decide +kernel), List.mem_of_getElem? (i := 1181) (by decide +kernel)⟩
theorem lw_p51 : lw_okq (⟨"BlackBallsModel", "layVetoes", "(I)V"⟩, 37) := ⟨⟨by decide +kernel, by decide +kernel⟩, List.mem_of_getElem? (i := 829) (by decide +kernel), List.mem_of_getElem? (i := 1188) (by decide +kernel), List.mem_of_getElem? (i := 1189) (by decide +kernel)⟩
theorem lw_p52 : lw_okq (⟨"BlackBallsModel", "isUsed", "(III)Z"⟩, 37) := ⟨⟨by decide +kernel, by decide +kernel⟩, List.mem_of_getElem? (i := 829) (by decide +kernel), List.mem_of_getElem? (i := 1192) (by decide +kernel), List.mem_of_getElem? (i := 1193) (by decide +kernel)⟩
theorem lw_p53 : lw_okq (⟨"BlackBallsModel", "isLetIn", "(II)Z"⟩, 37) := ⟨⟨by decide +kernel, by decide +kernel⟩, List.mem_of_getElem? (i := 829) (by decide +kernel), List.mem_of_getElem? (i := 1208) (by decide +kernel), List.mem_of_getElem? (i := 1209) (by decide +kernel)⟩
theorem lw_p54 : lw_okq (⟨"BlackBallsModel", "clubRound", "(I)I"⟩, 37) := ⟨⟨by decide +kernel, by decide +kernel⟩, List.mem_of_getElem? (i := 829) (by decide +kernel), List.mem_of_getElem? (i := 1212) (by decide +kernel), List.mem_of_getElem? (i := 1213) (by decide +kernel)⟩
theorem lw_p55 : lw_okq (⟨"BlackBallsModel", "unlike", "()I"⟩, 37) := ⟨⟨by decide +kernel, by decide +kernel⟩, List.mem_of_getElem? (i := 829) (by decide +kernel), List.mem_of_getElem? (i := 1216) (by decide +kernel), List.mem_of_getElem? (i := 1217) (by decide +kernel)⟩
theorem lw_p56 : lw_okq (⟨"BlackBallsModel", "mindedMany", "()I"⟩, 37) := ⟨⟨by decide +kernel, by decide +kernel⟩, List.mem_of_getElem? (i := 829) (by decide +kernel), List.mem_of_getElem? (i := 1224) (by decide +kernel), List.mem_of_getElem? (i := 1225) (by decide +kernel)⟩
theorem lw_p57 : lw_okq (⟨"BlackBallsModel", "howMany", "(I)I"⟩, 37) := ⟨⟨by decide +kernel, by decide +kernel⟩, List.mem_of_getElem? (i := 829) (by decide +kernel), List.mem_of_getElem? (i := 1240) (by decide +kernel), List.mem_of_getElem? (i := 1241) (by decide +kernel)⟩
theorem lw_p58 : lw_okq (⟨"BlackBallsModel", "mix", "(J)V"⟩, 37) := ⟨⟨by decide +kernel, by decide +kernel⟩, List.mem_of_getElem? (i := 829) (by decide +kernel), List.mem_of_getElem? (i := 1249) (by decide +kernel), List.mem_of_getElem? (i := 1250) (by decide +kernel)⟩
theorem lw_p59 : lw_okq (⟨"BlackBallsModel", "mixIns", "()V"⟩, 37) := ⟨⟨by decide +kernel, by decide +kernel⟩, List.mem_of_getElem? (i := 829) (by decide +kernel), List.mem_of_getElem? (i := 1254) (by decide +kernel), List.mem_of_getElem? (i := 1255) (by decide +kernel)⟩
def lw_privs_4 : List (MethodName × Nat) := [(⟨"BlackBallsModel", "draw", "(I)I"⟩, 37), (⟨"BlackBallsModel", "gain", "(III)I"⟩, 37), (⟨"BlackBallsModel", "isInBy", "(IIIII)Z"⟩, 37), (⟨"BlackBallsModel", "layVetoes", "(I)V"⟩, 37), (⟨"BlackBallsModel", "isUsed", "(III)Z"⟩, 37), (⟨"BlackBallsModel", "isLetIn", "(II)Z"⟩, 37), (⟨"BlackBallsModel", "clubRound", "(I)I"⟩, 37), (⟨"BlackBallsModel", "unlike", "()I"⟩, 37), (⟨"BlackBallsModel", "mindedMany", "()I"⟩, 37), (⟨"BlackBallsModel", "howMany", "(I)I"⟩, 37), (⟨"BlackBallsModel", "mix", "(J)V"⟩, 37), (⟨"BlackBallsModel", "mixIns", "()V"⟩, 37)]
theorem lw_r4 : ∀ q ∈ lw_privs_4, lw_okq q := List.forall_mem_cons.mpr ⟨lw_p48, List.forall_mem_cons.mpr ⟨lw_p49, List.forall_mem_cons.mpr ⟨lw_p50, List.forall_mem_cons.mpr ⟨lw_p51, List.forall_mem_cons.mpr ⟨lw_p52, List.forall_mem_cons.mpr ⟨lw_p53, List.forall_mem_cons.mpr ⟨lw_p54, List.forall_mem_cons.mpr ⟨lw_p55, List.forall_mem_cons.mpr ⟨lw_p56, List.forall_mem_cons.mpr ⟨lw_p57, List.forall_mem_cons.mpr ⟨lw_p58, List.forall_mem_cons.mpr ⟨lw_p59, fun _ h => absurd h List.not_mem_nil⟩⟩⟩⟩⟩⟩⟩⟩⟩⟩⟩⟩
def lw_privs : List (MethodName × Nat) := lw_privs_1 ++ (lw_privs_2 ++ (lw_privs_3 ++ (lw_privs_4)))
def lw_tbl : List Cond := k2_sels lw_privs ++ tables_1
theorem lw_privs_ok : ∀ q ∈ lw_privs, lw_okq q := by
  show ∀ q ∈ lw_privs_1 ++ (lw_privs_2 ++ (lw_privs_3 ++ (lw_privs_4))), lw_okq q
  exact List.forall_mem_append.mpr ⟨lw_r1, List.forall_mem_append.mpr ⟨lw_r2, List.forall_mem_append.mpr ⟨lw_r3, lw_r4⟩⟩⟩
def RX0 : String := "BlackBalls$Ballot"
def TX0 : u_T := fun k => match k with
  | 0 => ("BlackBalls$Ballot", "blackTenths", "[I", true)
  | 1 => ("BlackBalls$Ballot", "came", "I", false)
  | 2 => ("BlackBalls$Ballot", "seed", "I", false)
  | 3 => ("BlackBalls$Ballot", "lastBlacks", "I", false)
  | _ => ("BlackBalls$Ballot", "letIn", "Z", false)
def tyX0 : Nat → FieldType := fun k => match k with
  | 0 => .array .int
  | 1 => .int
  | 2 => .int
  | 3 => .int
  | _ => .boolean
theorem nmX0 : ∀ a, a < 5 → ∀ b, b < 5 → a ≠ b → (TX0 a).2.1 ≠ (TX0 b).2.1 := by decide +kernel
theorem tyX0_ok : ∀ k, k < 5 → parseFieldDescriptor (TX0 k).2.2.1 = some (tyX0 k) := by decide +kernel
abbrev cX0_init : ByteArray := prog_2_method_1_code
def yX0_init : MethodName := ⟨RX0, "<init>", "()V"⟩
abbrev cX0_begin : ByteArray := prog_2_method_2_code
def yX0_begin : MethodName := ⟨RX0, "begin", "()V"⟩
abbrev cX0_seat : ByteArray := prog_2_method_3_code
def yX0_seat : MethodName := ⟨RX0, "seat", "(I)V"⟩
abbrev cX0_hold : ByteArray := prog_2_method_4_code
def yX0_hold : MethodName := ⟨RX0, "hold", "(LBlackBalls$Rule;I)V"⟩
abbrev cX0_putBalls : ByteArray := prog_2_method_5_code
def yX0_putBalls : MethodName := ⟨RX0, "putBalls", "()V"⟩
abbrev cX0_nextSeed : ByteArray := prog_2_method_6_code
def yX0_nextSeed : MethodName := ⟨RX0, "nextSeed", "(I)I"⟩
abbrev cX0_drawnTenth : ByteArray := prog_2_method_7_code
def yX0_drawnTenth : MethodName := ⟨RX0, "drawnTenth", "(I)I"⟩
def RX1 : String := "BlackBalls$Club"
def TX1 : u_T := fun k => match k with
  | 0 => ("BlackBalls$Club", "tastes", "[I", true)
  | 1 => ("BlackBalls$Club", "ballot", "LBlackBalls$Ballot;", true)
  | 2 => ("BlackBalls$Club", "size", "I", false)
  | 3 => ("BlackBalls$Club", "letIn", "I", false)
  | _ => ("BlackBalls$Club", "seed", "I", false)
def tyX1 : Nat → FieldType := fun k => match k with
  | 0 => .array .int
  | 1 => .object "BlackBalls$Ballot"
  | 2 => .int
  | 3 => .int
  | _ => .int
theorem nmX1 : ∀ a, a < 5 → ∀ b, b < 5 → a ≠ b → (TX1 a).2.1 ≠ (TX1 b).2.1 := by decide +kernel
theorem tyX1_ok : ∀ k, k < 5 → parseFieldDescriptor (TX1 k).2.2.1 = some (tyX1 k) := by decide +kernel
abbrev cX1_init : ByteArray := prog_3_method_1_code
def yX1_init : MethodName := ⟨RX1, "<init>", "()V"⟩
abbrev cX1_found : ByteArray := prog_3_method_2_code
def yX1_found : MethodName := ⟨RX1, "found", "(I)V"⟩
abbrev cX1_passYear : ByteArray := prog_3_method_3_code
def yX1_passYear : MethodName := ⟨RX1, "passYear", "(LBlackBalls$Rule;)V"⟩
abbrev cX1_unlikeTastes : ByteArray := prog_3_method_4_code
def yX1_unlikeTastes : MethodName := ⟨RX1, "unlikeTastes", "()I"⟩
abbrev cX1_firstGoes : ByteArray := prog_3_method_5_code
def yX1_firstGoes : MethodName := ⟨RX1, "firstGoes", "()V"⟩
abbrev cX1_drawTaste : ByteArray := prog_3_method_6_code
def yX1_drawTaste : MethodName := ⟨RX1, "drawTaste", "()I"⟩
def RX2 : String := "BlackBalls$Feared"
def TX2 : u_T := fun k => match k with
  | 0 => ("BlackBalls$Person", "number", "I", true)
  | 1 => ("BlackBalls$Person", "mindsEach", "[I", true)
  | 2 => ("BlackBalls$Person", "keptMinds", "[I", true)
  | 3 => ("BlackBalls$Person", "comesTenths", "I", false)
  | 4 => ("BlackBalls$Person", "keptComes", "I", false)
  | _ => ("BlackBalls$Person", "keptCandidates", "I", false)
def tyX2 : Nat → FieldType := fun k => match k with
  | 0 => .int
  | 1 => .array .int
  | 2 => .array .int
  | 3 => .int
  | 4 => .int
  | _ => .int
theorem nmX2 : ∀ a, a < 6 → ∀ b, b < 6 → a ≠ b → (TX2 a).2.1 ≠ (TX2 b).2.1 := by decide +kernel
theorem tyX2_ok : ∀ k, k < 6 → parseFieldDescriptor (TX2 k).2.2.1 = some (tyX2 k) := by decide +kernel
abbrev cX2_init : ByteArray := prog_4_method_1_code
def yX2_init : MethodName := ⟨RX2, "<init>", "(II)V"⟩
abbrev cX2_kind : ByteArray := prog_4_method_2_code
def yX2_kind : MethodName := ⟨RX2, "kind", "()I"⟩
abbrev cX2_blackOfStranger : ByteArray := prog_4_method_3_code
def yX2_blackOfStranger : MethodName := ⟨RX2, "blackOfStranger", "(IIZ)I"⟩
def RX3 : String := "BlackBalls$Mistaken"
def TX3 : u_T := fun k => match k with
  | 0 => ("BlackBalls$Person", "number", "I", true)
  | 1 => ("BlackBalls$Person", "mindsEach", "[I", true)
  | 2 => ("BlackBalls$Person", "keptMinds", "[I", true)
  | 3 => ("BlackBalls$Person", "comesTenths", "I", false)
  | 4 => ("BlackBalls$Person", "keptComes", "I", false)
  | 5 => ("BlackBalls$Person", "keptCandidates", "I", false)
  | _ => ("BlackBalls$Mistaken", "slips", "I", true)
def tyX3 : Nat → FieldType := fun k => match k with
  | 0 => .int
  | 1 => .array .int
  | 2 => .array .int
  | 3 => .int
  | 4 => .int
  | 5 => .int
  | _ => .int
theorem nmX3 : ∀ a, a < 7 → ∀ b, b < 7 → a ≠ b → (TX3 a).2.1 ≠ (TX3 b).2.1 := by decide +kernel
theorem tyX3_ok : ∀ k, k < 7 → parseFieldDescriptor (TX3 k).2.2.1 = some (tyX3 k) := by decide +kernel
abbrev cX3_init : ByteArray := prog_5_method_1_code
def yX3_init : MethodName := ⟨RX3, "<init>", "(III)V"⟩
abbrev cX3_kind : ByteArray := prog_5_method_2_code
def yX3_kind : MethodName := ⟨RX3, "kind", "()I"⟩
abbrev cX3_n : ByteArray := prog_5_method_3_code
def yX3_n : MethodName := ⟨RX3, "n", "()I"⟩
abbrev cX3_blackOfStranger : ByteArray := prog_5_method_4_code
def yX3_blackOfStranger : MethodName := ⟨RX3, "blackOfStranger", "(IIZ)I"⟩
def RX4 : String := "BlackBalls$Page"
def TX4 : u_T := fun k => match k with
  | 0 => ("BlackBalls$Page", "codes", "[I", true)
  | _ => ("BlackBalls$Page", "length", "I", false)
def tyX4 : Nat → FieldType := fun k => match k with
  | 0 => .array .int
  | _ => .int
theorem nmX4 : ∀ a, a < 2 → ∀ b, b < 2 → a ≠ b → (TX4 a).2.1 ≠ (TX4 b).2.1 := by decide +kernel
theorem tyX4_ok : ∀ k, k < 2 → parseFieldDescriptor (TX4 k).2.2.1 = some (tyX4 k) := by decide +kernel
abbrev cX4_init : ByteArray := prog_6_method_1_code
def yX4_init : MethodName := ⟨RX4, "<init>", "()V"⟩
abbrev cX4_write : ByteArray := prog_6_method_2_code
def yX4_write : MethodName := ⟨RX4, "write", "(J)I"⟩
abbrev cX4_wipe : ByteArray := prog_6_method_3_code
def yX4_wipe : MethodName := ⟨RX4, "wipe", "()I"⟩
abbrev cX4_firstFault : ByteArray := prog_6_method_4_code
def yX4_firstFault : MethodName := ⟨RX4, "firstFault", "()I"⟩
abbrev cX4_isRule : ByteArray := prog_6_method_5_code
def yX4_isRule : MethodName := ⟨RX4, "isRule", "()Z"⟩
abbrev cX4_toRule : ByteArray := prog_6_method_6_code
def yX4_toRule : MethodName := ⟨RX4, "toRule", "()LBlackBalls$Rule;"⟩
abbrev cX4_digestLetters : ByteArray := prog_6_method_7_code
def yX4_digestLetters : MethodName := ⟨RX4, "digestLetters", "(J)J"⟩
abbrev cX4_codeAt : ByteArray := prog_6_method_8_code
def yX4_codeAt : MethodName := ⟨RX4, "codeAt", "(I)I"⟩
abbrev cX4_codeIn : ByteArray := prog_6_method_9_code
def yX4_codeIn : MethodName := ⟨RX4, "codeIn", "(JI)I"⟩
abbrev cX4_howManyLetters : ByteArray := prog_6_method_10_code
def yX4_howManyLetters : MethodName := ⟨RX4, "howManyLetters", "(J)I"⟩
abbrev cX4_dueBehind : ByteArray := prog_6_method_11_code
def yX4_dueBehind : MethodName := ⟨RX4, "dueBehind", "(II)I"⟩
abbrev cX4_isCount : ByteArray := prog_6_method_12_code
def yX4_isCount : MethodName := ⟨RX4, "isCount", "(I)Z"⟩
def RX5 : String := "BlackBalls$Person"
def TX5 : u_T := fun k => match k with
  | 0 => ("BlackBalls$Person", "number", "I", true)
  | 1 => ("BlackBalls$Person", "mindsEach", "[I", true)
  | 2 => ("BlackBalls$Person", "keptMinds", "[I", true)
  | 3 => ("BlackBalls$Person", "comesTenths", "I", false)
  | 4 => ("BlackBalls$Person", "keptComes", "I", false)
  | _ => ("BlackBalls$Person", "keptCandidates", "I", false)
def tyX5 : Nat → FieldType := fun k => match k with
  | 0 => .int
  | 1 => .array .int
  | 2 => .array .int
  | 3 => .int
  | 4 => .int
  | _ => .int
theorem nmX5 : ∀ a, a < 6 → ∀ b, b < 6 → a ≠ b → (TX5 a).2.1 ≠ (TX5 b).2.1 := by decide +kernel
theorem tyX5_ok : ∀ k, k < 6 → parseFieldDescriptor (TX5 k).2.2.1 = some (tyX5 k) := by decide +kernel
abbrev cX5_init : ByteArray := prog_7_method_1_code
def yX5_init : MethodName := ⟨RX5, "<init>", "(II)V"⟩
abbrev cX5_kind : ByteArray := prog_7_method_2_code
def yX5_kind : MethodName := ⟨RX5, "kind", "()I"⟩
abbrev cX5_n : ByteArray := prog_7_method_3_code
def yX5_n : MethodName := ⟨RX5, "n", "()I"⟩
abbrev cX5_blackOfStranger : ByteArray := prog_7_method_4_code
def yX5_blackOfStranger : MethodName := ⟨RX5, "blackOfStranger", "(IIZ)I"⟩
abbrev cX5_blackFor : ByteArray := prog_7_method_5_code
def yX5_blackFor : MethodName := ⟨RX5, "blackFor", "(IIZ)I"⟩
abbrev cX5_mindsOf : ByteArray := prog_7_method_6_code
def yX5_mindsOf : MethodName := ⟨RX5, "mindsOf", "(I)I"⟩
abbrev cX5_mindsMuch : ByteArray := prog_7_method_7_code
def yX5_mindsMuch : MethodName := ⟨RX5, "mindsMuch", "(I)Z"⟩
abbrev cX5_mindFrom : ByteArray := prog_7_method_8_code
def yX5_mindFrom : MethodName := ⟨RX5, "mindFrom", "(II)V"⟩
abbrev cX5_keep : ByteArray := prog_7_method_9_code
def yX5_keep : MethodName := ⟨RX5, "keep", "(I)V"⟩
abbrev cX5_takeBack : ByteArray := prog_7_method_10_code
def yX5_takeBack : MethodName := ⟨RX5, "takeBack", "()V"⟩
def RX6 : String := "BlackBalls$Rule"
def TX6 : u_T := fun k => match k with
  | 0 => ("BlackBalls$Rule", "blacks", "I", true)
  | 1 => ("BlackBalls$Rule", "ratio", "I", true)
  | 2 => ("BlackBalls$Rule", "quorum", "I", true)
  | 3 => ("BlackBalls$Rule", "twice", "Z", true)
  | _ => ("BlackBalls$Rule", "countTold", "Z", true)
def tyX6 : Nat → FieldType := fun k => match k with
  | 0 => .int
  | 1 => .int
  | 2 => .int
  | 3 => .boolean
  | _ => .boolean
theorem nmX6 : ∀ a, a < 5 → ∀ b, b < 5 → a ≠ b → (TX6 a).2.1 ≠ (TX6 b).2.1 := by decide +kernel
theorem tyX6_ok : ∀ k, k < 5 → parseFieldDescriptor (TX6 k).2.2.1 = some (tyX6 k) := by decide +kernel
abbrev cX6_init : ByteArray := prog_8_method_1_code
def yX6_init : MethodName := ⟨RX6, "<init>", "(IIIZZ)V"⟩
abbrev cX6_told : ByteArray := prog_8_method_2_code
def yX6_told : MethodName := ⟨RX6, "told", "(I)I"⟩
abbrev cX6_hasQuorum : ByteArray := prog_8_method_3_code
def yX6_hasQuorum : MethodName := ⟨RX6, "hasQuorum", "(I)Z"⟩
abbrev cX6_shutsOut : ByteArray := prog_8_method_4_code
def yX6_shutsOut : MethodName := ⟨RX6, "shutsOut", "(II)Z"⟩
abbrev cX6_letsIn : ByteArray := prog_8_method_5_code
def yX6_letsIn : MethodName := ⟨RX6, "letsIn", "(II)Z"⟩
def RX7 : String := "BlackBalls$Tally"
def TX7 : u_T := fun k => match k with
  | 0 => ("BlackBalls$Tally", "ways", "[J", true)
  | 1 => ("BlackBalls$Tally", "balls", "I", false)
  | _ => ("BlackBalls$Tally", "all", "J", false)
def tyX7 : Nat → FieldType := fun k => match k with
  | 0 => .array .long
  | 1 => .int
  | _ => .long
theorem nmX7 : ∀ a, a < 3 → ∀ b, b < 3 → a ≠ b → (TX7 a).2.1 ≠ (TX7 b).2.1 := by decide +kernel
theorem tyX7_ok : ∀ k, k < 3 → parseFieldDescriptor (TX7 k).2.2.1 = some (tyX7 k) := by decide +kernel
abbrev cX7_init : ByteArray := prog_9_method_1_code
def yX7_init : MethodName := ⟨RX7, "<init>", "()V"⟩
abbrev cX7_begin : ByteArray := prog_9_method_2_code
def yX7_begin : MethodName := ⟨RX7, "begin", "()V"⟩
abbrev cX7_put : ByteArray := prog_9_method_3_code
def yX7_put : MethodName := ⟨RX7, "put", "(I)V"⟩
abbrev cX7_waysTo : ByteArray := prog_9_method_4_code
def yX7_waysTo : MethodName := ⟨RX7, "waysTo", "(I)J"⟩
abbrev cX7_all : ByteArray := prog_9_method_5_code
def yX7_all : MethodName := ⟨RX7, "all", "()J"⟩
def RX8 : String := "BlackBalls$Traded"
def TX8 : u_T := fun k => match k with
  | 0 => ("BlackBalls$Vengeful", "other", "I", true)
  | 1 => ("BlackBalls$Person", "number", "I", true)
  | 2 => ("BlackBalls$Person", "mindsEach", "[I", true)
  | 3 => ("BlackBalls$Person", "keptMinds", "[I", true)
  | 4 => ("BlackBalls$Person", "comesTenths", "I", false)
  | 5 => ("BlackBalls$Person", "keptComes", "I", false)
  | _ => ("BlackBalls$Person", "keptCandidates", "I", false)
def tyX8 : Nat → FieldType := fun k => match k with
  | 0 => .int
  | 1 => .int
  | 2 => .array .int
  | 3 => .array .int
  | 4 => .int
  | 5 => .int
  | _ => .int
theorem nmX8 : ∀ a, a < 7 → ∀ b, b < 7 → a ≠ b → (TX8 a).2.1 ≠ (TX8 b).2.1 := by decide +kernel
theorem tyX8_ok : ∀ k, k < 7 → parseFieldDescriptor (TX8 k).2.2.1 = some (tyX8 k) := by decide +kernel
abbrev cX8_init : ByteArray := prog_10_method_1_code
def yX8_init : MethodName := ⟨RX8, "<init>", "(III)V"⟩
abbrev cX8_kind : ByteArray := prog_10_method_2_code
def yX8_kind : MethodName := ⟨RX8, "kind", "()I"⟩
abbrev cX8_blackOfStranger : ByteArray := prog_10_method_3_code
def yX8_blackOfStranger : MethodName := ⟨RX8, "blackOfStranger", "(IIZ)I"⟩
def RX9 : String := "BlackBalls$Turnout"
def TX9 : u_T := fun k => match k with
  | 0 => ("BlackBalls$Turnout", "ways", "[J", true)
  | 1 => ("BlackBalls$Turnout", "asked", "I", false)
  | _ => ("BlackBalls$Turnout", "all", "J", false)
def tyX9 : Nat → FieldType := fun k => match k with
  | 0 => .array .long
  | 1 => .int
  | _ => .long
theorem nmX9 : ∀ a, a < 3 → ∀ b, b < 3 → a ≠ b → (TX9 a).2.1 ≠ (TX9 b).2.1 := by decide +kernel
theorem tyX9_ok : ∀ k, k < 3 → parseFieldDescriptor (TX9 k).2.2.1 = some (tyX9 k) := by decide +kernel
abbrev cX9_init : ByteArray := prog_11_method_1_code
def yX9_init : MethodName := ⟨RX9, "<init>", "()V"⟩
abbrev cX9_begin : ByteArray := prog_11_method_2_code
def yX9_begin : MethodName := ⟨RX9, "begin", "()V"⟩
abbrev cX9_mayCome : ByteArray := prog_11_method_3_code
def yX9_mayCome : MethodName := ⟨RX9, "mayCome", "(II)V"⟩
abbrev cX9_waysIn : ByteArray := prog_11_method_4_code
def yX9_waysIn : MethodName := ⟨RX9, "waysIn", "(LBlackBalls$Rule;)J"⟩
abbrev cX9_all : ByteArray := prog_11_method_5_code
def yX9_all : MethodName := ⟨RX9, "all", "()J"⟩
abbrev cX9_waysTo : ByteArray := prog_11_method_6_code
def yX9_waysTo : MethodName := ⟨RX9, "waysTo", "(II)J"⟩
def RX10 : String := "BlackBalls$Vengeful"
def TX10 : u_T := fun k => match k with
  | 0 => ("BlackBalls$Person", "number", "I", true)
  | 1 => ("BlackBalls$Person", "mindsEach", "[I", true)
  | 2 => ("BlackBalls$Person", "keptMinds", "[I", true)
  | 3 => ("BlackBalls$Person", "comesTenths", "I", false)
  | 4 => ("BlackBalls$Person", "keptComes", "I", false)
  | 5 => ("BlackBalls$Person", "keptCandidates", "I", false)
  | _ => ("BlackBalls$Vengeful", "other", "I", true)
def tyX10 : Nat → FieldType := fun k => match k with
  | 0 => .int
  | 1 => .array .int
  | 2 => .array .int
  | 3 => .int
  | 4 => .int
  | 5 => .int
  | _ => .int
theorem nmX10 : ∀ a, a < 7 → ∀ b, b < 7 → a ≠ b → (TX10 a).2.1 ≠ (TX10 b).2.1 := by decide +kernel
theorem tyX10_ok : ∀ k, k < 7 → parseFieldDescriptor (TX10 k).2.2.1 = some (tyX10 k) := by decide +kernel
abbrev cX10_init : ByteArray := prog_12_method_1_code
def yX10_init : MethodName := ⟨RX10, "<init>", "(III)V"⟩
abbrev cX10_kind : ByteArray := prog_12_method_2_code
def yX10_kind : MethodName := ⟨RX10, "kind", "()I"⟩
abbrev cX10_n : ByteArray := prog_12_method_3_code
def yX10_n : MethodName := ⟨RX10, "n", "()I"⟩
abbrev cX10_blackOfStranger : ByteArray := prog_12_method_4_code
def yX10_blackOfStranger : MethodName := ⟨RX10, "blackOfStranger", "(IIZ)I"⟩
def RX11 : String := "BlackBalls"
def TX11 : u_T := fun k => match k with
  | 0 => ("BlackBalls", "page", "LBlackBalls$Page;", true)
  | 1 => ("BlackBalls", "rules", "[LBlackBalls$Rule;", true)
  | 2 => ("BlackBalls", "people", "[LBlackBalls$Person;", true)
  | 3 => ("BlackBalls", "friends", "[I", true)
  | 4 => ("BlackBalls", "tally", "LBlackBalls$Tally;", true)
  | 5 => ("BlackBalls", "turnout", "LBlackBalls$Turnout;", true)
  | 6 => ("BlackBalls", "ballot", "LBlackBalls$Ballot;", true)
  | 7 => ("BlackBalls", "club", "LBlackBalls$Club;", true)
  | 8 => ("BlackBalls", "vetoRow", "[J", true)
  | 9 => ("BlackBalls", "ruleCount", "I", false)
  | 10 => ("BlackBalls", "peopleCount", "I", false)
  | 11 => ("BlackBalls", "candidateCount", "I", false)
  | _ => ("BlackBalls", "imageKept", "Z", false)
def tyX11 : Nat → FieldType := fun k => match k with
  | 0 => .object "BlackBalls$Page"
  | 1 => .array (.object "BlackBalls$Rule")
  | 2 => .array (.object "BlackBalls$Person")
  | 3 => .array .int
  | 4 => .object "BlackBalls$Tally"
  | 5 => .object "BlackBalls$Turnout"
  | 6 => .object "BlackBalls$Ballot"
  | 7 => .object "BlackBalls$Club"
  | 8 => .array .long
  | 9 => .int
  | 10 => .int
  | 11 => .int
  | _ => .boolean
theorem nmX11 : ∀ a, a < 13 → ∀ b, b < 13 → a ≠ b → (TX11 a).2.1 ≠ (TX11 b).2.1 := by decide +kernel
theorem tyX11_ok : ∀ k, k < 13 → parseFieldDescriptor (TX11 k).2.2.1 = some (tyX11 k) := by decide +kernel
abbrev cX11_init : ByteArray := prog_1_method_1_code
def yX11_init : MethodName := ⟨RX11, "<init>", "()V"⟩
abbrev cX11_letters : ByteArray := prog_1_method_2_code
def yX11_letters : MethodName := ⟨RX11, "letters", "(J)I"⟩
abbrev cX11_blank : ByteArray := prog_1_method_3_code
def yX11_blank : MethodName := ⟨RX11, "blank", "()I"⟩
abbrev cX11_fault : ByteArray := prog_1_method_4_code
def yX11_fault : MethodName := ⟨RX11, "fault", "()I"⟩
abbrev cX11_rule : ByteArray := prog_1_method_5_code
def yX11_rule : MethodName := ⟨RX11, "rule", "()I"⟩
abbrev cX11_ruleTold : ByteArray := prog_1_method_6_code
def yX11_ruleTold : MethodName := ⟨RX11, "ruleTold", "(II)I"⟩
abbrev cX11_member : ByteArray := prog_1_method_7_code
def yX11_member : MethodName := ⟨RX11, "member", "(III)I"⟩
abbrev cX11_as : ByteArray := prog_1_method_8_code
def yX11_as : MethodName := ⟨RX11, "as", "(II)I"⟩
abbrev cX11_about : ByteArray := prog_1_method_9_code
def yX11_about : MethodName := ⟨RX11, "about", "(II)I"⟩
abbrev cX11_comes : ByteArray := prog_1_method_10_code
def yX11_comes : MethodName := ⟨RX11, "comes", "(II)I"⟩
abbrev cX11_candidate : ByteArray := prog_1_method_11_code
def yX11_candidate : MethodName := ⟨RX11, "candidate", "(I)I"⟩
abbrev cX11_minds : ByteArray := prog_1_method_12_code
def yX11_minds : MethodName := ⟨RX11, "minds", "(III)I"⟩
abbrev cX11_friend : ByteArray := prog_1_method_13_code
def yX11_friend : MethodName := ⟨RX11, "friend", "(II)I"⟩
abbrev cX11_black : ByteArray := prog_1_method_14_code
def yX11_black : MethodName := ⟨RX11, "black", "(IIII)I"⟩
abbrev cX11_balls : ByteArray := prog_1_method_15_code
def yX11_balls : MethodName := ⟨RX11, "balls", "(IIIII)I"⟩
abbrev cX11_in : ByteArray := prog_1_method_16_code
def yX11_in : MethodName := ⟨RX11, "in", "(IIII)J"⟩
abbrev cX11_large : ByteArray := prog_1_method_17_code
def yX11_large : MethodName := ⟨RX11, "large", "(III)J"⟩
abbrev cX11_wrong : ByteArray := prog_1_method_18_code
def yX11_wrong : MethodName := ⟨RX11, "wrong", "(II)J"⟩
abbrev cX11_best : ByteArray := prog_1_method_19_code
def yX11_best : MethodName := ⟨RX11, "best", "(I)I"⟩
abbrev cX11_who : ByteArray := prog_1_method_20_code
def yX11_who : MethodName := ⟨RX11, "who", "(IIIIII)I"⟩
abbrev cX11_heard : ByteArray := prog_1_method_21_code
def yX11_heard : MethodName := ⟨RX11, "heard", "(IIIIIZI)I"⟩
abbrev cX11_sway : ByteArray := prog_1_method_22_code
def yX11_sway : MethodName := ⟨RX11, "sway", "(III)I"⟩
abbrev cX11_word : ByteArray := prog_1_method_23_code
def yX11_word : MethodName := ⟨RX11, "word", "(III)I"⟩
abbrev cX11_seen : ByteArray := prog_1_method_24_code
def yX11_seen : MethodName := ⟨RX11, "seen", "(IIII)J"⟩
abbrev cX11_evening : ByteArray := prog_1_method_25_code
def yX11_evening : MethodName := ⟨RX11, "evening", "(IIIII)I"⟩
abbrev cX11_trade : ByteArray := prog_1_method_26_code
def yX11_trade : MethodName := ⟨RX11, "trade", "(IIIII)I"⟩
abbrev cX11_veto : ByteArray := prog_1_method_27_code
def yX11_veto : MethodName := ⟨RX11, "veto", "(III)I"⟩
abbrev cX11_worth : ByteArray := prog_1_method_28_code
def yX11_worth : MethodName := ⟨RX11, "worth", "(III)J"⟩
abbrev cX11_years : ByteArray := prog_1_method_29_code
def yX11_years : MethodName := ⟨RX11, "years", "(IIII)I"⟩
abbrev cX11_lot : ByteArray := prog_1_method_30_code
def yX11_lot : MethodName := ⟨RX11, "lot", "(II)I"⟩
abbrev cX11_image : ByteArray := prog_1_method_31_code
def yX11_image : MethodName := ⟨RX11, "image", "()I"⟩
abbrev cX11_restore : ByteArray := prog_1_method_32_code
def yX11_restore : MethodName := ⟨RX11, "restore", "()I"⟩
abbrev cX11_count : ByteArray := prog_1_method_33_code
def yX11_count : MethodName := ⟨RX11, "count", "(I)I"⟩
abbrev cX11_digest : ByteArray := prog_1_method_34_code
def yX11_digest : MethodName := ⟨RX11, "digest", "()J"⟩
abbrev cX11_ruleAt : ByteArray := prog_1_method_35_code
def yX11_ruleAt : MethodName := ⟨RX11, "ruleAt", "(I)LBlackBalls$Rule;"⟩
abbrev cX11_personAt : ByteArray := prog_1_method_36_code
def yX11_personAt : MethodName := ⟨RX11, "personAt", "(I)LBlackBalls$Person;"⟩
abbrev cX11_isCandidate : ByteArray := prog_1_method_37_code
def yX11_isCandidate : MethodName := ⟨RX11, "isCandidate", "(I)Z"⟩
abbrev cX11_friendOf : ByteArray := prog_1_method_38_code
def yX11_friendOf : MethodName := ⟨RX11, "friendOf", "(I)I"⟩
abbrev cX11_everybody : ByteArray := prog_1_method_39_code
def yX11_everybody : MethodName := ⟨RX11, "everybody", "()I"⟩
abbrev cX11_areComers : ByteArray := prog_1_method_40_code
def yX11_areComers : MethodName := ⟨RX11, "areComers", "(I)Z"⟩
abbrev cX11_isOneOf : ByteArray := prog_1_method_41_code
def yX11_isOneOf : MethodName := ⟨RX11, "isOneOf", "(II)Z"⟩
abbrev cX11_isPart : ByteArray := prog_1_method_42_code
def yX11_isPart : MethodName := ⟨RX11, "isPart", "(I)Z"⟩
abbrev cX11_within : ByteArray := prog_1_method_43_code
def yX11_within : MethodName := ⟨RX11, "within", "(III)Z"⟩
abbrev cX11_newPerson : ByteArray := prog_1_method_44_code
def yX11_newPerson : MethodName := ⟨RX11, "newPerson", "(III)LBlackBalls$Person;"⟩
abbrev cX11_isSuch : ByteArray := prog_1_method_45_code
def yX11_isSuch : MethodName := ⟨RX11, "isSuch", "(LBlackBalls$Person;I)Z"⟩
abbrev cX11_howManyMindMuch : ByteArray := prog_1_method_46_code
def yX11_howManyMindMuch : MethodName := ⟨RX11, "howManyMindMuch", "(I)I"⟩
abbrev cX11_isMinded : ByteArray := prog_1_method_47_code
def yX11_isMinded : MethodName := ⟨RX11, "isMinded", "(I)Z"⟩
abbrev cX11_howManyMinded : ByteArray := prog_1_method_48_code
def yX11_howManyMinded : MethodName := ⟨RX11, "howManyMinded", "()I"⟩
abbrev cX11_isWatched : ByteArray := prog_1_method_49_code
def yX11_isWatched : MethodName := ⟨RX11, "isWatched", "(LBlackBalls$Rule;I)Z"⟩
abbrev cX11_blackOf : ByteArray := prog_1_method_50_code
def yX11_blackOf : MethodName := ⟨RX11, "blackOf", "(LBlackBalls$Person;IZ)I"⟩
abbrev cX11_tallyBalls : ByteArray := prog_1_method_51_code
def yX11_tallyBalls : MethodName := ⟨RX11, "tallyBalls", "(IIZ)V"⟩
abbrev cX11_inWays : ByteArray := prog_1_method_52_code
def yX11_inWays : MethodName := ⟨RX11, "inWays", "(LBlackBalls$Rule;II)J"⟩
abbrev cX11_squaredTens : ByteArray := prog_1_method_53_code
def yX11_squaredTens : MethodName := ⟨RX11, "squaredTens", "(I)J"⟩
abbrev cX11_wrongWays : ByteArray := prog_1_method_54_code
def yX11_wrongWays : MethodName := ⟨RX11, "wrongWays", "(LBlackBalls$Rule;I)J"⟩
abbrev cX11_withdraws : ByteArray := prog_1_method_55_code
def yX11_withdraws : MethodName := ⟨RX11, "withdraws", "(JII)Z"⟩
abbrev cX11_letInByOneBall : ByteArray := prog_1_method_56_code
def yX11_letInByOneBall : MethodName := ⟨RX11, "letInByOneBall", "(LBlackBalls$Rule;III)I"⟩
abbrev cX11_gain : ByteArray := prog_1_method_57_code
def yX11_gain : MethodName := ⟨RX11, "gain", "(LBlackBalls$Person;IIIII)I"⟩
abbrev cX11_expectVetoes : ByteArray := prog_1_method_58_code
def yX11_expectVetoes : MethodName := ⟨RX11, "expectVetoes", "(I)J"⟩
abbrev cX11_digestRules : ByteArray := prog_1_method_59_code
def yX11_digestRules : MethodName := ⟨RX11, "digestRules", "(J)J"⟩
abbrev cX11_digestPeople : ByteArray := prog_1_method_60_code
def yX11_digestPeople : MethodName := ⟨RX11, "digestPeople", "(J)J"⟩
abbrev cX11_digestCandidates : ByteArray := prog_1_method_61_code
def yX11_digestCandidates : MethodName := ⟨RX11, "digestCandidates", "(J)J"⟩
abbrev cX11_digestIn : ByteArray := prog_1_method_62_code
def yX11_digestIn : MethodName := ⟨RX11, "digestIn", "(J)J"⟩
abbrev cX11_mix : ByteArray := prog_1_method_63_code
def yX11_mix : MethodName := ⟨RX11, "mix", "(JJ)J"⟩
abbrev cX11_power : ByteArray := prog_1_method_64_code
def yX11_power : MethodName := ⟨RX11, "power", "(JI)J"⟩
abbrev cX11_commonDivisor : ByteArray := prog_1_method_65_code
def yX11_commonDivisor : MethodName := ⟨RX11, "commonDivisor", "(JJ)J"⟩
abbrev cX11_lowest : ByteArray := prog_1_method_66_code
def yX11_lowest : MethodName := ⟨RX11, "lowest", "(JJI)J"⟩
def RX12 : String := "BlackBallsModel"
def TX12 : u_T := fun k => match k with
  | 0 => ("BlackBallsModel", "members", "I", false)
  | 1 => ("BlackBallsModel", "kindOf", "[I", true)
  | 2 => ("BlackBallsModel", "numberOf", "[I", true)
  | 3 => ("BlackBallsModel", "comesOf", "[I", true)
  | 4 => ("BlackBallsModel", "candidates", "I", false)
  | 5 => ("BlackBallsModel", "friendOf", "[I", true)
  | 6 => ("BlackBallsModel", "mindsOf", "[I", true)
  | 7 => ("BlackBallsModel", "rules", "I", false)
  | 8 => ("BlackBallsModel", "blacksOf", "[I", true)
  | 9 => ("BlackBallsModel", "ratioOf", "[I", true)
  | 10 => ("BlackBallsModel", "quorumOf", "[I", true)
  | 11 => ("BlackBallsModel", "isTwice", "[Z", true)
  | 12 => ("BlackBallsModel", "isTold", "[Z", true)
  | 13 => ("BlackBallsModel", "pageLength", "I", false)
  | 14 => ("BlackBallsModel", "page", "[B", true)
  | 15 => ("BlackBallsModel", "isKept", "Z", false)
  | 16 => ("BlackBallsModel", "keptMembers", "I", false)
  | 17 => ("BlackBallsModel", "keptCandidates", "I", false)
  | 18 => ("BlackBallsModel", "keptComes", "[I", true)
  | 19 => ("BlackBallsModel", "keptMinds", "[I", true)
  | 20 => ("BlackBallsModel", "faultAt", "I", false)
  | 21 => ("BlackBallsModel", "isWhole", "Z", false)
  | 22 => ("BlackBallsModel", "newBlacks", "I", false)
  | 23 => ("BlackBallsModel", "newRatio", "I", false)
  | 24 => ("BlackBallsModel", "newQuorum", "I", false)
  | 25 => ("BlackBallsModel", "newTwice", "Z", false)
  | 26 => ("BlackBallsModel", "newTold", "Z", false)
  | 27 => ("BlackBallsModel", "ways", "[J", true)
  | 28 => ("BlackBallsModel", "seedNow", "J", false)
  | 29 => ("BlackBallsModel", "tradeX", "I", false)
  | 30 => ("BlackBallsModel", "tradeY", "I", false)
  | 31 => ("BlackBallsModel", "tradeA", "I", false)
  | 32 => ("BlackBallsModel", "tradeB", "I", false)
  | 33 => ("BlackBallsModel", "expected", "[J", true)
  | 34 => ("BlackBallsModel", "people", "I", false)
  | 35 => ("BlackBallsModel", "taste", "[I", true)
  | _ => ("BlackBallsModel", "h", "J", false)
def tyX12 : Nat → FieldType := fun k => match k with
  | 0 => .int
  | 1 => .array .int
  | 2 => .array .int
  | 3 => .array .int
  | 4 => .int
  | 5 => .array .int
  | 6 => .array .int
  | 7 => .int
  | 8 => .array .int
  | 9 => .array .int
  | 10 => .array .int
  | 11 => .array .boolean
  | 12 => .array .boolean
  | 13 => .int
  | 14 => .array .byte
  | 15 => .boolean
  | 16 => .int
  | 17 => .int
  | 18 => .array .int
  | 19 => .array .int
  | 20 => .int
  | 21 => .boolean
  | 22 => .int
  | 23 => .int
  | 24 => .int
  | 25 => .boolean
  | 26 => .boolean
  | 27 => .array .long
  | 28 => .long
  | 29 => .int
  | 30 => .int
  | 31 => .int
  | 32 => .int
  | 33 => .array .long
  | 34 => .int
  | 35 => .array .int
  | _ => .long
theorem nmX12 : ∀ a, a < 37 → ∀ b, b < 37 → a ≠ b → (TX12 a).2.1 ≠ (TX12 b).2.1 := by decide +kernel
theorem tyX12_ok : ∀ k, k < 37 → parseFieldDescriptor (TX12 k).2.2.1 = some (tyX12 k) := by decide +kernel
abbrev cX12_init : ByteArray := prog_14_method_1_code
def yX12_init : MethodName := ⟨RX12, "<init>", "()V"⟩
abbrev cX12_within : ByteArray := prog_14_method_3_code
def yX12_within : MethodName := ⟨RX12, "within", "(III)Z"⟩
abbrev cX12_has : ByteArray := prog_14_method_4_code
def yX12_has : MethodName := ⟨RX12, "has", "(II)Z"⟩
abbrev cX12_ones : ByteArray := prog_14_method_5_code
def yX12_ones : MethodName := ⟨RX12, "ones", "(I)I"⟩
abbrev cX12_isPart : ByteArray := prog_14_method_6_code
def yX12_isPart : MethodName := ⟨RX12, "isPart", "(I)Z"⟩
abbrev cX12_lowest : ByteArray := prog_14_method_7_code
def yX12_lowest : MethodName := ⟨RX12, "lowest", "(JJI)J"⟩
abbrev cX12_tens : ByteArray := prog_14_method_8_code
def yX12_tens : MethodName := ⟨RX12, "tens", "(I)J"⟩
abbrev cX12_letters : ByteArray := prog_14_method_9_code
def yX12_letters : MethodName := ⟨RX12, "letters", "(J)I"⟩
abbrev cX12_blank : ByteArray := prog_14_method_10_code
def yX12_blank : MethodName := ⟨RX12, "blank", "()I"⟩
abbrev cX12_isDigit : ByteArray := prog_14_method_11_code
def yX12_isDigit : MethodName := ⟨RX12, "isDigit", "(I)Z"⟩
abbrev cX12_next : ByteArray := prog_14_method_12_code
def yX12_next : MethodName := ⟨RX12, "next", "(II)I"⟩
abbrev cX12_nextRatio : ByteArray := prog_14_method_13_code
def yX12_nextRatio : MethodName := ⟨RX12, "nextRatio", "(I)I"⟩
abbrev cX12_readPage : ByteArray := prog_14_method_14_code
def yX12_readPage : MethodName := ⟨RX12, "readPage", "()V"⟩
abbrev cX12_fault : ByteArray := prog_14_method_15_code
def yX12_fault : MethodName := ⟨RX12, "fault", "()I"⟩
abbrev cX12_rule : ByteArray := prog_14_method_16_code
def yX12_rule : MethodName := ⟨RX12, "rule", "()I"⟩
abbrev cX12_isRule : ByteArray := prog_14_method_17_code
def yX12_isRule : MethodName := ⟨RX12, "isRule", "(I)Z"⟩
abbrev cX12_ruleNow : ByteArray := prog_14_method_18_code
def yX12_ruleNow : MethodName := ⟨RX12, "ruleNow", "(II)I"⟩
abbrev cX12_ruleTold : ByteArray := prog_14_method_19_code
def yX12_ruleTold : MethodName := ⟨RX12, "ruleTold", "(II)I"⟩
abbrev cX12_isMember : ByteArray := prog_14_method_20_code
def yX12_isMember : MethodName := ⟨RX12, "isMember", "(I)Z"⟩
abbrev cX12_isCandidate : ByteArray := prog_14_method_21_code
def yX12_isCandidate : MethodName := ⟨RX12, "isCandidate", "(I)Z"⟩
abbrev cX12_member : ByteArray := prog_14_method_22_code
def yX12_member : MethodName := ⟨RX12, "member", "(III)I"⟩
abbrev cX12_as : ByteArray := prog_14_method_23_code
def yX12_as : MethodName := ⟨RX12, "as", "(II)I"⟩
abbrev cX12_memberNow : ByteArray := prog_14_method_24_code
def yX12_memberNow : MethodName := ⟨RX12, "memberNow", "(II)I"⟩
abbrev cX12_about : ByteArray := prog_14_method_25_code
def yX12_about : MethodName := ⟨RX12, "about", "(II)I"⟩
abbrev cX12_comes : ByteArray := prog_14_method_26_code
def yX12_comes : MethodName := ⟨RX12, "comes", "(II)I"⟩
abbrev cX12_candidate : ByteArray := prog_14_method_27_code
def yX12_candidate : MethodName := ⟨RX12, "candidate", "(I)I"⟩
abbrev cX12_minds : ByteArray := prog_14_method_28_code
def yX12_minds : MethodName := ⟨RX12, "minds", "(III)I"⟩
abbrev cX12_mindedBy : ByteArray := prog_14_method_29_code
def yX12_mindedBy : MethodName := ⟨RX12, "mindedBy", "(I)I"⟩
abbrev cX12_isMinded : ByteArray := prog_14_method_30_code
def yX12_isMinded : MethodName := ⟨RX12, "isMinded", "(I)Z"⟩
abbrev cX12_candidateNow : ByteArray := prog_14_method_31_code
def yX12_candidateNow : MethodName := ⟨RX12, "candidateNow", "(II)I"⟩
abbrev cX12_friend : ByteArray := prog_14_method_32_code
def yX12_friend : MethodName := ⟨RX12, "friend", "(II)I"⟩
abbrev cX12_areComers : ByteArray := prog_14_method_33_code
def yX12_areComers : MethodName := ⟨RX12, "areComers", "(I)Z"⟩
abbrev cX12_blackBy : ByteArray := prog_14_method_34_code
def yX12_blackBy : MethodName := ⟨RX12, "blackBy", "(IIII)I"⟩
abbrev cX12_black : ByteArray := prog_14_method_35_code
def yX12_black : MethodName := ⟨RX12, "black", "(IIII)I"⟩
abbrev cX12_layWays : ByteArray := prog_14_method_36_code
def yX12_layWays : MethodName := ⟨RX12, "layWays", "(IIIII)V"⟩
abbrev cX12_shuts : ByteArray := prog_14_method_37_code
def yX12_shuts : MethodName := ⟨RX12, "shuts", "(III)Z"⟩
abbrev cX12_shutBy : ByteArray := prog_14_method_38_code
def yX12_shutBy : MethodName := ⟨RX12, "shutBy", "(IIII)J"⟩
abbrev cX12_inBy : ByteArray := prog_14_method_39_code
def yX12_inBy : MethodName := ⟨RX12, "inBy", "(III)J"⟩
abbrev cX12_areThere : ByteArray := prog_14_method_40_code
def yX12_areThere : MethodName := ⟨RX12, "areThere", "(II)Z"⟩
abbrev cX12_balls : ByteArray := prog_14_method_41_code
def yX12_balls : MethodName := ⟨RX12, "balls", "(IIIII)I"⟩
abbrev cX12_in : ByteArray := prog_14_method_42_code
def yX12_in : MethodName := ⟨RX12, "in", "(IIII)J"⟩
abbrev cX12_comesBy : ByteArray := prog_14_method_43_code
def yX12_comesBy : MethodName := ⟨RX12, "comesBy", "(I)J"⟩
abbrev cX12_large : ByteArray := prog_14_method_44_code
def yX12_large : MethodName := ⟨RX12, "large", "(III)J"⟩
abbrev cX12_wrongBy : ByteArray := prog_14_method_45_code
def yX12_wrongBy : MethodName := ⟨RX12, "wrongBy", "(II)J"⟩
abbrev cX12_wrong : ByteArray := prog_14_method_46_code
def yX12_wrong : MethodName := ⟨RX12, "wrong", "(II)J"⟩
abbrev cX12_best : ByteArray := prog_14_method_47_code
def yX12_best : MethodName := ⟨RX12, "best", "(I)I"⟩
abbrev cX12_isAsked : ByteArray := prog_14_method_48_code
def yX12_isAsked : MethodName := ⟨RX12, "isAsked", "(III)Z"⟩
abbrev cX12_who : ByteArray := prog_14_method_49_code
def yX12_who : MethodName := ⟨RX12, "who", "(IIIIII)I"⟩
abbrev cX12_heard : ByteArray := prog_14_method_50_code
def yX12_heard : MethodName := ⟨RX12, "heard", "(IIIIIZI)I"⟩
abbrev cX12_sway : ByteArray := prog_14_method_51_code
def yX12_sway : MethodName := ⟨RX12, "sway", "(III)I"⟩
abbrev cX12_withdraws : ByteArray := prog_14_method_52_code
def yX12_withdraws : MethodName := ⟨RX12, "withdraws", "(IIII)Z"⟩
abbrev cX12_word : ByteArray := prog_14_method_53_code
def yX12_word : MethodName := ⟨RX12, "word", "(III)I"⟩
abbrev cX12_seen : ByteArray := prog_14_method_54_code
def yX12_seen : MethodName := ⟨RX12, "seen", "(IIII)J"⟩
abbrev cX12_draw : ByteArray := prog_14_method_55_code
def yX12_draw : MethodName := ⟨RX12, "draw", "(I)I"⟩
abbrev cX12_goRound : ByteArray := prog_14_method_56_code
def yX12_goRound : MethodName := ⟨RX12, "goRound", "(III)I"⟩
abbrev cX12_evening : ByteArray := prog_14_method_57_code
def yX12_evening : MethodName := ⟨RX12, "evening", "(IIIII)I"⟩
abbrev cX12_isInBy : ByteArray := prog_14_method_58_code
def yX12_isInBy : MethodName := ⟨RX12, "isInBy", "(IIIII)Z"⟩
abbrev cX12_gain : ByteArray := prog_14_method_59_code
def yX12_gain : MethodName := ⟨RX12, "gain", "(III)I"⟩
abbrev cX12_trade : ByteArray := prog_14_method_60_code
def yX12_trade : MethodName := ⟨RX12, "trade", "(IIIII)I"⟩
abbrev cX12_elevens : ByteArray := prog_14_method_61_code
def yX12_elevens : MethodName := ⟨RX12, "elevens", "(I)J"⟩
abbrev cX12_isUsed : ByteArray := prog_14_method_62_code
def yX12_isUsed : MethodName := ⟨RX12, "isUsed", "(III)Z"⟩
abbrev cX12_layVetoes : ByteArray := prog_14_method_63_code
def yX12_layVetoes : MethodName := ⟨RX12, "layVetoes", "(I)V"⟩
abbrev cX12_veto : ByteArray := prog_14_method_64_code
def yX12_veto : MethodName := ⟨RX12, "veto", "(III)I"⟩
abbrev cX12_worth : ByteArray := prog_14_method_65_code
def yX12_worth : MethodName := ⟨RX12, "worth", "(III)J"⟩
abbrev cX12_clubRound : ByteArray := prog_14_method_66_code
def yX12_clubRound : MethodName := ⟨RX12, "clubRound", "(I)I"⟩
abbrev cX12_isLetIn : ByteArray := prog_14_method_67_code
def yX12_isLetIn : MethodName := ⟨RX12, "isLetIn", "(II)Z"⟩
abbrev cX12_unlike : ByteArray := prog_14_method_68_code
def yX12_unlike : MethodName := ⟨RX12, "unlike", "()I"⟩
abbrev cX12_years : ByteArray := prog_14_method_69_code
def yX12_years : MethodName := ⟨RX12, "years", "(IIII)I"⟩
abbrev cX12_mindedMany : ByteArray := prog_14_method_70_code
def yX12_mindedMany : MethodName := ⟨RX12, "mindedMany", "()I"⟩
abbrev cX12_lot : ByteArray := prog_14_method_71_code
def yX12_lot : MethodName := ⟨RX12, "lot", "(II)I"⟩
abbrev cX12_image : ByteArray := prog_14_method_72_code
def yX12_image : MethodName := ⟨RX12, "image", "()I"⟩
abbrev cX12_restore : ByteArray := prog_14_method_73_code
def yX12_restore : MethodName := ⟨RX12, "restore", "()I"⟩
abbrev cX12_howMany : ByteArray := prog_14_method_74_code
def yX12_howMany : MethodName := ⟨RX12, "howMany", "(I)I"⟩
abbrev cX12_count : ByteArray := prog_14_method_75_code
def yX12_count : MethodName := ⟨RX12, "count", "(I)I"⟩
abbrev cX12_mix : ByteArray := prog_14_method_76_code
def yX12_mix : MethodName := ⟨RX12, "mix", "(J)V"⟩
abbrev cX12_mixIns : ByteArray := prog_14_method_77_code
def yX12_mixIns : MethodName := ⟨RX12, "mixIns", "()V"⟩
abbrev cX12_digest : ByteArray := prog_14_method_78_code
def yX12_digest : MethodName := ⟨RX12, "digest", "()J"⟩
def RJ6 : String := "java/lang/Integer"
def TJ6 : u_T := fun k => match k with
  | _ => ("", "", "", false)
def tyJ6 : Nat → FieldType := fun k => match k with
  | _ => .int
abbrev cJ6_bitCount_0f7a4 : ByteArray := prog_15_method_49_code
def yJ6_bitCount_0f7a4 : MethodName := ⟨RJ6, "bitCount", "(I)I"⟩
def RJ9 : String := "java/lang/Math"
def TJ9 : u_T := fun k => match k with
  | _ => ("", "", "", false)
def tyJ9 : Nat → FieldType := fun k => match k with
  | _ => .int
abbrev cJ9_abs_0f7a4 : ByteArray := prog_16_method_59_code
def yJ9_abs_0f7a4 : MethodName := ⟨RJ9, "abs", "(I)I"⟩
abbrev cJ9_abs_067f4 : ByteArray := prog_16_method_61_code
def yJ9_abs_067f4 : MethodName := ⟨RJ9, "abs", "(J)J"⟩
abbrev cJ9_max_f86c9 : ByteArray := prog_16_method_66_code
def yJ9_max_f86c9 : MethodName := ⟨RJ9, "max", "(JJ)J"⟩
abbrev cJ9_min_7cf53 : ByteArray := prog_16_method_69_code
def yJ9_min_7cf53 : MethodName := ⟨RJ9, "min", "(II)I"⟩
def RJ10 : String := "java/lang/System"
def TJ10 : u_T := fun k => match k with
  | _ => ("", "", "", false)
def tyJ10 : Nat → FieldType := fun k => match k with
  | _ => .int
def RJ7 : String := "java/util/Arrays"
def TJ7 : u_T := fun k => match k with
  | _ => ("", "", "", false)
def tyJ7 : Nat → FieldType := fun k => match k with
  | _ => .int
abbrev cJ7_fill_d0a16 : ByteArray := prog_18_method_101_code
def yJ7_fill_d0a16 : MethodName := ⟨RJ7, "fill", "([JJ)V"⟩
def RL : String := "BlackBallsLaw"
abbrev cL_law : ByteArray := code
def yL_law : MethodName := ⟨RL, "law", "([I)Z"⟩
abbrev vwCl : List vw_C := [(RX0, TX0, 5), (RX1, TX1, 5), (RX2, TX2, 6), (RX3, TX3, 7), (RX4, TX4, 2), (RX5, TX5, 6), (RX6, TX6, 5), (RX7, TX7, 3), (RX8, TX8, 7), (RX9, TX9, 3), (RX10, TX10, 7), (RX11, TX11, 13), (RX12, TX12, 37)]
end
section
theorem dX0_init_0 : decode cX0_init 0 = .ok (.aload_n 0, 1) := by decide +kernel
theorem dX0_init_1 : decode cX0_init 1 = .ok (.invokespecial 3, 3) := by decide +kernel
theorem dX0_init_4 : decode cX0_init 4 = .ok (.aload_n 0, 1) := by decide +kernel
theorem dX0_init_5 : decode cX0_init 5 = .ok (.bipush 8, 2) := by decide +kernel
theorem dX0_init_7 : decode cX0_init 7 = .ok (.newarray .int, 2) := by decide +kernel
theorem dX0_init_9 : decode cX0_init 9 = .ok (.putfield 9, 3) := by decide +kernel
theorem dX0_init_12 : decode cX0_init 12 = .ok (.return_, 1) := by decide +kernel
theorem dX0_begin_0 : decode cX0_begin 0 = .ok (.aload_n 0, 1) := by decide +kernel
theorem dX0_begin_1 : decode cX0_begin 1 = .ok (.iconst 0, 1) := by decide +kernel
theorem dX0_begin_2 : decode cX0_begin 2 = .ok (.putfield 15, 3) := by decide +kernel
theorem dX0_begin_5 : decode cX0_begin 5 = .ok (.return_, 1) := by decide +kernel
theorem dX0_seat_0 : decode cX0_seat 0 = .ok (.aload_n 0, 1) := by decide +kernel
theorem dX0_seat_1 : decode cX0_seat 1 = .ok (.getfield 15, 3) := by decide +kernel
theorem dX0_seat_4 : decode cX0_seat 4 = .ok (.bipush 8, 2) := by decide +kernel
theorem dX0_seat_6 : decode cX0_seat 6 = .ok (.if_icmp .ge 23, 3) := by decide +kernel
theorem dX0_seat_9 : decode cX0_seat 9 = .ok (.aload_n 0, 1) := by decide +kernel
theorem dX0_seat_10 : decode cX0_seat 10 = .ok (.getfield 9, 3) := by decide +kernel
theorem dX0_seat_13 : decode cX0_seat 13 = .ok (.aload_n 0, 1) := by decide +kernel
theorem dX0_seat_14 : decode cX0_seat 14 = .ok (.getfield 15, 3) := by decide +kernel
theorem dX0_seat_17 : decode cX0_seat 17 = .ok (.iload_n 1, 1) := by decide +kernel
theorem dX0_seat_18 : decode cX0_seat 18 = .ok (.iastore, 1) := by decide +kernel
theorem dX0_seat_19 : decode cX0_seat 19 = .ok (.aload_n 0, 1) := by decide +kernel
theorem dX0_seat_20 : decode cX0_seat 20 = .ok (.dup, 1) := by decide +kernel
theorem dX0_seat_21 : decode cX0_seat 21 = .ok (.getfield 15, 3) := by decide +kernel
theorem dX0_seat_24 : decode cX0_seat 24 = .ok (.iconst 1, 1) := by decide +kernel
theorem dX0_seat_25 : decode cX0_seat 25 = .ok (.iadd, 1) := by decide +kernel
theorem dX0_seat_26 : decode cX0_seat 26 = .ok (.putfield 15, 3) := by decide +kernel
theorem dX0_seat_29 : decode cX0_seat 29 = .ok (.return_, 1) := by decide +kernel
theorem dX0_hold_0 : decode cX0_hold 0 = .ok (.aload_n 0, 1) := by decide +kernel
theorem dX0_hold_1 : decode cX0_hold 1 = .ok (.iload_n 2, 1) := by decide +kernel
theorem dX0_hold_2 : decode cX0_hold 2 = .ok (.putfield 19, 3) := by decide +kernel
theorem dX0_hold_5 : decode cX0_hold 5 = .ok (.aload_n 0, 1) := by decide +kernel
theorem dX0_hold_6 : decode cX0_hold 6 = .ok (.iconst (-1), 1) := by decide +kernel
theorem dX0_hold_7 : decode cX0_hold 7 = .ok (.putfield 22, 3) := by decide +kernel
theorem dX0_hold_10 : decode cX0_hold 10 = .ok (.aload_n 0, 1) := by decide +kernel
theorem dX0_hold_11 : decode cX0_hold 11 = .ok (.iconst 0, 1) := by decide +kernel
theorem dX0_hold_12 : decode cX0_hold 12 = .ok (.putfield 25, 3) := by decide +kernel
theorem dX0_hold_15 : decode cX0_hold 15 = .ok (.aload_n 1, 1) := by decide +kernel
theorem dX0_hold_16 : decode cX0_hold 16 = .ok (.aload_n 0, 1) := by decide +kernel
theorem dX0_hold_17 : decode cX0_hold 17 = .ok (.getfield 15, 3) := by decide +kernel
theorem dX0_hold_20 : decode cX0_hold 20 = .ok (.invokevirtual 29, 3) := by decide +kernel
theorem dX0_hold_23 : decode cX0_hold 23 = .ok (.ifCond .ne 4, 3) := by decide +kernel
theorem dX0_hold_26 : decode cX0_hold 26 = .ok (.return_, 1) := by decide +kernel
theorem dX0_hold_27 : decode cX0_hold 27 = .ok (.aload_n 0, 1) := by decide +kernel
theorem dX0_hold_28 : decode cX0_hold 28 = .ok (.invokevirtual 35, 3) := by decide +kernel
theorem dX0_hold_31 : decode cX0_hold 31 = .ok (.aload_n 1, 1) := by decide +kernel
theorem dX0_hold_32 : decode cX0_hold 32 = .ok (.getfield 38, 3) := by decide +kernel
theorem dX0_hold_35 : decode cX0_hold 35 = .ok (.ifCond .eq 22, 3) := by decide +kernel
theorem dX0_hold_38 : decode cX0_hold 38 = .ok (.aload_n 1, 1) := by decide +kernel
theorem dX0_hold_39 : decode cX0_hold 39 = .ok (.aload_n 0, 1) := by decide +kernel
theorem dX0_hold_40 : decode cX0_hold 40 = .ok (.getfield 22, 3) := by decide +kernel
theorem dX0_hold_43 : decode cX0_hold 43 = .ok (.aload_n 0, 1) := by decide +kernel
theorem dX0_hold_44 : decode cX0_hold 44 = .ok (.getfield 15, 3) := by decide +kernel
theorem dX0_hold_47 : decode cX0_hold 47 = .ok (.invokevirtual 41, 3) := by decide +kernel
theorem dX0_hold_50 : decode cX0_hold 50 = .ok (.ifCond .eq 7, 3) := by decide +kernel
theorem dX0_hold_53 : decode cX0_hold 53 = .ok (.aload_n 0, 1) := by decide +kernel
theorem dX0_hold_54 : decode cX0_hold 54 = .ok (.invokevirtual 35, 3) := by decide +kernel
theorem dX0_hold_57 : decode cX0_hold 57 = .ok (.aload_n 0, 1) := by decide +kernel
theorem dX0_hold_58 : decode cX0_hold 58 = .ok (.aload_n 1, 1) := by decide +kernel
theorem dX0_hold_59 : decode cX0_hold 59 = .ok (.aload_n 0, 1) := by decide +kernel
theorem dX0_hold_60 : decode cX0_hold 60 = .ok (.getfield 22, 3) := by decide +kernel
theorem dX0_hold_63 : decode cX0_hold 63 = .ok (.aload_n 0, 1) := by decide +kernel
theorem dX0_hold_64 : decode cX0_hold 64 = .ok (.getfield 15, 3) := by decide +kernel
theorem dX0_hold_67 : decode cX0_hold 67 = .ok (.invokevirtual 41, 3) := by decide +kernel
theorem dX0_hold_70 : decode cX0_hold 70 = .ok (.ifCond .ne 7, 3) := by decide +kernel
theorem dX0_hold_73 : decode cX0_hold 73 = .ok (.iconst 1, 1) := by decide +kernel
theorem dX0_hold_74 : decode cX0_hold 74 = .ok (.goto 4, 3) := by decide +kernel
theorem dX0_hold_77 : decode cX0_hold 77 = .ok (.iconst 0, 1) := by decide +kernel
theorem dX0_hold_78 : decode cX0_hold 78 = .ok (.putfield 25, 3) := by decide +kernel
theorem dX0_hold_81 : decode cX0_hold 81 = .ok (.return_, 1) := by decide +kernel
theorem dX0_putBalls_0 : decode cX0_putBalls 0 = .ok (.aload_n 0, 1) := by decide +kernel
theorem dX0_putBalls_1 : decode cX0_putBalls 1 = .ok (.iconst 0, 1) := by decide +kernel
theorem dX0_putBalls_2 : decode cX0_putBalls 2 = .ok (.putfield 22, 3) := by decide +kernel
theorem dX0_putBalls_5 : decode cX0_putBalls 5 = .ok (.iconst 0, 1) := by decide +kernel
theorem dX0_putBalls_6 : decode cX0_putBalls 6 = .ok (.istore_n 1, 1) := by decide +kernel
theorem dX0_putBalls_7 : decode cX0_putBalls 7 = .ok (.iload_n 1, 1) := by decide +kernel
theorem dX0_putBalls_8 : decode cX0_putBalls 8 = .ok (.aload_n 0, 1) := by decide +kernel
theorem dX0_putBalls_9 : decode cX0_putBalls 9 = .ok (.getfield 15, 3) := by decide +kernel
theorem dX0_putBalls_12 : decode cX0_putBalls 12 = .ok (.if_icmp .ge 46, 3) := by decide +kernel
theorem dX0_putBalls_15 : decode cX0_putBalls 15 = .ok (.aload_n 0, 1) := by decide +kernel
theorem dX0_putBalls_16 : decode cX0_putBalls 16 = .ok (.aload_n 0, 1) := by decide +kernel
theorem dX0_putBalls_17 : decode cX0_putBalls 17 = .ok (.getfield 19, 3) := by decide +kernel
theorem dX0_putBalls_20 : decode cX0_putBalls 20 = .ok (.invokestatic 45, 3) := by decide +kernel
theorem dX0_putBalls_23 : decode cX0_putBalls 23 = .ok (.putfield 19, 3) := by decide +kernel
theorem dX0_putBalls_26 : decode cX0_putBalls 26 = .ok (.aload_n 0, 1) := by decide +kernel
theorem dX0_putBalls_27 : decode cX0_putBalls 27 = .ok (.getfield 19, 3) := by decide +kernel
theorem dX0_putBalls_30 : decode cX0_putBalls 30 = .ok (.invokestatic 49, 3) := by decide +kernel
theorem dX0_putBalls_33 : decode cX0_putBalls 33 = .ok (.aload_n 0, 1) := by decide +kernel
theorem dX0_putBalls_34 : decode cX0_putBalls 34 = .ok (.getfield 9, 3) := by decide +kernel
theorem dX0_putBalls_37 : decode cX0_putBalls 37 = .ok (.iload_n 1, 1) := by decide +kernel
theorem dX0_putBalls_38 : decode cX0_putBalls 38 = .ok (.iaload, 1) := by decide +kernel
theorem dX0_putBalls_39 : decode cX0_putBalls 39 = .ok (.if_icmp .ge 13, 3) := by decide +kernel
theorem dX0_putBalls_42 : decode cX0_putBalls 42 = .ok (.aload_n 0, 1) := by decide +kernel
theorem dX0_putBalls_43 : decode cX0_putBalls 43 = .ok (.dup, 1) := by decide +kernel
theorem dX0_putBalls_44 : decode cX0_putBalls 44 = .ok (.getfield 22, 3) := by decide +kernel
theorem dX0_putBalls_47 : decode cX0_putBalls 47 = .ok (.iconst 1, 1) := by decide +kernel
theorem dX0_putBalls_48 : decode cX0_putBalls 48 = .ok (.iadd, 1) := by decide +kernel
theorem dX0_putBalls_49 : decode cX0_putBalls 49 = .ok (.putfield 22, 3) := by decide +kernel
theorem dX0_putBalls_52 : decode cX0_putBalls 52 = .ok (.iinc 1 1, 3) := by decide +kernel
theorem dX0_putBalls_55 : decode cX0_putBalls 55 = .ok (.goto (-48), 3) := by decide +kernel
theorem dX0_putBalls_58 : decode cX0_putBalls 58 = .ok (.return_, 1) := by decide +kernel
theorem dX0_nextSeed_0 : decode cX0_nextSeed 0 = .ok (.ldc 52, 2) := by decide +kernel
theorem dX0_nextSeed_2 : decode cX0_nextSeed 2 = .ok (.iload_n 0, 1) := by decide +kernel
theorem dX0_nextSeed_3 : decode cX0_nextSeed 3 = .ok (.imul, 1) := by decide +kernel
theorem dX0_nextSeed_4 : decode cX0_nextSeed 4 = .ok (.sipush 12345, 3) := by decide +kernel
theorem dX0_nextSeed_7 : decode cX0_nextSeed 7 = .ok (.iadd, 1) := by decide +kernel
theorem dX0_nextSeed_8 : decode cX0_nextSeed 8 = .ok (.ldc 55, 2) := by decide +kernel
theorem dX0_nextSeed_10 : decode cX0_nextSeed 10 = .ok (.iand, 1) := by decide +kernel
theorem dX0_nextSeed_11 : decode cX0_nextSeed 11 = .ok (.ireturn, 1) := by decide +kernel
theorem dX0_drawnTenth_0 : decode cX0_drawnTenth 0 = .ok (.iload_n 0, 1) := by decide +kernel
theorem dX0_drawnTenth_1 : decode cX0_drawnTenth 1 = .ok (.ldc 56, 2) := by decide +kernel
theorem dX0_drawnTenth_3 : decode cX0_drawnTenth 3 = .ok (.idiv, 1) := by decide +kernel
theorem dX0_drawnTenth_4 : decode cX0_drawnTenth 4 = .ok (.bipush 10, 2) := by decide +kernel
theorem dX0_drawnTenth_6 : decode cX0_drawnTenth 6 = .ok (.irem, 1) := by decide +kernel
theorem dX0_drawnTenth_7 : decode cX0_drawnTenth 7 = .ok (.ireturn, 1) := by decide +kernel
theorem dX1_init_0 : decode cX1_init 0 = .ok (.aload_n 0, 1) := by decide +kernel
theorem dX1_init_1 : decode cX1_init 1 = .ok (.invokespecial 1, 3) := by decide +kernel
theorem dX1_init_4 : decode cX1_init 4 = .ok (.aload_n 0, 1) := by decide +kernel
theorem dX1_init_5 : decode cX1_init 5 = .ok (.bipush 8, 2) := by decide +kernel
theorem dX1_init_7 : decode cX1_init 7 = .ok (.newarray .int, 2) := by decide +kernel
theorem dX1_init_9 : decode cX1_init 9 = .ok (.putfield 9, 3) := by decide +kernel
theorem dX1_init_12 : decode cX1_init 12 = .ok (.aload_n 0, 1) := by decide +kernel
theorem dX1_init_13 : decode cX1_init 13 = .ok (.new 13, 3) := by decide +kernel
theorem dX1_init_16 : decode cX1_init 16 = .ok (.dup, 1) := by decide +kernel
theorem dX1_init_17 : decode cX1_init 17 = .ok (.invokespecial 15, 3) := by decide +kernel
theorem dX1_init_20 : decode cX1_init 20 = .ok (.putfield 16, 3) := by decide +kernel
theorem dX1_init_23 : decode cX1_init 23 = .ok (.return_, 1) := by decide +kernel
theorem dX1_found_0 : decode cX1_found 0 = .ok (.aload_n 0, 1) := by decide +kernel
theorem dX1_found_1 : decode cX1_found 1 = .ok (.iload_n 1, 1) := by decide +kernel
theorem dX1_found_2 : decode cX1_found 2 = .ok (.putfield 20, 3) := by decide +kernel
theorem dX1_found_5 : decode cX1_found 5 = .ok (.aload_n 0, 1) := by decide +kernel
theorem dX1_found_6 : decode cX1_found 6 = .ok (.iconst 0, 1) := by decide +kernel
theorem dX1_found_7 : decode cX1_found 7 = .ok (.putfield 24, 3) := by decide +kernel
theorem dX1_found_10 : decode cX1_found 10 = .ok (.aload_n 0, 1) := by decide +kernel
theorem dX1_found_11 : decode cX1_found 11 = .ok (.bipush 8, 2) := by decide +kernel
theorem dX1_found_13 : decode cX1_found 13 = .ok (.putfield 27, 3) := by decide +kernel
theorem dX1_found_16 : decode cX1_found 16 = .ok (.iconst 0, 1) := by decide +kernel
theorem dX1_found_17 : decode cX1_found 17 = .ok (.istore_n 2, 1) := by decide +kernel
theorem dX1_found_18 : decode cX1_found 18 = .ok (.iload_n 2, 1) := by decide +kernel
theorem dX1_found_19 : decode cX1_found 19 = .ok (.bipush 8, 2) := by decide +kernel
theorem dX1_found_21 : decode cX1_found 21 = .ok (.if_icmp .ge 19, 3) := by decide +kernel
theorem dX1_found_24 : decode cX1_found 24 = .ok (.aload_n 0, 1) := by decide +kernel
theorem dX1_found_25 : decode cX1_found 25 = .ok (.getfield 9, 3) := by decide +kernel
theorem dX1_found_28 : decode cX1_found 28 = .ok (.iload_n 2, 1) := by decide +kernel
theorem dX1_found_29 : decode cX1_found 29 = .ok (.aload_n 0, 1) := by decide +kernel
theorem dX1_found_30 : decode cX1_found 30 = .ok (.invokevirtual 30, 3) := by decide +kernel
theorem dX1_found_33 : decode cX1_found 33 = .ok (.iastore, 1) := by decide +kernel
theorem dX1_found_34 : decode cX1_found 34 = .ok (.iinc 2 1, 3) := by decide +kernel
theorem dX1_found_37 : decode cX1_found 37 = .ok (.goto (-19), 3) := by decide +kernel
theorem dX1_found_40 : decode cX1_found 40 = .ok (.return_, 1) := by decide +kernel
theorem dX1_passYear_0 : decode cX1_passYear 0 = .ok (.aload_n 0, 1) := by decide +kernel
theorem dX1_passYear_1 : decode cX1_passYear 1 = .ok (.invokevirtual 34, 3) := by decide +kernel
theorem dX1_passYear_4 : decode cX1_passYear 4 = .ok (.aload_n 0, 1) := by decide +kernel
theorem dX1_passYear_5 : decode cX1_passYear 5 = .ok (.invokevirtual 30, 3) := by decide +kernel
theorem dX1_passYear_8 : decode cX1_passYear 8 = .ok (.istore_n 2, 1) := by decide +kernel
theorem dX1_passYear_9 : decode cX1_passYear 9 = .ok (.aload_n 0, 1) := by decide +kernel
theorem dX1_passYear_10 : decode cX1_passYear 10 = .ok (.getfield 16, 3) := by decide +kernel
theorem dX1_passYear_13 : decode cX1_passYear 13 = .ok (.invokevirtual 37, 3) := by decide +kernel
theorem dX1_passYear_16 : decode cX1_passYear 16 = .ok (.iconst 0, 1) := by decide +kernel
theorem dX1_passYear_17 : decode cX1_passYear 17 = .ok (.istore_n 3, 1) := by decide +kernel
theorem dX1_passYear_18 : decode cX1_passYear 18 = .ok (.iload_n 3, 1) := by decide +kernel
theorem dX1_passYear_19 : decode cX1_passYear 19 = .ok (.aload_n 0, 1) := by decide +kernel
theorem dX1_passYear_20 : decode cX1_passYear 20 = .ok (.getfield 27, 3) := by decide +kernel
theorem dX1_passYear_23 : decode cX1_passYear 23 = .ok (.if_icmp .ge 29, 3) := by decide +kernel
theorem dX1_passYear_26 : decode cX1_passYear 26 = .ok (.aload_n 0, 1) := by decide +kernel
theorem dX1_passYear_27 : decode cX1_passYear 27 = .ok (.getfield 16, 3) := by decide +kernel
theorem dX1_passYear_30 : decode cX1_passYear 30 = .ok (.iconst 2, 1) := by decide +kernel
theorem dX1_passYear_31 : decode cX1_passYear 31 = .ok (.iload_n 2, 1) := by decide +kernel
theorem dX1_passYear_32 : decode cX1_passYear 32 = .ok (.aload_n 0, 1) := by decide +kernel
theorem dX1_passYear_33 : decode cX1_passYear 33 = .ok (.getfield 9, 3) := by decide +kernel
theorem dX1_passYear_36 : decode cX1_passYear 36 = .ok (.iload_n 3, 1) := by decide +kernel
theorem dX1_passYear_37 : decode cX1_passYear 37 = .ok (.iaload, 1) := by decide +kernel
theorem dX1_passYear_38 : decode cX1_passYear 38 = .ok (.isub, 1) := by decide +kernel
theorem dX1_passYear_39 : decode cX1_passYear 39 = .ok (.invokestatic 40, 3) := by decide +kernel
theorem dX1_passYear_42 : decode cX1_passYear 42 = .ok (.imul, 1) := by decide +kernel
theorem dX1_passYear_43 : decode cX1_passYear 43 = .ok (.invokevirtual 46, 3) := by decide +kernel
theorem dX1_passYear_46 : decode cX1_passYear 46 = .ok (.iinc 3 1, 3) := by decide +kernel
theorem dX1_passYear_49 : decode cX1_passYear 49 = .ok (.goto (-31), 3) := by decide +kernel
theorem dX1_passYear_52 : decode cX1_passYear 52 = .ok (.aload_n 0, 1) := by decide +kernel
theorem dX1_passYear_53 : decode cX1_passYear 53 = .ok (.getfield 16, 3) := by decide +kernel
theorem dX1_passYear_56 : decode cX1_passYear 56 = .ok (.aload_n 1, 1) := by decide +kernel
theorem dX1_passYear_57 : decode cX1_passYear 57 = .ok (.aload_n 0, 1) := by decide +kernel
theorem dX1_passYear_58 : decode cX1_passYear 58 = .ok (.getfield 20, 3) := by decide +kernel
theorem dX1_passYear_61 : decode cX1_passYear 61 = .ok (.invokevirtual 50, 3) := by decide +kernel
theorem dX1_passYear_64 : decode cX1_passYear 64 = .ok (.aload_n 0, 1) := by decide +kernel
theorem dX1_passYear_65 : decode cX1_passYear 65 = .ok (.aload_n 0, 1) := by decide +kernel
theorem dX1_passYear_66 : decode cX1_passYear 66 = .ok (.getfield 16, 3) := by decide +kernel
theorem dX1_passYear_69 : decode cX1_passYear 69 = .ok (.getfield 54, 3) := by decide +kernel
theorem dX1_passYear_72 : decode cX1_passYear 72 = .ok (.putfield 20, 3) := by decide +kernel
theorem dX1_passYear_75 : decode cX1_passYear 75 = .ok (.aload_n 0, 1) := by decide +kernel
theorem dX1_passYear_76 : decode cX1_passYear 76 = .ok (.getfield 16, 3) := by decide +kernel
theorem dX1_passYear_79 : decode cX1_passYear 79 = .ok (.getfield 55, 3) := by decide +kernel
theorem dX1_passYear_82 : decode cX1_passYear 82 = .ok (.ifCond .eq 42, 3) := by decide +kernel
theorem dX1_passYear_85 : decode cX1_passYear 85 = .ok (.aload_n 0, 1) := by decide +kernel
theorem dX1_passYear_86 : decode cX1_passYear 86 = .ok (.getfield 27, 3) := by decide +kernel
theorem dX1_passYear_89 : decode cX1_passYear 89 = .ok (.bipush 8, 2) := by decide +kernel
theorem dX1_passYear_91 : decode cX1_passYear 91 = .ok (.if_icmp .ge 33, 3) := by decide +kernel
theorem dX1_passYear_94 : decode cX1_passYear 94 = .ok (.aload_n 0, 1) := by decide +kernel
theorem dX1_passYear_95 : decode cX1_passYear 95 = .ok (.getfield 9, 3) := by decide +kernel
theorem dX1_passYear_98 : decode cX1_passYear 98 = .ok (.aload_n 0, 1) := by decide +kernel
theorem dX1_passYear_99 : decode cX1_passYear 99 = .ok (.getfield 27, 3) := by decide +kernel
theorem dX1_passYear_102 : decode cX1_passYear 102 = .ok (.iload_n 2, 1) := by decide +kernel
theorem dX1_passYear_103 : decode cX1_passYear 103 = .ok (.iastore, 1) := by decide +kernel
theorem dX1_passYear_104 : decode cX1_passYear 104 = .ok (.aload_n 0, 1) := by decide +kernel
theorem dX1_passYear_105 : decode cX1_passYear 105 = .ok (.dup, 1) := by decide +kernel
theorem dX1_passYear_106 : decode cX1_passYear 106 = .ok (.getfield 27, 3) := by decide +kernel
theorem dX1_passYear_109 : decode cX1_passYear 109 = .ok (.iconst 1, 1) := by decide +kernel
theorem dX1_passYear_110 : decode cX1_passYear 110 = .ok (.iadd, 1) := by decide +kernel
theorem dX1_passYear_111 : decode cX1_passYear 111 = .ok (.putfield 27, 3) := by decide +kernel
theorem dX1_passYear_114 : decode cX1_passYear 114 = .ok (.aload_n 0, 1) := by decide +kernel
theorem dX1_passYear_115 : decode cX1_passYear 115 = .ok (.dup, 1) := by decide +kernel
theorem dX1_passYear_116 : decode cX1_passYear 116 = .ok (.getfield 24, 3) := by decide +kernel
theorem dX1_passYear_119 : decode cX1_passYear 119 = .ok (.iconst 1, 1) := by decide +kernel
theorem dX1_passYear_120 : decode cX1_passYear 120 = .ok (.iadd, 1) := by decide +kernel
theorem dX1_passYear_121 : decode cX1_passYear 121 = .ok (.putfield 24, 3) := by decide +kernel
theorem dX1_passYear_124 : decode cX1_passYear 124 = .ok (.return_, 1) := by decide +kernel
theorem dX1_unlikeTastes_0 : decode cX1_unlikeTastes 0 = .ok (.iconst 0, 1) := by decide +kernel
theorem dX1_unlikeTastes_1 : decode cX1_unlikeTastes 1 = .ok (.istore_n 1, 1) := by decide +kernel
theorem dX1_unlikeTastes_2 : decode cX1_unlikeTastes 2 = .ok (.iconst 0, 1) := by decide +kernel
theorem dX1_unlikeTastes_3 : decode cX1_unlikeTastes 3 = .ok (.istore_n 2, 1) := by decide +kernel
theorem dX1_unlikeTastes_4 : decode cX1_unlikeTastes 4 = .ok (.iload_n 2, 1) := by decide +kernel
theorem dX1_unlikeTastes_5 : decode cX1_unlikeTastes 5 = .ok (.aload_n 0, 1) := by decide +kernel
theorem dX1_unlikeTastes_6 : decode cX1_unlikeTastes 6 = .ok (.getfield 27, 3) := by decide +kernel
theorem dX1_unlikeTastes_9 : decode cX1_unlikeTastes 9 = .ok (.if_icmp .ge 20, 3) := by decide +kernel
theorem dX1_unlikeTastes_12 : decode cX1_unlikeTastes 12 = .ok (.iload_n 1, 1) := by decide +kernel
theorem dX1_unlikeTastes_13 : decode cX1_unlikeTastes 13 = .ok (.iconst 1, 1) := by decide +kernel
theorem dX1_unlikeTastes_14 : decode cX1_unlikeTastes 14 = .ok (.aload_n 0, 1) := by decide +kernel
theorem dX1_unlikeTastes_15 : decode cX1_unlikeTastes 15 = .ok (.getfield 9, 3) := by decide +kernel
theorem dX1_unlikeTastes_18 : decode cX1_unlikeTastes 18 = .ok (.iload_n 2, 1) := by decide +kernel
theorem dX1_unlikeTastes_19 : decode cX1_unlikeTastes 19 = .ok (.iaload, 1) := by decide +kernel
theorem dX1_unlikeTastes_20 : decode cX1_unlikeTastes 20 = .ok (.ishl, 1) := by decide +kernel
theorem dX1_unlikeTastes_21 : decode cX1_unlikeTastes 21 = .ok (.ior, 1) := by decide +kernel
theorem dX1_unlikeTastes_22 : decode cX1_unlikeTastes 22 = .ok (.istore_n 1, 1) := by decide +kernel
theorem dX1_unlikeTastes_23 : decode cX1_unlikeTastes 23 = .ok (.iinc 2 1, 3) := by decide +kernel
theorem dX1_unlikeTastes_26 : decode cX1_unlikeTastes 26 = .ok (.goto (-22), 3) := by decide +kernel
theorem dX1_unlikeTastes_29 : decode cX1_unlikeTastes 29 = .ok (.iload_n 1, 1) := by decide +kernel
theorem dX1_unlikeTastes_30 : decode cX1_unlikeTastes 30 = .ok (.invokestatic 58, 3) := by decide +kernel
theorem dX1_unlikeTastes_33 : decode cX1_unlikeTastes 33 = .ok (.ireturn, 1) := by decide +kernel
theorem dX1_firstGoes_0 : decode cX1_firstGoes 0 = .ok (.aload_n 0, 1) := by decide +kernel
theorem dX1_firstGoes_1 : decode cX1_firstGoes 1 = .ok (.getfield 27, 3) := by decide +kernel
theorem dX1_firstGoes_4 : decode cX1_firstGoes 4 = .ok (.ifCond .le 30, 3) := by decide +kernel
theorem dX1_firstGoes_7 : decode cX1_firstGoes 7 = .ok (.aload_n 0, 1) := by decide +kernel
theorem dX1_firstGoes_8 : decode cX1_firstGoes 8 = .ok (.dup, 1) := by decide +kernel
theorem dX1_firstGoes_9 : decode cX1_firstGoes 9 = .ok (.getfield 27, 3) := by decide +kernel
theorem dX1_firstGoes_12 : decode cX1_firstGoes 12 = .ok (.iconst 1, 1) := by decide +kernel
theorem dX1_firstGoes_13 : decode cX1_firstGoes 13 = .ok (.isub, 1) := by decide +kernel
theorem dX1_firstGoes_14 : decode cX1_firstGoes 14 = .ok (.putfield 27, 3) := by decide +kernel
theorem dX1_firstGoes_17 : decode cX1_firstGoes 17 = .ok (.aload_n 0, 1) := by decide +kernel
theorem dX1_firstGoes_18 : decode cX1_firstGoes 18 = .ok (.getfield 9, 3) := by decide +kernel
theorem dX1_firstGoes_21 : decode cX1_firstGoes 21 = .ok (.iconst 1, 1) := by decide +kernel
theorem dX1_firstGoes_22 : decode cX1_firstGoes 22 = .ok (.aload_n 0, 1) := by decide +kernel
theorem dX1_firstGoes_23 : decode cX1_firstGoes 23 = .ok (.getfield 9, 3) := by decide +kernel
theorem dX1_firstGoes_26 : decode cX1_firstGoes 26 = .ok (.iconst 0, 1) := by decide +kernel
theorem dX1_firstGoes_27 : decode cX1_firstGoes 27 = .ok (.aload_n 0, 1) := by decide +kernel
theorem dX1_firstGoes_28 : decode cX1_firstGoes 28 = .ok (.getfield 27, 3) := by decide +kernel
theorem dX1_firstGoes_31 : decode cX1_firstGoes 31 = .ok (.invokestatic 63, 3) := by decide +kernel
theorem dX1_firstGoes_34 : decode cX1_firstGoes 34 = .ok (.return_, 1) := by decide +kernel
theorem dX1_drawTaste_0 : decode cX1_drawTaste 0 = .ok (.aload_n 0, 1) := by decide +kernel
theorem dX1_drawTaste_1 : decode cX1_drawTaste 1 = .ok (.aload_n 0, 1) := by decide +kernel
theorem dX1_drawTaste_2 : decode cX1_drawTaste 2 = .ok (.getfield 20, 3) := by decide +kernel
theorem dX1_drawTaste_5 : decode cX1_drawTaste 5 = .ok (.invokestatic 69, 3) := by decide +kernel
theorem dX1_drawTaste_8 : decode cX1_drawTaste 8 = .ok (.putfield 20, 3) := by decide +kernel
theorem dX1_drawTaste_11 : decode cX1_drawTaste 11 = .ok (.aload_n 0, 1) := by decide +kernel
theorem dX1_drawTaste_12 : decode cX1_drawTaste 12 = .ok (.getfield 20, 3) := by decide +kernel
theorem dX1_drawTaste_15 : decode cX1_drawTaste 15 = .ok (.invokestatic 72, 3) := by decide +kernel
theorem dX1_drawTaste_18 : decode cX1_drawTaste 18 = .ok (.ireturn, 1) := by decide +kernel
theorem dX2_init_0 : decode cX2_init 0 = .ok (.aload_n 0, 1) := by decide +kernel
theorem dX2_init_1 : decode cX2_init 1 = .ok (.iload_n 1, 1) := by decide +kernel
theorem dX2_init_2 : decode cX2_init 2 = .ok (.iload_n 2, 1) := by decide +kernel
theorem dX2_init_3 : decode cX2_init 3 = .ok (.invokespecial 3, 3) := by decide +kernel
theorem dX2_init_6 : decode cX2_init 6 = .ok (.return_, 1) := by decide +kernel
theorem dX2_kind_0 : decode cX2_kind 0 = .ok (.iconst 1, 1) := by decide +kernel
theorem dX2_kind_1 : decode cX2_kind 1 = .ok (.ireturn, 1) := by decide +kernel
theorem dX2_blackOfStranger_0 : decode cX2_blackOfStranger 0 = .ok (.iload_n 3, 1) := by decide +kernel
theorem dX2_blackOfStranger_1 : decode cX2_blackOfStranger 1 = .ok (.ifCond .eq 9, 3) := by decide +kernel
theorem dX2_blackOfStranger_4 : decode cX2_blackOfStranger 4 = .ok (.iload_n 1, 1) := by decide +kernel
theorem dX2_blackOfStranger_5 : decode cX2_blackOfStranger 5 = .ok (.iconst 2, 1) := by decide +kernel
theorem dX2_blackOfStranger_6 : decode cX2_blackOfStranger 6 = .ok (.idiv, 1) := by decide +kernel
theorem dX2_blackOfStranger_7 : decode cX2_blackOfStranger 7 = .ok (.goto 4, 3) := by decide +kernel
theorem dX2_blackOfStranger_10 : decode cX2_blackOfStranger 10 = .ok (.iload_n 1, 1) := by decide +kernel
theorem dX2_blackOfStranger_11 : decode cX2_blackOfStranger 11 = .ok (.ireturn, 1) := by decide +kernel
theorem dX3_init_0 : decode cX3_init 0 = .ok (.aload_n 0, 1) := by decide +kernel
theorem dX3_init_1 : decode cX3_init 1 = .ok (.iload_n 1, 1) := by decide +kernel
theorem dX3_init_2 : decode cX3_init 2 = .ok (.iload_n 2, 1) := by decide +kernel
theorem dX3_init_3 : decode cX3_init 3 = .ok (.invokespecial 3, 3) := by decide +kernel
theorem dX3_init_6 : decode cX3_init 6 = .ok (.aload_n 0, 1) := by decide +kernel
theorem dX3_init_7 : decode cX3_init 7 = .ok (.iload_n 3, 1) := by decide +kernel
theorem dX3_init_8 : decode cX3_init 8 = .ok (.putfield 9, 3) := by decide +kernel
theorem dX3_init_11 : decode cX3_init 11 = .ok (.return_, 1) := by decide +kernel
theorem dX3_kind_0 : decode cX3_kind 0 = .ok (.iconst 2, 1) := by decide +kernel
theorem dX3_kind_1 : decode cX3_kind 1 = .ok (.ireturn, 1) := by decide +kernel
theorem dX3_n_0 : decode cX3_n 0 = .ok (.aload_n 0, 1) := by decide +kernel
theorem dX3_n_1 : decode cX3_n 1 = .ok (.getfield 9, 3) := by decide +kernel
theorem dX3_n_4 : decode cX3_n 4 = .ok (.ireturn, 1) := by decide +kernel
theorem dX3_blackOfStranger_0 : decode cX3_blackOfStranger 0 = .ok (.iload_n 1, 1) := by decide +kernel
theorem dX3_blackOfStranger_1 : decode cX3_blackOfStranger 1 = .ok (.bipush 10, 2) := by decide +kernel
theorem dX3_blackOfStranger_3 : decode cX3_blackOfStranger 3 = .ok (.aload_n 0, 1) := by decide +kernel
theorem dX3_blackOfStranger_4 : decode cX3_blackOfStranger 4 = .ok (.getfield 9, 3) := by decide +kernel
theorem dX3_blackOfStranger_7 : decode cX3_blackOfStranger 7 = .ok (.isub, 1) := by decide +kernel
theorem dX3_blackOfStranger_8 : decode cX3_blackOfStranger 8 = .ok (.imul, 1) := by decide +kernel
theorem dX3_blackOfStranger_9 : decode cX3_blackOfStranger 9 = .ok (.aload_n 0, 1) := by decide +kernel
theorem dX3_blackOfStranger_10 : decode cX3_blackOfStranger 10 = .ok (.getfield 9, 3) := by decide +kernel
theorem dX3_blackOfStranger_13 : decode cX3_blackOfStranger 13 = .ok (.bipush 10, 2) := by decide +kernel
theorem dX3_blackOfStranger_15 : decode cX3_blackOfStranger 15 = .ok (.iload_n 1, 1) := by decide +kernel
theorem dX3_blackOfStranger_16 : decode cX3_blackOfStranger 16 = .ok (.isub, 1) := by decide +kernel
theorem dX3_blackOfStranger_17 : decode cX3_blackOfStranger 17 = .ok (.imul, 1) := by decide +kernel
theorem dX3_blackOfStranger_18 : decode cX3_blackOfStranger 18 = .ok (.iadd, 1) := by decide +kernel
theorem dX3_blackOfStranger_19 : decode cX3_blackOfStranger 19 = .ok (.bipush 10, 2) := by decide +kernel
theorem dX3_blackOfStranger_21 : decode cX3_blackOfStranger 21 = .ok (.idiv, 1) := by decide +kernel
theorem dX3_blackOfStranger_22 : decode cX3_blackOfStranger 22 = .ok (.ireturn, 1) := by decide +kernel
theorem dX4_init_0 : decode cX4_init 0 = .ok (.aload_n 0, 1) := by decide +kernel
theorem dX4_init_1 : decode cX4_init 1 = .ok (.invokespecial 3, 3) := by decide +kernel
theorem dX4_init_4 : decode cX4_init 4 = .ok (.aload_n 0, 1) := by decide +kernel
theorem dX4_init_5 : decode cX4_init 5 = .ok (.bipush 20, 2) := by decide +kernel
theorem dX4_init_7 : decode cX4_init 7 = .ok (.newarray .int, 2) := by decide +kernel
theorem dX4_init_9 : decode cX4_init 9 = .ok (.putfield 11, 3) := by decide +kernel
theorem dX4_init_12 : decode cX4_init 12 = .ok (.return_, 1) := by decide +kernel
theorem dX4_write_0 : decode cX4_write 0 = .ok (.lload_n 1, 1) := by decide +kernel
theorem dX4_write_1 : decode cX4_write 1 = .ok (.invokestatic 15, 3) := by decide +kernel
theorem dX4_write_4 : decode cX4_write 4 = .ok (.istore_n 3, 1) := by decide +kernel
theorem dX4_write_5 : decode cX4_write 5 = .ok (.iload_n 3, 1) := by decide +kernel
theorem dX4_write_6 : decode cX4_write 6 = .ok (.iconst (-1), 1) := by decide +kernel
theorem dX4_write_7 : decode cX4_write 7 = .ok (.if_icmp .ne 6, 3) := by decide +kernel
theorem dX4_write_10 : decode cX4_write 10 = .ok (.bipush (-102), 2) := by decide +kernel
theorem dX4_write_12 : decode cX4_write 12 = .ok (.ireturn, 1) := by decide +kernel
theorem dX4_write_13 : decode cX4_write 13 = .ok (.aload_n 0, 1) := by decide +kernel
theorem dX4_write_14 : decode cX4_write 14 = .ok (.getfield 19, 3) := by decide +kernel
theorem dX4_write_17 : decode cX4_write 17 = .ok (.iload_n 3, 1) := by decide +kernel
theorem dX4_write_18 : decode cX4_write 18 = .ok (.iadd, 1) := by decide +kernel
theorem dX4_write_19 : decode cX4_write 19 = .ok (.bipush 20, 2) := by decide +kernel
theorem dX4_write_21 : decode cX4_write 21 = .ok (.if_icmp .le 6, 3) := by decide +kernel
theorem dX4_write_24 : decode cX4_write 24 = .ok (.bipush (-104), 2) := by decide +kernel
theorem dX4_write_26 : decode cX4_write 26 = .ok (.ireturn, 1) := by decide +kernel
theorem dX4_write_27 : decode cX4_write 27 = .ok (.iconst 0, 1) := by decide +kernel
theorem dX4_write_28 : decode cX4_write 28 = .ok (.istore 4, 2) := by decide +kernel
theorem dX4_write_30 : decode cX4_write 30 = .ok (.iload 4, 2) := by decide +kernel
theorem dX4_write_32 : decode cX4_write 32 = .ok (.iload_n 3, 1) := by decide +kernel
theorem dX4_write_33 : decode cX4_write 33 = .ok (.if_icmp .ge 27, 3) := by decide +kernel
theorem dX4_write_36 : decode cX4_write 36 = .ok (.aload_n 0, 1) := by decide +kernel
theorem dX4_write_37 : decode cX4_write 37 = .ok (.getfield 11, 3) := by decide +kernel
theorem dX4_write_40 : decode cX4_write 40 = .ok (.aload_n 0, 1) := by decide +kernel
theorem dX4_write_41 : decode cX4_write 41 = .ok (.getfield 19, 3) := by decide +kernel
theorem dX4_write_44 : decode cX4_write 44 = .ok (.iload 4, 2) := by decide +kernel
theorem dX4_write_46 : decode cX4_write 46 = .ok (.iadd, 1) := by decide +kernel
theorem dX4_write_47 : decode cX4_write 47 = .ok (.lload_n 1, 1) := by decide +kernel
theorem dX4_write_48 : decode cX4_write 48 = .ok (.iload 4, 2) := by decide +kernel
theorem dX4_write_50 : decode cX4_write 50 = .ok (.invokestatic 23, 3) := by decide +kernel
theorem dX4_write_53 : decode cX4_write 53 = .ok (.iastore, 1) := by decide +kernel
theorem dX4_write_54 : decode cX4_write 54 = .ok (.iinc 4 1, 3) := by decide +kernel
theorem dX4_write_57 : decode cX4_write 57 = .ok (.goto (-27), 3) := by decide +kernel
theorem dX4_write_60 : decode cX4_write 60 = .ok (.aload_n 0, 1) := by decide +kernel
theorem dX4_write_61 : decode cX4_write 61 = .ok (.dup, 1) := by decide +kernel
theorem dX4_write_62 : decode cX4_write 62 = .ok (.getfield 19, 3) := by decide +kernel
theorem dX4_write_65 : decode cX4_write 65 = .ok (.iload_n 3, 1) := by decide +kernel
theorem dX4_write_66 : decode cX4_write 66 = .ok (.iadd, 1) := by decide +kernel
theorem dX4_write_67 : decode cX4_write 67 = .ok (.putfield 19, 3) := by decide +kernel
theorem dX4_write_70 : decode cX4_write 70 = .ok (.aload_n 0, 1) := by decide +kernel
theorem dX4_write_71 : decode cX4_write 71 = .ok (.getfield 19, 3) := by decide +kernel
theorem dX4_write_74 : decode cX4_write 74 = .ok (.ireturn, 1) := by decide +kernel
theorem dX4_wipe_0 : decode cX4_wipe 0 = .ok (.aload_n 0, 1) := by decide +kernel
theorem dX4_wipe_1 : decode cX4_wipe 1 = .ok (.getfield 19, 3) := by decide +kernel
theorem dX4_wipe_4 : decode cX4_wipe 4 = .ok (.istore_n 1, 1) := by decide +kernel
theorem dX4_wipe_5 : decode cX4_wipe 5 = .ok (.aload_n 0, 1) := by decide +kernel
theorem dX4_wipe_6 : decode cX4_wipe 6 = .ok (.iconst 0, 1) := by decide +kernel
theorem dX4_wipe_7 : decode cX4_wipe 7 = .ok (.putfield 19, 3) := by decide +kernel
theorem dX4_wipe_10 : decode cX4_wipe 10 = .ok (.iload_n 1, 1) := by decide +kernel
theorem dX4_wipe_11 : decode cX4_wipe 11 = .ok (.ireturn, 1) := by decide +kernel
theorem dX4_firstFault_0 : decode cX4_firstFault 0 = .ok (.iconst 0, 1) := by decide +kernel
theorem dX4_firstFault_1 : decode cX4_firstFault 1 = .ok (.istore_n 1, 1) := by decide +kernel
theorem dX4_firstFault_2 : decode cX4_firstFault 2 = .ok (.iconst 0, 1) := by decide +kernel
theorem dX4_firstFault_3 : decode cX4_firstFault 3 = .ok (.istore_n 2, 1) := by decide +kernel
theorem dX4_firstFault_4 : decode cX4_firstFault 4 = .ok (.iload_n 2, 1) := by decide +kernel
theorem dX4_firstFault_5 : decode cX4_firstFault 5 = .ok (.aload_n 0, 1) := by decide +kernel
theorem dX4_firstFault_6 : decode cX4_firstFault 6 = .ok (.getfield 19, 3) := by decide +kernel
theorem dX4_firstFault_9 : decode cX4_firstFault 9 = .ok (.if_icmp .ge 27, 3) := by decide +kernel
theorem dX4_firstFault_12 : decode cX4_firstFault 12 = .ok (.iload_n 1, 1) := by decide +kernel
theorem dX4_firstFault_13 : decode cX4_firstFault 13 = .ok (.aload_n 0, 1) := by decide +kernel
theorem dX4_firstFault_14 : decode cX4_firstFault 14 = .ok (.getfield 11, 3) := by decide +kernel
theorem dX4_firstFault_17 : decode cX4_firstFault 17 = .ok (.iload_n 2, 1) := by decide +kernel
theorem dX4_firstFault_18 : decode cX4_firstFault 18 = .ok (.iaload, 1) := by decide +kernel
theorem dX4_firstFault_19 : decode cX4_firstFault 19 = .ok (.invokestatic 27, 3) := by decide +kernel
theorem dX4_firstFault_22 : decode cX4_firstFault 22 = .ok (.istore_n 1, 1) := by decide +kernel
theorem dX4_firstFault_23 : decode cX4_firstFault 23 = .ok (.iload_n 1, 1) := by decide +kernel
theorem dX4_firstFault_24 : decode cX4_firstFault 24 = .ok (.iconst (-1), 1) := by decide +kernel
theorem dX4_firstFault_25 : decode cX4_firstFault 25 = .ok (.if_icmp .ne 5, 3) := by decide +kernel
theorem dX4_firstFault_28 : decode cX4_firstFault 28 = .ok (.iload_n 2, 1) := by decide +kernel
theorem dX4_firstFault_29 : decode cX4_firstFault 29 = .ok (.ireturn, 1) := by decide +kernel
theorem dX4_firstFault_30 : decode cX4_firstFault 30 = .ok (.iinc 2 1, 3) := by decide +kernel
theorem dX4_firstFault_33 : decode cX4_firstFault 33 = .ok (.goto (-29), 3) := by decide +kernel
theorem dX4_firstFault_36 : decode cX4_firstFault 36 = .ok (.aload_n 0, 1) := by decide +kernel
theorem dX4_firstFault_37 : decode cX4_firstFault 37 = .ok (.getfield 19, 3) := by decide +kernel
theorem dX4_firstFault_40 : decode cX4_firstFault 40 = .ok (.ireturn, 1) := by decide +kernel
theorem dX4_isRule_0 : decode cX4_isRule 0 = .ok (.aload_n 0, 1) := by decide +kernel
theorem dX4_isRule_1 : decode cX4_isRule 1 = .ok (.getfield 19, 3) := by decide +kernel
theorem dX4_isRule_4 : decode cX4_isRule 4 = .ok (.ifCond .le 35, 3) := by decide +kernel
theorem dX4_isRule_7 : decode cX4_isRule 7 = .ok (.aload_n 0, 1) := by decide +kernel
theorem dX4_isRule_8 : decode cX4_isRule 8 = .ok (.getfield 11, 3) := by decide +kernel
theorem dX4_isRule_11 : decode cX4_isRule 11 = .ok (.aload_n 0, 1) := by decide +kernel
theorem dX4_isRule_12 : decode cX4_isRule 12 = .ok (.getfield 19, 3) := by decide +kernel
theorem dX4_isRule_15 : decode cX4_isRule 15 = .ok (.iconst 1, 1) := by decide +kernel
theorem dX4_isRule_16 : decode cX4_isRule 16 = .ok (.isub, 1) := by decide +kernel
theorem dX4_isRule_17 : decode cX4_isRule 17 = .ok (.iaload, 1) := by decide +kernel
theorem dX4_isRule_18 : decode cX4_isRule 18 = .ok (.invokestatic 31, 3) := by decide +kernel
theorem dX4_isRule_21 : decode cX4_isRule 21 = .ok (.ifCond .eq 18, 3) := by decide +kernel
theorem dX4_isRule_24 : decode cX4_isRule 24 = .ok (.aload_n 0, 1) := by decide +kernel
theorem dX4_isRule_25 : decode cX4_isRule 25 = .ok (.invokevirtual 35, 3) := by decide +kernel
theorem dX4_isRule_28 : decode cX4_isRule 28 = .ok (.aload_n 0, 1) := by decide +kernel
theorem dX4_isRule_29 : decode cX4_isRule 29 = .ok (.getfield 19, 3) := by decide +kernel
theorem dX4_isRule_32 : decode cX4_isRule 32 = .ok (.if_icmp .ne 7, 3) := by decide +kernel
theorem dX4_isRule_35 : decode cX4_isRule 35 = .ok (.iconst 1, 1) := by decide +kernel
theorem dX4_isRule_36 : decode cX4_isRule 36 = .ok (.goto 4, 3) := by decide +kernel
theorem dX4_isRule_39 : decode cX4_isRule 39 = .ok (.iconst 0, 1) := by decide +kernel
theorem dX4_isRule_40 : decode cX4_isRule 40 = .ok (.ireturn, 1) := by decide +kernel
theorem dX4_toRule_0 : decode cX4_toRule 0 = .ok (.iconst 1, 1) := by decide +kernel
theorem dX4_toRule_1 : decode cX4_toRule 1 = .ok (.istore_n 1, 1) := by decide +kernel
theorem dX4_toRule_2 : decode cX4_toRule 2 = .ok (.iconst 0, 1) := by decide +kernel
theorem dX4_toRule_3 : decode cX4_toRule 3 = .ok (.istore_n 2, 1) := by decide +kernel
theorem dX4_toRule_4 : decode cX4_toRule 4 = .ok (.iload_n 1, 1) := by decide +kernel
theorem dX4_toRule_5 : decode cX4_toRule 5 = .ok (.aload_n 0, 1) := by decide +kernel
theorem dX4_toRule_6 : decode cX4_toRule 6 = .ok (.getfield 19, 3) := by decide +kernel
theorem dX4_toRule_9 : decode cX4_toRule 9 = .ok (.if_icmp .ge 35, 3) := by decide +kernel
theorem dX4_toRule_12 : decode cX4_toRule 12 = .ok (.aload_n 0, 1) := by decide +kernel
theorem dX4_toRule_13 : decode cX4_toRule 13 = .ok (.getfield 11, 3) := by decide +kernel
theorem dX4_toRule_16 : decode cX4_toRule 16 = .ok (.iload_n 1, 1) := by decide +kernel
theorem dX4_toRule_17 : decode cX4_toRule 17 = .ok (.iaload, 1) := by decide +kernel
theorem dX4_toRule_18 : decode cX4_toRule 18 = .ok (.bipush 113, 2) := by decide +kernel
theorem dX4_toRule_20 : decode cX4_toRule 20 = .ok (.if_icmp .eq 24, 3) := by decide +kernel
theorem dX4_toRule_23 : decode cX4_toRule 23 = .ok (.bipush 10, 2) := by decide +kernel
theorem dX4_toRule_25 : decode cX4_toRule 25 = .ok (.iload_n 2, 1) := by decide +kernel
theorem dX4_toRule_26 : decode cX4_toRule 26 = .ok (.imul, 1) := by decide +kernel
theorem dX4_toRule_27 : decode cX4_toRule 27 = .ok (.aload_n 0, 1) := by decide +kernel
theorem dX4_toRule_28 : decode cX4_toRule 28 = .ok (.getfield 11, 3) := by decide +kernel
theorem dX4_toRule_31 : decode cX4_toRule 31 = .ok (.iload_n 1, 1) := by decide +kernel
theorem dX4_toRule_32 : decode cX4_toRule 32 = .ok (.iaload, 1) := by decide +kernel
theorem dX4_toRule_33 : decode cX4_toRule 33 = .ok (.iadd, 1) := by decide +kernel
theorem dX4_toRule_34 : decode cX4_toRule 34 = .ok (.bipush 48, 2) := by decide +kernel
theorem dX4_toRule_36 : decode cX4_toRule 36 = .ok (.isub, 1) := by decide +kernel
theorem dX4_toRule_37 : decode cX4_toRule 37 = .ok (.istore_n 2, 1) := by decide +kernel
theorem dX4_toRule_38 : decode cX4_toRule 38 = .ok (.iinc 1 1, 3) := by decide +kernel
theorem dX4_toRule_41 : decode cX4_toRule 41 = .ok (.goto (-37), 3) := by decide +kernel
theorem dX4_toRule_44 : decode cX4_toRule 44 = .ok (.aload_n 0, 1) := by decide +kernel
theorem dX4_toRule_45 : decode cX4_toRule 45 = .ok (.iconst 0, 1) := by decide +kernel
theorem dX4_toRule_46 : decode cX4_toRule 46 = .ok (.invokevirtual 39, 3) := by decide +kernel
theorem dX4_toRule_49 : decode cX4_toRule 49 = .ok (.bipush 98, 2) := by decide +kernel
theorem dX4_toRule_51 : decode cX4_toRule 51 = .ok (.if_icmp .ne 7, 3) := by decide +kernel
theorem dX4_toRule_54 : decode cX4_toRule 54 = .ok (.iconst 1, 1) := by decide +kernel
theorem dX4_toRule_55 : decode cX4_toRule 55 = .ok (.goto 4, 3) := by decide +kernel
theorem dX4_toRule_58 : decode cX4_toRule 58 = .ok (.iconst 0, 1) := by decide +kernel
theorem dX4_toRule_59 : decode cX4_toRule 59 = .ok (.istore_n 3, 1) := by decide +kernel
theorem dX4_toRule_60 : decode cX4_toRule 60 = .ok (.aload_n 0, 1) := by decide +kernel
theorem dX4_toRule_61 : decode cX4_toRule 61 = .ok (.iload_n 1, 1) := by decide +kernel
theorem dX4_toRule_62 : decode cX4_toRule 62 = .ok (.iconst 1, 1) := by decide +kernel
theorem dX4_toRule_63 : decode cX4_toRule 63 = .ok (.iadd, 1) := by decide +kernel
theorem dX4_toRule_64 : decode cX4_toRule 64 = .ok (.invokevirtual 39, 3) := by decide +kernel
theorem dX4_toRule_67 : decode cX4_toRule 67 = .ok (.bipush 48, 2) := by decide +kernel
theorem dX4_toRule_69 : decode cX4_toRule 69 = .ok (.isub, 1) := by decide +kernel
theorem dX4_toRule_70 : decode cX4_toRule 70 = .ok (.istore 4, 2) := by decide +kernel
theorem dX4_toRule_72 : decode cX4_toRule 72 = .ok (.aload_n 0, 1) := by decide +kernel
theorem dX4_toRule_73 : decode cX4_toRule 73 = .ok (.iload_n 1, 1) := by decide +kernel
theorem dX4_toRule_74 : decode cX4_toRule 74 = .ok (.iconst 2, 1) := by decide +kernel
theorem dX4_toRule_75 : decode cX4_toRule 75 = .ok (.iadd, 1) := by decide +kernel
theorem dX4_toRule_76 : decode cX4_toRule 76 = .ok (.invokevirtual 39, 3) := by decide +kernel
theorem dX4_toRule_79 : decode cX4_toRule 79 = .ok (.bipush 116, 2) := by decide +kernel
theorem dX4_toRule_81 : decode cX4_toRule 81 = .ok (.if_icmp .ne 7, 3) := by decide +kernel
theorem dX4_toRule_84 : decode cX4_toRule 84 = .ok (.iconst 1, 1) := by decide +kernel
theorem dX4_toRule_85 : decode cX4_toRule 85 = .ok (.goto 4, 3) := by decide +kernel
theorem dX4_toRule_88 : decode cX4_toRule 88 = .ok (.iconst 0, 1) := by decide +kernel
theorem dX4_toRule_89 : decode cX4_toRule 89 = .ok (.istore 5, 2) := by decide +kernel
theorem dX4_toRule_91 : decode cX4_toRule 91 = .ok (.aload_n 0, 1) := by decide +kernel
theorem dX4_toRule_92 : decode cX4_toRule 92 = .ok (.aload_n 0, 1) := by decide +kernel
theorem dX4_toRule_93 : decode cX4_toRule 93 = .ok (.getfield 19, 3) := by decide +kernel
theorem dX4_toRule_96 : decode cX4_toRule 96 = .ok (.iconst 1, 1) := by decide +kernel
theorem dX4_toRule_97 : decode cX4_toRule 97 = .ok (.isub, 1) := by decide +kernel
theorem dX4_toRule_98 : decode cX4_toRule 98 = .ok (.invokevirtual 39, 3) := by decide +kernel
theorem dX4_toRule_101 : decode cX4_toRule 101 = .ok (.bipush 99, 2) := by decide +kernel
theorem dX4_toRule_103 : decode cX4_toRule 103 = .ok (.if_icmp .ne 7, 3) := by decide +kernel
theorem dX4_toRule_106 : decode cX4_toRule 106 = .ok (.iconst 1, 1) := by decide +kernel
theorem dX4_toRule_107 : decode cX4_toRule 107 = .ok (.goto 4, 3) := by decide +kernel
theorem dX4_toRule_110 : decode cX4_toRule 110 = .ok (.iconst 0, 1) := by decide +kernel
theorem dX4_toRule_111 : decode cX4_toRule 111 = .ok (.istore 6, 2) := by decide +kernel
theorem dX4_toRule_113 : decode cX4_toRule 113 = .ok (.new 43, 3) := by decide +kernel
theorem dX4_toRule_116 : decode cX4_toRule 116 = .ok (.dup, 1) := by decide +kernel
theorem dX4_toRule_117 : decode cX4_toRule 117 = .ok (.iload_n 3, 1) := by decide +kernel
theorem dX4_toRule_118 : decode cX4_toRule 118 = .ok (.ifCond .eq 7, 3) := by decide +kernel
theorem dX4_toRule_121 : decode cX4_toRule 121 = .ok (.iload_n 2, 1) := by decide +kernel
theorem dX4_toRule_122 : decode cX4_toRule 122 = .ok (.goto 4, 3) := by decide +kernel
theorem dX4_toRule_125 : decode cX4_toRule 125 = .ok (.iconst 0, 1) := by decide +kernel
theorem dX4_toRule_126 : decode cX4_toRule 126 = .ok (.iload_n 3, 1) := by decide +kernel
theorem dX4_toRule_127 : decode cX4_toRule 127 = .ok (.ifCond .eq 7, 3) := by decide +kernel
theorem dX4_toRule_130 : decode cX4_toRule 130 = .ok (.iconst 0, 1) := by decide +kernel
theorem dX4_toRule_131 : decode cX4_toRule 131 = .ok (.goto 4, 3) := by decide +kernel
theorem dX4_toRule_134 : decode cX4_toRule 134 = .ok (.iload_n 2, 1) := by decide +kernel
theorem dX4_toRule_135 : decode cX4_toRule 135 = .ok (.iload 4, 2) := by decide +kernel
theorem dX4_toRule_137 : decode cX4_toRule 137 = .ok (.iload 5, 2) := by decide +kernel
theorem dX4_toRule_139 : decode cX4_toRule 139 = .ok (.iload 6, 2) := by decide +kernel
theorem dX4_toRule_141 : decode cX4_toRule 141 = .ok (.invokespecial 45, 3) := by decide +kernel
theorem dX4_toRule_144 : decode cX4_toRule 144 = .ok (.areturn, 1) := by decide +kernel
theorem dX4_digestLetters_0 : decode cX4_digestLetters 0 = .ok (.lload_n 1, 1) := by decide +kernel
theorem dX4_digestLetters_1 : decode cX4_digestLetters 1 = .ok (.lstore_n 3, 1) := by decide +kernel
theorem dX4_digestLetters_2 : decode cX4_digestLetters 2 = .ok (.iconst 0, 1) := by decide +kernel
theorem dX4_digestLetters_3 : decode cX4_digestLetters 3 = .ok (.istore 5, 2) := by decide +kernel
theorem dX4_digestLetters_5 : decode cX4_digestLetters 5 = .ok (.iload 5, 2) := by decide +kernel
theorem dX4_digestLetters_7 : decode cX4_digestLetters 7 = .ok (.aload_n 0, 1) := by decide +kernel
theorem dX4_digestLetters_8 : decode cX4_digestLetters 8 = .ok (.getfield 19, 3) := by decide +kernel
theorem dX4_digestLetters_11 : decode cX4_digestLetters 11 = .ok (.if_icmp .ge 22, 3) := by decide +kernel
theorem dX4_digestLetters_14 : decode cX4_digestLetters 14 = .ok (.lload_n 3, 1) := by decide +kernel
theorem dX4_digestLetters_15 : decode cX4_digestLetters 15 = .ok (.aload_n 0, 1) := by decide +kernel
theorem dX4_digestLetters_16 : decode cX4_digestLetters 16 = .ok (.getfield 11, 3) := by decide +kernel
theorem dX4_digestLetters_19 : decode cX4_digestLetters 19 = .ok (.iload 5, 2) := by decide +kernel
theorem dX4_digestLetters_21 : decode cX4_digestLetters 21 = .ok (.iaload, 1) := by decide +kernel
theorem dX4_digestLetters_22 : decode cX4_digestLetters 22 = .ok (.i2l, 1) := by decide +kernel
theorem dX4_digestLetters_23 : decode cX4_digestLetters 23 = .ok (.invokestatic 48, 3) := by decide +kernel
theorem dX4_digestLetters_26 : decode cX4_digestLetters 26 = .ok (.lstore_n 3, 1) := by decide +kernel
theorem dX4_digestLetters_27 : decode cX4_digestLetters 27 = .ok (.iinc 5 1, 3) := by decide +kernel
theorem dX4_digestLetters_30 : decode cX4_digestLetters 30 = .ok (.goto (-25), 3) := by decide +kernel
theorem dX4_digestLetters_33 : decode cX4_digestLetters 33 = .ok (.lload_n 3, 1) := by decide +kernel
theorem dX4_digestLetters_34 : decode cX4_digestLetters 34 = .ok (.lreturn, 1) := by decide +kernel
theorem dX4_codeAt_0 : decode cX4_codeAt 0 = .ok (.iload_n 1, 1) := by decide +kernel
theorem dX4_codeAt_1 : decode cX4_codeAt 1 = .ok (.ifCond .lt 20, 3) := by decide +kernel
theorem dX4_codeAt_4 : decode cX4_codeAt 4 = .ok (.iload_n 1, 1) := by decide +kernel
theorem dX4_codeAt_5 : decode cX4_codeAt 5 = .ok (.aload_n 0, 1) := by decide +kernel
theorem dX4_codeAt_6 : decode cX4_codeAt 6 = .ok (.getfield 19, 3) := by decide +kernel
theorem dX4_codeAt_9 : decode cX4_codeAt 9 = .ok (.if_icmp .ge 12, 3) := by decide +kernel
theorem dX4_codeAt_12 : decode cX4_codeAt 12 = .ok (.aload_n 0, 1) := by decide +kernel
theorem dX4_codeAt_13 : decode cX4_codeAt 13 = .ok (.getfield 11, 3) := by decide +kernel
theorem dX4_codeAt_16 : decode cX4_codeAt 16 = .ok (.iload_n 1, 1) := by decide +kernel
theorem dX4_codeAt_17 : decode cX4_codeAt 17 = .ok (.iaload, 1) := by decide +kernel
theorem dX4_codeAt_18 : decode cX4_codeAt 18 = .ok (.goto 4, 3) := by decide +kernel
theorem dX4_codeAt_21 : decode cX4_codeAt 21 = .ok (.iconst 0, 1) := by decide +kernel
theorem dX4_codeAt_22 : decode cX4_codeAt 22 = .ok (.ireturn, 1) := by decide +kernel
theorem dX4_codeIn_0 : decode cX4_codeIn 0 = .ok (.lload_n 0, 1) := by decide +kernel
theorem dX4_codeIn_1 : decode cX4_codeIn 1 = .ok (.bipush 8, 2) := by decide +kernel
theorem dX4_codeIn_3 : decode cX4_codeIn 3 = .ok (.iload_n 2, 1) := by decide +kernel
theorem dX4_codeIn_4 : decode cX4_codeIn 4 = .ok (.imul, 1) := by decide +kernel
theorem dX4_codeIn_5 : decode cX4_codeIn 5 = .ok (.lushr, 1) := by decide +kernel
theorem dX4_codeIn_6 : decode cX4_codeIn 6 = .ok (.ldc2_w 52, 3) := by decide +kernel
theorem dX4_codeIn_9 : decode cX4_codeIn 9 = .ok (.land, 1) := by decide +kernel
theorem dX4_codeIn_10 : decode cX4_codeIn 10 = .ok (.l2i, 1) := by decide +kernel
theorem dX4_codeIn_11 : decode cX4_codeIn 11 = .ok (.ireturn, 1) := by decide +kernel
theorem dX4_howManyLetters_0 : decode cX4_howManyLetters 0 = .ok (.iconst 0, 1) := by decide +kernel
theorem dX4_howManyLetters_1 : decode cX4_howManyLetters 1 = .ok (.istore_n 2, 1) := by decide +kernel
theorem dX4_howManyLetters_2 : decode cX4_howManyLetters 2 = .ok (.iconst 0, 1) := by decide +kernel
theorem dX4_howManyLetters_3 : decode cX4_howManyLetters 3 = .ok (.istore_n 3, 1) := by decide +kernel
theorem dX4_howManyLetters_4 : decode cX4_howManyLetters 4 = .ok (.iload_n 3, 1) := by decide +kernel
theorem dX4_howManyLetters_5 : decode cX4_howManyLetters 5 = .ok (.bipush 8, 2) := by decide +kernel
theorem dX4_howManyLetters_7 : decode cX4_howManyLetters 7 = .ok (.if_icmp .ge 43, 3) := by decide +kernel
theorem dX4_howManyLetters_10 : decode cX4_howManyLetters 10 = .ok (.lload_n 0, 1) := by decide +kernel
theorem dX4_howManyLetters_11 : decode cX4_howManyLetters 11 = .ok (.iload_n 3, 1) := by decide +kernel
theorem dX4_howManyLetters_12 : decode cX4_howManyLetters 12 = .ok (.invokestatic 23, 3) := by decide +kernel
theorem dX4_howManyLetters_15 : decode cX4_howManyLetters 15 = .ok (.istore 4, 2) := by decide +kernel
theorem dX4_howManyLetters_17 : decode cX4_howManyLetters 17 = .ok (.iload 4, 2) := by decide +kernel
theorem dX4_howManyLetters_19 : decode cX4_howManyLetters 19 = .ok (.bipush 126, 2) := by decide +kernel
theorem dX4_howManyLetters_21 : decode cX4_howManyLetters 21 = .ok (.if_icmp .gt 13, 3) := by decide +kernel
theorem dX4_howManyLetters_24 : decode cX4_howManyLetters 24 = .ok (.iload 4, 2) := by decide +kernel
theorem dX4_howManyLetters_26 : decode cX4_howManyLetters 26 = .ok (.ifCond .eq 10, 3) := by decide +kernel
theorem dX4_howManyLetters_29 : decode cX4_howManyLetters 29 = .ok (.iload_n 2, 1) := by decide +kernel
theorem dX4_howManyLetters_30 : decode cX4_howManyLetters 30 = .ok (.iload_n 3, 1) := by decide +kernel
theorem dX4_howManyLetters_31 : decode cX4_howManyLetters 31 = .ok (.if_icmp .ge 5, 3) := by decide +kernel
theorem dX4_howManyLetters_34 : decode cX4_howManyLetters 34 = .ok (.iconst (-1), 1) := by decide +kernel
theorem dX4_howManyLetters_35 : decode cX4_howManyLetters 35 = .ok (.ireturn, 1) := by decide +kernel
theorem dX4_howManyLetters_36 : decode cX4_howManyLetters 36 = .ok (.iload 4, 2) := by decide +kernel
theorem dX4_howManyLetters_38 : decode cX4_howManyLetters 38 = .ok (.ifCond .eq 6, 3) := by decide +kernel
theorem dX4_howManyLetters_41 : decode cX4_howManyLetters 41 = .ok (.iinc 2 1, 3) := by decide +kernel
theorem dX4_howManyLetters_44 : decode cX4_howManyLetters 44 = .ok (.iinc 3 1, 3) := by decide +kernel
theorem dX4_howManyLetters_47 : decode cX4_howManyLetters 47 = .ok (.goto (-43), 3) := by decide +kernel
theorem dX4_howManyLetters_50 : decode cX4_howManyLetters 50 = .ok (.iload_n 2, 1) := by decide +kernel
theorem dX4_howManyLetters_51 : decode cX4_howManyLetters 51 = .ok (.ireturn, 1) := by decide +kernel
theorem dX4_dueBehind_0 : decode cX4_dueBehind 0 = .ok (.iload_n 0, 1) := by decide +kernel
theorem dX4_dueBehind_1 : decode cX4_dueBehind 1 = .ok (.tableswitch 237 0 8 #[51, 73, 90, 127, 144, 167, 180, 198, 223], 51) := by decide +kernel
theorem dX4_dueBehind_52 : decode cX4_dueBehind 52 = .ok (.iload_n 1, 1) := by decide +kernel
theorem dX4_dueBehind_53 : decode cX4_dueBehind 53 = .ok (.bipush 98, 2) := by decide +kernel
theorem dX4_dueBehind_55 : decode cX4_dueBehind 55 = .ok (.if_icmp .ne 7, 3) := by decide +kernel
theorem dX4_dueBehind_58 : decode cX4_dueBehind 58 = .ok (.iconst 1, 1) := by decide +kernel
theorem dX4_dueBehind_59 : decode cX4_dueBehind 59 = .ok (.goto 14, 3) := by decide +kernel
theorem dX4_dueBehind_62 : decode cX4_dueBehind 62 = .ok (.iload_n 1, 1) := by decide +kernel
theorem dX4_dueBehind_63 : decode cX4_dueBehind 63 = .ok (.bipush 114, 2) := by decide +kernel
theorem dX4_dueBehind_65 : decode cX4_dueBehind 65 = .ok (.if_icmp .ne 7, 3) := by decide +kernel
theorem dX4_dueBehind_68 : decode cX4_dueBehind 68 = .ok (.iconst 2, 1) := by decide +kernel
theorem dX4_dueBehind_69 : decode cX4_dueBehind 69 = .ok (.goto 4, 3) := by decide +kernel
theorem dX4_dueBehind_72 : decode cX4_dueBehind 72 = .ok (.iconst (-1), 1) := by decide +kernel
theorem dX4_dueBehind_73 : decode cX4_dueBehind 73 = .ok (.ireturn, 1) := by decide +kernel
theorem dX4_dueBehind_74 : decode cX4_dueBehind 74 = .ok (.iload_n 1, 1) := by decide +kernel
theorem dX4_dueBehind_75 : decode cX4_dueBehind 75 = .ok (.bipush 49, 2) := by decide +kernel
theorem dX4_dueBehind_77 : decode cX4_dueBehind 77 = .ok (.bipush 56, 2) := by decide +kernel
theorem dX4_dueBehind_79 : decode cX4_dueBehind 79 = .ok (.invokestatic 54, 3) := by decide +kernel
theorem dX4_dueBehind_82 : decode cX4_dueBehind 82 = .ok (.ifCond .eq 7, 3) := by decide +kernel
theorem dX4_dueBehind_85 : decode cX4_dueBehind 85 = .ok (.iconst 5, 1) := by decide +kernel
theorem dX4_dueBehind_86 : decode cX4_dueBehind 86 = .ok (.goto 4, 3) := by decide +kernel
theorem dX4_dueBehind_89 : decode cX4_dueBehind 89 = .ok (.iconst (-1), 1) := by decide +kernel
theorem dX4_dueBehind_90 : decode cX4_dueBehind 90 = .ok (.ireturn, 1) := by decide +kernel
theorem dX4_dueBehind_91 : decode cX4_dueBehind 91 = .ok (.iload_n 1, 1) := by decide +kernel
theorem dX4_dueBehind_92 : decode cX4_dueBehind 92 = .ok (.bipush 49, 2) := by decide +kernel
theorem dX4_dueBehind_94 : decode cX4_dueBehind 94 = .ok (.if_icmp .ne 7, 3) := by decide +kernel
theorem dX4_dueBehind_97 : decode cX4_dueBehind 97 = .ok (.iconst 3, 1) := by decide +kernel
theorem dX4_dueBehind_98 : decode cX4_dueBehind 98 = .ok (.goto 29, 3) := by decide +kernel
theorem dX4_dueBehind_101 : decode cX4_dueBehind 101 = .ok (.iload_n 1, 1) := by decide +kernel
theorem dX4_dueBehind_102 : decode cX4_dueBehind 102 = .ok (.bipush 50, 2) := by decide +kernel
theorem dX4_dueBehind_104 : decode cX4_dueBehind 104 = .ok (.if_icmp .ne 7, 3) := by decide +kernel
theorem dX4_dueBehind_107 : decode cX4_dueBehind 107 = .ok (.iconst 4, 1) := by decide +kernel
theorem dX4_dueBehind_108 : decode cX4_dueBehind 108 = .ok (.goto 19, 3) := by decide +kernel
theorem dX4_dueBehind_111 : decode cX4_dueBehind 111 = .ok (.iload_n 1, 1) := by decide +kernel
theorem dX4_dueBehind_112 : decode cX4_dueBehind 112 = .ok (.bipush 51, 2) := by decide +kernel
theorem dX4_dueBehind_114 : decode cX4_dueBehind 114 = .ok (.bipush 57, 2) := by decide +kernel
theorem dX4_dueBehind_116 : decode cX4_dueBehind 116 = .ok (.invokestatic 54, 3) := by decide +kernel
theorem dX4_dueBehind_119 : decode cX4_dueBehind 119 = .ok (.ifCond .eq 7, 3) := by decide +kernel
theorem dX4_dueBehind_122 : decode cX4_dueBehind 122 = .ok (.iconst 5, 1) := by decide +kernel
theorem dX4_dueBehind_123 : decode cX4_dueBehind 123 = .ok (.goto 4, 3) := by decide +kernel
theorem dX4_dueBehind_126 : decode cX4_dueBehind 126 = .ok (.iconst (-1), 1) := by decide +kernel
theorem dX4_dueBehind_127 : decode cX4_dueBehind 127 = .ok (.ireturn, 1) := by decide +kernel
theorem dX4_dueBehind_128 : decode cX4_dueBehind 128 = .ok (.iload_n 1, 1) := by decide +kernel
theorem dX4_dueBehind_129 : decode cX4_dueBehind 129 = .ok (.bipush 48, 2) := by decide +kernel
theorem dX4_dueBehind_131 : decode cX4_dueBehind 131 = .ok (.bipush 57, 2) := by decide +kernel
theorem dX4_dueBehind_133 : decode cX4_dueBehind 133 = .ok (.invokestatic 54, 3) := by decide +kernel
theorem dX4_dueBehind_136 : decode cX4_dueBehind 136 = .ok (.ifCond .eq 7, 3) := by decide +kernel
theorem dX4_dueBehind_139 : decode cX4_dueBehind 139 = .ok (.iconst 5, 1) := by decide +kernel
theorem dX4_dueBehind_140 : decode cX4_dueBehind 140 = .ok (.goto 4, 3) := by decide +kernel
theorem dX4_dueBehind_143 : decode cX4_dueBehind 143 = .ok (.iconst (-1), 1) := by decide +kernel
theorem dX4_dueBehind_144 : decode cX4_dueBehind 144 = .ok (.ireturn, 1) := by decide +kernel
theorem dX4_dueBehind_145 : decode cX4_dueBehind 145 = .ok (.iload_n 1, 1) := by decide +kernel
theorem dX4_dueBehind_146 : decode cX4_dueBehind 146 = .ok (.bipush 48, 2) := by decide +kernel
theorem dX4_dueBehind_148 : decode cX4_dueBehind 148 = .ok (.if_icmp .ne 7, 3) := by decide +kernel
theorem dX4_dueBehind_151 : decode cX4_dueBehind 151 = .ok (.iconst 5, 1) := by decide +kernel
theorem dX4_dueBehind_152 : decode cX4_dueBehind 152 = .ok (.goto 15, 3) := by decide +kernel
theorem dX4_dueBehind_155 : decode cX4_dueBehind 155 = .ok (.iload_n 1, 1) := by decide +kernel
theorem dX4_dueBehind_156 : decode cX4_dueBehind 156 = .ok (.bipush 113, 2) := by decide +kernel
theorem dX4_dueBehind_158 : decode cX4_dueBehind 158 = .ok (.if_icmp .ne 8, 3) := by decide +kernel
theorem dX4_dueBehind_161 : decode cX4_dueBehind 161 = .ok (.bipush 6, 2) := by decide +kernel
theorem dX4_dueBehind_163 : decode cX4_dueBehind 163 = .ok (.goto 4, 3) := by decide +kernel
theorem dX4_dueBehind_166 : decode cX4_dueBehind 166 = .ok (.iconst (-1), 1) := by decide +kernel
theorem dX4_dueBehind_167 : decode cX4_dueBehind 167 = .ok (.ireturn, 1) := by decide +kernel
theorem dX4_dueBehind_168 : decode cX4_dueBehind 168 = .ok (.iload_n 1, 1) := by decide +kernel
theorem dX4_dueBehind_169 : decode cX4_dueBehind 169 = .ok (.bipush 113, 2) := by decide +kernel
theorem dX4_dueBehind_171 : decode cX4_dueBehind 171 = .ok (.if_icmp .ne 8, 3) := by decide +kernel
theorem dX4_dueBehind_174 : decode cX4_dueBehind 174 = .ok (.bipush 6, 2) := by decide +kernel
theorem dX4_dueBehind_176 : decode cX4_dueBehind 176 = .ok (.goto 4, 3) := by decide +kernel
theorem dX4_dueBehind_179 : decode cX4_dueBehind 179 = .ok (.iconst (-1), 1) := by decide +kernel
theorem dX4_dueBehind_180 : decode cX4_dueBehind 180 = .ok (.ireturn, 1) := by decide +kernel
theorem dX4_dueBehind_181 : decode cX4_dueBehind 181 = .ok (.iload_n 1, 1) := by decide +kernel
theorem dX4_dueBehind_182 : decode cX4_dueBehind 182 = .ok (.bipush 48, 2) := by decide +kernel
theorem dX4_dueBehind_184 : decode cX4_dueBehind 184 = .ok (.bipush 56, 2) := by decide +kernel
theorem dX4_dueBehind_186 : decode cX4_dueBehind 186 = .ok (.invokestatic 54, 3) := by decide +kernel
theorem dX4_dueBehind_189 : decode cX4_dueBehind 189 = .ok (.ifCond .eq 8, 3) := by decide +kernel
theorem dX4_dueBehind_192 : decode cX4_dueBehind 192 = .ok (.bipush 7, 2) := by decide +kernel
theorem dX4_dueBehind_194 : decode cX4_dueBehind 194 = .ok (.goto 4, 3) := by decide +kernel
theorem dX4_dueBehind_197 : decode cX4_dueBehind 197 = .ok (.iconst (-1), 1) := by decide +kernel
theorem dX4_dueBehind_198 : decode cX4_dueBehind 198 = .ok (.ireturn, 1) := by decide +kernel
theorem dX4_dueBehind_199 : decode cX4_dueBehind 199 = .ok (.iload_n 1, 1) := by decide +kernel
theorem dX4_dueBehind_200 : decode cX4_dueBehind 200 = .ok (.bipush 116, 2) := by decide +kernel
theorem dX4_dueBehind_202 : decode cX4_dueBehind 202 = .ok (.if_icmp .ne 8, 3) := by decide +kernel
theorem dX4_dueBehind_205 : decode cX4_dueBehind 205 = .ok (.bipush 8, 2) := by decide +kernel
theorem dX4_dueBehind_207 : decode cX4_dueBehind 207 = .ok (.goto 16, 3) := by decide +kernel
theorem dX4_dueBehind_210 : decode cX4_dueBehind 210 = .ok (.iload_n 1, 1) := by decide +kernel
theorem dX4_dueBehind_211 : decode cX4_dueBehind 211 = .ok (.invokestatic 31, 3) := by decide +kernel
theorem dX4_dueBehind_214 : decode cX4_dueBehind 214 = .ok (.ifCond .eq 8, 3) := by decide +kernel
theorem dX4_dueBehind_217 : decode cX4_dueBehind 217 = .ok (.bipush 9, 2) := by decide +kernel
theorem dX4_dueBehind_219 : decode cX4_dueBehind 219 = .ok (.goto 4, 3) := by decide +kernel
theorem dX4_dueBehind_222 : decode cX4_dueBehind 222 = .ok (.iconst (-1), 1) := by decide +kernel
theorem dX4_dueBehind_223 : decode cX4_dueBehind 223 = .ok (.ireturn, 1) := by decide +kernel
theorem dX4_dueBehind_224 : decode cX4_dueBehind 224 = .ok (.iload_n 1, 1) := by decide +kernel
theorem dX4_dueBehind_225 : decode cX4_dueBehind 225 = .ok (.invokestatic 31, 3) := by decide +kernel
theorem dX4_dueBehind_228 : decode cX4_dueBehind 228 = .ok (.ifCond .eq 8, 3) := by decide +kernel
theorem dX4_dueBehind_231 : decode cX4_dueBehind 231 = .ok (.bipush 9, 2) := by decide +kernel
theorem dX4_dueBehind_233 : decode cX4_dueBehind 233 = .ok (.goto 4, 3) := by decide +kernel
theorem dX4_dueBehind_236 : decode cX4_dueBehind 236 = .ok (.iconst (-1), 1) := by decide +kernel
theorem dX4_dueBehind_237 : decode cX4_dueBehind 237 = .ok (.ireturn, 1) := by decide +kernel
theorem dX4_dueBehind_238 : decode cX4_dueBehind 238 = .ok (.iconst (-1), 1) := by decide +kernel
theorem dX4_dueBehind_239 : decode cX4_dueBehind 239 = .ok (.ireturn, 1) := by decide +kernel
theorem dX4_isCount_0 : decode cX4_isCount 0 = .ok (.iload_n 0, 1) := by decide +kernel
theorem dX4_isCount_1 : decode cX4_isCount 1 = .ok (.bipush 99, 2) := by decide +kernel
theorem dX4_isCount_3 : decode cX4_isCount 3 = .ok (.if_icmp .eq 9, 3) := by decide +kernel
theorem dX4_isCount_6 : decode cX4_isCount 6 = .ok (.iload_n 0, 1) := by decide +kernel
theorem dX4_isCount_7 : decode cX4_isCount 7 = .ok (.bipush 121, 2) := by decide +kernel
theorem dX4_isCount_9 : decode cX4_isCount 9 = .ok (.if_icmp .ne 7, 3) := by decide +kernel
theorem dX4_isCount_12 : decode cX4_isCount 12 = .ok (.iconst 1, 1) := by decide +kernel
theorem dX4_isCount_13 : decode cX4_isCount 13 = .ok (.goto 4, 3) := by decide +kernel
theorem dX4_isCount_16 : decode cX4_isCount 16 = .ok (.iconst 0, 1) := by decide +kernel
theorem dX4_isCount_17 : decode cX4_isCount 17 = .ok (.ireturn, 1) := by decide +kernel
theorem dX5_init_0 : decode cX5_init 0 = .ok (.aload_n 0, 1) := by decide +kernel
theorem dX5_init_1 : decode cX5_init 1 = .ok (.invokespecial 3, 3) := by decide +kernel
theorem dX5_init_4 : decode cX5_init 4 = .ok (.aload_n 0, 1) := by decide +kernel
theorem dX5_init_5 : decode cX5_init 5 = .ok (.bipush 6, 2) := by decide +kernel
theorem dX5_init_7 : decode cX5_init 7 = .ok (.newarray .int, 2) := by decide +kernel
theorem dX5_init_9 : decode cX5_init 9 = .ok (.putfield 9, 3) := by decide +kernel
theorem dX5_init_12 : decode cX5_init 12 = .ok (.aload_n 0, 1) := by decide +kernel
theorem dX5_init_13 : decode cX5_init 13 = .ok (.bipush 6, 2) := by decide +kernel
theorem dX5_init_15 : decode cX5_init 15 = .ok (.newarray .int, 2) := by decide +kernel
theorem dX5_init_17 : decode cX5_init 17 = .ok (.putfield 15, 3) := by decide +kernel
theorem dX5_init_20 : decode cX5_init 20 = .ok (.aload_n 0, 1) := by decide +kernel
theorem dX5_init_21 : decode cX5_init 21 = .ok (.iconst (-1), 1) := by decide +kernel
theorem dX5_init_22 : decode cX5_init 22 = .ok (.putfield 18, 3) := by decide +kernel
theorem dX5_init_25 : decode cX5_init 25 = .ok (.aload_n 0, 1) := by decide +kernel
theorem dX5_init_26 : decode cX5_init 26 = .ok (.iload_n 1, 1) := by decide +kernel
theorem dX5_init_27 : decode cX5_init 27 = .ok (.putfield 22, 3) := by decide +kernel
theorem dX5_init_30 : decode cX5_init 30 = .ok (.aload_n 0, 1) := by decide +kernel
theorem dX5_init_31 : decode cX5_init 31 = .ok (.iload_n 2, 1) := by decide +kernel
theorem dX5_init_32 : decode cX5_init 32 = .ok (.putfield 25, 3) := by decide +kernel
theorem dX5_init_35 : decode cX5_init 35 = .ok (.return_, 1) := by decide +kernel
theorem dX5_kind_0 : decode cX5_kind 0 = .ok (.iconst 0, 1) := by decide +kernel
theorem dX5_kind_1 : decode cX5_kind 1 = .ok (.ireturn, 1) := by decide +kernel
theorem dX5_n_0 : decode cX5_n 0 = .ok (.iconst 0, 1) := by decide +kernel
theorem dX5_n_1 : decode cX5_n 1 = .ok (.ireturn, 1) := by decide +kernel
theorem dX5_blackOfStranger_0 : decode cX5_blackOfStranger 0 = .ok (.iload_n 1, 1) := by decide +kernel
theorem dX5_blackOfStranger_1 : decode cX5_blackOfStranger 1 = .ok (.ireturn, 1) := by decide +kernel
theorem dX5_blackFor_0 : decode cX5_blackFor 0 = .ok (.iload_n 2, 1) := by decide +kernel
theorem dX5_blackFor_1 : decode cX5_blackFor 1 = .ok (.aload_n 0, 1) := by decide +kernel
theorem dX5_blackFor_2 : decode cX5_blackFor 2 = .ok (.getfield 22, 3) := by decide +kernel
theorem dX5_blackFor_5 : decode cX5_blackFor 5 = .ok (.if_icmp .ne 7, 3) := by decide +kernel
theorem dX5_blackFor_8 : decode cX5_blackFor 8 = .ok (.iconst 0, 1) := by decide +kernel
theorem dX5_blackFor_9 : decode cX5_blackFor 9 = .ok (.goto 14, 3) := by decide +kernel
theorem dX5_blackFor_12 : decode cX5_blackFor 12 = .ok (.aload_n 0, 1) := by decide +kernel
theorem dX5_blackFor_13 : decode cX5_blackFor 13 = .ok (.aload_n 0, 1) := by decide +kernel
theorem dX5_blackFor_14 : decode cX5_blackFor 14 = .ok (.iload_n 1, 1) := by decide +kernel
theorem dX5_blackFor_15 : decode cX5_blackFor 15 = .ok (.invokevirtual 28, 3) := by decide +kernel
theorem dX5_blackFor_18 : decode cX5_blackFor 18 = .ok (.iload_n 2, 1) := by decide +kernel
theorem dX5_blackFor_19 : decode cX5_blackFor 19 = .ok (.iload_n 3, 1) := by decide +kernel
theorem dX5_blackFor_20 : decode cX5_blackFor 20 = .ok (.invokevirtual 32, 3) := by decide +kernel
theorem dX5_blackFor_23 : decode cX5_blackFor 23 = .ok (.ireturn, 1) := by decide +kernel
theorem dX5_mindsOf_0 : decode cX5_mindsOf 0 = .ok (.iload_n 1, 1) := by decide +kernel
theorem dX5_mindsOf_1 : decode cX5_mindsOf 1 = .ok (.ifCond .lt 18, 3) := by decide +kernel
theorem dX5_mindsOf_4 : decode cX5_mindsOf 4 = .ok (.iload_n 1, 1) := by decide +kernel
theorem dX5_mindsOf_5 : decode cX5_mindsOf 5 = .ok (.bipush 6, 2) := by decide +kernel
theorem dX5_mindsOf_7 : decode cX5_mindsOf 7 = .ok (.if_icmp .ge 12, 3) := by decide +kernel
theorem dX5_mindsOf_10 : decode cX5_mindsOf 10 = .ok (.aload_n 0, 1) := by decide +kernel
theorem dX5_mindsOf_11 : decode cX5_mindsOf 11 = .ok (.getfield 9, 3) := by decide +kernel
theorem dX5_mindsOf_14 : decode cX5_mindsOf 14 = .ok (.iload_n 1, 1) := by decide +kernel
theorem dX5_mindsOf_15 : decode cX5_mindsOf 15 = .ok (.iaload, 1) := by decide +kernel
theorem dX5_mindsOf_16 : decode cX5_mindsOf 16 = .ok (.goto 4, 3) := by decide +kernel
theorem dX5_mindsOf_19 : decode cX5_mindsOf 19 = .ok (.iconst 0, 1) := by decide +kernel
theorem dX5_mindsOf_20 : decode cX5_mindsOf 20 = .ok (.ireturn, 1) := by decide +kernel
theorem dX5_mindsMuch_0 : decode cX5_mindsMuch 0 = .ok (.aload_n 0, 1) := by decide +kernel
theorem dX5_mindsMuch_1 : decode cX5_mindsMuch 1 = .ok (.iload_n 1, 1) := by decide +kernel
theorem dX5_mindsMuch_2 : decode cX5_mindsMuch 2 = .ok (.invokevirtual 28, 3) := by decide +kernel
theorem dX5_mindsMuch_5 : decode cX5_mindsMuch 5 = .ok (.iconst 5, 1) := by decide +kernel
theorem dX5_mindsMuch_6 : decode cX5_mindsMuch 6 = .ok (.if_icmp .lt 7, 3) := by decide +kernel
theorem dX5_mindsMuch_9 : decode cX5_mindsMuch 9 = .ok (.iconst 1, 1) := by decide +kernel
theorem dX5_mindsMuch_10 : decode cX5_mindsMuch 10 = .ok (.goto 4, 3) := by decide +kernel
theorem dX5_mindsMuch_13 : decode cX5_mindsMuch 13 = .ok (.iconst 0, 1) := by decide +kernel
theorem dX5_mindsMuch_14 : decode cX5_mindsMuch 14 = .ok (.ireturn, 1) := by decide +kernel
theorem dX5_mindFrom_0 : decode cX5_mindFrom 0 = .ok (.iload_n 1, 1) := by decide +kernel
theorem dX5_mindFrom_1 : decode cX5_mindFrom 1 = .ok (.ifCond .lt 16, 3) := by decide +kernel
theorem dX5_mindFrom_4 : decode cX5_mindFrom 4 = .ok (.iload_n 1, 1) := by decide +kernel
theorem dX5_mindFrom_5 : decode cX5_mindFrom 5 = .ok (.bipush 6, 2) := by decide +kernel
theorem dX5_mindFrom_7 : decode cX5_mindFrom 7 = .ok (.if_icmp .ge 10, 3) := by decide +kernel
theorem dX5_mindFrom_10 : decode cX5_mindFrom 10 = .ok (.aload_n 0, 1) := by decide +kernel
theorem dX5_mindFrom_11 : decode cX5_mindFrom 11 = .ok (.getfield 9, 3) := by decide +kernel
theorem dX5_mindFrom_14 : decode cX5_mindFrom 14 = .ok (.iload_n 1, 1) := by decide +kernel
theorem dX5_mindFrom_15 : decode cX5_mindFrom 15 = .ok (.iload_n 2, 1) := by decide +kernel
theorem dX5_mindFrom_16 : decode cX5_mindFrom 16 = .ok (.iastore, 1) := by decide +kernel
theorem dX5_mindFrom_17 : decode cX5_mindFrom 17 = .ok (.return_, 1) := by decide +kernel
theorem dX5_keep_0 : decode cX5_keep 0 = .ok (.aload_n 0, 1) := by decide +kernel
theorem dX5_keep_1 : decode cX5_keep 1 = .ok (.aload_n 0, 1) := by decide +kernel
theorem dX5_keep_2 : decode cX5_keep 2 = .ok (.getfield 25, 3) := by decide +kernel
theorem dX5_keep_5 : decode cX5_keep 5 = .ok (.putfield 18, 3) := by decide +kernel
theorem dX5_keep_8 : decode cX5_keep 8 = .ok (.aload_n 0, 1) := by decide +kernel
theorem dX5_keep_9 : decode cX5_keep 9 = .ok (.iload_n 1, 1) := by decide +kernel
theorem dX5_keep_10 : decode cX5_keep 10 = .ok (.bipush 6, 2) := by decide +kernel
theorem dX5_keep_12 : decode cX5_keep 12 = .ok (.invokestatic 36, 3) := by decide +kernel
theorem dX5_keep_15 : decode cX5_keep 15 = .ok (.putfield 42, 3) := by decide +kernel
theorem dX5_keep_18 : decode cX5_keep 18 = .ok (.aload_n 0, 1) := by decide +kernel
theorem dX5_keep_19 : decode cX5_keep 19 = .ok (.getfield 9, 3) := by decide +kernel
theorem dX5_keep_22 : decode cX5_keep 22 = .ok (.iconst 0, 1) := by decide +kernel
theorem dX5_keep_23 : decode cX5_keep 23 = .ok (.aload_n 0, 1) := by decide +kernel
theorem dX5_keep_24 : decode cX5_keep 24 = .ok (.getfield 15, 3) := by decide +kernel
theorem dX5_keep_27 : decode cX5_keep 27 = .ok (.iconst 0, 1) := by decide +kernel
theorem dX5_keep_28 : decode cX5_keep 28 = .ok (.aload_n 0, 1) := by decide +kernel
theorem dX5_keep_29 : decode cX5_keep 29 = .ok (.getfield 42, 3) := by decide +kernel
theorem dX5_keep_32 : decode cX5_keep 32 = .ok (.invokestatic 45, 3) := by decide +kernel
theorem dX5_keep_35 : decode cX5_keep 35 = .ok (.return_, 1) := by decide +kernel
theorem dX5_takeBack_0 : decode cX5_takeBack 0 = .ok (.aload_n 0, 1) := by decide +kernel
theorem dX5_takeBack_1 : decode cX5_takeBack 1 = .ok (.getfield 18, 3) := by decide +kernel
theorem dX5_takeBack_4 : decode cX5_takeBack 4 = .ok (.iconst (-1), 1) := by decide +kernel
theorem dX5_takeBack_5 : decode cX5_takeBack 5 = .ok (.if_icmp .eq 28, 3) := by decide +kernel
theorem dX5_takeBack_8 : decode cX5_takeBack 8 = .ok (.aload_n 0, 1) := by decide +kernel
theorem dX5_takeBack_9 : decode cX5_takeBack 9 = .ok (.aload_n 0, 1) := by decide +kernel
theorem dX5_takeBack_10 : decode cX5_takeBack 10 = .ok (.getfield 18, 3) := by decide +kernel
theorem dX5_takeBack_13 : decode cX5_takeBack 13 = .ok (.putfield 25, 3) := by decide +kernel
theorem dX5_takeBack_16 : decode cX5_takeBack 16 = .ok (.aload_n 0, 1) := by decide +kernel
theorem dX5_takeBack_17 : decode cX5_takeBack 17 = .ok (.getfield 15, 3) := by decide +kernel
theorem dX5_takeBack_20 : decode cX5_takeBack 20 = .ok (.iconst 0, 1) := by decide +kernel
theorem dX5_takeBack_21 : decode cX5_takeBack 21 = .ok (.aload_n 0, 1) := by decide +kernel
theorem dX5_takeBack_22 : decode cX5_takeBack 22 = .ok (.getfield 9, 3) := by decide +kernel
theorem dX5_takeBack_25 : decode cX5_takeBack 25 = .ok (.iconst 0, 1) := by decide +kernel
theorem dX5_takeBack_26 : decode cX5_takeBack 26 = .ok (.aload_n 0, 1) := by decide +kernel
theorem dX5_takeBack_27 : decode cX5_takeBack 27 = .ok (.getfield 42, 3) := by decide +kernel
theorem dX5_takeBack_30 : decode cX5_takeBack 30 = .ok (.invokestatic 45, 3) := by decide +kernel
theorem dX5_takeBack_33 : decode cX5_takeBack 33 = .ok (.return_, 1) := by decide +kernel
theorem dX6_init_0 : decode cX6_init 0 = .ok (.aload_n 0, 1) := by decide +kernel
theorem dX6_init_1 : decode cX6_init 1 = .ok (.invokespecial 1, 3) := by decide +kernel
theorem dX6_init_4 : decode cX6_init 4 = .ok (.aload_n 0, 1) := by decide +kernel
theorem dX6_init_5 : decode cX6_init 5 = .ok (.iload_n 1, 1) := by decide +kernel
theorem dX6_init_6 : decode cX6_init 6 = .ok (.putfield 7, 3) := by decide +kernel
theorem dX6_init_9 : decode cX6_init 9 = .ok (.aload_n 0, 1) := by decide +kernel
theorem dX6_init_10 : decode cX6_init 10 = .ok (.iload_n 2, 1) := by decide +kernel
theorem dX6_init_11 : decode cX6_init 11 = .ok (.putfield 13, 3) := by decide +kernel
theorem dX6_init_14 : decode cX6_init 14 = .ok (.aload_n 0, 1) := by decide +kernel
theorem dX6_init_15 : decode cX6_init 15 = .ok (.iload_n 3, 1) := by decide +kernel
theorem dX6_init_16 : decode cX6_init 16 = .ok (.putfield 16, 3) := by decide +kernel
theorem dX6_init_19 : decode cX6_init 19 = .ok (.aload_n 0, 1) := by decide +kernel
theorem dX6_init_20 : decode cX6_init 20 = .ok (.iload 4, 2) := by decide +kernel
theorem dX6_init_22 : decode cX6_init 22 = .ok (.putfield 19, 3) := by decide +kernel
theorem dX6_init_25 : decode cX6_init 25 = .ok (.aload_n 0, 1) := by decide +kernel
theorem dX6_init_26 : decode cX6_init 26 = .ok (.iload 5, 2) := by decide +kernel
theorem dX6_init_28 : decode cX6_init 28 = .ok (.putfield 23, 3) := by decide +kernel
theorem dX6_init_31 : decode cX6_init 31 = .ok (.return_, 1) := by decide +kernel
theorem dX6_told_0 : decode cX6_told 0 = .ok (.iload_n 1, 1) := by decide +kernel
theorem dX6_told_1 : decode cX6_told 1 = .ok (.tableswitch 59 0 3 #[31, 36, 41, 46], 31) := by decide +kernel
theorem dX6_told_32 : decode cX6_told 32 = .ok (.aload_n 0, 1) := by decide +kernel
theorem dX6_told_33 : decode cX6_told 33 = .ok (.getfield 7, 3) := by decide +kernel
theorem dX6_told_36 : decode cX6_told 36 = .ok (.ireturn, 1) := by decide +kernel
theorem dX6_told_37 : decode cX6_told 37 = .ok (.aload_n 0, 1) := by decide +kernel
theorem dX6_told_38 : decode cX6_told 38 = .ok (.getfield 13, 3) := by decide +kernel
theorem dX6_told_41 : decode cX6_told 41 = .ok (.ireturn, 1) := by decide +kernel
theorem dX6_told_42 : decode cX6_told 42 = .ok (.aload_n 0, 1) := by decide +kernel
theorem dX6_told_43 : decode cX6_told 43 = .ok (.getfield 16, 3) := by decide +kernel
theorem dX6_told_46 : decode cX6_told 46 = .ok (.ireturn, 1) := by decide +kernel
theorem dX6_told_47 : decode cX6_told 47 = .ok (.aload_n 0, 1) := by decide +kernel
theorem dX6_told_48 : decode cX6_told 48 = .ok (.getfield 19, 3) := by decide +kernel
theorem dX6_told_51 : decode cX6_told 51 = .ok (.ifCond .eq 7, 3) := by decide +kernel
theorem dX6_told_54 : decode cX6_told 54 = .ok (.iconst 1, 1) := by decide +kernel
theorem dX6_told_55 : decode cX6_told 55 = .ok (.goto 4, 3) := by decide +kernel
theorem dX6_told_58 : decode cX6_told 58 = .ok (.iconst 0, 1) := by decide +kernel
theorem dX6_told_59 : decode cX6_told 59 = .ok (.ireturn, 1) := by decide +kernel
theorem dX6_told_60 : decode cX6_told 60 = .ok (.aload_n 0, 1) := by decide +kernel
theorem dX6_told_61 : decode cX6_told 61 = .ok (.getfield 23, 3) := by decide +kernel
theorem dX6_told_64 : decode cX6_told 64 = .ok (.ifCond .eq 7, 3) := by decide +kernel
theorem dX6_told_67 : decode cX6_told 67 = .ok (.iconst 1, 1) := by decide +kernel
theorem dX6_told_68 : decode cX6_told 68 = .ok (.goto 4, 3) := by decide +kernel
theorem dX6_told_71 : decode cX6_told 71 = .ok (.iconst 0, 1) := by decide +kernel
theorem dX6_told_72 : decode cX6_told 72 = .ok (.ireturn, 1) := by decide +kernel
theorem dX6_hasQuorum_0 : decode cX6_hasQuorum 0 = .ok (.iload_n 1, 1) := by decide +kernel
theorem dX6_hasQuorum_1 : decode cX6_hasQuorum 1 = .ok (.ifCond .le 15, 3) := by decide +kernel
theorem dX6_hasQuorum_4 : decode cX6_hasQuorum 4 = .ok (.iload_n 1, 1) := by decide +kernel
theorem dX6_hasQuorum_5 : decode cX6_hasQuorum 5 = .ok (.aload_n 0, 1) := by decide +kernel
theorem dX6_hasQuorum_6 : decode cX6_hasQuorum 6 = .ok (.getfield 16, 3) := by decide +kernel
theorem dX6_hasQuorum_9 : decode cX6_hasQuorum 9 = .ok (.if_icmp .lt 7, 3) := by decide +kernel
theorem dX6_hasQuorum_12 : decode cX6_hasQuorum 12 = .ok (.iconst 1, 1) := by decide +kernel
theorem dX6_hasQuorum_13 : decode cX6_hasQuorum 13 = .ok (.goto 4, 3) := by decide +kernel
theorem dX6_hasQuorum_16 : decode cX6_hasQuorum 16 = .ok (.iconst 0, 1) := by decide +kernel
theorem dX6_hasQuorum_17 : decode cX6_hasQuorum 17 = .ok (.ireturn, 1) := by decide +kernel
theorem dX6_shutsOut_0 : decode cX6_shutsOut 0 = .ok (.aload_n 0, 1) := by decide +kernel
theorem dX6_shutsOut_1 : decode cX6_shutsOut 1 = .ok (.getfield 13, 3) := by decide +kernel
theorem dX6_shutsOut_4 : decode cX6_shutsOut 4 = .ok (.ifCond .le 21, 3) := by decide +kernel
theorem dX6_shutsOut_7 : decode cX6_shutsOut 7 = .ok (.aload_n 0, 1) := by decide +kernel
theorem dX6_shutsOut_8 : decode cX6_shutsOut 8 = .ok (.getfield 13, 3) := by decide +kernel
theorem dX6_shutsOut_11 : decode cX6_shutsOut 11 = .ok (.iload_n 1, 1) := by decide +kernel
theorem dX6_shutsOut_12 : decode cX6_shutsOut 12 = .ok (.imul, 1) := by decide +kernel
theorem dX6_shutsOut_13 : decode cX6_shutsOut 13 = .ok (.iload_n 2, 1) := by decide +kernel
theorem dX6_shutsOut_14 : decode cX6_shutsOut 14 = .ok (.if_icmp .lt 7, 3) := by decide +kernel
theorem dX6_shutsOut_17 : decode cX6_shutsOut 17 = .ok (.iconst 1, 1) := by decide +kernel
theorem dX6_shutsOut_18 : decode cX6_shutsOut 18 = .ok (.goto 20, 3) := by decide +kernel
theorem dX6_shutsOut_21 : decode cX6_shutsOut 21 = .ok (.iconst 0, 1) := by decide +kernel
theorem dX6_shutsOut_22 : decode cX6_shutsOut 22 = .ok (.goto 16, 3) := by decide +kernel
theorem dX6_shutsOut_25 : decode cX6_shutsOut 25 = .ok (.iload_n 1, 1) := by decide +kernel
theorem dX6_shutsOut_26 : decode cX6_shutsOut 26 = .ok (.aload_n 0, 1) := by decide +kernel
theorem dX6_shutsOut_27 : decode cX6_shutsOut 27 = .ok (.getfield 7, 3) := by decide +kernel
theorem dX6_shutsOut_30 : decode cX6_shutsOut 30 = .ok (.if_icmp .lt 7, 3) := by decide +kernel
theorem dX6_shutsOut_33 : decode cX6_shutsOut 33 = .ok (.iconst 1, 1) := by decide +kernel
theorem dX6_shutsOut_34 : decode cX6_shutsOut 34 = .ok (.goto 4, 3) := by decide +kernel
theorem dX6_shutsOut_37 : decode cX6_shutsOut 37 = .ok (.iconst 0, 1) := by decide +kernel
theorem dX6_shutsOut_38 : decode cX6_shutsOut 38 = .ok (.ireturn, 1) := by decide +kernel
theorem dX6_letsIn_0 : decode cX6_letsIn 0 = .ok (.aload_n 0, 1) := by decide +kernel
theorem dX6_letsIn_1 : decode cX6_letsIn 1 = .ok (.iload_n 2, 1) := by decide +kernel
theorem dX6_letsIn_2 : decode cX6_letsIn 2 = .ok (.invokevirtual 26, 3) := by decide +kernel
theorem dX6_letsIn_5 : decode cX6_letsIn 5 = .ok (.ifCond .eq 16, 3) := by decide +kernel
theorem dX6_letsIn_8 : decode cX6_letsIn 8 = .ok (.aload_n 0, 1) := by decide +kernel
theorem dX6_letsIn_9 : decode cX6_letsIn 9 = .ok (.iload_n 1, 1) := by decide +kernel
theorem dX6_letsIn_10 : decode cX6_letsIn 10 = .ok (.iload_n 2, 1) := by decide +kernel
theorem dX6_letsIn_11 : decode cX6_letsIn 11 = .ok (.invokevirtual 30, 3) := by decide +kernel
theorem dX6_letsIn_14 : decode cX6_letsIn 14 = .ok (.ifCond .ne 7, 3) := by decide +kernel
theorem dX6_letsIn_17 : decode cX6_letsIn 17 = .ok (.iconst 1, 1) := by decide +kernel
theorem dX6_letsIn_18 : decode cX6_letsIn 18 = .ok (.goto 4, 3) := by decide +kernel
theorem dX6_letsIn_21 : decode cX6_letsIn 21 = .ok (.iconst 0, 1) := by decide +kernel
theorem dX6_letsIn_22 : decode cX6_letsIn 22 = .ok (.ireturn, 1) := by decide +kernel
theorem dX7_init_0 : decode cX7_init 0 = .ok (.aload_n 0, 1) := by decide +kernel
theorem dX7_init_1 : decode cX7_init 1 = .ok (.invokespecial 3, 3) := by decide +kernel
theorem dX7_init_4 : decode cX7_init 4 = .ok (.aload_n 0, 1) := by decide +kernel
theorem dX7_init_5 : decode cX7_init 5 = .ok (.bipush 9, 2) := by decide +kernel
theorem dX7_init_7 : decode cX7_init 7 = .ok (.newarray .long, 2) := by decide +kernel
theorem dX7_init_9 : decode cX7_init 9 = .ok (.putfield 9, 3) := by decide +kernel
theorem dX7_init_12 : decode cX7_init 12 = .ok (.return_, 1) := by decide +kernel
theorem dX7_begin_0 : decode cX7_begin 0 = .ok (.aload_n 0, 1) := by decide +kernel
theorem dX7_begin_1 : decode cX7_begin 1 = .ok (.iconst 0, 1) := by decide +kernel
theorem dX7_begin_2 : decode cX7_begin 2 = .ok (.putfield 15, 3) := by decide +kernel
theorem dX7_begin_5 : decode cX7_begin 5 = .ok (.aload_n 0, 1) := by decide +kernel
theorem dX7_begin_6 : decode cX7_begin 6 = .ok (.lconst 1, 1) := by decide +kernel
theorem dX7_begin_7 : decode cX7_begin 7 = .ok (.putfield 19, 3) := by decide +kernel
theorem dX7_begin_10 : decode cX7_begin 10 = .ok (.aload_n 0, 1) := by decide +kernel
theorem dX7_begin_11 : decode cX7_begin 11 = .ok (.getfield 9, 3) := by decide +kernel
theorem dX7_begin_14 : decode cX7_begin 14 = .ok (.iconst 0, 1) := by decide +kernel
theorem dX7_begin_15 : decode cX7_begin 15 = .ok (.lconst 1, 1) := by decide +kernel
theorem dX7_begin_16 : decode cX7_begin 16 = .ok (.lastore, 1) := by decide +kernel
theorem dX7_begin_17 : decode cX7_begin 17 = .ok (.return_, 1) := by decide +kernel
theorem dX7_put_0 : decode cX7_put 0 = .ok (.aload_n 0, 1) := by decide +kernel
theorem dX7_put_1 : decode cX7_put 1 = .ok (.getfield 15, 3) := by decide +kernel
theorem dX7_put_4 : decode cX7_put 4 = .ok (.bipush 8, 2) := by decide +kernel
theorem dX7_put_6 : decode cX7_put 6 = .ok (.if_icmp .lt 4, 3) := by decide +kernel
theorem dX7_put_9 : decode cX7_put 9 = .ok (.return_, 1) := by decide +kernel
theorem dX7_put_10 : decode cX7_put 10 = .ok (.aload_n 0, 1) := by decide +kernel
theorem dX7_put_11 : decode cX7_put 11 = .ok (.dup, 1) := by decide +kernel
theorem dX7_put_12 : decode cX7_put 12 = .ok (.getfield 15, 3) := by decide +kernel
theorem dX7_put_15 : decode cX7_put 15 = .ok (.iconst 1, 1) := by decide +kernel
theorem dX7_put_16 : decode cX7_put 16 = .ok (.iadd, 1) := by decide +kernel
theorem dX7_put_17 : decode cX7_put 17 = .ok (.putfield 15, 3) := by decide +kernel
theorem dX7_put_20 : decode cX7_put 20 = .ok (.aload_n 0, 1) := by decide +kernel
theorem dX7_put_21 : decode cX7_put 21 = .ok (.getfield 9, 3) := by decide +kernel
theorem dX7_put_24 : decode cX7_put 24 = .ok (.aload_n 0, 1) := by decide +kernel
theorem dX7_put_25 : decode cX7_put 25 = .ok (.getfield 15, 3) := by decide +kernel
theorem dX7_put_28 : decode cX7_put 28 = .ok (.lconst 0, 1) := by decide +kernel
theorem dX7_put_29 : decode cX7_put 29 = .ok (.lastore, 1) := by decide +kernel
theorem dX7_put_30 : decode cX7_put 30 = .ok (.bipush 10, 2) := by decide +kernel
theorem dX7_put_32 : decode cX7_put 32 = .ok (.iload_n 1, 1) := by decide +kernel
theorem dX7_put_33 : decode cX7_put 33 = .ok (.isub, 1) := by decide +kernel
theorem dX7_put_34 : decode cX7_put 34 = .ok (.istore_n 2, 1) := by decide +kernel
theorem dX7_put_35 : decode cX7_put 35 = .ok (.aload_n 0, 1) := by decide +kernel
theorem dX7_put_36 : decode cX7_put 36 = .ok (.getfield 15, 3) := by decide +kernel
theorem dX7_put_39 : decode cX7_put 39 = .ok (.istore_n 3, 1) := by decide +kernel
theorem dX7_put_40 : decode cX7_put 40 = .ok (.iload_n 3, 1) := by decide +kernel
theorem dX7_put_41 : decode cX7_put 41 = .ok (.iconst 1, 1) := by decide +kernel
theorem dX7_put_42 : decode cX7_put 42 = .ok (.if_icmp .lt 36, 3) := by decide +kernel
theorem dX7_put_45 : decode cX7_put 45 = .ok (.aload_n 0, 1) := by decide +kernel
theorem dX7_put_46 : decode cX7_put 46 = .ok (.getfield 9, 3) := by decide +kernel
theorem dX7_put_49 : decode cX7_put 49 = .ok (.iload_n 3, 1) := by decide +kernel
theorem dX7_put_50 : decode cX7_put 50 = .ok (.aload_n 0, 1) := by decide +kernel
theorem dX7_put_51 : decode cX7_put 51 = .ok (.getfield 9, 3) := by decide +kernel
theorem dX7_put_54 : decode cX7_put 54 = .ok (.iload_n 3, 1) := by decide +kernel
theorem dX7_put_55 : decode cX7_put 55 = .ok (.laload, 1) := by decide +kernel
theorem dX7_put_56 : decode cX7_put 56 = .ok (.iload_n 2, 1) := by decide +kernel
theorem dX7_put_57 : decode cX7_put 57 = .ok (.i2l, 1) := by decide +kernel
theorem dX7_put_58 : decode cX7_put 58 = .ok (.lmul, 1) := by decide +kernel
theorem dX7_put_59 : decode cX7_put 59 = .ok (.aload_n 0, 1) := by decide +kernel
theorem dX7_put_60 : decode cX7_put 60 = .ok (.getfield 9, 3) := by decide +kernel
theorem dX7_put_63 : decode cX7_put 63 = .ok (.iload_n 3, 1) := by decide +kernel
theorem dX7_put_64 : decode cX7_put 64 = .ok (.iconst 1, 1) := by decide +kernel
theorem dX7_put_65 : decode cX7_put 65 = .ok (.isub, 1) := by decide +kernel
theorem dX7_put_66 : decode cX7_put 66 = .ok (.laload, 1) := by decide +kernel
theorem dX7_put_67 : decode cX7_put 67 = .ok (.iload_n 1, 1) := by decide +kernel
theorem dX7_put_68 : decode cX7_put 68 = .ok (.i2l, 1) := by decide +kernel
theorem dX7_put_69 : decode cX7_put 69 = .ok (.lmul, 1) := by decide +kernel
theorem dX7_put_70 : decode cX7_put 70 = .ok (.ladd, 1) := by decide +kernel
theorem dX7_put_71 : decode cX7_put 71 = .ok (.lastore, 1) := by decide +kernel
theorem dX7_put_72 : decode cX7_put 72 = .ok (.iinc 3 (-1), 3) := by decide +kernel
theorem dX7_put_75 : decode cX7_put 75 = .ok (.goto (-35), 3) := by decide +kernel
theorem dX7_put_78 : decode cX7_put 78 = .ok (.aload_n 0, 1) := by decide +kernel
theorem dX7_put_79 : decode cX7_put 79 = .ok (.getfield 9, 3) := by decide +kernel
theorem dX7_put_82 : decode cX7_put 82 = .ok (.iconst 0, 1) := by decide +kernel
theorem dX7_put_83 : decode cX7_put 83 = .ok (.dup2, 1) := by decide +kernel
theorem dX7_put_84 : decode cX7_put 84 = .ok (.laload, 1) := by decide +kernel
theorem dX7_put_85 : decode cX7_put 85 = .ok (.iload_n 2, 1) := by decide +kernel
theorem dX7_put_86 : decode cX7_put 86 = .ok (.i2l, 1) := by decide +kernel
theorem dX7_put_87 : decode cX7_put 87 = .ok (.lmul, 1) := by decide +kernel
theorem dX7_put_88 : decode cX7_put 88 = .ok (.lastore, 1) := by decide +kernel
theorem dX7_put_89 : decode cX7_put 89 = .ok (.aload_n 0, 1) := by decide +kernel
theorem dX7_put_90 : decode cX7_put 90 = .ok (.dup, 1) := by decide +kernel
theorem dX7_put_91 : decode cX7_put 91 = .ok (.getfield 19, 3) := by decide +kernel
theorem dX7_put_94 : decode cX7_put 94 = .ok (.ldc2_w 23, 3) := by decide +kernel
theorem dX7_put_97 : decode cX7_put 97 = .ok (.lmul, 1) := by decide +kernel
theorem dX7_put_98 : decode cX7_put 98 = .ok (.putfield 19, 3) := by decide +kernel
theorem dX7_put_101 : decode cX7_put 101 = .ok (.return_, 1) := by decide +kernel
theorem dX7_waysTo_0 : decode cX7_waysTo 0 = .ok (.iload_n 1, 1) := by decide +kernel
theorem dX7_waysTo_1 : decode cX7_waysTo 1 = .ok (.ifCond .lt 20, 3) := by decide +kernel
theorem dX7_waysTo_4 : decode cX7_waysTo 4 = .ok (.iload_n 1, 1) := by decide +kernel
theorem dX7_waysTo_5 : decode cX7_waysTo 5 = .ok (.aload_n 0, 1) := by decide +kernel
theorem dX7_waysTo_6 : decode cX7_waysTo 6 = .ok (.getfield 15, 3) := by decide +kernel
theorem dX7_waysTo_9 : decode cX7_waysTo 9 = .ok (.if_icmp .gt 12, 3) := by decide +kernel
theorem dX7_waysTo_12 : decode cX7_waysTo 12 = .ok (.aload_n 0, 1) := by decide +kernel
theorem dX7_waysTo_13 : decode cX7_waysTo 13 = .ok (.getfield 9, 3) := by decide +kernel
theorem dX7_waysTo_16 : decode cX7_waysTo 16 = .ok (.iload_n 1, 1) := by decide +kernel
theorem dX7_waysTo_17 : decode cX7_waysTo 17 = .ok (.laload, 1) := by decide +kernel
theorem dX7_waysTo_18 : decode cX7_waysTo 18 = .ok (.goto 4, 3) := by decide +kernel
theorem dX7_waysTo_21 : decode cX7_waysTo 21 = .ok (.lconst 0, 1) := by decide +kernel
theorem dX7_waysTo_22 : decode cX7_waysTo 22 = .ok (.lreturn, 1) := by decide +kernel
theorem dX7_all_0 : decode cX7_all 0 = .ok (.aload_n 0, 1) := by decide +kernel
theorem dX7_all_1 : decode cX7_all 1 = .ok (.getfield 19, 3) := by decide +kernel
theorem dX7_all_4 : decode cX7_all 4 = .ok (.lreturn, 1) := by decide +kernel
theorem dX8_init_0 : decode cX8_init 0 = .ok (.aload_n 0, 1) := by decide +kernel
theorem dX8_init_1 : decode cX8_init 1 = .ok (.iload_n 1, 1) := by decide +kernel
theorem dX8_init_2 : decode cX8_init 2 = .ok (.iload_n 2, 1) := by decide +kernel
theorem dX8_init_3 : decode cX8_init 3 = .ok (.iload_n 3, 1) := by decide +kernel
theorem dX8_init_4 : decode cX8_init 4 = .ok (.invokespecial 3, 3) := by decide +kernel
theorem dX8_init_7 : decode cX8_init 7 = .ok (.return_, 1) := by decide +kernel
theorem dX8_kind_0 : decode cX8_kind 0 = .ok (.iconst 4, 1) := by decide +kernel
theorem dX8_kind_1 : decode cX8_kind 1 = .ok (.ireturn, 1) := by decide +kernel
theorem dX8_blackOfStranger_0 : decode cX8_blackOfStranger 0 = .ok (.iload_n 2, 1) := by decide +kernel
theorem dX8_blackOfStranger_1 : decode cX8_blackOfStranger 1 = .ok (.aload_n 0, 1) := by decide +kernel
theorem dX8_blackOfStranger_2 : decode cX8_blackOfStranger 2 = .ok (.invokevirtual 9, 3) := by decide +kernel
theorem dX8_blackOfStranger_5 : decode cX8_blackOfStranger 5 = .ok (.if_icmp .ne 7, 3) := by decide +kernel
theorem dX8_blackOfStranger_8 : decode cX8_blackOfStranger 8 = .ok (.iconst 0, 1) := by decide +kernel
theorem dX8_blackOfStranger_9 : decode cX8_blackOfStranger 9 = .ok (.goto 4, 3) := by decide +kernel
theorem dX8_blackOfStranger_12 : decode cX8_blackOfStranger 12 = .ok (.iload_n 1, 1) := by decide +kernel
theorem dX8_blackOfStranger_13 : decode cX8_blackOfStranger 13 = .ok (.ireturn, 1) := by decide +kernel
theorem dX9_init_0 : decode cX9_init 0 = .ok (.aload_n 0, 1) := by decide +kernel
theorem dX9_init_1 : decode cX9_init 1 = .ok (.invokespecial 3, 3) := by decide +kernel
theorem dX9_init_4 : decode cX9_init 4 = .ok (.aload_n 0, 1) := by decide +kernel
theorem dX9_init_5 : decode cX9_init 5 = .ok (.bipush 81, 2) := by decide +kernel
theorem dX9_init_7 : decode cX9_init 7 = .ok (.newarray .long, 2) := by decide +kernel
theorem dX9_init_9 : decode cX9_init 9 = .ok (.putfield 11, 3) := by decide +kernel
theorem dX9_init_12 : decode cX9_init 12 = .ok (.return_, 1) := by decide +kernel
theorem dX9_begin_0 : decode cX9_begin 0 = .ok (.aload_n 0, 1) := by decide +kernel
theorem dX9_begin_1 : decode cX9_begin 1 = .ok (.getfield 11, 3) := by decide +kernel
theorem dX9_begin_4 : decode cX9_begin 4 = .ok (.lconst 0, 1) := by decide +kernel
theorem dX9_begin_5 : decode cX9_begin 5 = .ok (.invokestatic 15, 3) := by decide +kernel
theorem dX9_begin_8 : decode cX9_begin 8 = .ok (.aload_n 0, 1) := by decide +kernel
theorem dX9_begin_9 : decode cX9_begin 9 = .ok (.getfield 11, 3) := by decide +kernel
theorem dX9_begin_12 : decode cX9_begin 12 = .ok (.iconst 0, 1) := by decide +kernel
theorem dX9_begin_13 : decode cX9_begin 13 = .ok (.lconst 1, 1) := by decide +kernel
theorem dX9_begin_14 : decode cX9_begin 14 = .ok (.lastore, 1) := by decide +kernel
theorem dX9_begin_15 : decode cX9_begin 15 = .ok (.aload_n 0, 1) := by decide +kernel
theorem dX9_begin_16 : decode cX9_begin 16 = .ok (.iconst 0, 1) := by decide +kernel
theorem dX9_begin_17 : decode cX9_begin 17 = .ok (.putfield 21, 3) := by decide +kernel
theorem dX9_begin_20 : decode cX9_begin 20 = .ok (.aload_n 0, 1) := by decide +kernel
theorem dX9_begin_21 : decode cX9_begin 21 = .ok (.lconst 1, 1) := by decide +kernel
theorem dX9_begin_22 : decode cX9_begin 22 = .ok (.putfield 25, 3) := by decide +kernel
theorem dX9_begin_25 : decode cX9_begin 25 = .ok (.return_, 1) := by decide +kernel
theorem dX9_mayCome_0 : decode cX9_mayCome 0 = .ok (.aload_n 0, 1) := by decide +kernel
theorem dX9_mayCome_1 : decode cX9_mayCome 1 = .ok (.getfield 21, 3) := by decide +kernel
theorem dX9_mayCome_4 : decode cX9_mayCome 4 = .ok (.bipush 8, 2) := by decide +kernel
theorem dX9_mayCome_6 : decode cX9_mayCome 6 = .ok (.if_icmp .lt 4, 3) := by decide +kernel
theorem dX9_mayCome_9 : decode cX9_mayCome 9 = .ok (.return_, 1) := by decide +kernel
theorem dX9_mayCome_10 : decode cX9_mayCome 10 = .ok (.aload_n 0, 1) := by decide +kernel
theorem dX9_mayCome_11 : decode cX9_mayCome 11 = .ok (.dup, 1) := by decide +kernel
theorem dX9_mayCome_12 : decode cX9_mayCome 12 = .ok (.getfield 21, 3) := by decide +kernel
theorem dX9_mayCome_15 : decode cX9_mayCome 15 = .ok (.iconst 1, 1) := by decide +kernel
theorem dX9_mayCome_16 : decode cX9_mayCome 16 = .ok (.iadd, 1) := by decide +kernel
theorem dX9_mayCome_17 : decode cX9_mayCome 17 = .ok (.putfield 21, 3) := by decide +kernel
theorem dX9_mayCome_20 : decode cX9_mayCome 20 = .ok (.aload_n 0, 1) := by decide +kernel
theorem dX9_mayCome_21 : decode cX9_mayCome 21 = .ok (.dup, 1) := by decide +kernel
theorem dX9_mayCome_22 : decode cX9_mayCome 22 = .ok (.getfield 25, 3) := by decide +kernel
theorem dX9_mayCome_25 : decode cX9_mayCome 25 = .ok (.ldc2_w 29, 3) := by decide +kernel
theorem dX9_mayCome_28 : decode cX9_mayCome 28 = .ok (.lmul, 1) := by decide +kernel
theorem dX9_mayCome_29 : decode cX9_mayCome 29 = .ok (.putfield 25, 3) := by decide +kernel
theorem dX9_mayCome_32 : decode cX9_mayCome 32 = .ok (.bipush 10, 2) := by decide +kernel
theorem dX9_mayCome_34 : decode cX9_mayCome 34 = .ok (.iload_n 1, 1) := by decide +kernel
theorem dX9_mayCome_35 : decode cX9_mayCome 35 = .ok (.isub, 1) := by decide +kernel
theorem dX9_mayCome_36 : decode cX9_mayCome 36 = .ok (.bipush 10, 2) := by decide +kernel
theorem dX9_mayCome_38 : decode cX9_mayCome 38 = .ok (.imul, 1) := by decide +kernel
theorem dX9_mayCome_39 : decode cX9_mayCome 39 = .ok (.i2l, 1) := by decide +kernel
theorem dX9_mayCome_40 : decode cX9_mayCome 40 = .ok (.lstore_n 3, 1) := by decide +kernel
theorem dX9_mayCome_41 : decode cX9_mayCome 41 = .ok (.iload_n 1, 1) := by decide +kernel
theorem dX9_mayCome_42 : decode cX9_mayCome 42 = .ok (.iload_n 2, 1) := by decide +kernel
theorem dX9_mayCome_43 : decode cX9_mayCome 43 = .ok (.imul, 1) := by decide +kernel
theorem dX9_mayCome_44 : decode cX9_mayCome 44 = .ok (.i2l, 1) := by decide +kernel
theorem dX9_mayCome_45 : decode cX9_mayCome 45 = .ok (.lstore 5, 2) := by decide +kernel
theorem dX9_mayCome_47 : decode cX9_mayCome 47 = .ok (.iload_n 1, 1) := by decide +kernel
theorem dX9_mayCome_48 : decode cX9_mayCome 48 = .ok (.bipush 10, 2) := by decide +kernel
theorem dX9_mayCome_50 : decode cX9_mayCome 50 = .ok (.iload_n 2, 1) := by decide +kernel
theorem dX9_mayCome_51 : decode cX9_mayCome 51 = .ok (.isub, 1) := by decide +kernel
theorem dX9_mayCome_52 : decode cX9_mayCome 52 = .ok (.imul, 1) := by decide +kernel
theorem dX9_mayCome_53 : decode cX9_mayCome 53 = .ok (.i2l, 1) := by decide +kernel
theorem dX9_mayCome_54 : decode cX9_mayCome 54 = .ok (.lstore 7, 2) := by decide +kernel
theorem dX9_mayCome_56 : decode cX9_mayCome 56 = .ok (.aload_n 0, 1) := by decide +kernel
theorem dX9_mayCome_57 : decode cX9_mayCome 57 = .ok (.getfield 21, 3) := by decide +kernel
theorem dX9_mayCome_60 : decode cX9_mayCome 60 = .ok (.istore 9, 2) := by decide +kernel
theorem dX9_mayCome_62 : decode cX9_mayCome 62 = .ok (.iload 9, 2) := by decide +kernel
theorem dX9_mayCome_64 : decode cX9_mayCome 64 = .ok (.ifCond .lt 77, 3) := by decide +kernel
theorem dX9_mayCome_67 : decode cX9_mayCome 67 = .ok (.iload 9, 2) := by decide +kernel
theorem dX9_mayCome_69 : decode cX9_mayCome 69 = .ok (.istore 10, 2) := by decide +kernel
theorem dX9_mayCome_71 : decode cX9_mayCome 71 = .ok (.iload 10, 2) := by decide +kernel
theorem dX9_mayCome_73 : decode cX9_mayCome 73 = .ok (.ifCond .lt 62, 3) := by decide +kernel
theorem dX9_mayCome_76 : decode cX9_mayCome 76 = .ok (.aload_n 0, 1) := by decide +kernel
theorem dX9_mayCome_77 : decode cX9_mayCome 77 = .ok (.getfield 11, 3) := by decide +kernel
theorem dX9_mayCome_80 : decode cX9_mayCome 80 = .ok (.iload 9, 2) := by decide +kernel
theorem dX9_mayCome_82 : decode cX9_mayCome 82 = .ok (.bipush 9, 2) := by decide +kernel
theorem dX9_mayCome_84 : decode cX9_mayCome 84 = .ok (.imul, 1) := by decide +kernel
theorem dX9_mayCome_85 : decode cX9_mayCome 85 = .ok (.iload 10, 2) := by decide +kernel
theorem dX9_mayCome_87 : decode cX9_mayCome 87 = .ok (.iadd, 1) := by decide +kernel
theorem dX9_mayCome_88 : decode cX9_mayCome 88 = .ok (.aload_n 0, 1) := by decide +kernel
theorem dX9_mayCome_89 : decode cX9_mayCome 89 = .ok (.iload 9, 2) := by decide +kernel
theorem dX9_mayCome_91 : decode cX9_mayCome 91 = .ok (.iload 10, 2) := by decide +kernel
theorem dX9_mayCome_93 : decode cX9_mayCome 93 = .ok (.invokevirtual 31, 3) := by decide +kernel
theorem dX9_mayCome_96 : decode cX9_mayCome 96 = .ok (.lload_n 3, 1) := by decide +kernel
theorem dX9_mayCome_97 : decode cX9_mayCome 97 = .ok (.lmul, 1) := by decide +kernel
theorem dX9_mayCome_98 : decode cX9_mayCome 98 = .ok (.aload_n 0, 1) := by decide +kernel
theorem dX9_mayCome_99 : decode cX9_mayCome 99 = .ok (.iload 9, 2) := by decide +kernel
theorem dX9_mayCome_101 : decode cX9_mayCome 101 = .ok (.iconst 1, 1) := by decide +kernel
theorem dX9_mayCome_102 : decode cX9_mayCome 102 = .ok (.isub, 1) := by decide +kernel
theorem dX9_mayCome_103 : decode cX9_mayCome 103 = .ok (.iload 10, 2) := by decide +kernel
theorem dX9_mayCome_105 : decode cX9_mayCome 105 = .ok (.invokevirtual 31, 3) := by decide +kernel
theorem dX9_mayCome_108 : decode cX9_mayCome 108 = .ok (.lload 7, 2) := by decide +kernel
theorem dX9_mayCome_110 : decode cX9_mayCome 110 = .ok (.lmul, 1) := by decide +kernel
theorem dX9_mayCome_111 : decode cX9_mayCome 111 = .ok (.ladd, 1) := by decide +kernel
theorem dX9_mayCome_112 : decode cX9_mayCome 112 = .ok (.aload_n 0, 1) := by decide +kernel
theorem dX9_mayCome_113 : decode cX9_mayCome 113 = .ok (.iload 9, 2) := by decide +kernel
theorem dX9_mayCome_115 : decode cX9_mayCome 115 = .ok (.iconst 1, 1) := by decide +kernel
theorem dX9_mayCome_116 : decode cX9_mayCome 116 = .ok (.isub, 1) := by decide +kernel
theorem dX9_mayCome_117 : decode cX9_mayCome 117 = .ok (.iload 10, 2) := by decide +kernel
theorem dX9_mayCome_119 : decode cX9_mayCome 119 = .ok (.iconst 1, 1) := by decide +kernel
theorem dX9_mayCome_120 : decode cX9_mayCome 120 = .ok (.isub, 1) := by decide +kernel
theorem dX9_mayCome_121 : decode cX9_mayCome 121 = .ok (.invokevirtual 31, 3) := by decide +kernel
theorem dX9_mayCome_124 : decode cX9_mayCome 124 = .ok (.lload 5, 2) := by decide +kernel
theorem dX9_mayCome_126 : decode cX9_mayCome 126 = .ok (.lmul, 1) := by decide +kernel
theorem dX9_mayCome_127 : decode cX9_mayCome 127 = .ok (.ladd, 1) := by decide +kernel
theorem dX9_mayCome_128 : decode cX9_mayCome 128 = .ok (.lastore, 1) := by decide +kernel
theorem dX9_mayCome_129 : decode cX9_mayCome 129 = .ok (.iinc 10 (-1), 3) := by decide +kernel
theorem dX9_mayCome_132 : decode cX9_mayCome 132 = .ok (.goto (-61), 3) := by decide +kernel
theorem dX9_mayCome_135 : decode cX9_mayCome 135 = .ok (.iinc 9 (-1), 3) := by decide +kernel
theorem dX9_mayCome_138 : decode cX9_mayCome 138 = .ok (.goto (-76), 3) := by decide +kernel
theorem dX9_mayCome_141 : decode cX9_mayCome 141 = .ok (.return_, 1) := by decide +kernel
theorem dX9_waysIn_0 : decode cX9_waysIn 0 = .ok (.lconst 0, 1) := by decide +kernel
theorem dX9_waysIn_1 : decode cX9_waysIn 1 = .ok (.lstore_n 2, 1) := by decide +kernel
theorem dX9_waysIn_2 : decode cX9_waysIn 2 = .ok (.iconst 1, 1) := by decide +kernel
theorem dX9_waysIn_3 : decode cX9_waysIn 3 = .ok (.istore 4, 2) := by decide +kernel
theorem dX9_waysIn_5 : decode cX9_waysIn 5 = .ok (.iload 4, 2) := by decide +kernel
theorem dX9_waysIn_7 : decode cX9_waysIn 7 = .ok (.aload_n 0, 1) := by decide +kernel
theorem dX9_waysIn_8 : decode cX9_waysIn 8 = .ok (.getfield 21, 3) := by decide +kernel
theorem dX9_waysIn_11 : decode cX9_waysIn 11 = .ok (.if_icmp .gt 47, 3) := by decide +kernel
theorem dX9_waysIn_14 : decode cX9_waysIn 14 = .ok (.iconst 0, 1) := by decide +kernel
theorem dX9_waysIn_15 : decode cX9_waysIn 15 = .ok (.istore 5, 2) := by decide +kernel
theorem dX9_waysIn_17 : decode cX9_waysIn 17 = .ok (.iload 5, 2) := by decide +kernel
theorem dX9_waysIn_19 : decode cX9_waysIn 19 = .ok (.iload 4, 2) := by decide +kernel
theorem dX9_waysIn_21 : decode cX9_waysIn 21 = .ok (.if_icmp .gt 31, 3) := by decide +kernel
theorem dX9_waysIn_24 : decode cX9_waysIn 24 = .ok (.aload_n 1, 1) := by decide +kernel
theorem dX9_waysIn_25 : decode cX9_waysIn 25 = .ok (.iload 5, 2) := by decide +kernel
theorem dX9_waysIn_27 : decode cX9_waysIn 27 = .ok (.iload 4, 2) := by decide +kernel
theorem dX9_waysIn_29 : decode cX9_waysIn 29 = .ok (.invokevirtual 35, 3) := by decide +kernel
theorem dX9_waysIn_32 : decode cX9_waysIn 32 = .ok (.ifCond .eq 14, 3) := by decide +kernel
theorem dX9_waysIn_35 : decode cX9_waysIn 35 = .ok (.lload_n 2, 1) := by decide +kernel
theorem dX9_waysIn_36 : decode cX9_waysIn 36 = .ok (.aload_n 0, 1) := by decide +kernel
theorem dX9_waysIn_37 : decode cX9_waysIn 37 = .ok (.iload 4, 2) := by decide +kernel
theorem dX9_waysIn_39 : decode cX9_waysIn 39 = .ok (.iload 5, 2) := by decide +kernel
theorem dX9_waysIn_41 : decode cX9_waysIn 41 = .ok (.invokevirtual 31, 3) := by decide +kernel
theorem dX9_waysIn_44 : decode cX9_waysIn 44 = .ok (.ladd, 1) := by decide +kernel
theorem dX9_waysIn_45 : decode cX9_waysIn 45 = .ok (.lstore_n 2, 1) := by decide +kernel
theorem dX9_waysIn_46 : decode cX9_waysIn 46 = .ok (.iinc 5 1, 3) := by decide +kernel
theorem dX9_waysIn_49 : decode cX9_waysIn 49 = .ok (.goto (-32), 3) := by decide +kernel
theorem dX9_waysIn_52 : decode cX9_waysIn 52 = .ok (.iinc 4 1, 3) := by decide +kernel
theorem dX9_waysIn_55 : decode cX9_waysIn 55 = .ok (.goto (-50), 3) := by decide +kernel
theorem dX9_waysIn_58 : decode cX9_waysIn 58 = .ok (.lload_n 2, 1) := by decide +kernel
theorem dX9_waysIn_59 : decode cX9_waysIn 59 = .ok (.lreturn, 1) := by decide +kernel
theorem dX9_all_0 : decode cX9_all 0 = .ok (.aload_n 0, 1) := by decide +kernel
theorem dX9_all_1 : decode cX9_all 1 = .ok (.getfield 25, 3) := by decide +kernel
theorem dX9_all_4 : decode cX9_all 4 = .ok (.lreturn, 1) := by decide +kernel
theorem dX9_waysTo_0 : decode cX9_waysTo 0 = .ok (.iload_n 1, 1) := by decide +kernel
theorem dX9_waysTo_1 : decode cX9_waysTo 1 = .ok (.ifCond .lt 32, 3) := by decide +kernel
theorem dX9_waysTo_4 : decode cX9_waysTo 4 = .ok (.iload_n 1, 1) := by decide +kernel
theorem dX9_waysTo_5 : decode cX9_waysTo 5 = .ok (.bipush 9, 2) := by decide +kernel
theorem dX9_waysTo_7 : decode cX9_waysTo 7 = .ok (.if_icmp .ge 26, 3) := by decide +kernel
theorem dX9_waysTo_10 : decode cX9_waysTo 10 = .ok (.iload_n 2, 1) := by decide +kernel
theorem dX9_waysTo_11 : decode cX9_waysTo 11 = .ok (.ifCond .lt 22, 3) := by decide +kernel
theorem dX9_waysTo_14 : decode cX9_waysTo 14 = .ok (.iload_n 2, 1) := by decide +kernel
theorem dX9_waysTo_15 : decode cX9_waysTo 15 = .ok (.iload_n 1, 1) := by decide +kernel
theorem dX9_waysTo_16 : decode cX9_waysTo 16 = .ok (.if_icmp .gt 17, 3) := by decide +kernel
theorem dX9_waysTo_19 : decode cX9_waysTo 19 = .ok (.aload_n 0, 1) := by decide +kernel
theorem dX9_waysTo_20 : decode cX9_waysTo 20 = .ok (.getfield 11, 3) := by decide +kernel
theorem dX9_waysTo_23 : decode cX9_waysTo 23 = .ok (.iload_n 1, 1) := by decide +kernel
theorem dX9_waysTo_24 : decode cX9_waysTo 24 = .ok (.bipush 9, 2) := by decide +kernel
theorem dX9_waysTo_26 : decode cX9_waysTo 26 = .ok (.imul, 1) := by decide +kernel
theorem dX9_waysTo_27 : decode cX9_waysTo 27 = .ok (.iload_n 2, 1) := by decide +kernel
theorem dX9_waysTo_28 : decode cX9_waysTo 28 = .ok (.iadd, 1) := by decide +kernel
theorem dX9_waysTo_29 : decode cX9_waysTo 29 = .ok (.laload, 1) := by decide +kernel
theorem dX9_waysTo_30 : decode cX9_waysTo 30 = .ok (.goto 4, 3) := by decide +kernel
theorem dX9_waysTo_33 : decode cX9_waysTo 33 = .ok (.lconst 0, 1) := by decide +kernel
theorem dX9_waysTo_34 : decode cX9_waysTo 34 = .ok (.lreturn, 1) := by decide +kernel
theorem dX10_init_0 : decode cX10_init 0 = .ok (.aload_n 0, 1) := by decide +kernel
theorem dX10_init_1 : decode cX10_init 1 = .ok (.iload_n 1, 1) := by decide +kernel
theorem dX10_init_2 : decode cX10_init 2 = .ok (.iload_n 2, 1) := by decide +kernel
theorem dX10_init_3 : decode cX10_init 3 = .ok (.invokespecial 3, 3) := by decide +kernel
theorem dX10_init_6 : decode cX10_init 6 = .ok (.aload_n 0, 1) := by decide +kernel
theorem dX10_init_7 : decode cX10_init 7 = .ok (.iload_n 3, 1) := by decide +kernel
theorem dX10_init_8 : decode cX10_init 8 = .ok (.putfield 9, 3) := by decide +kernel
theorem dX10_init_11 : decode cX10_init 11 = .ok (.return_, 1) := by decide +kernel
theorem dX10_kind_0 : decode cX10_kind 0 = .ok (.iconst 3, 1) := by decide +kernel
theorem dX10_kind_1 : decode cX10_kind 1 = .ok (.ireturn, 1) := by decide +kernel
theorem dX10_n_0 : decode cX10_n 0 = .ok (.aload_n 0, 1) := by decide +kernel
theorem dX10_n_1 : decode cX10_n 1 = .ok (.getfield 9, 3) := by decide +kernel
theorem dX10_n_4 : decode cX10_n 4 = .ok (.ireturn, 1) := by decide +kernel
theorem dX10_blackOfStranger_0 : decode cX10_blackOfStranger 0 = .ok (.iload_n 2, 1) := by decide +kernel
theorem dX10_blackOfStranger_1 : decode cX10_blackOfStranger 1 = .ok (.aload_n 0, 1) := by decide +kernel
theorem dX10_blackOfStranger_2 : decode cX10_blackOfStranger 2 = .ok (.getfield 9, 3) := by decide +kernel
theorem dX10_blackOfStranger_5 : decode cX10_blackOfStranger 5 = .ok (.if_icmp .ne 8, 3) := by decide +kernel
theorem dX10_blackOfStranger_8 : decode cX10_blackOfStranger 8 = .ok (.bipush 10, 2) := by decide +kernel
theorem dX10_blackOfStranger_10 : decode cX10_blackOfStranger 10 = .ok (.goto 4, 3) := by decide +kernel
theorem dX10_blackOfStranger_13 : decode cX10_blackOfStranger 13 = .ok (.iload_n 1, 1) := by decide +kernel
theorem dX10_blackOfStranger_14 : decode cX10_blackOfStranger 14 = .ok (.ireturn, 1) := by decide +kernel
theorem dX11_init_0 : decode cX11_init 0 = .ok (.aload_n 0, 1) := by decide +kernel
theorem dX11_init_1 : decode cX11_init 1 = .ok (.invokespecial 3, 3) := by decide +kernel
theorem dX11_init_4 : decode cX11_init 4 = .ok (.aload_n 0, 1) := by decide +kernel
theorem dX11_init_5 : decode cX11_init 5 = .ok (.new 9, 3) := by decide +kernel
theorem dX11_init_8 : decode cX11_init 8 = .ok (.dup, 1) := by decide +kernel
theorem dX11_init_9 : decode cX11_init 9 = .ok (.invokespecial 11, 3) := by decide +kernel
theorem dX11_init_12 : decode cX11_init 12 = .ok (.putfield 12, 3) := by decide +kernel
theorem dX11_init_15 : decode cX11_init 15 = .ok (.aload_n 0, 1) := by decide +kernel
theorem dX11_init_16 : decode cX11_init 16 = .ok (.bipush 6, 2) := by decide +kernel
theorem dX11_init_18 : decode cX11_init 18 = .ok (.anewarray 16, 3) := by decide +kernel
theorem dX11_init_21 : decode cX11_init 21 = .ok (.putfield 18, 3) := by decide +kernel
theorem dX11_init_24 : decode cX11_init 24 = .ok (.aload_n 0, 1) := by decide +kernel
theorem dX11_init_25 : decode cX11_init 25 = .ok (.bipush 8, 2) := by decide +kernel
theorem dX11_init_27 : decode cX11_init 27 = .ok (.anewarray 22, 3) := by decide +kernel
theorem dX11_init_30 : decode cX11_init 30 = .ok (.putfield 24, 3) := by decide +kernel
theorem dX11_init_33 : decode cX11_init 33 = .ok (.aload_n 0, 1) := by decide +kernel
theorem dX11_init_34 : decode cX11_init 34 = .ok (.bipush 6, 2) := by decide +kernel
theorem dX11_init_36 : decode cX11_init 36 = .ok (.newarray .int, 2) := by decide +kernel
theorem dX11_init_38 : decode cX11_init 38 = .ok (.putfield 28, 3) := by decide +kernel
theorem dX11_init_41 : decode cX11_init 41 = .ok (.aload_n 0, 1) := by decide +kernel
theorem dX11_init_42 : decode cX11_init 42 = .ok (.new 32, 3) := by decide +kernel
theorem dX11_init_45 : decode cX11_init 45 = .ok (.dup, 1) := by decide +kernel
theorem dX11_init_46 : decode cX11_init 46 = .ok (.invokespecial 34, 3) := by decide +kernel
theorem dX11_init_49 : decode cX11_init 49 = .ok (.putfield 35, 3) := by decide +kernel
theorem dX11_init_52 : decode cX11_init 52 = .ok (.aload_n 0, 1) := by decide +kernel
theorem dX11_init_53 : decode cX11_init 53 = .ok (.new 39, 3) := by decide +kernel
theorem dX11_init_56 : decode cX11_init 56 = .ok (.dup, 1) := by decide +kernel
theorem dX11_init_57 : decode cX11_init 57 = .ok (.invokespecial 41, 3) := by decide +kernel
theorem dX11_init_60 : decode cX11_init 60 = .ok (.putfield 42, 3) := by decide +kernel
theorem dX11_init_63 : decode cX11_init 63 = .ok (.aload_n 0, 1) := by decide +kernel
theorem dX11_init_64 : decode cX11_init 64 = .ok (.new 46, 3) := by decide +kernel
theorem dX11_init_67 : decode cX11_init 67 = .ok (.dup, 1) := by decide +kernel
theorem dX11_init_68 : decode cX11_init 68 = .ok (.invokespecial 48, 3) := by decide +kernel
theorem dX11_init_71 : decode cX11_init 71 = .ok (.putfield 49, 3) := by decide +kernel
theorem dX11_init_74 : decode cX11_init 74 = .ok (.aload_n 0, 1) := by decide +kernel
theorem dX11_init_75 : decode cX11_init 75 = .ok (.new 53, 3) := by decide +kernel
theorem dX11_init_78 : decode cX11_init 78 = .ok (.dup, 1) := by decide +kernel
theorem dX11_init_79 : decode cX11_init 79 = .ok (.invokespecial 55, 3) := by decide +kernel
theorem dX11_init_82 : decode cX11_init 82 = .ok (.putfield 56, 3) := by decide +kernel
theorem dX11_init_85 : decode cX11_init 85 = .ok (.aload_n 0, 1) := by decide +kernel
theorem dX11_init_86 : decode cX11_init 86 = .ok (.iconst 4, 1) := by decide +kernel
theorem dX11_init_87 : decode cX11_init 87 = .ok (.newarray .long, 2) := by decide +kernel
theorem dX11_init_89 : decode cX11_init 89 = .ok (.putfield 60, 3) := by decide +kernel
theorem dX11_init_92 : decode cX11_init 92 = .ok (.return_, 1) := by decide +kernel
theorem dX11_letters_0 : decode cX11_letters 0 = .ok (.aload_n 0, 1) := by decide +kernel
theorem dX11_letters_1 : decode cX11_letters 1 = .ok (.getfield 12, 3) := by decide +kernel
theorem dX11_letters_4 : decode cX11_letters 4 = .ok (.lload_n 1, 1) := by decide +kernel
theorem dX11_letters_5 : decode cX11_letters 5 = .ok (.invokevirtual 64, 3) := by decide +kernel
theorem dX11_letters_8 : decode cX11_letters 8 = .ok (.ireturn, 1) := by decide +kernel
theorem dX11_blank_0 : decode cX11_blank 0 = .ok (.aload_n 0, 1) := by decide +kernel
theorem dX11_blank_1 : decode cX11_blank 1 = .ok (.getfield 12, 3) := by decide +kernel
theorem dX11_blank_4 : decode cX11_blank 4 = .ok (.invokevirtual 68, 3) := by decide +kernel
theorem dX11_blank_7 : decode cX11_blank 7 = .ok (.ireturn, 1) := by decide +kernel
theorem dX11_fault_0 : decode cX11_fault 0 = .ok (.aload_n 0, 1) := by decide +kernel
theorem dX11_fault_1 : decode cX11_fault 1 = .ok (.getfield 12, 3) := by decide +kernel
theorem dX11_fault_4 : decode cX11_fault 4 = .ok (.invokevirtual 72, 3) := by decide +kernel
theorem dX11_fault_7 : decode cX11_fault 7 = .ok (.ireturn, 1) := by decide +kernel
theorem dX11_rule_0 : decode cX11_rule 0 = .ok (.aload_n 0, 1) := by decide +kernel
theorem dX11_rule_1 : decode cX11_rule 1 = .ok (.getfield 12, 3) := by decide +kernel
theorem dX11_rule_4 : decode cX11_rule 4 = .ok (.invokevirtual 75, 3) := by decide +kernel
theorem dX11_rule_7 : decode cX11_rule 7 = .ok (.ifCond .ne 6, 3) := by decide +kernel
theorem dX11_rule_10 : decode cX11_rule 10 = .ok (.bipush (-103), 2) := by decide +kernel
theorem dX11_rule_12 : decode cX11_rule 12 = .ok (.ireturn, 1) := by decide +kernel
theorem dX11_rule_13 : decode cX11_rule 13 = .ok (.aload_n 0, 1) := by decide +kernel
theorem dX11_rule_14 : decode cX11_rule 14 = .ok (.getfield 79, 3) := by decide +kernel
theorem dX11_rule_17 : decode cX11_rule 17 = .ok (.bipush 6, 2) := by decide +kernel
theorem dX11_rule_19 : decode cX11_rule 19 = .ok (.if_icmp .lt 6, 3) := by decide +kernel
theorem dX11_rule_22 : decode cX11_rule 22 = .ok (.bipush (-104), 2) := by decide +kernel
theorem dX11_rule_24 : decode cX11_rule 24 = .ok (.ireturn, 1) := by decide +kernel
theorem dX11_rule_25 : decode cX11_rule 25 = .ok (.aload_n 0, 1) := by decide +kernel
theorem dX11_rule_26 : decode cX11_rule 26 = .ok (.getfield 18, 3) := by decide +kernel
theorem dX11_rule_29 : decode cX11_rule 29 = .ok (.aload_n 0, 1) := by decide +kernel
theorem dX11_rule_30 : decode cX11_rule 30 = .ok (.getfield 79, 3) := by decide +kernel
theorem dX11_rule_33 : decode cX11_rule 33 = .ok (.aload_n 0, 1) := by decide +kernel
theorem dX11_rule_34 : decode cX11_rule 34 = .ok (.getfield 12, 3) := by decide +kernel
theorem dX11_rule_37 : decode cX11_rule 37 = .ok (.invokevirtual 83, 3) := by decide +kernel
theorem dX11_rule_40 : decode cX11_rule 40 = .ok (.aastore, 1) := by decide +kernel
theorem dX11_rule_41 : decode cX11_rule 41 = .ok (.aload_n 0, 1) := by decide +kernel
theorem dX11_rule_42 : decode cX11_rule 42 = .ok (.getfield 12, 3) := by decide +kernel
theorem dX11_rule_45 : decode cX11_rule 45 = .ok (.invokevirtual 68, 3) := by decide +kernel
theorem dX11_rule_48 : decode cX11_rule 48 = .ok (.pop, 1) := by decide +kernel
theorem dX11_rule_49 : decode cX11_rule 49 = .ok (.aload_n 0, 1) := by decide +kernel
theorem dX11_rule_50 : decode cX11_rule 50 = .ok (.dup, 1) := by decide +kernel
theorem dX11_rule_51 : decode cX11_rule 51 = .ok (.getfield 79, 3) := by decide +kernel
theorem dX11_rule_54 : decode cX11_rule 54 = .ok (.iconst 1, 1) := by decide +kernel
theorem dX11_rule_55 : decode cX11_rule 55 = .ok (.iadd, 1) := by decide +kernel
theorem dX11_rule_56 : decode cX11_rule 56 = .ok (.putfield 79, 3) := by decide +kernel
theorem dX11_rule_59 : decode cX11_rule 59 = .ok (.aload_n 0, 1) := by decide +kernel
theorem dX11_rule_60 : decode cX11_rule 60 = .ok (.getfield 79, 3) := by decide +kernel
theorem dX11_rule_63 : decode cX11_rule 63 = .ok (.iconst 1, 1) := by decide +kernel
theorem dX11_rule_64 : decode cX11_rule 64 = .ok (.isub, 1) := by decide +kernel
theorem dX11_rule_65 : decode cX11_rule 65 = .ok (.ireturn, 1) := by decide +kernel
theorem dX11_ruleTold_0 : decode cX11_ruleTold 0 = .ok (.aload_n 0, 1) := by decide +kernel
theorem dX11_ruleTold_1 : decode cX11_ruleTold 1 = .ok (.iload_n 1, 1) := by decide +kernel
theorem dX11_ruleTold_2 : decode cX11_ruleTold 2 = .ok (.invokevirtual 87, 3) := by decide +kernel
theorem dX11_ruleTold_5 : decode cX11_ruleTold 5 = .ok (.astore_n 3, 1) := by decide +kernel
theorem dX11_ruleTold_6 : decode cX11_ruleTold 6 = .ok (.aload_n 3, 1) := by decide +kernel
theorem dX11_ruleTold_7 : decode cX11_ruleTold 7 = .ok (.ifnonnull 6, 3) := by decide +kernel
theorem dX11_ruleTold_10 : decode cX11_ruleTold 10 = .ok (.bipush (-101), 2) := by decide +kernel
theorem dX11_ruleTold_12 : decode cX11_ruleTold 12 = .ok (.ireturn, 1) := by decide +kernel
theorem dX11_ruleTold_13 : decode cX11_ruleTold 13 = .ok (.iload_n 2, 1) := by decide +kernel
theorem dX11_ruleTold_14 : decode cX11_ruleTold 14 = .ok (.iconst 0, 1) := by decide +kernel
theorem dX11_ruleTold_15 : decode cX11_ruleTold 15 = .ok (.iconst 4, 1) := by decide +kernel
theorem dX11_ruleTold_16 : decode cX11_ruleTold 16 = .ok (.invokestatic 91, 3) := by decide +kernel
theorem dX11_ruleTold_19 : decode cX11_ruleTold 19 = .ok (.ifCond .ne 6, 3) := by decide +kernel
theorem dX11_ruleTold_22 : decode cX11_ruleTold 22 = .ok (.bipush (-102), 2) := by decide +kernel
theorem dX11_ruleTold_24 : decode cX11_ruleTold 24 = .ok (.ireturn, 1) := by decide +kernel
theorem dX11_ruleTold_25 : decode cX11_ruleTold 25 = .ok (.aload_n 3, 1) := by decide +kernel
theorem dX11_ruleTold_26 : decode cX11_ruleTold 26 = .ok (.iload_n 2, 1) := by decide +kernel
theorem dX11_ruleTold_27 : decode cX11_ruleTold 27 = .ok (.invokevirtual 95, 3) := by decide +kernel
theorem dX11_ruleTold_30 : decode cX11_ruleTold 30 = .ok (.ireturn, 1) := by decide +kernel
theorem dX11_member_0 : decode cX11_member 0 = .ok (.iload_n 1, 1) := by decide +kernel
theorem dX11_member_1 : decode cX11_member 1 = .ok (.iconst 0, 1) := by decide +kernel
theorem dX11_member_2 : decode cX11_member 2 = .ok (.iconst 4, 1) := by decide +kernel
theorem dX11_member_3 : decode cX11_member 3 = .ok (.invokestatic 91, 3) := by decide +kernel
theorem dX11_member_6 : decode cX11_member 6 = .ok (.ifCond .ne 6, 3) := by decide +kernel
theorem dX11_member_9 : decode cX11_member 9 = .ok (.bipush (-102), 2) := by decide +kernel
theorem dX11_member_11 : decode cX11_member 11 = .ok (.ireturn, 1) := by decide +kernel
theorem dX11_member_12 : decode cX11_member 12 = .ok (.iload_n 1, 1) := by decide +kernel
theorem dX11_member_13 : decode cX11_member 13 = .ok (.iconst 3, 1) := by decide +kernel
theorem dX11_member_14 : decode cX11_member 14 = .ok (.if_icmp .lt 14, 3) := by decide +kernel
theorem dX11_member_17 : decode cX11_member 17 = .ok (.aload_n 0, 1) := by decide +kernel
theorem dX11_member_18 : decode cX11_member 18 = .ok (.iload_n 2, 1) := by decide +kernel
theorem dX11_member_19 : decode cX11_member 19 = .ok (.invokevirtual 99, 3) := by decide +kernel
theorem dX11_member_22 : decode cX11_member 22 = .ok (.ifnonnull 6, 3) := by decide +kernel
theorem dX11_member_25 : decode cX11_member 25 = .ok (.bipush (-101), 2) := by decide +kernel
theorem dX11_member_27 : decode cX11_member 27 = .ok (.ireturn, 1) := by decide +kernel
theorem dX11_member_28 : decode cX11_member 28 = .ok (.iload_n 1, 1) := by decide +kernel
theorem dX11_member_29 : decode cX11_member 29 = .ok (.iconst 3, 1) := by decide +kernel
theorem dX11_member_30 : decode cX11_member 30 = .ok (.if_icmp .ge 24, 3) := by decide +kernel
theorem dX11_member_33 : decode cX11_member 33 = .ok (.iload_n 2, 1) := by decide +kernel
theorem dX11_member_34 : decode cX11_member 34 = .ok (.iconst 0, 1) := by decide +kernel
theorem dX11_member_35 : decode cX11_member 35 = .ok (.iload_n 1, 1) := by decide +kernel
theorem dX11_member_36 : decode cX11_member 36 = .ok (.iconst 2, 1) := by decide +kernel
theorem dX11_member_37 : decode cX11_member 37 = .ok (.if_icmp .ne 7, 3) := by decide +kernel
theorem dX11_member_40 : decode cX11_member 40 = .ok (.iconst 5, 1) := by decide +kernel
theorem dX11_member_41 : decode cX11_member 41 = .ok (.goto 4, 3) := by decide +kernel
theorem dX11_member_44 : decode cX11_member 44 = .ok (.iconst 0, 1) := by decide +kernel
theorem dX11_member_45 : decode cX11_member 45 = .ok (.invokestatic 91, 3) := by decide +kernel
theorem dX11_member_48 : decode cX11_member 48 = .ok (.ifCond .ne 6, 3) := by decide +kernel
theorem dX11_member_51 : decode cX11_member 51 = .ok (.bipush (-102), 2) := by decide +kernel
theorem dX11_member_53 : decode cX11_member 53 = .ok (.ireturn, 1) := by decide +kernel
theorem dX11_member_54 : decode cX11_member 54 = .ok (.iload_n 3, 1) := by decide +kernel
theorem dX11_member_55 : decode cX11_member 55 = .ok (.iconst 0, 1) := by decide +kernel
theorem dX11_member_56 : decode cX11_member 56 = .ok (.bipush 10, 2) := by decide +kernel
theorem dX11_member_58 : decode cX11_member 58 = .ok (.invokestatic 91, 3) := by decide +kernel
theorem dX11_member_61 : decode cX11_member 61 = .ok (.ifCond .ne 6, 3) := by decide +kernel
theorem dX11_member_64 : decode cX11_member 64 = .ok (.bipush (-102), 2) := by decide +kernel
theorem dX11_member_66 : decode cX11_member 66 = .ok (.ireturn, 1) := by decide +kernel
theorem dX11_member_67 : decode cX11_member 67 = .ok (.aload_n 0, 1) := by decide +kernel
theorem dX11_member_68 : decode cX11_member 68 = .ok (.getfield 103, 3) := by decide +kernel
theorem dX11_member_71 : decode cX11_member 71 = .ok (.bipush 8, 2) := by decide +kernel
theorem dX11_member_73 : decode cX11_member 73 = .ok (.if_icmp .lt 6, 3) := by decide +kernel
theorem dX11_member_76 : decode cX11_member 76 = .ok (.bipush (-104), 2) := by decide +kernel
theorem dX11_member_78 : decode cX11_member 78 = .ok (.ireturn, 1) := by decide +kernel
theorem dX11_member_79 : decode cX11_member 79 = .ok (.aload_n 0, 1) := by decide +kernel
theorem dX11_member_80 : decode cX11_member 80 = .ok (.getfield 24, 3) := by decide +kernel
theorem dX11_member_83 : decode cX11_member 83 = .ok (.aload_n 0, 1) := by decide +kernel
theorem dX11_member_84 : decode cX11_member 84 = .ok (.getfield 103, 3) := by decide +kernel
theorem dX11_member_87 : decode cX11_member 87 = .ok (.aload_n 0, 1) := by decide +kernel
theorem dX11_member_88 : decode cX11_member 88 = .ok (.iload_n 1, 1) := by decide +kernel
theorem dX11_member_89 : decode cX11_member 89 = .ok (.iload_n 2, 1) := by decide +kernel
theorem dX11_member_90 : decode cX11_member 90 = .ok (.iload_n 3, 1) := by decide +kernel
theorem dX11_member_91 : decode cX11_member 91 = .ok (.invokevirtual 106, 3) := by decide +kernel
theorem dX11_member_94 : decode cX11_member 94 = .ok (.aastore, 1) := by decide +kernel
theorem dX11_member_95 : decode cX11_member 95 = .ok (.aload_n 0, 1) := by decide +kernel
theorem dX11_member_96 : decode cX11_member 96 = .ok (.dup, 1) := by decide +kernel
theorem dX11_member_97 : decode cX11_member 97 = .ok (.getfield 103, 3) := by decide +kernel
theorem dX11_member_100 : decode cX11_member 100 = .ok (.iconst 1, 1) := by decide +kernel
theorem dX11_member_101 : decode cX11_member 101 = .ok (.iadd, 1) := by decide +kernel
theorem dX11_member_102 : decode cX11_member 102 = .ok (.putfield 103, 3) := by decide +kernel
theorem dX11_member_105 : decode cX11_member 105 = .ok (.aload_n 0, 1) := by decide +kernel
theorem dX11_member_106 : decode cX11_member 106 = .ok (.getfield 103, 3) := by decide +kernel
theorem dX11_member_109 : decode cX11_member 109 = .ok (.iconst 1, 1) := by decide +kernel
theorem dX11_member_110 : decode cX11_member 110 = .ok (.isub, 1) := by decide +kernel
theorem dX11_member_111 : decode cX11_member 111 = .ok (.ireturn, 1) := by decide +kernel
theorem dX11_as_0 : decode cX11_as 0 = .ok (.aload_n 0, 1) := by decide +kernel
theorem dX11_as_1 : decode cX11_as 1 = .ok (.iload_n 1, 1) := by decide +kernel
theorem dX11_as_2 : decode cX11_as 2 = .ok (.invokevirtual 99, 3) := by decide +kernel
theorem dX11_as_5 : decode cX11_as 5 = .ok (.astore_n 3, 1) := by decide +kernel
theorem dX11_as_6 : decode cX11_as 6 = .ok (.aload_n 3, 1) := by decide +kernel
theorem dX11_as_7 : decode cX11_as 7 = .ok (.ifnonnull 6, 3) := by decide +kernel
theorem dX11_as_10 : decode cX11_as 10 = .ok (.bipush (-101), 2) := by decide +kernel
theorem dX11_as_12 : decode cX11_as 12 = .ok (.ireturn, 1) := by decide +kernel
theorem dX11_as_13 : decode cX11_as 13 = .ok (.iload_n 2, 1) := by decide +kernel
theorem dX11_as_14 : decode cX11_as 14 = .ok (.iconst 0, 1) := by decide +kernel
theorem dX11_as_15 : decode cX11_as 15 = .ok (.iconst 4, 1) := by decide +kernel
theorem dX11_as_16 : decode cX11_as 16 = .ok (.invokestatic 91, 3) := by decide +kernel
theorem dX11_as_19 : decode cX11_as 19 = .ok (.ifCond .ne 6, 3) := by decide +kernel
theorem dX11_as_22 : decode cX11_as 22 = .ok (.bipush (-102), 2) := by decide +kernel
theorem dX11_as_24 : decode cX11_as 24 = .ok (.ireturn, 1) := by decide +kernel
theorem dX11_as_25 : decode cX11_as 25 = .ok (.aload_n 3, 1) := by decide +kernel
theorem dX11_as_26 : decode cX11_as 26 = .ok (.iload_n 2, 1) := by decide +kernel
theorem dX11_as_27 : decode cX11_as 27 = .ok (.invokestatic 110, 3) := by decide +kernel
theorem dX11_as_30 : decode cX11_as 30 = .ok (.ifCond .eq 10, 3) := by decide +kernel
theorem dX11_as_33 : decode cX11_as 33 = .ok (.aload_n 3, 1) := by decide +kernel
theorem dX11_as_34 : decode cX11_as 34 = .ok (.getfield 114, 3) := by decide +kernel
theorem dX11_as_37 : decode cX11_as 37 = .ok (.goto 4, 3) := by decide +kernel
theorem dX11_as_40 : decode cX11_as 40 = .ok (.iconst (-1), 1) := by decide +kernel
theorem dX11_as_41 : decode cX11_as 41 = .ok (.ireturn, 1) := by decide +kernel
theorem dX11_about_0 : decode cX11_about 0 = .ok (.aload_n 0, 1) := by decide +kernel
theorem dX11_about_1 : decode cX11_about 1 = .ok (.iload_n 1, 1) := by decide +kernel
theorem dX11_about_2 : decode cX11_about 2 = .ok (.invokevirtual 99, 3) := by decide +kernel
theorem dX11_about_5 : decode cX11_about 5 = .ok (.astore_n 3, 1) := by decide +kernel
theorem dX11_about_6 : decode cX11_about 6 = .ok (.aload_n 3, 1) := by decide +kernel
theorem dX11_about_7 : decode cX11_about 7 = .ok (.ifnonnull 6, 3) := by decide +kernel
theorem dX11_about_10 : decode cX11_about 10 = .ok (.bipush (-101), 2) := by decide +kernel
theorem dX11_about_12 : decode cX11_about 12 = .ok (.ireturn, 1) := by decide +kernel
theorem dX11_about_13 : decode cX11_about 13 = .ok (.iload_n 2, 1) := by decide +kernel
theorem dX11_about_14 : decode cX11_about 14 = .ok (.tableswitch 41 0 2 #[26, 31, 36], 26) := by decide +kernel
theorem dX11_about_40 : decode cX11_about 40 = .ok (.aload_n 3, 1) := by decide +kernel
theorem dX11_about_41 : decode cX11_about 41 = .ok (.invokevirtual 117, 3) := by decide +kernel
theorem dX11_about_44 : decode cX11_about 44 = .ok (.ireturn, 1) := by decide +kernel
theorem dX11_about_45 : decode cX11_about 45 = .ok (.aload_n 3, 1) := by decide +kernel
theorem dX11_about_46 : decode cX11_about 46 = .ok (.invokevirtual 120, 3) := by decide +kernel
theorem dX11_about_49 : decode cX11_about 49 = .ok (.ireturn, 1) := by decide +kernel
theorem dX11_about_50 : decode cX11_about 50 = .ok (.aload_n 3, 1) := by decide +kernel
theorem dX11_about_51 : decode cX11_about 51 = .ok (.getfield 123, 3) := by decide +kernel
theorem dX11_about_54 : decode cX11_about 54 = .ok (.ireturn, 1) := by decide +kernel
theorem dX11_about_55 : decode cX11_about 55 = .ok (.bipush (-102), 2) := by decide +kernel
theorem dX11_about_57 : decode cX11_about 57 = .ok (.ireturn, 1) := by decide +kernel
theorem dX11_comes_0 : decode cX11_comes 0 = .ok (.aload_n 0, 1) := by decide +kernel
theorem dX11_comes_1 : decode cX11_comes 1 = .ok (.iload_n 1, 1) := by decide +kernel
theorem dX11_comes_2 : decode cX11_comes 2 = .ok (.invokevirtual 99, 3) := by decide +kernel
theorem dX11_comes_5 : decode cX11_comes 5 = .ok (.astore_n 3, 1) := by decide +kernel
theorem dX11_comes_6 : decode cX11_comes 6 = .ok (.aload_n 3, 1) := by decide +kernel
theorem dX11_comes_7 : decode cX11_comes 7 = .ok (.ifnonnull 6, 3) := by decide +kernel
theorem dX11_comes_10 : decode cX11_comes 10 = .ok (.bipush (-101), 2) := by decide +kernel
theorem dX11_comes_12 : decode cX11_comes 12 = .ok (.ireturn, 1) := by decide +kernel
theorem dX11_comes_13 : decode cX11_comes 13 = .ok (.iload_n 2, 1) := by decide +kernel
theorem dX11_comes_14 : decode cX11_comes 14 = .ok (.iconst 0, 1) := by decide +kernel
theorem dX11_comes_15 : decode cX11_comes 15 = .ok (.bipush 10, 2) := by decide +kernel
theorem dX11_comes_17 : decode cX11_comes 17 = .ok (.invokestatic 91, 3) := by decide +kernel
theorem dX11_comes_20 : decode cX11_comes 20 = .ok (.ifCond .ne 6, 3) := by decide +kernel
theorem dX11_comes_23 : decode cX11_comes 23 = .ok (.bipush (-102), 2) := by decide +kernel
theorem dX11_comes_25 : decode cX11_comes 25 = .ok (.ireturn, 1) := by decide +kernel
theorem dX11_comes_26 : decode cX11_comes 26 = .ok (.aload_n 3, 1) := by decide +kernel
theorem dX11_comes_27 : decode cX11_comes 27 = .ok (.getfield 123, 3) := by decide +kernel
theorem dX11_comes_30 : decode cX11_comes 30 = .ok (.istore 4, 2) := by decide +kernel
theorem dX11_comes_32 : decode cX11_comes 32 = .ok (.aload_n 3, 1) := by decide +kernel
theorem dX11_comes_33 : decode cX11_comes 33 = .ok (.iload_n 2, 1) := by decide +kernel
theorem dX11_comes_34 : decode cX11_comes 34 = .ok (.putfield 123, 3) := by decide +kernel
theorem dX11_comes_37 : decode cX11_comes 37 = .ok (.iload 4, 2) := by decide +kernel
theorem dX11_comes_39 : decode cX11_comes 39 = .ok (.ireturn, 1) := by decide +kernel
theorem dX11_candidate_0 : decode cX11_candidate 0 = .ok (.aload_n 0, 1) := by decide +kernel
theorem dX11_candidate_1 : decode cX11_candidate 1 = .ok (.iload_n 1, 1) := by decide +kernel
theorem dX11_candidate_2 : decode cX11_candidate 2 = .ok (.invokevirtual 99, 3) := by decide +kernel
theorem dX11_candidate_5 : decode cX11_candidate 5 = .ok (.ifnonnull 6, 3) := by decide +kernel
theorem dX11_candidate_8 : decode cX11_candidate 8 = .ok (.bipush (-101), 2) := by decide +kernel
theorem dX11_candidate_10 : decode cX11_candidate 10 = .ok (.ireturn, 1) := by decide +kernel
theorem dX11_candidate_11 : decode cX11_candidate 11 = .ok (.aload_n 0, 1) := by decide +kernel
theorem dX11_candidate_12 : decode cX11_candidate 12 = .ok (.getfield 126, 3) := by decide +kernel
theorem dX11_candidate_15 : decode cX11_candidate 15 = .ok (.bipush 6, 2) := by decide +kernel
theorem dX11_candidate_17 : decode cX11_candidate 17 = .ok (.if_icmp .lt 6, 3) := by decide +kernel
theorem dX11_candidate_20 : decode cX11_candidate 20 = .ok (.bipush (-104), 2) := by decide +kernel
theorem dX11_candidate_22 : decode cX11_candidate 22 = .ok (.ireturn, 1) := by decide +kernel
theorem dX11_candidate_23 : decode cX11_candidate 23 = .ok (.aload_n 0, 1) := by decide +kernel
theorem dX11_candidate_24 : decode cX11_candidate 24 = .ok (.getfield 28, 3) := by decide +kernel
theorem dX11_candidate_27 : decode cX11_candidate 27 = .ok (.aload_n 0, 1) := by decide +kernel
theorem dX11_candidate_28 : decode cX11_candidate 28 = .ok (.getfield 126, 3) := by decide +kernel
theorem dX11_candidate_31 : decode cX11_candidate 31 = .ok (.iload_n 1, 1) := by decide +kernel
theorem dX11_candidate_32 : decode cX11_candidate 32 = .ok (.iastore, 1) := by decide +kernel
theorem dX11_candidate_33 : decode cX11_candidate 33 = .ok (.aload_n 0, 1) := by decide +kernel
theorem dX11_candidate_34 : decode cX11_candidate 34 = .ok (.dup, 1) := by decide +kernel
theorem dX11_candidate_35 : decode cX11_candidate 35 = .ok (.getfield 126, 3) := by decide +kernel
theorem dX11_candidate_38 : decode cX11_candidate 38 = .ok (.iconst 1, 1) := by decide +kernel
theorem dX11_candidate_39 : decode cX11_candidate 39 = .ok (.iadd, 1) := by decide +kernel
theorem dX11_candidate_40 : decode cX11_candidate 40 = .ok (.putfield 126, 3) := by decide +kernel
theorem dX11_candidate_43 : decode cX11_candidate 43 = .ok (.aload_n 0, 1) := by decide +kernel
theorem dX11_candidate_44 : decode cX11_candidate 44 = .ok (.getfield 126, 3) := by decide +kernel
theorem dX11_candidate_47 : decode cX11_candidate 47 = .ok (.iconst 1, 1) := by decide +kernel
theorem dX11_candidate_48 : decode cX11_candidate 48 = .ok (.isub, 1) := by decide +kernel
theorem dX11_candidate_49 : decode cX11_candidate 49 = .ok (.ireturn, 1) := by decide +kernel
theorem dX11_minds_0 : decode cX11_minds 0 = .ok (.aload_n 0, 1) := by decide +kernel
theorem dX11_minds_1 : decode cX11_minds 1 = .ok (.iload_n 1, 1) := by decide +kernel
theorem dX11_minds_2 : decode cX11_minds 2 = .ok (.invokevirtual 99, 3) := by decide +kernel
theorem dX11_minds_5 : decode cX11_minds 5 = .ok (.astore 4, 2) := by decide +kernel
theorem dX11_minds_7 : decode cX11_minds 7 = .ok (.aload 4, 2) := by decide +kernel
theorem dX11_minds_9 : decode cX11_minds 9 = .ok (.ifnull 11, 3) := by decide +kernel
theorem dX11_minds_12 : decode cX11_minds 12 = .ok (.aload_n 0, 1) := by decide +kernel
theorem dX11_minds_13 : decode cX11_minds 13 = .ok (.iload_n 2, 1) := by decide +kernel
theorem dX11_minds_14 : decode cX11_minds 14 = .ok (.invokevirtual 129, 3) := by decide +kernel
theorem dX11_minds_17 : decode cX11_minds 17 = .ok (.ifCond .ne 6, 3) := by decide +kernel
theorem dX11_minds_20 : decode cX11_minds 20 = .ok (.bipush (-101), 2) := by decide +kernel
theorem dX11_minds_22 : decode cX11_minds 22 = .ok (.ireturn, 1) := by decide +kernel
theorem dX11_minds_23 : decode cX11_minds 23 = .ok (.iload_n 3, 1) := by decide +kernel
theorem dX11_minds_24 : decode cX11_minds 24 = .ok (.iconst (-1), 1) := by decide +kernel
theorem dX11_minds_25 : decode cX11_minds 25 = .ok (.bipush 10, 2) := by decide +kernel
theorem dX11_minds_27 : decode cX11_minds 27 = .ok (.invokestatic 91, 3) := by decide +kernel
theorem dX11_minds_30 : decode cX11_minds 30 = .ok (.ifCond .ne 6, 3) := by decide +kernel
theorem dX11_minds_33 : decode cX11_minds 33 = .ok (.bipush (-102), 2) := by decide +kernel
theorem dX11_minds_35 : decode cX11_minds 35 = .ok (.ireturn, 1) := by decide +kernel
theorem dX11_minds_36 : decode cX11_minds 36 = .ok (.aload 4, 2) := by decide +kernel
theorem dX11_minds_38 : decode cX11_minds 38 = .ok (.iload_n 2, 1) := by decide +kernel
theorem dX11_minds_39 : decode cX11_minds 39 = .ok (.invokevirtual 133, 3) := by decide +kernel
theorem dX11_minds_42 : decode cX11_minds 42 = .ok (.istore 5, 2) := by decide +kernel
theorem dX11_minds_44 : decode cX11_minds 44 = .ok (.iload_n 3, 1) := by decide +kernel
theorem dX11_minds_45 : decode cX11_minds 45 = .ok (.iconst (-1), 1) := by decide +kernel
theorem dX11_minds_46 : decode cX11_minds 46 = .ok (.if_icmp .eq 10, 3) := by decide +kernel
theorem dX11_minds_49 : decode cX11_minds 49 = .ok (.aload 4, 2) := by decide +kernel
theorem dX11_minds_51 : decode cX11_minds 51 = .ok (.iload_n 2, 1) := by decide +kernel
theorem dX11_minds_52 : decode cX11_minds 52 = .ok (.iload_n 3, 1) := by decide +kernel
theorem dX11_minds_53 : decode cX11_minds 53 = .ok (.invokevirtual 136, 3) := by decide +kernel
theorem dX11_minds_56 : decode cX11_minds 56 = .ok (.iload 5, 2) := by decide +kernel
theorem dX11_minds_58 : decode cX11_minds 58 = .ok (.ireturn, 1) := by decide +kernel
theorem dX11_friend_0 : decode cX11_friend 0 = .ok (.aload_n 0, 1) := by decide +kernel
theorem dX11_friend_1 : decode cX11_friend 1 = .ok (.iload_n 1, 1) := by decide +kernel
theorem dX11_friend_2 : decode cX11_friend 2 = .ok (.invokevirtual 129, 3) := by decide +kernel
theorem dX11_friend_5 : decode cX11_friend 5 = .ok (.ifCond .ne 6, 3) := by decide +kernel
theorem dX11_friend_8 : decode cX11_friend 8 = .ok (.bipush (-101), 2) := by decide +kernel
theorem dX11_friend_10 : decode cX11_friend 10 = .ok (.ireturn, 1) := by decide +kernel
theorem dX11_friend_11 : decode cX11_friend 11 = .ok (.iload_n 2, 1) := by decide +kernel
theorem dX11_friend_12 : decode cX11_friend 12 = .ok (.tableswitch 54 0 2 #[28, 34, 48], 28) := by decide +kernel
theorem dX11_friend_40 : decode cX11_friend 40 = .ok (.aload_n 0, 1) := by decide +kernel
theorem dX11_friend_41 : decode cX11_friend 41 = .ok (.iload_n 1, 1) := by decide +kernel
theorem dX11_friend_42 : decode cX11_friend 42 = .ok (.invokevirtual 140, 3) := by decide +kernel
theorem dX11_friend_45 : decode cX11_friend 45 = .ok (.ireturn, 1) := by decide +kernel
theorem dX11_friend_46 : decode cX11_friend 46 = .ok (.aload_n 0, 1) := by decide +kernel
theorem dX11_friend_47 : decode cX11_friend 47 = .ok (.iload_n 1, 1) := by decide +kernel
theorem dX11_friend_48 : decode cX11_friend 48 = .ok (.invokevirtual 143, 3) := by decide +kernel
theorem dX11_friend_51 : decode cX11_friend 51 = .ok (.ifCond .eq 7, 3) := by decide +kernel
theorem dX11_friend_54 : decode cX11_friend 54 = .ok (.iconst 1, 1) := by decide +kernel
theorem dX11_friend_55 : decode cX11_friend 55 = .ok (.goto 4, 3) := by decide +kernel
theorem dX11_friend_58 : decode cX11_friend 58 = .ok (.iconst 0, 1) := by decide +kernel
theorem dX11_friend_59 : decode cX11_friend 59 = .ok (.ireturn, 1) := by decide +kernel
theorem dX11_friend_60 : decode cX11_friend 60 = .ok (.aload_n 0, 1) := by decide +kernel
theorem dX11_friend_61 : decode cX11_friend 61 = .ok (.iload_n 1, 1) := by decide +kernel
end
section
theorem dX11_friend_62 : decode cX11_friend 62 = .ok (.invokevirtual 146, 3) := by decide +kernel
theorem dX11_friend_65 : decode cX11_friend 65 = .ok (.ireturn, 1) := by decide +kernel
theorem dX11_friend_66 : decode cX11_friend 66 = .ok (.bipush (-102), 2) := by decide +kernel
theorem dX11_friend_68 : decode cX11_friend 68 = .ok (.ireturn, 1) := by decide +kernel
theorem dX11_black_0 : decode cX11_black 0 = .ok (.aload_n 0, 1) := by decide +kernel
theorem dX11_black_1 : decode cX11_black 1 = .ok (.iload_n 1, 1) := by decide +kernel
theorem dX11_black_2 : decode cX11_black 2 = .ok (.invokevirtual 87, 3) := by decide +kernel
theorem dX11_black_5 : decode cX11_black 5 = .ok (.astore 5, 2) := by decide +kernel
theorem dX11_black_7 : decode cX11_black 7 = .ok (.aload_n 0, 1) := by decide +kernel
theorem dX11_black_8 : decode cX11_black 8 = .ok (.iload 4, 2) := by decide +kernel
theorem dX11_black_10 : decode cX11_black 10 = .ok (.invokevirtual 99, 3) := by decide +kernel
theorem dX11_black_13 : decode cX11_black 13 = .ok (.astore 6, 2) := by decide +kernel
theorem dX11_black_15 : decode cX11_black 15 = .ok (.aload 5, 2) := by decide +kernel
theorem dX11_black_17 : decode cX11_black 17 = .ok (.ifnull 16, 3) := by decide +kernel
theorem dX11_black_20 : decode cX11_black 20 = .ok (.aload 6, 2) := by decide +kernel
theorem dX11_black_22 : decode cX11_black 22 = .ok (.ifnull 11, 3) := by decide +kernel
theorem dX11_black_25 : decode cX11_black 25 = .ok (.aload_n 0, 1) := by decide +kernel
theorem dX11_black_26 : decode cX11_black 26 = .ok (.iload_n 2, 1) := by decide +kernel
theorem dX11_black_27 : decode cX11_black 27 = .ok (.invokevirtual 129, 3) := by decide +kernel
theorem dX11_black_30 : decode cX11_black 30 = .ok (.ifCond .ne 6, 3) := by decide +kernel
theorem dX11_black_33 : decode cX11_black 33 = .ok (.bipush (-101), 2) := by decide +kernel
theorem dX11_black_35 : decode cX11_black 35 = .ok (.ireturn, 1) := by decide +kernel
theorem dX11_black_36 : decode cX11_black 36 = .ok (.aload_n 0, 1) := by decide +kernel
theorem dX11_black_37 : decode cX11_black 37 = .ok (.iload_n 3, 1) := by decide +kernel
theorem dX11_black_38 : decode cX11_black 38 = .ok (.invokevirtual 149, 3) := by decide +kernel
theorem dX11_black_41 : decode cX11_black 41 = .ok (.ifCond .eq 12, 3) := by decide +kernel
theorem dX11_black_44 : decode cX11_black 44 = .ok (.iload_n 3, 1) := by decide +kernel
theorem dX11_black_45 : decode cX11_black 45 = .ok (.iload 4, 2) := by decide +kernel
theorem dX11_black_47 : decode cX11_black 47 = .ok (.invokestatic 152, 3) := by decide +kernel
theorem dX11_black_50 : decode cX11_black 50 = .ok (.ifCond .ne 6, 3) := by decide +kernel
theorem dX11_black_53 : decode cX11_black 53 = .ok (.bipush (-102), 2) := by decide +kernel
theorem dX11_black_55 : decode cX11_black 55 = .ok (.ireturn, 1) := by decide +kernel
theorem dX11_black_56 : decode cX11_black 56 = .ok (.aload_n 0, 1) := by decide +kernel
theorem dX11_black_57 : decode cX11_black 57 = .ok (.aload 6, 2) := by decide +kernel
theorem dX11_black_59 : decode cX11_black 59 = .ok (.iload_n 2, 1) := by decide +kernel
theorem dX11_black_60 : decode cX11_black 60 = .ok (.aload 5, 2) := by decide +kernel
theorem dX11_black_62 : decode cX11_black 62 = .ok (.iload_n 3, 1) := by decide +kernel
theorem dX11_black_63 : decode cX11_black 63 = .ok (.invokestatic 156, 3) := by decide +kernel
theorem dX11_black_66 : decode cX11_black 66 = .ok (.invokevirtual 160, 3) := by decide +kernel
theorem dX11_black_69 : decode cX11_black 69 = .ok (.ireturn, 1) := by decide +kernel
theorem dX11_balls_0 : decode cX11_balls 0 = .ok (.aload_n 0, 1) := by decide +kernel
theorem dX11_balls_1 : decode cX11_balls 1 = .ok (.iload_n 1, 1) := by decide +kernel
theorem dX11_balls_2 : decode cX11_balls 2 = .ok (.invokevirtual 87, 3) := by decide +kernel
theorem dX11_balls_5 : decode cX11_balls 5 = .ok (.astore 6, 2) := by decide +kernel
theorem dX11_balls_7 : decode cX11_balls 7 = .ok (.aload 6, 2) := by decide +kernel
theorem dX11_balls_9 : decode cX11_balls 9 = .ok (.ifnull 11, 3) := by decide +kernel
theorem dX11_balls_12 : decode cX11_balls 12 = .ok (.aload_n 0, 1) := by decide +kernel
theorem dX11_balls_13 : decode cX11_balls 13 = .ok (.iload_n 2, 1) := by decide +kernel
theorem dX11_balls_14 : decode cX11_balls 14 = .ok (.invokevirtual 129, 3) := by decide +kernel
theorem dX11_balls_17 : decode cX11_balls 17 = .ok (.ifCond .ne 6, 3) := by decide +kernel
theorem dX11_balls_20 : decode cX11_balls 20 = .ok (.bipush (-101), 2) := by decide +kernel
theorem dX11_balls_22 : decode cX11_balls 22 = .ok (.ireturn, 1) := by decide +kernel
theorem dX11_balls_23 : decode cX11_balls 23 = .ok (.aload_n 0, 1) := by decide +kernel
theorem dX11_balls_24 : decode cX11_balls 24 = .ok (.iload_n 3, 1) := by decide +kernel
theorem dX11_balls_25 : decode cX11_balls 25 = .ok (.invokevirtual 149, 3) := by decide +kernel
theorem dX11_balls_28 : decode cX11_balls 28 = .ok (.ifCond .eq 22, 3) := by decide +kernel
theorem dX11_balls_31 : decode cX11_balls 31 = .ok (.iload 4, 2) := by decide +kernel
theorem dX11_balls_33 : decode cX11_balls 33 = .ok (.iconst 0, 1) := by decide +kernel
theorem dX11_balls_34 : decode cX11_balls 34 = .ok (.bipush 8, 2) := by decide +kernel
theorem dX11_balls_36 : decode cX11_balls 36 = .ok (.invokestatic 91, 3) := by decide +kernel
theorem dX11_balls_39 : decode cX11_balls 39 = .ok (.ifCond .eq 11, 3) := by decide +kernel
theorem dX11_balls_42 : decode cX11_balls 42 = .ok (.iload 5, 2) := by decide +kernel
theorem dX11_balls_44 : decode cX11_balls 44 = .ok (.invokestatic 164, 3) := by decide +kernel
theorem dX11_balls_47 : decode cX11_balls 47 = .ok (.ifCond .ne 6, 3) := by decide +kernel
theorem dX11_balls_50 : decode cX11_balls 50 = .ok (.bipush (-102), 2) := by decide +kernel
theorem dX11_balls_52 : decode cX11_balls 52 = .ok (.ireturn, 1) := by decide +kernel
theorem dX11_balls_53 : decode cX11_balls 53 = .ok (.aload_n 0, 1) := by decide +kernel
theorem dX11_balls_54 : decode cX11_balls 54 = .ok (.iload_n 2, 1) := by decide +kernel
theorem dX11_balls_55 : decode cX11_balls 55 = .ok (.iload_n 3, 1) := by decide +kernel
theorem dX11_balls_56 : decode cX11_balls 56 = .ok (.aload 6, 2) := by decide +kernel
theorem dX11_balls_58 : decode cX11_balls 58 = .ok (.iload_n 3, 1) := by decide +kernel
theorem dX11_balls_59 : decode cX11_balls 59 = .ok (.invokestatic 156, 3) := by decide +kernel
theorem dX11_balls_62 : decode cX11_balls 62 = .ok (.invokevirtual 167, 3) := by decide +kernel
theorem dX11_balls_65 : decode cX11_balls 65 = .ok (.aload_n 0, 1) := by decide +kernel
theorem dX11_balls_66 : decode cX11_balls 66 = .ok (.getfield 35, 3) := by decide +kernel
theorem dX11_balls_69 : decode cX11_balls 69 = .ok (.iload 4, 2) := by decide +kernel
theorem dX11_balls_71 : decode cX11_balls 71 = .ok (.invokevirtual 171, 3) := by decide +kernel
theorem dX11_balls_74 : decode cX11_balls 74 = .ok (.aload_n 0, 1) := by decide +kernel
theorem dX11_balls_75 : decode cX11_balls 75 = .ok (.getfield 35, 3) := by decide +kernel
theorem dX11_balls_78 : decode cX11_balls 78 = .ok (.invokevirtual 175, 3) := by decide +kernel
theorem dX11_balls_81 : decode cX11_balls 81 = .ok (.iload 5, 2) := by decide +kernel
theorem dX11_balls_83 : decode cX11_balls 83 = .ok (.invokestatic 179, 3) := by decide +kernel
theorem dX11_balls_86 : decode cX11_balls 86 = .ok (.l2i, 1) := by decide +kernel
theorem dX11_balls_87 : decode cX11_balls 87 = .ok (.ireturn, 1) := by decide +kernel
theorem dX11_in_0 : decode cX11_in 0 = .ok (.aload_n 0, 1) := by decide +kernel
theorem dX11_in_1 : decode cX11_in 1 = .ok (.iload_n 1, 1) := by decide +kernel
theorem dX11_in_2 : decode cX11_in 2 = .ok (.invokevirtual 87, 3) := by decide +kernel
theorem dX11_in_5 : decode cX11_in 5 = .ok (.astore 5, 2) := by decide +kernel
theorem dX11_in_7 : decode cX11_in 7 = .ok (.aload 5, 2) := by decide +kernel
theorem dX11_in_9 : decode cX11_in 9 = .ok (.ifnull 11, 3) := by decide +kernel
theorem dX11_in_12 : decode cX11_in 12 = .ok (.aload_n 0, 1) := by decide +kernel
theorem dX11_in_13 : decode cX11_in 13 = .ok (.iload_n 2, 1) := by decide +kernel
theorem dX11_in_14 : decode cX11_in 14 = .ok (.invokevirtual 129, 3) := by decide +kernel
theorem dX11_in_17 : decode cX11_in 17 = .ok (.ifCond .ne 7, 3) := by decide +kernel
theorem dX11_in_20 : decode cX11_in 20 = .ok (.ldc2_w 183, 3) := by decide +kernel
theorem dX11_in_23 : decode cX11_in 23 = .ok (.lreturn, 1) := by decide +kernel
theorem dX11_in_24 : decode cX11_in 24 = .ok (.aload_n 0, 1) := by decide +kernel
theorem dX11_in_25 : decode cX11_in 25 = .ok (.iload_n 3, 1) := by decide +kernel
theorem dX11_in_26 : decode cX11_in 26 = .ok (.invokevirtual 149, 3) := by decide +kernel
theorem dX11_in_29 : decode cX11_in 29 = .ok (.ifCond .eq 11, 3) := by decide +kernel
theorem dX11_in_32 : decode cX11_in 32 = .ok (.iload 4, 2) := by decide +kernel
theorem dX11_in_34 : decode cX11_in 34 = .ok (.invokestatic 164, 3) := by decide +kernel
theorem dX11_in_37 : decode cX11_in 37 = .ok (.ifCond .ne 7, 3) := by decide +kernel
theorem dX11_in_40 : decode cX11_in 40 = .ok (.ldc2_w 185, 3) := by decide +kernel
theorem dX11_in_43 : decode cX11_in 43 = .ok (.lreturn, 1) := by decide +kernel
theorem dX11_in_44 : decode cX11_in 44 = .ok (.aload_n 0, 1) := by decide +kernel
theorem dX11_in_45 : decode cX11_in 45 = .ok (.aload 5, 2) := by decide +kernel
theorem dX11_in_47 : decode cX11_in 47 = .ok (.iload_n 2, 1) := by decide +kernel
theorem dX11_in_48 : decode cX11_in 48 = .ok (.iload_n 3, 1) := by decide +kernel
theorem dX11_in_49 : decode cX11_in 49 = .ok (.invokevirtual 187, 3) := by decide +kernel
theorem dX11_in_52 : decode cX11_in 52 = .ok (.iload_n 3, 1) := by decide +kernel
theorem dX11_in_53 : decode cX11_in 53 = .ok (.invokestatic 191, 3) := by decide +kernel
theorem dX11_in_56 : decode cX11_in 56 = .ok (.iload 4, 2) := by decide +kernel
theorem dX11_in_58 : decode cX11_in 58 = .ok (.invokestatic 179, 3) := by decide +kernel
theorem dX11_in_61 : decode cX11_in 61 = .ok (.lreturn, 1) := by decide +kernel
theorem dX11_large_0 : decode cX11_large 0 = .ok (.aload_n 0, 1) := by decide +kernel
theorem dX11_large_1 : decode cX11_large 1 = .ok (.iload_n 1, 1) := by decide +kernel
theorem dX11_large_2 : decode cX11_large 2 = .ok (.invokevirtual 87, 3) := by decide +kernel
theorem dX11_large_5 : decode cX11_large 5 = .ok (.astore 4, 2) := by decide +kernel
theorem dX11_large_7 : decode cX11_large 7 = .ok (.aload 4, 2) := by decide +kernel
theorem dX11_large_9 : decode cX11_large 9 = .ok (.ifnull 11, 3) := by decide +kernel
theorem dX11_large_12 : decode cX11_large 12 = .ok (.aload_n 0, 1) := by decide +kernel
theorem dX11_large_13 : decode cX11_large 13 = .ok (.iload_n 2, 1) := by decide +kernel
theorem dX11_large_14 : decode cX11_large 14 = .ok (.invokevirtual 129, 3) := by decide +kernel
theorem dX11_large_17 : decode cX11_large 17 = .ok (.ifCond .ne 7, 3) := by decide +kernel
theorem dX11_large_20 : decode cX11_large 20 = .ok (.ldc2_w 183, 3) := by decide +kernel
theorem dX11_large_23 : decode cX11_large 23 = .ok (.lreturn, 1) := by decide +kernel
theorem dX11_large_24 : decode cX11_large 24 = .ok (.iload_n 3, 1) := by decide +kernel
theorem dX11_large_25 : decode cX11_large 25 = .ok (.invokestatic 164, 3) := by decide +kernel
theorem dX11_large_28 : decode cX11_large 28 = .ok (.ifCond .ne 7, 3) := by decide +kernel
theorem dX11_large_31 : decode cX11_large 31 = .ok (.ldc2_w 185, 3) := by decide +kernel
theorem dX11_large_34 : decode cX11_large 34 = .ok (.lreturn, 1) := by decide +kernel
theorem dX11_large_35 : decode cX11_large 35 = .ok (.aload 4, 2) := by decide +kernel
theorem dX11_large_37 : decode cX11_large 37 = .ok (.getfield 194, 3) := by decide +kernel
theorem dX11_large_40 : decode cX11_large 40 = .ok (.ifCond .eq 7, 3) := by decide +kernel
theorem dX11_large_43 : decode cX11_large 43 = .ok (.ldc2_w 198, 3) := by decide +kernel
theorem dX11_large_46 : decode cX11_large 46 = .ok (.lreturn, 1) := by decide +kernel
theorem dX11_large_47 : decode cX11_large 47 = .ok (.aload 4, 2) := by decide +kernel
theorem dX11_large_49 : decode cX11_large 49 = .ok (.aload_n 0, 1) := by decide +kernel
theorem dX11_large_50 : decode cX11_large 50 = .ok (.invokevirtual 200, 3) := by decide +kernel
theorem dX11_large_53 : decode cX11_large 53 = .ok (.invokestatic 156, 3) := by decide +kernel
theorem dX11_large_56 : decode cX11_large 56 = .ok (.istore 5, 2) := by decide +kernel
theorem dX11_large_58 : decode cX11_large 58 = .ok (.aload_n 0, 1) := by decide +kernel
theorem dX11_large_59 : decode cX11_large 59 = .ok (.getfield 42, 3) := by decide +kernel
theorem dX11_large_62 : decode cX11_large 62 = .ok (.invokevirtual 203, 3) := by decide +kernel
theorem dX11_large_65 : decode cX11_large 65 = .ok (.iconst 0, 1) := by decide +kernel
theorem dX11_large_66 : decode cX11_large 66 = .ok (.istore 6, 2) := by decide +kernel
theorem dX11_large_68 : decode cX11_large 68 = .ok (.iload 6, 2) := by decide +kernel
theorem dX11_large_70 : decode cX11_large 70 = .ok (.aload_n 0, 1) := by decide +kernel
theorem dX11_large_71 : decode cX11_large 71 = .ok (.getfield 103, 3) := by decide +kernel
theorem dX11_large_74 : decode cX11_large 74 = .ok (.if_icmp .ge 40, 3) := by decide +kernel
theorem dX11_large_77 : decode cX11_large 77 = .ok (.aload_n 0, 1) := by decide +kernel
theorem dX11_large_78 : decode cX11_large 78 = .ok (.getfield 42, 3) := by decide +kernel
theorem dX11_large_81 : decode cX11_large 81 = .ok (.aload_n 0, 1) := by decide +kernel
theorem dX11_large_82 : decode cX11_large 82 = .ok (.getfield 24, 3) := by decide +kernel
theorem dX11_large_85 : decode cX11_large 85 = .ok (.iload 6, 2) := by decide +kernel
theorem dX11_large_87 : decode cX11_large 87 = .ok (.aaload, 1) := by decide +kernel
theorem dX11_large_88 : decode cX11_large 88 = .ok (.getfield 123, 3) := by decide +kernel
theorem dX11_large_91 : decode cX11_large 91 = .ok (.aload_n 0, 1) := by decide +kernel
theorem dX11_large_92 : decode cX11_large 92 = .ok (.aload_n 0, 1) := by decide +kernel
theorem dX11_large_93 : decode cX11_large 93 = .ok (.getfield 24, 3) := by decide +kernel
theorem dX11_large_96 : decode cX11_large 96 = .ok (.iload 6, 2) := by decide +kernel
theorem dX11_large_98 : decode cX11_large 98 = .ok (.aaload, 1) := by decide +kernel
theorem dX11_large_99 : decode cX11_large 99 = .ok (.iload_n 2, 1) := by decide +kernel
theorem dX11_large_100 : decode cX11_large 100 = .ok (.iload 5, 2) := by decide +kernel
theorem dX11_large_102 : decode cX11_large 102 = .ok (.invokevirtual 160, 3) := by decide +kernel
theorem dX11_large_105 : decode cX11_large 105 = .ok (.invokevirtual 206, 3) := by decide +kernel
theorem dX11_large_108 : decode cX11_large 108 = .ok (.iinc 6 1, 3) := by decide +kernel
theorem dX11_large_111 : decode cX11_large 111 = .ok (.goto (-43), 3) := by decide +kernel
theorem dX11_large_114 : decode cX11_large 114 = .ok (.aload_n 0, 1) := by decide +kernel
theorem dX11_large_115 : decode cX11_large 115 = .ok (.getfield 42, 3) := by decide +kernel
theorem dX11_large_118 : decode cX11_large 118 = .ok (.aload 4, 2) := by decide +kernel
theorem dX11_large_120 : decode cX11_large 120 = .ok (.invokevirtual 209, 3) := by decide +kernel
theorem dX11_large_123 : decode cX11_large 123 = .ok (.aload_n 0, 1) := by decide +kernel
theorem dX11_large_124 : decode cX11_large 124 = .ok (.getfield 42, 3) := by decide +kernel
theorem dX11_large_127 : decode cX11_large 127 = .ok (.invokevirtual 213, 3) := by decide +kernel
theorem dX11_large_130 : decode cX11_large 130 = .ok (.iload_n 3, 1) := by decide +kernel
theorem dX11_large_131 : decode cX11_large 131 = .ok (.invokestatic 179, 3) := by decide +kernel
theorem dX11_large_134 : decode cX11_large 134 = .ok (.lreturn, 1) := by decide +kernel
theorem dX11_wrong_0 : decode cX11_wrong 0 = .ok (.aload_n 0, 1) := by decide +kernel
theorem dX11_wrong_1 : decode cX11_wrong 1 = .ok (.iload_n 1, 1) := by decide +kernel
theorem dX11_wrong_2 : decode cX11_wrong 2 = .ok (.invokevirtual 87, 3) := by decide +kernel
theorem dX11_wrong_5 : decode cX11_wrong 5 = .ok (.astore_n 3, 1) := by decide +kernel
theorem dX11_wrong_6 : decode cX11_wrong 6 = .ok (.aload_n 3, 1) := by decide +kernel
theorem dX11_wrong_7 : decode cX11_wrong 7 = .ok (.ifnonnull 7, 3) := by decide +kernel
theorem dX11_wrong_10 : decode cX11_wrong 10 = .ok (.ldc2_w 183, 3) := by decide +kernel
theorem dX11_wrong_13 : decode cX11_wrong 13 = .ok (.lreturn, 1) := by decide +kernel
theorem dX11_wrong_14 : decode cX11_wrong 14 = .ok (.aload_n 0, 1) := by decide +kernel
theorem dX11_wrong_15 : decode cX11_wrong 15 = .ok (.iload_n 2, 1) := by decide +kernel
theorem dX11_wrong_16 : decode cX11_wrong 16 = .ok (.invokevirtual 149, 3) := by decide +kernel
theorem dX11_wrong_19 : decode cX11_wrong 19 = .ok (.ifCond .ne 7, 3) := by decide +kernel
theorem dX11_wrong_22 : decode cX11_wrong 22 = .ok (.ldc2_w 185, 3) := by decide +kernel
theorem dX11_wrong_25 : decode cX11_wrong 25 = .ok (.lreturn, 1) := by decide +kernel
theorem dX11_wrong_26 : decode cX11_wrong 26 = .ok (.aload_n 0, 1) := by decide +kernel
theorem dX11_wrong_27 : decode cX11_wrong 27 = .ok (.aload_n 3, 1) := by decide +kernel
theorem dX11_wrong_28 : decode cX11_wrong 28 = .ok (.iload_n 2, 1) := by decide +kernel
theorem dX11_wrong_29 : decode cX11_wrong 29 = .ok (.invokevirtual 214, 3) := by decide +kernel
theorem dX11_wrong_32 : decode cX11_wrong 32 = .ok (.lreturn, 1) := by decide +kernel
theorem dX11_best_0 : decode cX11_best 0 = .ok (.aload_n 0, 1) := by decide +kernel
theorem dX11_best_1 : decode cX11_best 1 = .ok (.iload_n 1, 1) := by decide +kernel
theorem dX11_best_2 : decode cX11_best 2 = .ok (.invokevirtual 149, 3) := by decide +kernel
theorem dX11_best_5 : decode cX11_best 5 = .ok (.ifCond .ne 6, 3) := by decide +kernel
theorem dX11_best_8 : decode cX11_best 8 = .ok (.bipush (-102), 2) := by decide +kernel
theorem dX11_best_10 : decode cX11_best 10 = .ok (.ireturn, 1) := by decide +kernel
theorem dX11_best_11 : decode cX11_best 11 = .ok (.iconst (-1), 1) := by decide +kernel
theorem dX11_best_12 : decode cX11_best 12 = .ok (.istore_n 2, 1) := by decide +kernel
theorem dX11_best_13 : decode cX11_best 13 = .ok (.lconst 0, 1) := by decide +kernel
theorem dX11_best_14 : decode cX11_best 14 = .ok (.lstore_n 3, 1) := by decide +kernel
theorem dX11_best_15 : decode cX11_best 15 = .ok (.iconst 0, 1) := by decide +kernel
theorem dX11_best_16 : decode cX11_best 16 = .ok (.istore 5, 2) := by decide +kernel
theorem dX11_best_18 : decode cX11_best 18 = .ok (.iload 5, 2) := by decide +kernel
theorem dX11_best_20 : decode cX11_best 20 = .ok (.aload_n 0, 1) := by decide +kernel
theorem dX11_best_21 : decode cX11_best 21 = .ok (.getfield 79, 3) := by decide +kernel
theorem dX11_best_24 : decode cX11_best 24 = .ok (.if_icmp .ge 41, 3) := by decide +kernel
theorem dX11_best_27 : decode cX11_best 27 = .ok (.aload_n 0, 1) := by decide +kernel
theorem dX11_best_28 : decode cX11_best 28 = .ok (.aload_n 0, 1) := by decide +kernel
theorem dX11_best_29 : decode cX11_best 29 = .ok (.getfield 18, 3) := by decide +kernel
theorem dX11_best_32 : decode cX11_best 32 = .ok (.iload 5, 2) := by decide +kernel
theorem dX11_best_34 : decode cX11_best 34 = .ok (.aaload, 1) := by decide +kernel
theorem dX11_best_35 : decode cX11_best 35 = .ok (.iload_n 1, 1) := by decide +kernel
theorem dX11_best_36 : decode cX11_best 36 = .ok (.invokevirtual 214, 3) := by decide +kernel
theorem dX11_best_39 : decode cX11_best 39 = .ok (.lstore 6, 2) := by decide +kernel
theorem dX11_best_41 : decode cX11_best 41 = .ok (.iload_n 2, 1) := by decide +kernel
theorem dX11_best_42 : decode cX11_best 42 = .ok (.iconst (-1), 1) := by decide +kernel
theorem dX11_best_43 : decode cX11_best 43 = .ok (.if_icmp .eq 10, 3) := by decide +kernel
theorem dX11_best_46 : decode cX11_best 46 = .ok (.lload 6, 2) := by decide +kernel
theorem dX11_best_48 : decode cX11_best 48 = .ok (.lload_n 3, 1) := by decide +kernel
theorem dX11_best_49 : decode cX11_best 49 = .ok (.lcmp, 1) := by decide +kernel
theorem dX11_best_50 : decode cX11_best 50 = .ok (.ifCond .ge 9, 3) := by decide +kernel
theorem dX11_best_53 : decode cX11_best 53 = .ok (.iload 5, 2) := by decide +kernel
theorem dX11_best_55 : decode cX11_best 55 = .ok (.istore_n 2, 1) := by decide +kernel
theorem dX11_best_56 : decode cX11_best 56 = .ok (.lload 6, 2) := by decide +kernel
theorem dX11_best_58 : decode cX11_best 58 = .ok (.lstore_n 3, 1) := by decide +kernel
theorem dX11_best_59 : decode cX11_best 59 = .ok (.iinc 5 1, 3) := by decide +kernel
theorem dX11_best_62 : decode cX11_best 62 = .ok (.goto (-44), 3) := by decide +kernel
theorem dX11_best_65 : decode cX11_best 65 = .ok (.iload_n 2, 1) := by decide +kernel
theorem dX11_best_66 : decode cX11_best 66 = .ok (.ireturn, 1) := by decide +kernel
theorem dX11_who_0 : decode cX11_who 0 = .ok (.aload_n 0, 1) := by decide +kernel
theorem dX11_who_1 : decode cX11_who 1 = .ok (.iload_n 1, 1) := by decide +kernel
theorem dX11_who_2 : decode cX11_who 2 = .ok (.invokevirtual 87, 3) := by decide +kernel
theorem dX11_who_5 : decode cX11_who 5 = .ok (.astore 7, 2) := by decide +kernel
theorem dX11_who_7 : decode cX11_who 7 = .ok (.aload_n 0, 1) := by decide +kernel
theorem dX11_who_8 : decode cX11_who 8 = .ok (.iload 4, 2) := by decide +kernel
theorem dX11_who_10 : decode cX11_who 10 = .ok (.invokevirtual 99, 3) := by decide +kernel
theorem dX11_who_13 : decode cX11_who 13 = .ok (.astore 8, 2) := by decide +kernel
theorem dX11_who_15 : decode cX11_who 15 = .ok (.aload 7, 2) := by decide +kernel
theorem dX11_who_17 : decode cX11_who 17 = .ok (.ifnull 16, 3) := by decide +kernel
theorem dX11_who_20 : decode cX11_who 20 = .ok (.aload 8, 2) := by decide +kernel
theorem dX11_who_22 : decode cX11_who 22 = .ok (.ifnull 11, 3) := by decide +kernel
theorem dX11_who_25 : decode cX11_who 25 = .ok (.aload_n 0, 1) := by decide +kernel
theorem dX11_who_26 : decode cX11_who 26 = .ok (.iload_n 2, 1) := by decide +kernel
theorem dX11_who_27 : decode cX11_who 27 = .ok (.invokevirtual 129, 3) := by decide +kernel
theorem dX11_who_30 : decode cX11_who 30 = .ok (.ifCond .ne 6, 3) := by decide +kernel
theorem dX11_who_33 : decode cX11_who 33 = .ok (.bipush (-101), 2) := by decide +kernel
theorem dX11_who_35 : decode cX11_who 35 = .ok (.ireturn, 1) := by decide +kernel
theorem dX11_who_36 : decode cX11_who 36 = .ok (.aload_n 0, 1) := by decide +kernel
theorem dX11_who_37 : decode cX11_who 37 = .ok (.iload_n 3, 1) := by decide +kernel
theorem dX11_who_38 : decode cX11_who 38 = .ok (.invokevirtual 149, 3) := by decide +kernel
theorem dX11_who_41 : decode cX11_who 41 = .ok (.ifCond .eq 31, 3) := by decide +kernel
theorem dX11_who_44 : decode cX11_who 44 = .ok (.iload_n 3, 1) := by decide +kernel
theorem dX11_who_45 : decode cX11_who 45 = .ok (.iload 4, 2) := by decide +kernel
theorem dX11_who_47 : decode cX11_who 47 = .ok (.invokestatic 152, 3) := by decide +kernel
theorem dX11_who_50 : decode cX11_who 50 = .ok (.ifCond .eq 22, 3) := by decide +kernel
theorem dX11_who_53 : decode cX11_who 53 = .ok (.iload 5, 2) := by decide +kernel
theorem dX11_who_55 : decode cX11_who 55 = .ok (.iconst (-1), 1) := by decide +kernel
theorem dX11_who_56 : decode cX11_who 56 = .ok (.bipush 8, 2) := by decide +kernel
theorem dX11_who_58 : decode cX11_who 58 = .ok (.invokestatic 91, 3) := by decide +kernel
theorem dX11_who_61 : decode cX11_who 61 = .ok (.ifCond .eq 11, 3) := by decide +kernel
theorem dX11_who_64 : decode cX11_who 64 = .ok (.iload 6, 2) := by decide +kernel
theorem dX11_who_66 : decode cX11_who 66 = .ok (.invokestatic 164, 3) := by decide +kernel
theorem dX11_who_69 : decode cX11_who 69 = .ok (.ifCond .ne 6, 3) := by decide +kernel
theorem dX11_who_72 : decode cX11_who 72 = .ok (.bipush (-102), 2) := by decide +kernel
theorem dX11_who_74 : decode cX11_who 74 = .ok (.ireturn, 1) := by decide +kernel
theorem dX11_who_75 : decode cX11_who 75 = .ok (.aload 7, 2) := by decide +kernel
theorem dX11_who_77 : decode cX11_who 77 = .ok (.iload_n 3, 1) := by decide +kernel
theorem dX11_who_78 : decode cX11_who 78 = .ok (.invokestatic 156, 3) := by decide +kernel
theorem dX11_who_81 : decode cX11_who 81 = .ok (.istore 9, 2) := by decide +kernel
theorem dX11_who_83 : decode cX11_who 83 = .ok (.aload_n 0, 1) := by decide +kernel
theorem dX11_who_84 : decode cX11_who 84 = .ok (.aload 8, 2) := by decide +kernel
theorem dX11_who_86 : decode cX11_who 86 = .ok (.iload_n 2, 1) := by decide +kernel
theorem dX11_who_87 : decode cX11_who 87 = .ok (.iload 9, 2) := by decide +kernel
theorem dX11_who_89 : decode cX11_who 89 = .ok (.invokevirtual 160, 3) := by decide +kernel
theorem dX11_who_92 : decode cX11_who 92 = .ok (.istore 10, 2) := by decide +kernel
theorem dX11_who_94 : decode cX11_who 94 = .ok (.iload_n 3, 1) := by decide +kernel
theorem dX11_who_95 : decode cX11_who 95 = .ok (.invokestatic 218, 3) := by decide +kernel
theorem dX11_who_98 : decode cX11_who 98 = .ok (.istore 11, 2) := by decide +kernel
theorem dX11_who_100 : decode cX11_who 100 = .ok (.aload_n 0, 1) := by decide +kernel
theorem dX11_who_101 : decode cX11_who 101 = .ok (.iload_n 2, 1) := by decide +kernel
theorem dX11_who_102 : decode cX11_who 102 = .ok (.iload_n 3, 1) := by decide +kernel
theorem dX11_who_103 : decode cX11_who 103 = .ok (.iconst 1, 1) := by decide +kernel
theorem dX11_who_104 : decode cX11_who 104 = .ok (.iload 4, 2) := by decide +kernel
theorem dX11_who_106 : decode cX11_who 106 = .ok (.ishl, 1) := by decide +kernel
theorem dX11_who_107 : decode cX11_who 107 = .ok (.iconst (-1), 1) := by decide +kernel
theorem dX11_who_108 : decode cX11_who 108 = .ok (.ixor, 1) := by decide +kernel
theorem dX11_who_109 : decode cX11_who 109 = .ok (.iand, 1) := by decide +kernel
theorem dX11_who_110 : decode cX11_who 110 = .ok (.iload 9, 2) := by decide +kernel
theorem dX11_who_112 : decode cX11_who 112 = .ok (.invokevirtual 167, 3) := by decide +kernel
theorem dX11_who_115 : decode cX11_who 115 = .ok (.lconst 0, 1) := by decide +kernel
theorem dX11_who_116 : decode cX11_who 116 = .ok (.lstore 12, 2) := by decide +kernel
theorem dX11_who_118 : decode cX11_who 118 = .ok (.lconst 0, 1) := by decide +kernel
theorem dX11_who_119 : decode cX11_who 119 = .ok (.lstore 14, 2) := by decide +kernel
theorem dX11_who_121 : decode cX11_who 121 = .ok (.iconst 0, 1) := by decide +kernel
theorem dX11_who_122 : decode cX11_who 122 = .ok (.istore 16, 2) := by decide +kernel
theorem dX11_who_124 : decode cX11_who 124 = .ok (.iload 16, 2) := by decide +kernel
theorem dX11_who_126 : decode cX11_who 126 = .ok (.iload 11, 2) := by decide +kernel
theorem dX11_who_128 : decode cX11_who 128 = .ok (.if_icmp .gt 78, 3) := by decide +kernel
theorem dX11_who_131 : decode cX11_who 131 = .ok (.iload 5, 2) := by decide +kernel
theorem dX11_who_133 : decode cX11_who 133 = .ok (.iconst (-1), 1) := by decide +kernel
theorem dX11_who_134 : decode cX11_who 134 = .ok (.if_icmp .ne 18, 3) := by decide +kernel
theorem dX11_who_137 : decode cX11_who 137 = .ok (.aload 7, 2) := by decide +kernel
theorem dX11_who_139 : decode cX11_who 139 = .ok (.iload 16, 2) := by decide +kernel
theorem dX11_who_141 : decode cX11_who 141 = .ok (.iload 11, 2) := by decide +kernel
theorem dX11_who_143 : decode cX11_who 143 = .ok (.invokevirtual 223, 3) := by decide +kernel
theorem dX11_who_146 : decode cX11_who 146 = .ok (.ifCond .eq 54, 3) := by decide +kernel
theorem dX11_who_149 : decode cX11_who 149 = .ok (.goto 10, 3) := by decide +kernel
theorem dX11_who_152 : decode cX11_who 152 = .ok (.iload 16, 2) := by decide +kernel
theorem dX11_who_154 : decode cX11_who 154 = .ok (.iload 5, 2) := by decide +kernel
theorem dX11_who_156 : decode cX11_who 156 = .ok (.if_icmp .ne 44, 3) := by decide +kernel
theorem dX11_who_159 : decode cX11_who 159 = .ok (.lload 12, 2) := by decide +kernel
theorem dX11_who_161 : decode cX11_who 161 = .ok (.iload 10, 2) := by decide +kernel
theorem dX11_who_163 : decode cX11_who 163 = .ok (.i2l, 1) := by decide +kernel
theorem dX11_who_164 : decode cX11_who 164 = .ok (.aload_n 0, 1) := by decide +kernel
theorem dX11_who_165 : decode cX11_who 165 = .ok (.getfield 35, 3) := by decide +kernel
theorem dX11_who_168 : decode cX11_who 168 = .ok (.iload 16, 2) := by decide +kernel
theorem dX11_who_170 : decode cX11_who 170 = .ok (.iconst 1, 1) := by decide +kernel
theorem dX11_who_171 : decode cX11_who 171 = .ok (.isub, 1) := by decide +kernel
theorem dX11_who_172 : decode cX11_who 172 = .ok (.invokevirtual 171, 3) := by decide +kernel
theorem dX11_who_175 : decode cX11_who 175 = .ok (.lmul, 1) := by decide +kernel
theorem dX11_who_176 : decode cX11_who 176 = .ok (.ladd, 1) := by decide +kernel
theorem dX11_who_177 : decode cX11_who 177 = .ok (.lstore 12, 2) := by decide +kernel
theorem dX11_who_179 : decode cX11_who 179 = .ok (.lload 14, 2) := by decide +kernel
theorem dX11_who_181 : decode cX11_who 181 = .ok (.bipush 10, 2) := by decide +kernel
theorem dX11_who_183 : decode cX11_who 183 = .ok (.iload 10, 2) := by decide +kernel
theorem dX11_who_185 : decode cX11_who 185 = .ok (.isub, 1) := by decide +kernel
theorem dX11_who_186 : decode cX11_who 186 = .ok (.i2l, 1) := by decide +kernel
theorem dX11_who_187 : decode cX11_who 187 = .ok (.aload_n 0, 1) := by decide +kernel
theorem dX11_who_188 : decode cX11_who 188 = .ok (.getfield 35, 3) := by decide +kernel
theorem dX11_who_191 : decode cX11_who 191 = .ok (.iload 16, 2) := by decide +kernel
theorem dX11_who_193 : decode cX11_who 193 = .ok (.invokevirtual 171, 3) := by decide +kernel
theorem dX11_who_196 : decode cX11_who 196 = .ok (.lmul, 1) := by decide +kernel
theorem dX11_who_197 : decode cX11_who 197 = .ok (.ladd, 1) := by decide +kernel
theorem dX11_who_198 : decode cX11_who 198 = .ok (.lstore 14, 2) := by decide +kernel
theorem dX11_who_200 : decode cX11_who 200 = .ok (.iinc 16 1, 3) := by decide +kernel
theorem dX11_who_203 : decode cX11_who 203 = .ok (.goto (-79), 3) := by decide +kernel
theorem dX11_who_206 : decode cX11_who 206 = .ok (.lload 12, 2) := by decide +kernel
theorem dX11_who_208 : decode cX11_who 208 = .ok (.lload 12, 2) := by decide +kernel
theorem dX11_who_210 : decode cX11_who 210 = .ok (.lload 14, 2) := by decide +kernel
theorem dX11_who_212 : decode cX11_who 212 = .ok (.ladd, 1) := by decide +kernel
theorem dX11_who_213 : decode cX11_who 213 = .ok (.iload 6, 2) := by decide +kernel
theorem dX11_who_215 : decode cX11_who 215 = .ok (.invokestatic 179, 3) := by decide +kernel
theorem dX11_who_218 : decode cX11_who 218 = .ok (.l2i, 1) := by decide +kernel
theorem dX11_who_219 : decode cX11_who 219 = .ok (.ireturn, 1) := by decide +kernel
theorem dX11_heard_0 : decode cX11_heard 0 = .ok (.aload_n 0, 1) := by decide +kernel
theorem dX11_heard_1 : decode cX11_heard 1 = .ok (.iload_n 1, 1) := by decide +kernel
theorem dX11_heard_2 : decode cX11_heard 2 = .ok (.invokevirtual 87, 3) := by decide +kernel
theorem dX11_heard_5 : decode cX11_heard 5 = .ok (.astore 8, 2) := by decide +kernel
theorem dX11_heard_7 : decode cX11_heard 7 = .ok (.aload_n 0, 1) := by decide +kernel
theorem dX11_heard_8 : decode cX11_heard 8 = .ok (.iload 4, 2) := by decide +kernel
theorem dX11_heard_10 : decode cX11_heard 10 = .ok (.invokevirtual 99, 3) := by decide +kernel
theorem dX11_heard_13 : decode cX11_heard 13 = .ok (.astore 9, 2) := by decide +kernel
theorem dX11_heard_15 : decode cX11_heard 15 = .ok (.aload 8, 2) := by decide +kernel
theorem dX11_heard_17 : decode cX11_heard 17 = .ok (.ifnull 16, 3) := by decide +kernel
theorem dX11_heard_20 : decode cX11_heard 20 = .ok (.aload 9, 2) := by decide +kernel
theorem dX11_heard_22 : decode cX11_heard 22 = .ok (.ifnull 11, 3) := by decide +kernel
theorem dX11_heard_25 : decode cX11_heard 25 = .ok (.aload_n 0, 1) := by decide +kernel
theorem dX11_heard_26 : decode cX11_heard 26 = .ok (.iload_n 2, 1) := by decide +kernel
theorem dX11_heard_27 : decode cX11_heard 27 = .ok (.invokevirtual 129, 3) := by decide +kernel
theorem dX11_heard_30 : decode cX11_heard 30 = .ok (.ifCond .ne 6, 3) := by decide +kernel
theorem dX11_heard_33 : decode cX11_heard 33 = .ok (.bipush (-101), 2) := by decide +kernel
theorem dX11_heard_35 : decode cX11_heard 35 = .ok (.ireturn, 1) := by decide +kernel
theorem dX11_heard_36 : decode cX11_heard 36 = .ok (.aload_n 0, 1) := by decide +kernel
theorem dX11_heard_37 : decode cX11_heard 37 = .ok (.iload_n 3, 1) := by decide +kernel
theorem dX11_heard_38 : decode cX11_heard 38 = .ok (.invokevirtual 149, 3) := by decide +kernel
theorem dX11_heard_41 : decode cX11_heard 41 = .ok (.ifCond .eq 31, 3) := by decide +kernel
theorem dX11_heard_44 : decode cX11_heard 44 = .ok (.iload_n 3, 1) := by decide +kernel
theorem dX11_heard_45 : decode cX11_heard 45 = .ok (.iload 4, 2) := by decide +kernel
theorem dX11_heard_47 : decode cX11_heard 47 = .ok (.invokestatic 152, 3) := by decide +kernel
theorem dX11_heard_50 : decode cX11_heard 50 = .ok (.ifCond .eq 22, 3) := by decide +kernel
theorem dX11_heard_53 : decode cX11_heard 53 = .ok (.iload 5, 2) := by decide +kernel
theorem dX11_heard_55 : decode cX11_heard 55 = .ok (.iconst 0, 1) := by decide +kernel
theorem dX11_heard_56 : decode cX11_heard 56 = .ok (.bipush 10, 2) := by decide +kernel
theorem dX11_heard_58 : decode cX11_heard 58 = .ok (.invokestatic 91, 3) := by decide +kernel
theorem dX11_heard_61 : decode cX11_heard 61 = .ok (.ifCond .eq 11, 3) := by decide +kernel
theorem dX11_heard_64 : decode cX11_heard 64 = .ok (.iload 7, 2) := by decide +kernel
theorem dX11_heard_66 : decode cX11_heard 66 = .ok (.invokestatic 164, 3) := by decide +kernel
theorem dX11_heard_69 : decode cX11_heard 69 = .ok (.ifCond .ne 6, 3) := by decide +kernel
theorem dX11_heard_72 : decode cX11_heard 72 = .ok (.bipush (-102), 2) := by decide +kernel
theorem dX11_heard_74 : decode cX11_heard 74 = .ok (.ireturn, 1) := by decide +kernel
theorem dX11_heard_75 : decode cX11_heard 75 = .ok (.aload_n 0, 1) := by decide +kernel
theorem dX11_heard_76 : decode cX11_heard 76 = .ok (.aload 9, 2) := by decide +kernel
theorem dX11_heard_78 : decode cX11_heard 78 = .ok (.iload_n 2, 1) := by decide +kernel
theorem dX11_heard_79 : decode cX11_heard 79 = .ok (.aload 8, 2) := by decide +kernel
theorem dX11_heard_81 : decode cX11_heard 81 = .ok (.iload_n 3, 1) := by decide +kernel
theorem dX11_heard_82 : decode cX11_heard 82 = .ok (.invokestatic 156, 3) := by decide +kernel
theorem dX11_heard_85 : decode cX11_heard 85 = .ok (.invokevirtual 160, 3) := by decide +kernel
theorem dX11_heard_88 : decode cX11_heard 88 = .ok (.istore 10, 2) := by decide +kernel
theorem dX11_heard_90 : decode cX11_heard 90 = .ok (.iload 6, 2) := by decide +kernel
theorem dX11_heard_92 : decode cX11_heard 92 = .ok (.ifCond .eq 8, 3) := by decide +kernel
theorem dX11_heard_95 : decode cX11_heard 95 = .ok (.iload 5, 2) := by decide +kernel
theorem dX11_heard_97 : decode cX11_heard 97 = .ok (.goto 8, 3) := by decide +kernel
theorem dX11_heard_100 : decode cX11_heard 100 = .ok (.bipush 10, 2) := by decide +kernel
theorem dX11_heard_102 : decode cX11_heard 102 = .ok (.iload 5, 2) := by decide +kernel
theorem dX11_heard_104 : decode cX11_heard 104 = .ok (.isub, 1) := by decide +kernel
theorem dX11_heard_105 : decode cX11_heard 105 = .ok (.istore 11, 2) := by decide +kernel
theorem dX11_heard_107 : decode cX11_heard 107 = .ok (.iload 10, 2) := by decide +kernel
theorem dX11_heard_109 : decode cX11_heard 109 = .ok (.iload 11, 2) := by decide +kernel
theorem dX11_heard_111 : decode cX11_heard 111 = .ok (.imul, 1) := by decide +kernel
theorem dX11_heard_112 : decode cX11_heard 112 = .ok (.istore 12, 2) := by decide +kernel
theorem dX11_heard_114 : decode cX11_heard 114 = .ok (.bipush 10, 2) := by decide +kernel
theorem dX11_heard_116 : decode cX11_heard 116 = .ok (.iload 10, 2) := by decide +kernel
theorem dX11_heard_118 : decode cX11_heard 118 = .ok (.isub, 1) := by decide +kernel
theorem dX11_heard_119 : decode cX11_heard 119 = .ok (.bipush 10, 2) := by decide +kernel
theorem dX11_heard_121 : decode cX11_heard 121 = .ok (.iload 11, 2) := by decide +kernel
theorem dX11_heard_123 : decode cX11_heard 123 = .ok (.isub, 1) := by decide +kernel
theorem dX11_heard_124 : decode cX11_heard 124 = .ok (.imul, 1) := by decide +kernel
theorem dX11_heard_125 : decode cX11_heard 125 = .ok (.istore 13, 2) := by decide +kernel
theorem dX11_heard_127 : decode cX11_heard 127 = .ok (.iload 12, 2) := by decide +kernel
theorem dX11_heard_129 : decode cX11_heard 129 = .ok (.i2l, 1) := by decide +kernel
theorem dX11_heard_130 : decode cX11_heard 130 = .ok (.iload 12, 2) := by decide +kernel
theorem dX11_heard_132 : decode cX11_heard 132 = .ok (.iload 13, 2) := by decide +kernel
theorem dX11_heard_134 : decode cX11_heard 134 = .ok (.iadd, 1) := by decide +kernel
theorem dX11_heard_135 : decode cX11_heard 135 = .ok (.i2l, 1) := by decide +kernel
theorem dX11_heard_136 : decode cX11_heard 136 = .ok (.iload 7, 2) := by decide +kernel
theorem dX11_heard_138 : decode cX11_heard 138 = .ok (.invokestatic 179, 3) := by decide +kernel
theorem dX11_heard_141 : decode cX11_heard 141 = .ok (.l2i, 1) := by decide +kernel
theorem dX11_heard_142 : decode cX11_heard 142 = .ok (.ireturn, 1) := by decide +kernel
theorem dX11_sway_0 : decode cX11_sway 0 = .ok (.aload_n 0, 1) := by decide +kernel
theorem dX11_sway_1 : decode cX11_sway 1 = .ok (.iload_n 1, 1) := by decide +kernel
theorem dX11_sway_2 : decode cX11_sway 2 = .ok (.invokevirtual 87, 3) := by decide +kernel
theorem dX11_sway_5 : decode cX11_sway 5 = .ok (.astore 4, 2) := by decide +kernel
theorem dX11_sway_7 : decode cX11_sway 7 = .ok (.aload 4, 2) := by decide +kernel
theorem dX11_sway_9 : decode cX11_sway 9 = .ok (.ifnull 11, 3) := by decide +kernel
theorem dX11_sway_12 : decode cX11_sway 12 = .ok (.aload_n 0, 1) := by decide +kernel
theorem dX11_sway_13 : decode cX11_sway 13 = .ok (.iload_n 2, 1) := by decide +kernel
theorem dX11_sway_14 : decode cX11_sway 14 = .ok (.invokevirtual 129, 3) := by decide +kernel
theorem dX11_sway_17 : decode cX11_sway 17 = .ok (.ifCond .ne 6, 3) := by decide +kernel
theorem dX11_sway_20 : decode cX11_sway 20 = .ok (.bipush (-101), 2) := by decide +kernel
theorem dX11_sway_22 : decode cX11_sway 22 = .ok (.ireturn, 1) := by decide +kernel
theorem dX11_sway_23 : decode cX11_sway 23 = .ok (.aload_n 0, 1) := by decide +kernel
theorem dX11_sway_24 : decode cX11_sway 24 = .ok (.iload_n 3, 1) := by decide +kernel
theorem dX11_sway_25 : decode cX11_sway 25 = .ok (.invokevirtual 149, 3) := by decide +kernel
theorem dX11_sway_28 : decode cX11_sway 28 = .ok (.ifCond .ne 6, 3) := by decide +kernel
theorem dX11_sway_31 : decode cX11_sway 31 = .ok (.bipush (-102), 2) := by decide +kernel
theorem dX11_sway_33 : decode cX11_sway 33 = .ok (.ireturn, 1) := by decide +kernel
theorem dX11_sway_34 : decode cX11_sway 34 = .ok (.aload_n 0, 1) := by decide +kernel
theorem dX11_sway_35 : decode cX11_sway 35 = .ok (.aload 4, 2) := by decide +kernel
theorem dX11_sway_37 : decode cX11_sway 37 = .ok (.iload_n 2, 1) := by decide +kernel
theorem dX11_sway_38 : decode cX11_sway 38 = .ok (.iload_n 3, 1) := by decide +kernel
theorem dX11_sway_39 : decode cX11_sway 39 = .ok (.invokevirtual 187, 3) := by decide +kernel
theorem dX11_sway_42 : decode cX11_sway 42 = .ok (.lstore 5, 2) := by decide +kernel
theorem dX11_sway_44 : decode cX11_sway 44 = .ok (.iconst (-1), 1) := by decide +kernel
theorem dX11_sway_45 : decode cX11_sway 45 = .ok (.istore 7, 2) := by decide +kernel
theorem dX11_sway_47 : decode cX11_sway 47 = .ok (.ldc2_w 226, 3) := by decide +kernel
theorem dX11_sway_50 : decode cX11_sway 50 = .ok (.lstore 8, 2) := by decide +kernel
theorem dX11_sway_52 : decode cX11_sway 52 = .ok (.iconst 0, 1) := by decide +kernel
theorem dX11_sway_53 : decode cX11_sway 53 = .ok (.istore 10, 2) := by decide +kernel
theorem dX11_sway_55 : decode cX11_sway 55 = .ok (.iload 10, 2) := by decide +kernel
theorem dX11_sway_57 : decode cX11_sway 57 = .ok (.aload_n 0, 1) := by decide +kernel
theorem dX11_sway_58 : decode cX11_sway 58 = .ok (.getfield 103, 3) := by decide +kernel
theorem dX11_sway_61 : decode cX11_sway 61 = .ok (.if_icmp .ge 65, 3) := by decide +kernel
theorem dX11_sway_64 : decode cX11_sway 64 = .ok (.iload_n 3, 1) := by decide +kernel
theorem dX11_sway_65 : decode cX11_sway 65 = .ok (.iload 10, 2) := by decide +kernel
theorem dX11_sway_67 : decode cX11_sway 67 = .ok (.invokestatic 152, 3) := by decide +kernel
theorem dX11_sway_70 : decode cX11_sway 70 = .ok (.ifCond .eq 50, 3) := by decide +kernel
theorem dX11_sway_73 : decode cX11_sway 73 = .ok (.ldc2_w 228, 3) := by decide +kernel
theorem dX11_sway_76 : decode cX11_sway 76 = .ok (.aload_n 0, 1) := by decide +kernel
theorem dX11_sway_77 : decode cX11_sway 77 = .ok (.aload 4, 2) := by decide +kernel
theorem dX11_sway_79 : decode cX11_sway 79 = .ok (.iload_n 2, 1) := by decide +kernel
theorem dX11_sway_80 : decode cX11_sway 80 = .ok (.iload_n 3, 1) := by decide +kernel
theorem dX11_sway_81 : decode cX11_sway 81 = .ok (.iconst 1, 1) := by decide +kernel
theorem dX11_sway_82 : decode cX11_sway 82 = .ok (.iload 10, 2) := by decide +kernel
theorem dX11_sway_84 : decode cX11_sway 84 = .ok (.ishl, 1) := by decide +kernel
theorem dX11_sway_85 : decode cX11_sway 85 = .ok (.iconst (-1), 1) := by decide +kernel
theorem dX11_sway_86 : decode cX11_sway 86 = .ok (.ixor, 1) := by decide +kernel
theorem dX11_sway_87 : decode cX11_sway 87 = .ok (.iand, 1) := by decide +kernel
theorem dX11_sway_88 : decode cX11_sway 88 = .ok (.invokevirtual 187, 3) := by decide +kernel
theorem dX11_sway_91 : decode cX11_sway 91 = .ok (.lmul, 1) := by decide +kernel
theorem dX11_sway_92 : decode cX11_sway 92 = .ok (.lstore 11, 2) := by decide +kernel
theorem dX11_sway_94 : decode cX11_sway 94 = .ok (.lload 5, 2) := by decide +kernel
theorem dX11_sway_96 : decode cX11_sway 96 = .ok (.lload 11, 2) := by decide +kernel
theorem dX11_sway_98 : decode cX11_sway 98 = .ok (.lsub, 1) := by decide +kernel
theorem dX11_sway_99 : decode cX11_sway 99 = .ok (.invokestatic 230, 3) := by decide +kernel
theorem dX11_sway_102 : decode cX11_sway 102 = .ok (.lstore 13, 2) := by decide +kernel
theorem dX11_sway_104 : decode cX11_sway 104 = .ok (.lload 13, 2) := by decide +kernel
theorem dX11_sway_106 : decode cX11_sway 106 = .ok (.lload 8, 2) := by decide +kernel
theorem dX11_sway_108 : decode cX11_sway 108 = .ok (.lcmp, 1) := by decide +kernel
theorem dX11_sway_109 : decode cX11_sway 109 = .ok (.ifCond .le 11, 3) := by decide +kernel
theorem dX11_sway_112 : decode cX11_sway 112 = .ok (.iload 10, 2) := by decide +kernel
theorem dX11_sway_114 : decode cX11_sway 114 = .ok (.istore 7, 2) := by decide +kernel
theorem dX11_sway_116 : decode cX11_sway 116 = .ok (.lload 13, 2) := by decide +kernel
theorem dX11_sway_118 : decode cX11_sway 118 = .ok (.lstore 8, 2) := by decide +kernel
theorem dX11_sway_120 : decode cX11_sway 120 = .ok (.iinc 10 1, 3) := by decide +kernel
theorem dX11_sway_123 : decode cX11_sway 123 = .ok (.goto (-68), 3) := by decide +kernel
theorem dX11_sway_126 : decode cX11_sway 126 = .ok (.iload 7, 2) := by decide +kernel
theorem dX11_sway_128 : decode cX11_sway 128 = .ok (.ireturn, 1) := by decide +kernel
theorem dX11_word_0 : decode cX11_word 0 = .ok (.aload_n 0, 1) := by decide +kernel
theorem dX11_word_1 : decode cX11_word 1 = .ok (.iload_n 1, 1) := by decide +kernel
theorem dX11_word_2 : decode cX11_word 2 = .ok (.invokevirtual 87, 3) := by decide +kernel
theorem dX11_word_5 : decode cX11_word 5 = .ok (.astore 4, 2) := by decide +kernel
theorem dX11_word_7 : decode cX11_word 7 = .ok (.aload 4, 2) := by decide +kernel
theorem dX11_word_9 : decode cX11_word 9 = .ok (.ifnonnull 6, 3) := by decide +kernel
theorem dX11_word_12 : decode cX11_word 12 = .ok (.bipush (-101), 2) := by decide +kernel
theorem dX11_word_14 : decode cX11_word 14 = .ok (.ireturn, 1) := by decide +kernel
theorem dX11_word_15 : decode cX11_word 15 = .ok (.aload_n 0, 1) := by decide +kernel
theorem dX11_word_16 : decode cX11_word 16 = .ok (.iload_n 2, 1) := by decide +kernel
theorem dX11_word_17 : decode cX11_word 17 = .ok (.invokevirtual 149, 3) := by decide +kernel
theorem dX11_word_20 : decode cX11_word 20 = .ok (.ifCond .eq 13, 3) := by decide +kernel
theorem dX11_word_23 : decode cX11_word 23 = .ok (.iload_n 3, 1) := by decide +kernel
theorem dX11_word_24 : decode cX11_word 24 = .ok (.iconst 0, 1) := by decide +kernel
theorem dX11_word_25 : decode cX11_word 25 = .ok (.bipush 10, 2) := by decide +kernel
theorem dX11_word_27 : decode cX11_word 27 = .ok (.invokestatic 91, 3) := by decide +kernel
theorem dX11_word_30 : decode cX11_word 30 = .ok (.ifCond .ne 6, 3) := by decide +kernel
theorem dX11_word_33 : decode cX11_word 33 = .ok (.bipush (-102), 2) := by decide +kernel
theorem dX11_word_35 : decode cX11_word 35 = .ok (.ireturn, 1) := by decide +kernel
theorem dX11_word_36 : decode cX11_word 36 = .ok (.iconst 0, 1) := by decide +kernel
theorem dX11_word_37 : decode cX11_word 37 = .ok (.istore 5, 2) := by decide +kernel
theorem dX11_word_39 : decode cX11_word 39 = .ok (.iconst 0, 1) := by decide +kernel
theorem dX11_word_40 : decode cX11_word 40 = .ok (.istore 6, 2) := by decide +kernel
theorem dX11_word_42 : decode cX11_word 42 = .ok (.iload 6, 2) := by decide +kernel
theorem dX11_word_44 : decode cX11_word 44 = .ok (.aload_n 0, 1) := by decide +kernel
theorem dX11_word_45 : decode cX11_word 45 = .ok (.getfield 126, 3) := by decide +kernel
theorem dX11_word_48 : decode cX11_word 48 = .ok (.if_icmp .ge 35, 3) := by decide +kernel
theorem dX11_word_51 : decode cX11_word 51 = .ok (.aload_n 0, 1) := by decide +kernel
theorem dX11_word_52 : decode cX11_word 52 = .ok (.aload 4, 2) := by decide +kernel
theorem dX11_word_54 : decode cX11_word 54 = .ok (.iload 6, 2) := by decide +kernel
theorem dX11_word_56 : decode cX11_word 56 = .ok (.iload_n 2, 1) := by decide +kernel
theorem dX11_word_57 : decode cX11_word 57 = .ok (.invokevirtual 187, 3) := by decide +kernel
theorem dX11_word_60 : decode cX11_word 60 = .ok (.iload_n 2, 1) := by decide +kernel
theorem dX11_word_61 : decode cX11_word 61 = .ok (.iload_n 3, 1) := by decide +kernel
theorem dX11_word_62 : decode cX11_word 62 = .ok (.invokestatic 236, 3) := by decide +kernel
theorem dX11_word_65 : decode cX11_word 65 = .ok (.ifCond .eq 12, 3) := by decide +kernel
theorem dX11_word_68 : decode cX11_word 68 = .ok (.iload 5, 2) := by decide +kernel
theorem dX11_word_70 : decode cX11_word 70 = .ok (.iconst 1, 1) := by decide +kernel
theorem dX11_word_71 : decode cX11_word 71 = .ok (.iload 6, 2) := by decide +kernel
theorem dX11_word_73 : decode cX11_word 73 = .ok (.ishl, 1) := by decide +kernel
theorem dX11_word_74 : decode cX11_word 74 = .ok (.ior, 1) := by decide +kernel
theorem dX11_word_75 : decode cX11_word 75 = .ok (.istore 5, 2) := by decide +kernel
theorem dX11_word_77 : decode cX11_word 77 = .ok (.iinc 6 1, 3) := by decide +kernel
theorem dX11_word_80 : decode cX11_word 80 = .ok (.goto (-38), 3) := by decide +kernel
theorem dX11_word_83 : decode cX11_word 83 = .ok (.iload 5, 2) := by decide +kernel
theorem dX11_word_85 : decode cX11_word 85 = .ok (.ireturn, 1) := by decide +kernel
theorem dX11_seen_0 : decode cX11_seen 0 = .ok (.aload_n 0, 1) := by decide +kernel
theorem dX11_seen_1 : decode cX11_seen 1 = .ok (.iload_n 1, 1) := by decide +kernel
theorem dX11_seen_2 : decode cX11_seen 2 = .ok (.invokevirtual 87, 3) := by decide +kernel
theorem dX11_seen_5 : decode cX11_seen 5 = .ok (.astore 5, 2) := by decide +kernel
theorem dX11_seen_7 : decode cX11_seen 7 = .ok (.aload 5, 2) := by decide +kernel
theorem dX11_seen_9 : decode cX11_seen 9 = .ok (.ifnonnull 7, 3) := by decide +kernel
theorem dX11_seen_12 : decode cX11_seen 12 = .ok (.ldc2_w 183, 3) := by decide +kernel
theorem dX11_seen_15 : decode cX11_seen 15 = .ok (.lreturn, 1) := by decide +kernel
theorem dX11_seen_16 : decode cX11_seen 16 = .ok (.aload_n 0, 1) := by decide +kernel
theorem dX11_seen_17 : decode cX11_seen 17 = .ok (.iload_n 2, 1) := by decide +kernel
theorem dX11_seen_18 : decode cX11_seen 18 = .ok (.invokevirtual 149, 3) := by decide +kernel
theorem dX11_seen_21 : decode cX11_seen 21 = .ok (.ifCond .eq 21, 3) := by decide +kernel
theorem dX11_seen_24 : decode cX11_seen 24 = .ok (.iload_n 3, 1) := by decide +kernel
theorem dX11_seen_25 : decode cX11_seen 25 = .ok (.iconst 0, 1) := by decide +kernel
theorem dX11_seen_26 : decode cX11_seen 26 = .ok (.bipush 10, 2) := by decide +kernel
theorem dX11_seen_28 : decode cX11_seen 28 = .ok (.invokestatic 91, 3) := by decide +kernel
theorem dX11_seen_31 : decode cX11_seen 31 = .ok (.ifCond .eq 11, 3) := by decide +kernel
theorem dX11_seen_34 : decode cX11_seen 34 = .ok (.iload 4, 2) := by decide +kernel
theorem dX11_seen_36 : decode cX11_seen 36 = .ok (.invokestatic 164, 3) := by decide +kernel
theorem dX11_seen_39 : decode cX11_seen 39 = .ok (.ifCond .ne 7, 3) := by decide +kernel
theorem dX11_seen_42 : decode cX11_seen 42 = .ok (.ldc2_w 185, 3) := by decide +kernel
theorem dX11_seen_45 : decode cX11_seen 45 = .ok (.lreturn, 1) := by decide +kernel
theorem dX11_seen_46 : decode cX11_seen 46 = .ok (.lconst 0, 1) := by decide +kernel
theorem dX11_seen_47 : decode cX11_seen 47 = .ok (.lstore 6, 2) := by decide +kernel
theorem dX11_seen_49 : decode cX11_seen 49 = .ok (.iconst 0, 1) := by decide +kernel
theorem dX11_seen_50 : decode cX11_seen 50 = .ok (.istore 8, 2) := by decide +kernel
theorem dX11_seen_52 : decode cX11_seen 52 = .ok (.iload 8, 2) := by decide +kernel
theorem dX11_seen_54 : decode cX11_seen 54 = .ok (.aload_n 0, 1) := by decide +kernel
theorem dX11_seen_55 : decode cX11_seen 55 = .ok (.getfield 126, 3) := by decide +kernel
theorem dX11_seen_58 : decode cX11_seen 58 = .ok (.if_icmp .ge 42, 3) := by decide +kernel
theorem dX11_seen_61 : decode cX11_seen 61 = .ok (.aload_n 0, 1) := by decide +kernel
theorem dX11_seen_62 : decode cX11_seen 62 = .ok (.aload 5, 2) := by decide +kernel
theorem dX11_seen_64 : decode cX11_seen 64 = .ok (.iload 8, 2) := by decide +kernel
theorem dX11_seen_66 : decode cX11_seen 66 = .ok (.iload_n 2, 1) := by decide +kernel
theorem dX11_seen_67 : decode cX11_seen 67 = .ok (.invokevirtual 187, 3) := by decide +kernel
theorem dX11_seen_70 : decode cX11_seen 70 = .ok (.lstore 9, 2) := by decide +kernel
theorem dX11_seen_72 : decode cX11_seen 72 = .ok (.lload 9, 2) := by decide +kernel
theorem dX11_seen_74 : decode cX11_seen 74 = .ok (.iload_n 2, 1) := by decide +kernel
theorem dX11_seen_75 : decode cX11_seen 75 = .ok (.iload_n 3, 1) := by decide +kernel
theorem dX11_seen_76 : decode cX11_seen 76 = .ok (.invokestatic 236, 3) := by decide +kernel
theorem dX11_seen_79 : decode cX11_seen 79 = .ok (.ifCond .ne 15, 3) := by decide +kernel
theorem dX11_seen_82 : decode cX11_seen 82 = .ok (.lload 6, 2) := by decide +kernel
theorem dX11_seen_84 : decode cX11_seen 84 = .ok (.iload_n 2, 1) := by decide +kernel
theorem dX11_seen_85 : decode cX11_seen 85 = .ok (.invokestatic 191, 3) := by decide +kernel
theorem dX11_seen_88 : decode cX11_seen 88 = .ok (.lload 9, 2) := by decide +kernel
theorem dX11_seen_90 : decode cX11_seen 90 = .ok (.lsub, 1) := by decide +kernel
theorem dX11_seen_91 : decode cX11_seen 91 = .ok (.ladd, 1) := by decide +kernel
theorem dX11_seen_92 : decode cX11_seen 92 = .ok (.lstore 6, 2) := by decide +kernel
theorem dX11_seen_94 : decode cX11_seen 94 = .ok (.iinc 8 1, 3) := by decide +kernel
theorem dX11_seen_97 : decode cX11_seen 97 = .ok (.goto (-45), 3) := by decide +kernel
theorem dX11_seen_100 : decode cX11_seen 100 = .ok (.lload 6, 2) := by decide +kernel
theorem dX11_seen_102 : decode cX11_seen 102 = .ok (.iload_n 2, 1) := by decide +kernel
theorem dX11_seen_103 : decode cX11_seen 103 = .ok (.invokestatic 191, 3) := by decide +kernel
theorem dX11_seen_106 : decode cX11_seen 106 = .ok (.iload 4, 2) := by decide +kernel
theorem dX11_seen_108 : decode cX11_seen 108 = .ok (.invokestatic 179, 3) := by decide +kernel
theorem dX11_seen_111 : decode cX11_seen 111 = .ok (.lreturn, 1) := by decide +kernel
theorem dX11_evening_0 : decode cX11_evening 0 = .ok (.aload_n 0, 1) := by decide +kernel
theorem dX11_evening_1 : decode cX11_evening 1 = .ok (.iload_n 1, 1) := by decide +kernel
theorem dX11_evening_2 : decode cX11_evening 2 = .ok (.invokevirtual 87, 3) := by decide +kernel
theorem dX11_evening_5 : decode cX11_evening 5 = .ok (.astore 6, 2) := by decide +kernel
theorem dX11_evening_7 : decode cX11_evening 7 = .ok (.aload 6, 2) := by decide +kernel
theorem dX11_evening_9 : decode cX11_evening 9 = .ok (.ifnull 11, 3) := by decide +kernel
theorem dX11_evening_12 : decode cX11_evening 12 = .ok (.aload_n 0, 1) := by decide +kernel
theorem dX11_evening_13 : decode cX11_evening 13 = .ok (.iload_n 2, 1) := by decide +kernel
theorem dX11_evening_14 : decode cX11_evening 14 = .ok (.invokevirtual 129, 3) := by decide +kernel
theorem dX11_evening_17 : decode cX11_evening 17 = .ok (.ifCond .ne 6, 3) := by decide +kernel
theorem dX11_evening_20 : decode cX11_evening 20 = .ok (.bipush (-101), 2) := by decide +kernel
theorem dX11_evening_22 : decode cX11_evening 22 = .ok (.ireturn, 1) := by decide +kernel
theorem dX11_evening_23 : decode cX11_evening 23 = .ok (.aload_n 0, 1) := by decide +kernel
theorem dX11_evening_24 : decode cX11_evening 24 = .ok (.iload_n 3, 1) := by decide +kernel
theorem dX11_evening_25 : decode cX11_evening 25 = .ok (.invokevirtual 149, 3) := by decide +kernel
theorem dX11_evening_28 : decode cX11_evening 28 = .ok (.ifCond .eq 18, 3) := by decide +kernel
theorem dX11_evening_31 : decode cX11_evening 31 = .ok (.iload 4, 2) := by decide +kernel
theorem dX11_evening_33 : decode cX11_evening 33 = .ok (.ifCond .lt 13, 3) := by decide +kernel
theorem dX11_evening_36 : decode cX11_evening 36 = .ok (.iload 5, 2) := by decide +kernel
theorem dX11_evening_38 : decode cX11_evening 38 = .ok (.iconst 0, 1) := by decide +kernel
theorem dX11_evening_39 : decode cX11_evening 39 = .ok (.iconst 2, 1) := by decide +kernel
theorem dX11_evening_40 : decode cX11_evening 40 = .ok (.invokestatic 91, 3) := by decide +kernel
theorem dX11_evening_43 : decode cX11_evening 43 = .ok (.ifCond .ne 6, 3) := by decide +kernel
theorem dX11_evening_46 : decode cX11_evening 46 = .ok (.bipush (-102), 2) := by decide +kernel
theorem dX11_evening_48 : decode cX11_evening 48 = .ok (.ireturn, 1) := by decide +kernel
theorem dX11_evening_49 : decode cX11_evening 49 = .ok (.aload 6, 2) := by decide +kernel
theorem dX11_evening_51 : decode cX11_evening 51 = .ok (.iload_n 3, 1) := by decide +kernel
theorem dX11_evening_52 : decode cX11_evening 52 = .ok (.invokestatic 156, 3) := by decide +kernel
theorem dX11_evening_55 : decode cX11_evening 55 = .ok (.istore 7, 2) := by decide +kernel
theorem dX11_evening_57 : decode cX11_evening 57 = .ok (.aload_n 0, 1) := by decide +kernel
theorem dX11_evening_58 : decode cX11_evening 58 = .ok (.getfield 49, 3) := by decide +kernel
theorem dX11_evening_61 : decode cX11_evening 61 = .ok (.invokevirtual 240, 3) := by decide +kernel
theorem dX11_evening_64 : decode cX11_evening 64 = .ok (.iconst 0, 1) := by decide +kernel
theorem dX11_evening_65 : decode cX11_evening 65 = .ok (.istore 8, 2) := by decide +kernel
theorem dX11_evening_67 : decode cX11_evening 67 = .ok (.iload 8, 2) := by decide +kernel
theorem dX11_evening_69 : decode cX11_evening 69 = .ok (.aload_n 0, 1) := by decide +kernel
theorem dX11_evening_70 : decode cX11_evening 70 = .ok (.getfield 103, 3) := by decide +kernel
theorem dX11_evening_73 : decode cX11_evening 73 = .ok (.if_icmp .ge 39, 3) := by decide +kernel
theorem dX11_evening_76 : decode cX11_evening 76 = .ok (.iload_n 3, 1) := by decide +kernel
theorem dX11_evening_77 : decode cX11_evening 77 = .ok (.iload 8, 2) := by decide +kernel
theorem dX11_evening_79 : decode cX11_evening 79 = .ok (.invokestatic 152, 3) := by decide +kernel
theorem dX11_evening_82 : decode cX11_evening 82 = .ok (.ifCond .eq 24, 3) := by decide +kernel
theorem dX11_evening_85 : decode cX11_evening 85 = .ok (.aload_n 0, 1) := by decide +kernel
theorem dX11_evening_86 : decode cX11_evening 86 = .ok (.getfield 49, 3) := by decide +kernel
theorem dX11_evening_89 : decode cX11_evening 89 = .ok (.aload_n 0, 1) := by decide +kernel
theorem dX11_evening_90 : decode cX11_evening 90 = .ok (.aload_n 0, 1) := by decide +kernel
theorem dX11_evening_91 : decode cX11_evening 91 = .ok (.getfield 24, 3) := by decide +kernel
theorem dX11_evening_94 : decode cX11_evening 94 = .ok (.iload 8, 2) := by decide +kernel
theorem dX11_evening_96 : decode cX11_evening 96 = .ok (.aaload, 1) := by decide +kernel
theorem dX11_evening_97 : decode cX11_evening 97 = .ok (.iload_n 2, 1) := by decide +kernel
theorem dX11_evening_98 : decode cX11_evening 98 = .ok (.iload 7, 2) := by decide +kernel
theorem dX11_evening_100 : decode cX11_evening 100 = .ok (.invokevirtual 160, 3) := by decide +kernel
theorem dX11_evening_103 : decode cX11_evening 103 = .ok (.invokevirtual 241, 3) := by decide +kernel
theorem dX11_evening_106 : decode cX11_evening 106 = .ok (.iinc 8 1, 3) := by decide +kernel
theorem dX11_evening_109 : decode cX11_evening 109 = .ok (.goto (-42), 3) := by decide +kernel
theorem dX11_evening_112 : decode cX11_evening 112 = .ok (.aload_n 0, 1) := by decide +kernel
theorem dX11_evening_113 : decode cX11_evening 113 = .ok (.getfield 49, 3) := by decide +kernel
theorem dX11_evening_116 : decode cX11_evening 116 = .ok (.aload 6, 2) := by decide +kernel
theorem dX11_evening_118 : decode cX11_evening 118 = .ok (.iload 4, 2) := by decide +kernel
theorem dX11_evening_120 : decode cX11_evening 120 = .ok (.invokevirtual 245, 3) := by decide +kernel
theorem dX11_evening_123 : decode cX11_evening 123 = .ok (.iload 5, 2) := by decide +kernel
theorem dX11_evening_125 : decode cX11_evening 125 = .ok (.lookupswitch 51 #[(0, 27), (1, 35)], 27) := by decide +kernel
theorem dX11_evening_152 : decode cX11_evening 152 = .ok (.aload_n 0, 1) := by decide +kernel
theorem dX11_evening_153 : decode cX11_evening 153 = .ok (.getfield 49, 3) := by decide +kernel
theorem dX11_evening_156 : decode cX11_evening 156 = .ok (.getfield 249, 3) := by decide +kernel
theorem dX11_evening_159 : decode cX11_evening 159 = .ok (.ireturn, 1) := by decide +kernel
theorem dX11_evening_160 : decode cX11_evening 160 = .ok (.aload_n 0, 1) := by decide +kernel
theorem dX11_evening_161 : decode cX11_evening 161 = .ok (.getfield 49, 3) := by decide +kernel
theorem dX11_evening_164 : decode cX11_evening 164 = .ok (.getfield 252, 3) := by decide +kernel
theorem dX11_evening_167 : decode cX11_evening 167 = .ok (.ifCond .eq 7, 3) := by decide +kernel
theorem dX11_evening_170 : decode cX11_evening 170 = .ok (.iconst 1, 1) := by decide +kernel
theorem dX11_evening_171 : decode cX11_evening 171 = .ok (.goto 4, 3) := by decide +kernel
theorem dX11_evening_174 : decode cX11_evening 174 = .ok (.iconst 0, 1) := by decide +kernel
theorem dX11_evening_175 : decode cX11_evening 175 = .ok (.ireturn, 1) := by decide +kernel
theorem dX11_evening_176 : decode cX11_evening 176 = .ok (.aload_n 0, 1) := by decide +kernel
theorem dX11_evening_177 : decode cX11_evening 177 = .ok (.getfield 49, 3) := by decide +kernel
theorem dX11_evening_180 : decode cX11_evening 180 = .ok (.getfield 255, 3) := by decide +kernel
theorem dX11_evening_183 : decode cX11_evening 183 = .ok (.ireturn, 1) := by decide +kernel
theorem dX11_trade_0 : decode cX11_trade 0 = .ok (.aload_n 0, 1) := by decide +kernel
theorem dX11_trade_1 : decode cX11_trade 1 = .ok (.iload_n 1, 1) := by decide +kernel
theorem dX11_trade_2 : decode cX11_trade 2 = .ok (.invokevirtual 87, 3) := by decide +kernel
theorem dX11_trade_5 : decode cX11_trade 5 = .ok (.astore 6, 2) := by decide +kernel
theorem dX11_trade_7 : decode cX11_trade 7 = .ok (.aload_n 0, 1) := by decide +kernel
theorem dX11_trade_8 : decode cX11_trade 8 = .ok (.iload_n 2, 1) := by decide +kernel
theorem dX11_trade_9 : decode cX11_trade 9 = .ok (.invokevirtual 99, 3) := by decide +kernel
theorem dX11_trade_12 : decode cX11_trade 12 = .ok (.astore 7, 2) := by decide +kernel
theorem dX11_trade_14 : decode cX11_trade 14 = .ok (.aload_n 0, 1) := by decide +kernel
theorem dX11_trade_15 : decode cX11_trade 15 = .ok (.iload_n 3, 1) := by decide +kernel
theorem dX11_trade_16 : decode cX11_trade 16 = .ok (.invokevirtual 99, 3) := by decide +kernel
theorem dX11_trade_19 : decode cX11_trade 19 = .ok (.astore 8, 2) := by decide +kernel
theorem dX11_trade_21 : decode cX11_trade 21 = .ok (.aload 6, 2) := by decide +kernel
theorem dX11_trade_23 : decode cX11_trade 23 = .ok (.ifnull 18, 3) := by decide +kernel
theorem dX11_trade_26 : decode cX11_trade 26 = .ok (.aload 7, 2) := by decide +kernel
theorem dX11_trade_28 : decode cX11_trade 28 = .ok (.ifnull 13, 3) := by decide +kernel
theorem dX11_trade_31 : decode cX11_trade 31 = .ok (.aload 8, 2) := by decide +kernel
theorem dX11_trade_33 : decode cX11_trade 33 = .ok (.ifnull 8, 3) := by decide +kernel
theorem dX11_trade_36 : decode cX11_trade 36 = .ok (.iload_n 2, 1) := by decide +kernel
theorem dX11_trade_37 : decode cX11_trade 37 = .ok (.iload_n 3, 1) := by decide +kernel
theorem dX11_trade_38 : decode cX11_trade 38 = .ok (.if_icmp .ne 6, 3) := by decide +kernel
theorem dX11_trade_41 : decode cX11_trade 41 = .ok (.bipush (-101), 2) := by decide +kernel
theorem dX11_trade_43 : decode cX11_trade 43 = .ok (.ireturn, 1) := by decide +kernel
theorem dX11_trade_44 : decode cX11_trade 44 = .ok (.aload_n 0, 1) := by decide +kernel
theorem dX11_trade_45 : decode cX11_trade 45 = .ok (.iload 4, 2) := by decide +kernel
theorem dX11_trade_47 : decode cX11_trade 47 = .ok (.invokevirtual 129, 3) := by decide +kernel
theorem dX11_trade_50 : decode cX11_trade 50 = .ok (.ifCond .eq 19, 3) := by decide +kernel
theorem dX11_trade_53 : decode cX11_trade 53 = .ok (.aload_n 0, 1) := by decide +kernel
theorem dX11_trade_54 : decode cX11_trade 54 = .ok (.iload 5, 2) := by decide +kernel
theorem dX11_trade_56 : decode cX11_trade 56 = .ok (.invokevirtual 129, 3) := by decide +kernel
theorem dX11_trade_59 : decode cX11_trade 59 = .ok (.ifCond .eq 10, 3) := by decide +kernel
theorem dX11_trade_62 : decode cX11_trade 62 = .ok (.iload 4, 2) := by decide +kernel
theorem dX11_trade_64 : decode cX11_trade 64 = .ok (.iload 5, 2) := by decide +kernel
theorem dX11_trade_66 : decode cX11_trade 66 = .ok (.if_icmp .ne 6, 3) := by decide +kernel
theorem dX11_trade_69 : decode cX11_trade 69 = .ok (.bipush (-101), 2) := by decide +kernel
theorem dX11_trade_71 : decode cX11_trade 71 = .ok (.ireturn, 1) := by decide +kernel
theorem dX11_trade_72 : decode cX11_trade 72 = .ok (.aload_n 0, 1) := by decide +kernel
theorem dX11_trade_73 : decode cX11_trade 73 = .ok (.aload 6, 2) := by decide +kernel
theorem dX11_trade_75 : decode cX11_trade 75 = .ok (.iload 4, 2) := by decide +kernel
theorem dX11_trade_77 : decode cX11_trade 77 = .ok (.iload_n 2, 1) := by decide +kernel
theorem dX11_trade_78 : decode cX11_trade 78 = .ok (.iload_n 3, 1) := by decide +kernel
theorem dX11_trade_79 : decode cX11_trade 79 = .ok (.invokevirtual 258, 3) := by decide +kernel
theorem dX11_trade_82 : decode cX11_trade 82 = .ok (.istore 9, 2) := by decide +kernel
theorem dX11_trade_84 : decode cX11_trade 84 = .ok (.aload_n 0, 1) := by decide +kernel
theorem dX11_trade_85 : decode cX11_trade 85 = .ok (.aload 6, 2) := by decide +kernel
theorem dX11_trade_87 : decode cX11_trade 87 = .ok (.iload 5, 2) := by decide +kernel
theorem dX11_trade_89 : decode cX11_trade 89 = .ok (.iload_n 2, 1) := by decide +kernel
theorem dX11_trade_90 : decode cX11_trade 90 = .ok (.iload_n 3, 1) := by decide +kernel
theorem dX11_trade_91 : decode cX11_trade 91 = .ok (.invokevirtual 258, 3) := by decide +kernel
theorem dX11_trade_94 : decode cX11_trade 94 = .ok (.istore 10, 2) := by decide +kernel
theorem dX11_trade_96 : decode cX11_trade 96 = .ok (.iconst 0, 1) := by decide +kernel
theorem dX11_trade_97 : decode cX11_trade 97 = .ok (.istore 11, 2) := by decide +kernel
theorem dX11_trade_99 : decode cX11_trade 99 = .ok (.iconst 0, 1) := by decide +kernel
theorem dX11_trade_100 : decode cX11_trade 100 = .ok (.istore 12, 2) := by decide +kernel
theorem dX11_trade_102 : decode cX11_trade 102 = .ok (.iload 12, 2) := by decide +kernel
theorem dX11_trade_104 : decode cX11_trade 104 = .ok (.iconst 4, 1) := by decide +kernel
theorem dX11_trade_105 : decode cX11_trade 105 = .ok (.if_icmp .ge 112, 3) := by decide +kernel
theorem dX11_trade_108 : decode cX11_trade 108 = .ok (.aload 7, 2) := by decide +kernel
theorem dX11_trade_110 : decode cX11_trade 110 = .ok (.iload 4, 2) := by decide +kernel
theorem dX11_trade_112 : decode cX11_trade 112 = .ok (.iload 9, 2) := by decide +kernel
theorem dX11_trade_114 : decode cX11_trade 114 = .ok (.iload 5, 2) := by decide +kernel
theorem dX11_trade_116 : decode cX11_trade 116 = .ok (.iload 10, 2) := by decide +kernel
theorem dX11_trade_118 : decode cX11_trade 118 = .ok (.iload 12, 2) := by decide +kernel
theorem dX11_trade_120 : decode cX11_trade 120 = .ok (.invokestatic 262, 3) := by decide +kernel
theorem dX11_trade_123 : decode cX11_trade 123 = .ok (.aload 7, 2) := by decide +kernel
theorem dX11_trade_125 : decode cX11_trade 125 = .ok (.iload 4, 2) := by decide +kernel
theorem dX11_trade_127 : decode cX11_trade 127 = .ok (.iload 9, 2) := by decide +kernel
theorem dX11_trade_129 : decode cX11_trade 129 = .ok (.iload 5, 2) := by decide +kernel
theorem dX11_trade_131 : decode cX11_trade 131 = .ok (.iload 10, 2) := by decide +kernel
theorem dX11_trade_133 : decode cX11_trade 133 = .ok (.iload 12, 2) := by decide +kernel
theorem dX11_trade_135 : decode cX11_trade 135 = .ok (.iconst 1, 1) := by decide +kernel
theorem dX11_trade_136 : decode cX11_trade 136 = .ok (.ixor, 1) := by decide +kernel
theorem dX11_trade_137 : decode cX11_trade 137 = .ok (.invokestatic 262, 3) := by decide +kernel
theorem dX11_trade_140 : decode cX11_trade 140 = .ok (.if_icmp .lt 7, 3) := by decide +kernel
theorem dX11_trade_143 : decode cX11_trade 143 = .ok (.iconst 1, 1) := by decide +kernel
theorem dX11_trade_144 : decode cX11_trade 144 = .ok (.goto 4, 3) := by decide +kernel
theorem dX11_trade_147 : decode cX11_trade 147 = .ok (.iconst 0, 1) := by decide +kernel
theorem dX11_trade_148 : decode cX11_trade 148 = .ok (.istore 13, 2) := by decide +kernel
theorem dX11_trade_150 : decode cX11_trade 150 = .ok (.aload 8, 2) := by decide +kernel
theorem dX11_trade_152 : decode cX11_trade 152 = .ok (.iload 4, 2) := by decide +kernel
theorem dX11_trade_154 : decode cX11_trade 154 = .ok (.iload 9, 2) := by decide +kernel
theorem dX11_trade_156 : decode cX11_trade 156 = .ok (.iload 5, 2) := by decide +kernel
theorem dX11_trade_158 : decode cX11_trade 158 = .ok (.iload 10, 2) := by decide +kernel
theorem dX11_trade_160 : decode cX11_trade 160 = .ok (.iload 12, 2) := by decide +kernel
theorem dX11_trade_162 : decode cX11_trade 162 = .ok (.invokestatic 262, 3) := by decide +kernel
theorem dX11_trade_165 : decode cX11_trade 165 = .ok (.aload 8, 2) := by decide +kernel
theorem dX11_trade_167 : decode cX11_trade 167 = .ok (.iload 4, 2) := by decide +kernel
theorem dX11_trade_169 : decode cX11_trade 169 = .ok (.iload 9, 2) := by decide +kernel
theorem dX11_trade_171 : decode cX11_trade 171 = .ok (.iload 5, 2) := by decide +kernel
theorem dX11_trade_173 : decode cX11_trade 173 = .ok (.iload 10, 2) := by decide +kernel
theorem dX11_trade_175 : decode cX11_trade 175 = .ok (.iload 12, 2) := by decide +kernel
theorem dX11_trade_177 : decode cX11_trade 177 = .ok (.iconst 2, 1) := by decide +kernel
theorem dX11_trade_178 : decode cX11_trade 178 = .ok (.ixor, 1) := by decide +kernel
theorem dX11_trade_179 : decode cX11_trade 179 = .ok (.invokestatic 262, 3) := by decide +kernel
theorem dX11_trade_182 : decode cX11_trade 182 = .ok (.if_icmp .lt 7, 3) := by decide +kernel
theorem dX11_trade_185 : decode cX11_trade 185 = .ok (.iconst 1, 1) := by decide +kernel
theorem dX11_trade_186 : decode cX11_trade 186 = .ok (.goto 4, 3) := by decide +kernel
theorem dX11_trade_189 : decode cX11_trade 189 = .ok (.iconst 0, 1) := by decide +kernel
theorem dX11_trade_190 : decode cX11_trade 190 = .ok (.istore 14, 2) := by decide +kernel
theorem dX11_trade_192 : decode cX11_trade 192 = .ok (.iload 13, 2) := by decide +kernel
theorem dX11_trade_194 : decode cX11_trade 194 = .ok (.ifCond .eq 17, 3) := by decide +kernel
theorem dX11_trade_197 : decode cX11_trade 197 = .ok (.iload 14, 2) := by decide +kernel
theorem dX11_trade_199 : decode cX11_trade 199 = .ok (.ifCond .eq 12, 3) := by decide +kernel
theorem dX11_trade_202 : decode cX11_trade 202 = .ok (.iload 11, 2) := by decide +kernel
theorem dX11_trade_204 : decode cX11_trade 204 = .ok (.iconst 1, 1) := by decide +kernel
theorem dX11_trade_205 : decode cX11_trade 205 = .ok (.iload 12, 2) := by decide +kernel
theorem dX11_trade_207 : decode cX11_trade 207 = .ok (.ishl, 1) := by decide +kernel
theorem dX11_trade_208 : decode cX11_trade 208 = .ok (.ior, 1) := by decide +kernel
theorem dX11_trade_209 : decode cX11_trade 209 = .ok (.istore 11, 2) := by decide +kernel
theorem dX11_trade_211 : decode cX11_trade 211 = .ok (.iinc 12 1, 3) := by decide +kernel
theorem dX11_trade_214 : decode cX11_trade 214 = .ok (.goto (-112), 3) := by decide +kernel
theorem dX11_trade_217 : decode cX11_trade 217 = .ok (.iload 11, 2) := by decide +kernel
theorem dX11_trade_219 : decode cX11_trade 219 = .ok (.ireturn, 1) := by decide +kernel
theorem dX11_veto_0 : decode cX11_veto 0 = .ok (.iload_n 1, 1) := by decide +kernel
theorem dX11_veto_1 : decode cX11_veto 1 = .ok (.iconst 1, 1) := by decide +kernel
theorem dX11_veto_2 : decode cX11_veto 2 = .ok (.bipush 8, 2) := by decide +kernel
theorem dX11_veto_4 : decode cX11_veto 4 = .ok (.invokestatic 91, 3) := by decide +kernel
theorem dX11_veto_7 : decode cX11_veto 7 = .ok (.ifCond .eq 22, 3) := by decide +kernel
theorem dX11_veto_10 : decode cX11_veto 10 = .ok (.iload_n 2, 1) := by decide +kernel
theorem dX11_veto_11 : decode cX11_veto 11 = .ok (.iconst 0, 1) := by decide +kernel
theorem dX11_veto_12 : decode cX11_veto 12 = .ok (.iconst 3, 1) := by decide +kernel
theorem dX11_veto_13 : decode cX11_veto 13 = .ok (.invokestatic 91, 3) := by decide +kernel
theorem dX11_veto_16 : decode cX11_veto 16 = .ok (.ifCond .eq 13, 3) := by decide +kernel
theorem dX11_veto_19 : decode cX11_veto 19 = .ok (.iload_n 3, 1) := by decide +kernel
theorem dX11_veto_20 : decode cX11_veto 20 = .ok (.iconst 0, 1) := by decide +kernel
theorem dX11_veto_21 : decode cX11_veto 21 = .ok (.bipush 10, 2) := by decide +kernel
theorem dX11_veto_23 : decode cX11_veto 23 = .ok (.invokestatic 91, 3) := by decide +kernel
theorem dX11_veto_26 : decode cX11_veto 26 = .ok (.ifCond .ne 6, 3) := by decide +kernel
theorem dX11_veto_29 : decode cX11_veto 29 = .ok (.bipush (-102), 2) := by decide +kernel
theorem dX11_veto_31 : decode cX11_veto 31 = .ok (.ireturn, 1) := by decide +kernel
theorem dX11_veto_32 : decode cX11_veto 32 = .ok (.iload_n 2, 1) := by decide +kernel
theorem dX11_veto_33 : decode cX11_veto 33 = .ok (.ifCond .ne 5, 3) := by decide +kernel
theorem dX11_veto_36 : decode cX11_veto 36 = .ok (.iconst 0, 1) := by decide +kernel
theorem dX11_veto_37 : decode cX11_veto 37 = .ok (.ireturn, 1) := by decide +kernel
theorem dX11_veto_38 : decode cX11_veto 38 = .ok (.aload_n 0, 1) := by decide +kernel
theorem dX11_veto_39 : decode cX11_veto 39 = .ok (.iload_n 1, 1) := by decide +kernel
theorem dX11_veto_40 : decode cX11_veto 40 = .ok (.iconst 1, 1) := by decide +kernel
theorem dX11_veto_41 : decode cX11_veto 41 = .ok (.isub, 1) := by decide +kernel
theorem dX11_veto_42 : decode cX11_veto 42 = .ok (.invokevirtual 266, 3) := by decide +kernel
theorem dX11_veto_45 : decode cX11_veto 45 = .ok (.lstore 4, 2) := by decide +kernel
theorem dX11_veto_47 : decode cX11_veto 47 = .ok (.iload_n 3, 1) := by decide +kernel
theorem dX11_veto_48 : decode cX11_veto 48 = .ok (.i2l, 1) := by decide +kernel
theorem dX11_veto_49 : decode cX11_veto 49 = .ok (.lload 4, 2) := by decide +kernel
theorem dX11_veto_51 : decode cX11_veto 51 = .ok (.lmul, 1) := by decide +kernel
theorem dX11_veto_52 : decode cX11_veto 52 = .ok (.aload_n 0, 1) := by decide +kernel
theorem dX11_veto_53 : decode cX11_veto 53 = .ok (.getfield 60, 3) := by decide +kernel
theorem dX11_veto_56 : decode cX11_veto 56 = .ok (.iload_n 2, 1) := by decide +kernel
theorem dX11_veto_57 : decode cX11_veto 57 = .ok (.iconst 1, 1) := by decide +kernel
theorem dX11_veto_58 : decode cX11_veto 58 = .ok (.isub, 1) := by decide +kernel
theorem dX11_veto_59 : decode cX11_veto 59 = .ok (.laload, 1) := by decide +kernel
theorem dX11_veto_60 : decode cX11_veto 60 = .ok (.ladd, 1) := by decide +kernel
theorem dX11_veto_61 : decode cX11_veto 61 = .ok (.aload_n 0, 1) := by decide +kernel
theorem dX11_veto_62 : decode cX11_veto 62 = .ok (.getfield 60, 3) := by decide +kernel
theorem dX11_veto_65 : decode cX11_veto 65 = .ok (.iload_n 2, 1) := by decide +kernel
theorem dX11_veto_66 : decode cX11_veto 66 = .ok (.laload, 1) := by decide +kernel
theorem dX11_veto_67 : decode cX11_veto 67 = .ok (.lcmp, 1) := by decide +kernel
theorem dX11_veto_68 : decode cX11_veto 68 = .ok (.ifCond .le 7, 3) := by decide +kernel
theorem dX11_veto_71 : decode cX11_veto 71 = .ok (.iconst 1, 1) := by decide +kernel
theorem dX11_veto_72 : decode cX11_veto 72 = .ok (.goto 4, 3) := by decide +kernel
theorem dX11_veto_75 : decode cX11_veto 75 = .ok (.iconst 0, 1) := by decide +kernel
theorem dX11_veto_76 : decode cX11_veto 76 = .ok (.ireturn, 1) := by decide +kernel
theorem dX11_worth_0 : decode cX11_worth 0 = .ok (.iload_n 1, 1) := by decide +kernel
theorem dX11_worth_1 : decode cX11_worth 1 = .ok (.iconst 1, 1) := by decide +kernel
theorem dX11_worth_2 : decode cX11_worth 2 = .ok (.bipush 8, 2) := by decide +kernel
theorem dX11_worth_4 : decode cX11_worth 4 = .ok (.invokestatic 91, 3) := by decide +kernel
theorem dX11_worth_7 : decode cX11_worth 7 = .ok (.ifCond .eq 19, 3) := by decide +kernel
theorem dX11_worth_10 : decode cX11_worth 10 = .ok (.iload_n 2, 1) := by decide +kernel
theorem dX11_worth_11 : decode cX11_worth 11 = .ok (.iconst 0, 1) := by decide +kernel
theorem dX11_worth_12 : decode cX11_worth 12 = .ok (.iconst 3, 1) := by decide +kernel
theorem dX11_worth_13 : decode cX11_worth 13 = .ok (.invokestatic 91, 3) := by decide +kernel
theorem dX11_worth_16 : decode cX11_worth 16 = .ok (.ifCond .eq 10, 3) := by decide +kernel
theorem dX11_worth_19 : decode cX11_worth 19 = .ok (.iload_n 3, 1) := by decide +kernel
theorem dX11_worth_20 : decode cX11_worth 20 = .ok (.invokestatic 164, 3) := by decide +kernel
theorem dX11_worth_23 : decode cX11_worth 23 = .ok (.ifCond .ne 7, 3) := by decide +kernel
theorem dX11_worth_26 : decode cX11_worth 26 = .ok (.ldc2_w 185, 3) := by decide +kernel
theorem dX11_worth_29 : decode cX11_worth 29 = .ok (.lreturn, 1) := by decide +kernel
theorem dX11_worth_30 : decode cX11_worth 30 = .ok (.aload_n 0, 1) := by decide +kernel
theorem dX11_worth_31 : decode cX11_worth 31 = .ok (.iload_n 1, 1) := by decide +kernel
theorem dX11_worth_32 : decode cX11_worth 32 = .ok (.invokevirtual 266, 3) := by decide +kernel
theorem dX11_worth_35 : decode cX11_worth 35 = .ok (.lstore 4, 2) := by decide +kernel
theorem dX11_worth_37 : decode cX11_worth 37 = .ok (.aload_n 0, 1) := by decide +kernel
theorem dX11_worth_38 : decode cX11_worth 38 = .ok (.getfield 60, 3) := by decide +kernel
theorem dX11_worth_41 : decode cX11_worth 41 = .ok (.iload_n 2, 1) := by decide +kernel
theorem dX11_worth_42 : decode cX11_worth 42 = .ok (.laload, 1) := by decide +kernel
theorem dX11_worth_43 : decode cX11_worth 43 = .ok (.lload 4, 2) := by decide +kernel
theorem dX11_worth_45 : decode cX11_worth 45 = .ok (.iload_n 3, 1) := by decide +kernel
theorem dX11_worth_46 : decode cX11_worth 46 = .ok (.invokestatic 179, 3) := by decide +kernel
theorem dX11_worth_49 : decode cX11_worth 49 = .ok (.lreturn, 1) := by decide +kernel
theorem dX11_years_0 : decode cX11_years 0 = .ok (.aload_n 0, 1) := by decide +kernel
theorem dX11_years_1 : decode cX11_years 1 = .ok (.iload_n 1, 1) := by decide +kernel
theorem dX11_years_2 : decode cX11_years 2 = .ok (.invokevirtual 87, 3) := by decide +kernel
theorem dX11_years_5 : decode cX11_years 5 = .ok (.astore 5, 2) := by decide +kernel
theorem dX11_years_7 : decode cX11_years 7 = .ok (.aload 5, 2) := by decide +kernel
theorem dX11_years_9 : decode cX11_years 9 = .ok (.ifnonnull 6, 3) := by decide +kernel
theorem dX11_years_12 : decode cX11_years 12 = .ok (.bipush (-101), 2) := by decide +kernel
theorem dX11_years_14 : decode cX11_years 14 = .ok (.ireturn, 1) := by decide +kernel
theorem dX11_years_15 : decode cX11_years 15 = .ok (.iload_n 2, 1) := by decide +kernel
theorem dX11_years_16 : decode cX11_years 16 = .ok (.iconst 0, 1) := by decide +kernel
theorem dX11_years_17 : decode cX11_years 17 = .ok (.bipush 60, 2) := by decide +kernel
theorem dX11_years_19 : decode cX11_years 19 = .ok (.invokestatic 91, 3) := by decide +kernel
theorem dX11_years_22 : decode cX11_years 22 = .ok (.ifCond .eq 17, 3) := by decide +kernel
theorem dX11_years_25 : decode cX11_years 25 = .ok (.iload_n 3, 1) := by decide +kernel
theorem dX11_years_26 : decode cX11_years 26 = .ok (.ifCond .lt 13, 3) := by decide +kernel
theorem dX11_years_29 : decode cX11_years 29 = .ok (.iload 4, 2) := by decide +kernel
theorem dX11_years_31 : decode cX11_years 31 = .ok (.iconst 0, 1) := by decide +kernel
theorem dX11_years_32 : decode cX11_years 32 = .ok (.iconst 3, 1) := by decide +kernel
theorem dX11_years_33 : decode cX11_years 33 = .ok (.invokestatic 91, 3) := by decide +kernel
theorem dX11_years_36 : decode cX11_years 36 = .ok (.ifCond .ne 6, 3) := by decide +kernel
theorem dX11_years_39 : decode cX11_years 39 = .ok (.bipush (-102), 2) := by decide +kernel
theorem dX11_years_41 : decode cX11_years 41 = .ok (.ireturn, 1) := by decide +kernel
theorem dX11_years_42 : decode cX11_years 42 = .ok (.aload_n 0, 1) := by decide +kernel
theorem dX11_years_43 : decode cX11_years 43 = .ok (.getfield 56, 3) := by decide +kernel
theorem dX11_years_46 : decode cX11_years 46 = .ok (.iload_n 3, 1) := by decide +kernel
theorem dX11_years_47 : decode cX11_years 47 = .ok (.invokevirtual 269, 3) := by decide +kernel
theorem dX11_years_50 : decode cX11_years 50 = .ok (.iconst 0, 1) := by decide +kernel
theorem dX11_years_51 : decode cX11_years 51 = .ok (.istore 6, 2) := by decide +kernel
theorem dX11_years_53 : decode cX11_years 53 = .ok (.iload 6, 2) := by decide +kernel
theorem dX11_years_55 : decode cX11_years 55 = .ok (.iload_n 2, 1) := by decide +kernel
theorem dX11_years_56 : decode cX11_years 56 = .ok (.if_icmp .ge 18, 3) := by decide +kernel
theorem dX11_years_59 : decode cX11_years 59 = .ok (.aload_n 0, 1) := by decide +kernel
theorem dX11_years_60 : decode cX11_years 60 = .ok (.getfield 56, 3) := by decide +kernel
theorem dX11_years_63 : decode cX11_years 63 = .ok (.aload 5, 2) := by decide +kernel
theorem dX11_years_65 : decode cX11_years 65 = .ok (.invokevirtual 272, 3) := by decide +kernel
theorem dX11_years_68 : decode cX11_years 68 = .ok (.iinc 6 1, 3) := by decide +kernel
theorem dX11_years_71 : decode cX11_years 71 = .ok (.goto (-18), 3) := by decide +kernel
theorem dX11_years_74 : decode cX11_years 74 = .ok (.iload 4, 2) := by decide +kernel
theorem dX11_years_76 : decode cX11_years 76 = .ok (.tableswitch 52 0 2 #[28, 36, 44], 28) := by decide +kernel
theorem dX11_years_104 : decode cX11_years 104 = .ok (.aload_n 0, 1) := by decide +kernel
theorem dX11_years_105 : decode cX11_years 105 = .ok (.getfield 56, 3) := by decide +kernel
theorem dX11_years_108 : decode cX11_years 108 = .ok (.getfield 276, 3) := by decide +kernel
theorem dX11_years_111 : decode cX11_years 111 = .ok (.ireturn, 1) := by decide +kernel
theorem dX11_years_112 : decode cX11_years 112 = .ok (.aload_n 0, 1) := by decide +kernel
theorem dX11_years_113 : decode cX11_years 113 = .ok (.getfield 56, 3) := by decide +kernel
theorem dX11_years_116 : decode cX11_years 116 = .ok (.invokevirtual 279, 3) := by decide +kernel
theorem dX11_years_119 : decode cX11_years 119 = .ok (.ireturn, 1) := by decide +kernel
theorem dX11_years_120 : decode cX11_years 120 = .ok (.aload_n 0, 1) := by decide +kernel
theorem dX11_years_121 : decode cX11_years 121 = .ok (.getfield 56, 3) := by decide +kernel
theorem dX11_years_124 : decode cX11_years 124 = .ok (.getfield 282, 3) := by decide +kernel
theorem dX11_years_127 : decode cX11_years 127 = .ok (.ireturn, 1) := by decide +kernel
theorem dX11_years_128 : decode cX11_years 128 = .ok (.aload_n 0, 1) := by decide +kernel
theorem dX11_years_129 : decode cX11_years 129 = .ok (.getfield 56, 3) := by decide +kernel
theorem dX11_years_132 : decode cX11_years 132 = .ok (.getfield 284, 3) := by decide +kernel
theorem dX11_years_135 : decode cX11_years 135 = .ok (.ireturn, 1) := by decide +kernel
theorem dX11_lot_0 : decode cX11_lot 0 = .ok (.aload_n 0, 1) := by decide +kernel
theorem dX11_lot_1 : decode cX11_lot 1 = .ok (.iload_n 1, 1) := by decide +kernel
theorem dX11_lot_2 : decode cX11_lot 2 = .ok (.invokevirtual 129, 3) := by decide +kernel
theorem dX11_lot_5 : decode cX11_lot 5 = .ok (.ifCond .ne 6, 3) := by decide +kernel
theorem dX11_lot_8 : decode cX11_lot 8 = .ok (.bipush (-101), 2) := by decide +kernel
theorem dX11_lot_10 : decode cX11_lot 10 = .ok (.ireturn, 1) := by decide +kernel
theorem dX11_lot_11 : decode cX11_lot 11 = .ok (.iload_n 2, 1) := by decide +kernel
theorem dX11_lot_12 : decode cX11_lot 12 = .ok (.invokestatic 164, 3) := by decide +kernel
theorem dX11_lot_15 : decode cX11_lot 15 = .ok (.ifCond .ne 6, 3) := by decide +kernel
theorem dX11_lot_18 : decode cX11_lot 18 = .ok (.bipush (-102), 2) := by decide +kernel
theorem dX11_lot_20 : decode cX11_lot 20 = .ok (.ireturn, 1) := by decide +kernel
theorem dX11_lot_21 : decode cX11_lot 21 = .ok (.aload_n 0, 1) := by decide +kernel
theorem dX11_lot_22 : decode cX11_lot 22 = .ok (.iload_n 1, 1) := by decide +kernel
theorem dX11_lot_23 : decode cX11_lot 23 = .ok (.invokevirtual 143, 3) := by decide +kernel
theorem dX11_lot_26 : decode cX11_lot 26 = .ok (.ifCond .eq 5, 3) := by decide +kernel
theorem dX11_lot_29 : decode cX11_lot 29 = .ok (.iload_n 2, 1) := by decide +kernel
theorem dX11_lot_30 : decode cX11_lot 30 = .ok (.ireturn, 1) := by decide +kernel
theorem dX11_lot_31 : decode cX11_lot 31 = .ok (.iload_n 2, 1) := by decide +kernel
theorem dX11_lot_32 : decode cX11_lot 32 = .ok (.ifCond .ne 7, 3) := by decide +kernel
theorem dX11_lot_35 : decode cX11_lot 35 = .ok (.iconst 1, 1) := by decide +kernel
theorem dX11_lot_36 : decode cX11_lot 36 = .ok (.goto 12, 3) := by decide +kernel
theorem dX11_lot_39 : decode cX11_lot 39 = .ok (.aload_n 0, 1) := by decide +kernel
theorem dX11_lot_40 : decode cX11_lot 40 = .ok (.getfield 126, 3) := by decide +kernel
theorem dX11_lot_43 : decode cX11_lot 43 = .ok (.aload_n 0, 1) := by decide +kernel
theorem dX11_lot_44 : decode cX11_lot 44 = .ok (.invokevirtual 285, 3) := by decide +kernel
theorem dX11_lot_47 : decode cX11_lot 47 = .ok (.isub, 1) := by decide +kernel
theorem dX11_lot_48 : decode cX11_lot 48 = .ok (.ireturn, 1) := by decide +kernel
theorem dX11_image_0 : decode cX11_image 0 = .ok (.iconst 0, 1) := by decide +kernel
theorem dX11_image_1 : decode cX11_image 1 = .ok (.istore_n 1, 1) := by decide +kernel
theorem dX11_image_2 : decode cX11_image 2 = .ok (.iload_n 1, 1) := by decide +kernel
theorem dX11_image_3 : decode cX11_image 3 = .ok (.aload_n 0, 1) := by decide +kernel
theorem dX11_image_4 : decode cX11_image 4 = .ok (.getfield 103, 3) := by decide +kernel
theorem dX11_image_7 : decode cX11_image 7 = .ok (.if_icmp .ge 22, 3) := by decide +kernel
theorem dX11_image_10 : decode cX11_image 10 = .ok (.aload_n 0, 1) := by decide +kernel
theorem dX11_image_11 : decode cX11_image 11 = .ok (.getfield 24, 3) := by decide +kernel
theorem dX11_image_14 : decode cX11_image 14 = .ok (.iload_n 1, 1) := by decide +kernel
theorem dX11_image_15 : decode cX11_image 15 = .ok (.aaload, 1) := by decide +kernel
theorem dX11_image_16 : decode cX11_image 16 = .ok (.aload_n 0, 1) := by decide +kernel
theorem dX11_image_17 : decode cX11_image 17 = .ok (.getfield 126, 3) := by decide +kernel
theorem dX11_image_20 : decode cX11_image 20 = .ok (.invokevirtual 288, 3) := by decide +kernel
theorem dX11_image_23 : decode cX11_image 23 = .ok (.iinc 1 1, 3) := by decide +kernel
theorem dX11_image_26 : decode cX11_image 26 = .ok (.goto (-24), 3) := by decide +kernel
theorem dX11_image_29 : decode cX11_image 29 = .ok (.aload_n 0, 1) := by decide +kernel
theorem dX11_image_30 : decode cX11_image 30 = .ok (.iconst 1, 1) := by decide +kernel
theorem dX11_image_31 : decode cX11_image 31 = .ok (.putfield 291, 3) := by decide +kernel
theorem dX11_image_34 : decode cX11_image 34 = .ok (.aload_n 0, 1) := by decide +kernel
theorem dX11_image_35 : decode cX11_image 35 = .ok (.getfield 103, 3) := by decide +kernel
theorem dX11_image_38 : decode cX11_image 38 = .ok (.ireturn, 1) := by decide +kernel
theorem dX11_restore_0 : decode cX11_restore 0 = .ok (.aload_n 0, 1) := by decide +kernel
theorem dX11_restore_1 : decode cX11_restore 1 = .ok (.getfield 291, 3) := by decide +kernel
theorem dX11_restore_4 : decode cX11_restore 4 = .ok (.ifCond .ne 6, 3) := by decide +kernel
theorem dX11_restore_7 : decode cX11_restore 7 = .ok (.bipush (-103), 2) := by decide +kernel
theorem dX11_restore_9 : decode cX11_restore 9 = .ok (.ireturn, 1) := by decide +kernel
theorem dX11_restore_10 : decode cX11_restore 10 = .ok (.iconst 0, 1) := by decide +kernel
theorem dX11_restore_11 : decode cX11_restore 11 = .ok (.istore_n 1, 1) := by decide +kernel
theorem dX11_restore_12 : decode cX11_restore 12 = .ok (.iload_n 1, 1) := by decide +kernel
theorem dX11_restore_13 : decode cX11_restore 13 = .ok (.aload_n 0, 1) := by decide +kernel
theorem dX11_restore_14 : decode cX11_restore 14 = .ok (.getfield 103, 3) := by decide +kernel
theorem dX11_restore_17 : decode cX11_restore 17 = .ok (.if_icmp .ge 18, 3) := by decide +kernel
theorem dX11_restore_20 : decode cX11_restore 20 = .ok (.aload_n 0, 1) := by decide +kernel
theorem dX11_restore_21 : decode cX11_restore 21 = .ok (.getfield 24, 3) := by decide +kernel
theorem dX11_restore_24 : decode cX11_restore 24 = .ok (.iload_n 1, 1) := by decide +kernel
theorem dX11_restore_25 : decode cX11_restore 25 = .ok (.aaload, 1) := by decide +kernel
theorem dX11_restore_26 : decode cX11_restore 26 = .ok (.invokevirtual 294, 3) := by decide +kernel
theorem dX11_restore_29 : decode cX11_restore 29 = .ok (.iinc 1 1, 3) := by decide +kernel
theorem dX11_restore_32 : decode cX11_restore 32 = .ok (.goto (-20), 3) := by decide +kernel
theorem dX11_restore_35 : decode cX11_restore 35 = .ok (.aload_n 0, 1) := by decide +kernel
theorem dX11_restore_36 : decode cX11_restore 36 = .ok (.getfield 103, 3) := by decide +kernel
theorem dX11_restore_39 : decode cX11_restore 39 = .ok (.ireturn, 1) := by decide +kernel
theorem dX11_count_0 : decode cX11_count 0 = .ok (.iload_n 1, 1) := by decide +kernel
theorem dX11_count_1 : decode cX11_count 1 = .ok (.tableswitch 63 0 4 #[35, 40, 45, 50, 58], 35) := by decide +kernel
theorem dX11_count_36 : decode cX11_count 36 = .ok (.aload_n 0, 1) := by decide +kernel
theorem dX11_count_37 : decode cX11_count 37 = .ok (.getfield 103, 3) := by decide +kernel
theorem dX11_count_40 : decode cX11_count 40 = .ok (.ireturn, 1) := by decide +kernel
theorem dX11_count_41 : decode cX11_count 41 = .ok (.aload_n 0, 1) := by decide +kernel
theorem dX11_count_42 : decode cX11_count 42 = .ok (.getfield 126, 3) := by decide +kernel
theorem dX11_count_45 : decode cX11_count 45 = .ok (.ireturn, 1) := by decide +kernel
theorem dX11_count_46 : decode cX11_count 46 = .ok (.aload_n 0, 1) := by decide +kernel
theorem dX11_count_47 : decode cX11_count 47 = .ok (.getfield 79, 3) := by decide +kernel
theorem dX11_count_50 : decode cX11_count 50 = .ok (.ireturn, 1) := by decide +kernel
theorem dX11_count_51 : decode cX11_count 51 = .ok (.aload_n 0, 1) := by decide +kernel
theorem dX11_count_52 : decode cX11_count 52 = .ok (.getfield 12, 3) := by decide +kernel
theorem dX11_count_55 : decode cX11_count 55 = .ok (.getfield 297, 3) := by decide +kernel
theorem dX11_count_58 : decode cX11_count 58 = .ok (.ireturn, 1) := by decide +kernel
theorem dX11_count_59 : decode cX11_count 59 = .ok (.aload_n 0, 1) := by decide +kernel
theorem dX11_count_60 : decode cX11_count 60 = .ok (.invokevirtual 285, 3) := by decide +kernel
theorem dX11_count_63 : decode cX11_count 63 = .ok (.ireturn, 1) := by decide +kernel
theorem dX11_count_64 : decode cX11_count 64 = .ok (.bipush (-102), 2) := by decide +kernel
theorem dX11_count_66 : decode cX11_count 66 = .ok (.ireturn, 1) := by decide +kernel
theorem dX11_digest_0 : decode cX11_digest 0 = .ok (.ldc2_w 300, 3) := by decide +kernel
theorem dX11_digest_3 : decode cX11_digest 3 = .ok (.lstore_n 1, 1) := by decide +kernel
theorem dX11_digest_4 : decode cX11_digest 4 = .ok (.aload_n 0, 1) := by decide +kernel
theorem dX11_digest_5 : decode cX11_digest 5 = .ok (.lload_n 1, 1) := by decide +kernel
theorem dX11_digest_6 : decode cX11_digest 6 = .ok (.invokevirtual 302, 3) := by decide +kernel
theorem dX11_digest_9 : decode cX11_digest 9 = .ok (.lstore_n 1, 1) := by decide +kernel
theorem dX11_digest_10 : decode cX11_digest 10 = .ok (.aload_n 0, 1) := by decide +kernel
theorem dX11_digest_11 : decode cX11_digest 11 = .ok (.lload_n 1, 1) := by decide +kernel
theorem dX11_digest_12 : decode cX11_digest 12 = .ok (.invokevirtual 305, 3) := by decide +kernel
theorem dX11_digest_15 : decode cX11_digest 15 = .ok (.lstore_n 1, 1) := by decide +kernel
theorem dX11_digest_16 : decode cX11_digest 16 = .ok (.aload_n 0, 1) := by decide +kernel
theorem dX11_digest_17 : decode cX11_digest 17 = .ok (.lload_n 1, 1) := by decide +kernel
theorem dX11_digest_18 : decode cX11_digest 18 = .ok (.invokevirtual 308, 3) := by decide +kernel
theorem dX11_digest_21 : decode cX11_digest 21 = .ok (.lstore_n 1, 1) := by decide +kernel
theorem dX11_digest_22 : decode cX11_digest 22 = .ok (.aload_n 0, 1) := by decide +kernel
theorem dX11_digest_23 : decode cX11_digest 23 = .ok (.lload_n 1, 1) := by decide +kernel
theorem dX11_digest_24 : decode cX11_digest 24 = .ok (.invokevirtual 311, 3) := by decide +kernel
theorem dX11_digest_27 : decode cX11_digest 27 = .ok (.lstore_n 1, 1) := by decide +kernel
theorem dX11_digest_28 : decode cX11_digest 28 = .ok (.aload_n 0, 1) := by decide +kernel
theorem dX11_digest_29 : decode cX11_digest 29 = .ok (.getfield 12, 3) := by decide +kernel
theorem dX11_digest_32 : decode cX11_digest 32 = .ok (.lload_n 1, 1) := by decide +kernel
theorem dX11_digest_33 : decode cX11_digest 33 = .ok (.invokevirtual 314, 3) := by decide +kernel
theorem dX11_digest_36 : decode cX11_digest 36 = .ok (.lstore_n 1, 1) := by decide +kernel
theorem dX11_digest_37 : decode cX11_digest 37 = .ok (.iconst 0, 1) := by decide +kernel
theorem dX11_digest_38 : decode cX11_digest 38 = .ok (.istore_n 3, 1) := by decide +kernel
theorem dX11_digest_39 : decode cX11_digest 39 = .ok (.iload_n 3, 1) := by decide +kernel
theorem dX11_digest_40 : decode cX11_digest 40 = .ok (.iconst 4, 1) := by decide +kernel
theorem dX11_digest_41 : decode cX11_digest 41 = .ok (.if_icmp .gt 20, 3) := by decide +kernel
theorem dX11_digest_44 : decode cX11_digest 44 = .ok (.lload_n 1, 1) := by decide +kernel
theorem dX11_digest_45 : decode cX11_digest 45 = .ok (.aload_n 0, 1) := by decide +kernel
theorem dX11_digest_46 : decode cX11_digest 46 = .ok (.iload_n 3, 1) := by decide +kernel
theorem dX11_digest_47 : decode cX11_digest 47 = .ok (.invokevirtual 317, 3) := by decide +kernel
theorem dX11_digest_50 : decode cX11_digest 50 = .ok (.i2l, 1) := by decide +kernel
theorem dX11_digest_51 : decode cX11_digest 51 = .ok (.invokestatic 320, 3) := by decide +kernel
theorem dX11_digest_54 : decode cX11_digest 54 = .ok (.lstore_n 1, 1) := by decide +kernel
theorem dX11_digest_55 : decode cX11_digest 55 = .ok (.iinc 3 1, 3) := by decide +kernel
theorem dX11_digest_58 : decode cX11_digest 58 = .ok (.goto (-19), 3) := by decide +kernel
theorem dX11_digest_61 : decode cX11_digest 61 = .ok (.lload_n 1, 1) := by decide +kernel
theorem dX11_digest_62 : decode cX11_digest 62 = .ok (.lreturn, 1) := by decide +kernel
theorem dX11_ruleAt_0 : decode cX11_ruleAt 0 = .ok (.iload_n 1, 1) := by decide +kernel
theorem dX11_ruleAt_1 : decode cX11_ruleAt 1 = .ok (.ifCond .lt 20, 3) := by decide +kernel
theorem dX11_ruleAt_4 : decode cX11_ruleAt 4 = .ok (.iload_n 1, 1) := by decide +kernel
theorem dX11_ruleAt_5 : decode cX11_ruleAt 5 = .ok (.aload_n 0, 1) := by decide +kernel
theorem dX11_ruleAt_6 : decode cX11_ruleAt 6 = .ok (.getfield 79, 3) := by decide +kernel
theorem dX11_ruleAt_9 : decode cX11_ruleAt 9 = .ok (.if_icmp .ge 12, 3) := by decide +kernel
theorem dX11_ruleAt_12 : decode cX11_ruleAt 12 = .ok (.aload_n 0, 1) := by decide +kernel
theorem dX11_ruleAt_13 : decode cX11_ruleAt 13 = .ok (.getfield 18, 3) := by decide +kernel
theorem dX11_ruleAt_16 : decode cX11_ruleAt 16 = .ok (.iload_n 1, 1) := by decide +kernel
theorem dX11_ruleAt_17 : decode cX11_ruleAt 17 = .ok (.aaload, 1) := by decide +kernel
theorem dX11_ruleAt_18 : decode cX11_ruleAt 18 = .ok (.goto 4, 3) := by decide +kernel
theorem dX11_ruleAt_21 : decode cX11_ruleAt 21 = .ok (.aconst_null, 1) := by decide +kernel
theorem dX11_ruleAt_22 : decode cX11_ruleAt 22 = .ok (.areturn, 1) := by decide +kernel
theorem dX11_personAt_0 : decode cX11_personAt 0 = .ok (.iload_n 1, 1) := by decide +kernel
theorem dX11_personAt_1 : decode cX11_personAt 1 = .ok (.ifCond .lt 20, 3) := by decide +kernel
theorem dX11_personAt_4 : decode cX11_personAt 4 = .ok (.iload_n 1, 1) := by decide +kernel
theorem dX11_personAt_5 : decode cX11_personAt 5 = .ok (.aload_n 0, 1) := by decide +kernel
theorem dX11_personAt_6 : decode cX11_personAt 6 = .ok (.getfield 103, 3) := by decide +kernel
theorem dX11_personAt_9 : decode cX11_personAt 9 = .ok (.if_icmp .ge 12, 3) := by decide +kernel
theorem dX11_personAt_12 : decode cX11_personAt 12 = .ok (.aload_n 0, 1) := by decide +kernel
theorem dX11_personAt_13 : decode cX11_personAt 13 = .ok (.getfield 24, 3) := by decide +kernel
theorem dX11_personAt_16 : decode cX11_personAt 16 = .ok (.iload_n 1, 1) := by decide +kernel
theorem dX11_personAt_17 : decode cX11_personAt 17 = .ok (.aaload, 1) := by decide +kernel
theorem dX11_personAt_18 : decode cX11_personAt 18 = .ok (.goto 4, 3) := by decide +kernel
theorem dX11_personAt_21 : decode cX11_personAt 21 = .ok (.aconst_null, 1) := by decide +kernel
theorem dX11_personAt_22 : decode cX11_personAt 22 = .ok (.areturn, 1) := by decide +kernel
theorem dX11_isCandidate_0 : decode cX11_isCandidate 0 = .ok (.iload_n 1, 1) := by decide +kernel
theorem dX11_isCandidate_1 : decode cX11_isCandidate 1 = .ok (.ifCond .lt 15, 3) := by decide +kernel
theorem dX11_isCandidate_4 : decode cX11_isCandidate 4 = .ok (.iload_n 1, 1) := by decide +kernel
theorem dX11_isCandidate_5 : decode cX11_isCandidate 5 = .ok (.aload_n 0, 1) := by decide +kernel
theorem dX11_isCandidate_6 : decode cX11_isCandidate 6 = .ok (.getfield 126, 3) := by decide +kernel
theorem dX11_isCandidate_9 : decode cX11_isCandidate 9 = .ok (.if_icmp .ge 7, 3) := by decide +kernel
theorem dX11_isCandidate_12 : decode cX11_isCandidate 12 = .ok (.iconst 1, 1) := by decide +kernel
theorem dX11_isCandidate_13 : decode cX11_isCandidate 13 = .ok (.goto 4, 3) := by decide +kernel
theorem dX11_isCandidate_16 : decode cX11_isCandidate 16 = .ok (.iconst 0, 1) := by decide +kernel
theorem dX11_isCandidate_17 : decode cX11_isCandidate 17 = .ok (.ireturn, 1) := by decide +kernel
theorem dX11_friendOf_0 : decode cX11_friendOf 0 = .ok (.aload_n 0, 1) := by decide +kernel
theorem dX11_friendOf_1 : decode cX11_friendOf 1 = .ok (.iload_n 1, 1) := by decide +kernel
theorem dX11_friendOf_2 : decode cX11_friendOf 2 = .ok (.invokevirtual 129, 3) := by decide +kernel
theorem dX11_friendOf_5 : decode cX11_friendOf 5 = .ok (.ifCond .eq 12, 3) := by decide +kernel
theorem dX11_friendOf_8 : decode cX11_friendOf 8 = .ok (.aload_n 0, 1) := by decide +kernel
theorem dX11_friendOf_9 : decode cX11_friendOf 9 = .ok (.getfield 28, 3) := by decide +kernel
theorem dX11_friendOf_12 : decode cX11_friendOf 12 = .ok (.iload_n 1, 1) := by decide +kernel
theorem dX11_friendOf_13 : decode cX11_friendOf 13 = .ok (.iaload, 1) := by decide +kernel
theorem dX11_friendOf_14 : decode cX11_friendOf 14 = .ok (.goto 4, 3) := by decide +kernel
theorem dX11_friendOf_17 : decode cX11_friendOf 17 = .ok (.iconst (-1), 1) := by decide +kernel
theorem dX11_friendOf_18 : decode cX11_friendOf 18 = .ok (.ireturn, 1) := by decide +kernel
theorem dX11_everybody_0 : decode cX11_everybody 0 = .ok (.iconst 1, 1) := by decide +kernel
theorem dX11_everybody_1 : decode cX11_everybody 1 = .ok (.aload_n 0, 1) := by decide +kernel
theorem dX11_everybody_2 : decode cX11_everybody 2 = .ok (.getfield 103, 3) := by decide +kernel
theorem dX11_everybody_5 : decode cX11_everybody 5 = .ok (.ishl, 1) := by decide +kernel
theorem dX11_everybody_6 : decode cX11_everybody 6 = .ok (.iconst 1, 1) := by decide +kernel
theorem dX11_everybody_7 : decode cX11_everybody 7 = .ok (.isub, 1) := by decide +kernel
theorem dX11_everybody_8 : decode cX11_everybody 8 = .ok (.ireturn, 1) := by decide +kernel
theorem dX11_areComers_0 : decode cX11_areComers 0 = .ok (.iload_n 1, 1) := by decide +kernel
theorem dX11_areComers_1 : decode cX11_areComers 1 = .ok (.ifCond .le 15, 3) := by decide +kernel
theorem dX11_areComers_4 : decode cX11_areComers 4 = .ok (.iload_n 1, 1) := by decide +kernel
theorem dX11_areComers_5 : decode cX11_areComers 5 = .ok (.aload_n 0, 1) := by decide +kernel
theorem dX11_areComers_6 : decode cX11_areComers 6 = .ok (.invokevirtual 200, 3) := by decide +kernel
theorem dX11_areComers_9 : decode cX11_areComers 9 = .ok (.if_icmp .gt 7, 3) := by decide +kernel
theorem dX11_areComers_12 : decode cX11_areComers 12 = .ok (.iconst 1, 1) := by decide +kernel
theorem dX11_areComers_13 : decode cX11_areComers 13 = .ok (.goto 4, 3) := by decide +kernel
theorem dX11_areComers_16 : decode cX11_areComers 16 = .ok (.iconst 0, 1) := by decide +kernel
theorem dX11_areComers_17 : decode cX11_areComers 17 = .ok (.ireturn, 1) := by decide +kernel
theorem dX11_isOneOf_0 : decode cX11_isOneOf 0 = .ok (.iload_n 1, 1) := by decide +kernel
theorem dX11_isOneOf_1 : decode cX11_isOneOf 1 = .ok (.ifCond .lt 22, 3) := by decide +kernel
theorem dX11_isOneOf_4 : decode cX11_isOneOf 4 = .ok (.iload_n 1, 1) := by decide +kernel
theorem dX11_isOneOf_5 : decode cX11_isOneOf 5 = .ok (.bipush 8, 2) := by decide +kernel
theorem dX11_isOneOf_7 : decode cX11_isOneOf 7 = .ok (.if_icmp .ge 16, 3) := by decide +kernel
theorem dX11_isOneOf_10 : decode cX11_isOneOf 10 = .ok (.iload_n 0, 1) := by decide +kernel
theorem dX11_isOneOf_11 : decode cX11_isOneOf 11 = .ok (.iload_n 1, 1) := by decide +kernel
theorem dX11_isOneOf_12 : decode cX11_isOneOf 12 = .ok (.ishr, 1) := by decide +kernel
theorem dX11_isOneOf_13 : decode cX11_isOneOf 13 = .ok (.iconst 1, 1) := by decide +kernel
theorem dX11_isOneOf_14 : decode cX11_isOneOf 14 = .ok (.iand, 1) := by decide +kernel
theorem dX11_isOneOf_15 : decode cX11_isOneOf 15 = .ok (.iconst 1, 1) := by decide +kernel
theorem dX11_isOneOf_16 : decode cX11_isOneOf 16 = .ok (.if_icmp .ne 7, 3) := by decide +kernel
theorem dX11_isOneOf_19 : decode cX11_isOneOf 19 = .ok (.iconst 1, 1) := by decide +kernel
theorem dX11_isOneOf_20 : decode cX11_isOneOf 20 = .ok (.goto 4, 3) := by decide +kernel
theorem dX11_isOneOf_23 : decode cX11_isOneOf 23 = .ok (.iconst 0, 1) := by decide +kernel
theorem dX11_isOneOf_24 : decode cX11_isOneOf 24 = .ok (.ireturn, 1) := by decide +kernel
theorem dX11_isPart_0 : decode cX11_isPart 0 = .ok (.iload_n 0, 1) := by decide +kernel
theorem dX11_isPart_1 : decode cX11_isPart 1 = .ok (.ifCond .eq 8, 3) := by decide +kernel
theorem dX11_isPart_4 : decode cX11_isPart 4 = .ok (.iload_n 0, 1) := by decide +kernel
theorem dX11_isPart_5 : decode cX11_isPart 5 = .ok (.iconst 1, 1) := by decide +kernel
theorem dX11_isPart_6 : decode cX11_isPart 6 = .ok (.if_icmp .ne 7, 3) := by decide +kernel
theorem dX11_isPart_9 : decode cX11_isPart 9 = .ok (.iconst 1, 1) := by decide +kernel
theorem dX11_isPart_10 : decode cX11_isPart 10 = .ok (.goto 4, 3) := by decide +kernel
theorem dX11_isPart_13 : decode cX11_isPart 13 = .ok (.iconst 0, 1) := by decide +kernel
theorem dX11_isPart_14 : decode cX11_isPart 14 = .ok (.ireturn, 1) := by decide +kernel
theorem dX11_within_0 : decode cX11_within 0 = .ok (.iload_n 0, 1) := by decide +kernel
theorem dX11_within_1 : decode cX11_within 1 = .ok (.iload_n 1, 1) := by decide +kernel
theorem dX11_within_2 : decode cX11_within 2 = .ok (.if_icmp .lt 12, 3) := by decide +kernel
theorem dX11_within_5 : decode cX11_within 5 = .ok (.iload_n 0, 1) := by decide +kernel
theorem dX11_within_6 : decode cX11_within 6 = .ok (.iload_n 2, 1) := by decide +kernel
theorem dX11_within_7 : decode cX11_within 7 = .ok (.if_icmp .gt 7, 3) := by decide +kernel
theorem dX11_within_10 : decode cX11_within 10 = .ok (.iconst 1, 1) := by decide +kernel
theorem dX11_within_11 : decode cX11_within 11 = .ok (.goto 4, 3) := by decide +kernel
theorem dX11_within_14 : decode cX11_within 14 = .ok (.iconst 0, 1) := by decide +kernel
theorem dX11_within_15 : decode cX11_within 15 = .ok (.ireturn, 1) := by decide +kernel
theorem dX11_newPerson_0 : decode cX11_newPerson 0 = .ok (.iload_n 1, 1) := by decide +kernel
theorem dX11_newPerson_1 : decode cX11_newPerson 1 = .ok (.tableswitch 86 1 4 #[31, 44, 58, 72], 31) := by decide +kernel
theorem dX11_newPerson_32 : decode cX11_newPerson 32 = .ok (.new 324, 3) := by decide +kernel
theorem dX11_newPerson_35 : decode cX11_newPerson 35 = .ok (.dup, 1) := by decide +kernel
theorem dX11_newPerson_36 : decode cX11_newPerson 36 = .ok (.aload_n 0, 1) := by decide +kernel
theorem dX11_newPerson_37 : decode cX11_newPerson 37 = .ok (.getfield 103, 3) := by decide +kernel
theorem dX11_newPerson_40 : decode cX11_newPerson 40 = .ok (.iload_n 3, 1) := by decide +kernel
theorem dX11_newPerson_41 : decode cX11_newPerson 41 = .ok (.invokespecial 326, 3) := by decide +kernel
theorem dX11_newPerson_44 : decode cX11_newPerson 44 = .ok (.areturn, 1) := by decide +kernel
theorem dX11_newPerson_45 : decode cX11_newPerson 45 = .ok (.new 328, 3) := by decide +kernel
theorem dX11_newPerson_48 : decode cX11_newPerson 48 = .ok (.dup, 1) := by decide +kernel
theorem dX11_newPerson_49 : decode cX11_newPerson 49 = .ok (.aload_n 0, 1) := by decide +kernel
theorem dX11_newPerson_50 : decode cX11_newPerson 50 = .ok (.getfield 103, 3) := by decide +kernel
theorem dX11_newPerson_53 : decode cX11_newPerson 53 = .ok (.iload_n 3, 1) := by decide +kernel
theorem dX11_newPerson_54 : decode cX11_newPerson 54 = .ok (.iload_n 2, 1) := by decide +kernel
theorem dX11_newPerson_55 : decode cX11_newPerson 55 = .ok (.invokespecial 330, 3) := by decide +kernel
theorem dX11_newPerson_58 : decode cX11_newPerson 58 = .ok (.areturn, 1) := by decide +kernel
theorem dX11_newPerson_59 : decode cX11_newPerson 59 = .ok (.new 333, 3) := by decide +kernel
theorem dX11_newPerson_62 : decode cX11_newPerson 62 = .ok (.dup, 1) := by decide +kernel
theorem dX11_newPerson_63 : decode cX11_newPerson 63 = .ok (.aload_n 0, 1) := by decide +kernel
theorem dX11_newPerson_64 : decode cX11_newPerson 64 = .ok (.getfield 103, 3) := by decide +kernel
theorem dX11_newPerson_67 : decode cX11_newPerson 67 = .ok (.iload_n 3, 1) := by decide +kernel
theorem dX11_newPerson_68 : decode cX11_newPerson 68 = .ok (.iload_n 2, 1) := by decide +kernel
theorem dX11_newPerson_69 : decode cX11_newPerson 69 = .ok (.invokespecial 335, 3) := by decide +kernel
theorem dX11_newPerson_72 : decode cX11_newPerson 72 = .ok (.areturn, 1) := by decide +kernel
theorem dX11_newPerson_73 : decode cX11_newPerson 73 = .ok (.new 336, 3) := by decide +kernel
theorem dX11_newPerson_76 : decode cX11_newPerson 76 = .ok (.dup, 1) := by decide +kernel
theorem dX11_newPerson_77 : decode cX11_newPerson 77 = .ok (.aload_n 0, 1) := by decide +kernel
theorem dX11_newPerson_78 : decode cX11_newPerson 78 = .ok (.getfield 103, 3) := by decide +kernel
theorem dX11_newPerson_81 : decode cX11_newPerson 81 = .ok (.iload_n 3, 1) := by decide +kernel
theorem dX11_newPerson_82 : decode cX11_newPerson 82 = .ok (.iload_n 2, 1) := by decide +kernel
theorem dX11_newPerson_83 : decode cX11_newPerson 83 = .ok (.invokespecial 338, 3) := by decide +kernel
theorem dX11_newPerson_86 : decode cX11_newPerson 86 = .ok (.areturn, 1) := by decide +kernel
theorem dX11_newPerson_87 : decode cX11_newPerson 87 = .ok (.new 22, 3) := by decide +kernel
theorem dX11_newPerson_90 : decode cX11_newPerson 90 = .ok (.dup, 1) := by decide +kernel
theorem dX11_newPerson_91 : decode cX11_newPerson 91 = .ok (.aload_n 0, 1) := by decide +kernel
theorem dX11_newPerson_92 : decode cX11_newPerson 92 = .ok (.getfield 103, 3) := by decide +kernel
theorem dX11_newPerson_95 : decode cX11_newPerson 95 = .ok (.iload_n 3, 1) := by decide +kernel
theorem dX11_newPerson_96 : decode cX11_newPerson 96 = .ok (.invokespecial 339, 3) := by decide +kernel
theorem dX11_newPerson_99 : decode cX11_newPerson 99 = .ok (.areturn, 1) := by decide +kernel
theorem dX11_isSuch_0 : decode cX11_isSuch 0 = .ok (.iload_n 1, 1) := by decide +kernel
theorem dX11_isSuch_1 : decode cX11_isSuch 1 = .ok (.tableswitch 51 1 4 #[31, 36, 41, 46], 31) := by decide +kernel
theorem dX11_isSuch_32 : decode cX11_isSuch 32 = .ok (.aload_n 0, 1) := by decide +kernel
theorem dX11_isSuch_33 : decode cX11_isSuch 33 = .ok (.instanceof 324, 3) := by decide +kernel
theorem dX11_isSuch_36 : decode cX11_isSuch 36 = .ok (.ireturn, 1) := by decide +kernel
theorem dX11_isSuch_37 : decode cX11_isSuch 37 = .ok (.aload_n 0, 1) := by decide +kernel
theorem dX11_isSuch_38 : decode cX11_isSuch 38 = .ok (.instanceof 328, 3) := by decide +kernel
theorem dX11_isSuch_41 : decode cX11_isSuch 41 = .ok (.ireturn, 1) := by decide +kernel
theorem dX11_isSuch_42 : decode cX11_isSuch 42 = .ok (.aload_n 0, 1) := by decide +kernel
theorem dX11_isSuch_43 : decode cX11_isSuch 43 = .ok (.instanceof 333, 3) := by decide +kernel
theorem dX11_isSuch_46 : decode cX11_isSuch 46 = .ok (.ireturn, 1) := by decide +kernel
theorem dX11_isSuch_47 : decode cX11_isSuch 47 = .ok (.aload_n 0, 1) := by decide +kernel
theorem dX11_isSuch_48 : decode cX11_isSuch 48 = .ok (.instanceof 336, 3) := by decide +kernel
theorem dX11_isSuch_51 : decode cX11_isSuch 51 = .ok (.ireturn, 1) := by decide +kernel
theorem dX11_isSuch_52 : decode cX11_isSuch 52 = .ok (.iconst 1, 1) := by decide +kernel
theorem dX11_isSuch_53 : decode cX11_isSuch 53 = .ok (.ireturn, 1) := by decide +kernel
theorem dX11_howManyMindMuch_0 : decode cX11_howManyMindMuch 0 = .ok (.iconst 0, 1) := by decide +kernel
theorem dX11_howManyMindMuch_1 : decode cX11_howManyMindMuch 1 = .ok (.istore_n 2, 1) := by decide +kernel
theorem dX11_howManyMindMuch_2 : decode cX11_howManyMindMuch 2 = .ok (.iconst 0, 1) := by decide +kernel
theorem dX11_howManyMindMuch_3 : decode cX11_howManyMindMuch 3 = .ok (.istore_n 3, 1) := by decide +kernel
theorem dX11_howManyMindMuch_4 : decode cX11_howManyMindMuch 4 = .ok (.iload_n 3, 1) := by decide +kernel
theorem dX11_howManyMindMuch_5 : decode cX11_howManyMindMuch 5 = .ok (.aload_n 0, 1) := by decide +kernel
theorem dX11_howManyMindMuch_6 : decode cX11_howManyMindMuch 6 = .ok (.getfield 103, 3) := by decide +kernel
theorem dX11_howManyMindMuch_9 : decode cX11_howManyMindMuch 9 = .ok (.if_icmp .ge 25, 3) := by decide +kernel
theorem dX11_howManyMindMuch_12 : decode cX11_howManyMindMuch 12 = .ok (.aload_n 0, 1) := by decide +kernel
theorem dX11_howManyMindMuch_13 : decode cX11_howManyMindMuch 13 = .ok (.getfield 24, 3) := by decide +kernel
theorem dX11_howManyMindMuch_16 : decode cX11_howManyMindMuch 16 = .ok (.iload_n 3, 1) := by decide +kernel
theorem dX11_howManyMindMuch_17 : decode cX11_howManyMindMuch 17 = .ok (.aaload, 1) := by decide +kernel
theorem dX11_howManyMindMuch_18 : decode cX11_howManyMindMuch 18 = .ok (.iload_n 1, 1) := by decide +kernel
theorem dX11_howManyMindMuch_19 : decode cX11_howManyMindMuch 19 = .ok (.invokevirtual 340, 3) := by decide +kernel
theorem dX11_howManyMindMuch_22 : decode cX11_howManyMindMuch 22 = .ok (.ifCond .eq 6, 3) := by decide +kernel
theorem dX11_howManyMindMuch_25 : decode cX11_howManyMindMuch 25 = .ok (.iinc 2 1, 3) := by decide +kernel
theorem dX11_howManyMindMuch_28 : decode cX11_howManyMindMuch 28 = .ok (.iinc 3 1, 3) := by decide +kernel
theorem dX11_howManyMindMuch_31 : decode cX11_howManyMindMuch 31 = .ok (.goto (-27), 3) := by decide +kernel
theorem dX11_howManyMindMuch_34 : decode cX11_howManyMindMuch 34 = .ok (.iload_n 2, 1) := by decide +kernel
theorem dX11_howManyMindMuch_35 : decode cX11_howManyMindMuch 35 = .ok (.ireturn, 1) := by decide +kernel
theorem dX11_isMinded_0 : decode cX11_isMinded 0 = .ok (.aload_n 0, 1) := by decide +kernel
theorem dX11_isMinded_1 : decode cX11_isMinded 1 = .ok (.iload_n 1, 1) := by decide +kernel
theorem dX11_isMinded_2 : decode cX11_isMinded 2 = .ok (.invokevirtual 146, 3) := by decide +kernel
theorem dX11_isMinded_5 : decode cX11_isMinded 5 = .ok (.iconst 2, 1) := by decide +kernel
theorem dX11_isMinded_6 : decode cX11_isMinded 6 = .ok (.if_icmp .lt 7, 3) := by decide +kernel
theorem dX11_isMinded_9 : decode cX11_isMinded 9 = .ok (.iconst 1, 1) := by decide +kernel
theorem dX11_isMinded_10 : decode cX11_isMinded 10 = .ok (.goto 4, 3) := by decide +kernel
theorem dX11_isMinded_13 : decode cX11_isMinded 13 = .ok (.iconst 0, 1) := by decide +kernel
theorem dX11_isMinded_14 : decode cX11_isMinded 14 = .ok (.ireturn, 1) := by decide +kernel
theorem dX11_howManyMinded_0 : decode cX11_howManyMinded 0 = .ok (.iconst 0, 1) := by decide +kernel
theorem dX11_howManyMinded_1 : decode cX11_howManyMinded 1 = .ok (.istore_n 1, 1) := by decide +kernel
theorem dX11_howManyMinded_2 : decode cX11_howManyMinded 2 = .ok (.iconst 0, 1) := by decide +kernel
theorem dX11_howManyMinded_3 : decode cX11_howManyMinded 3 = .ok (.istore_n 2, 1) := by decide +kernel
theorem dX11_howManyMinded_4 : decode cX11_howManyMinded 4 = .ok (.iload_n 2, 1) := by decide +kernel
theorem dX11_howManyMinded_5 : decode cX11_howManyMinded 5 = .ok (.aload_n 0, 1) := by decide +kernel
theorem dX11_howManyMinded_6 : decode cX11_howManyMinded 6 = .ok (.getfield 126, 3) := by decide +kernel
theorem dX11_howManyMinded_9 : decode cX11_howManyMinded 9 = .ok (.if_icmp .ge 20, 3) := by decide +kernel
theorem dX11_howManyMinded_12 : decode cX11_howManyMinded 12 = .ok (.aload_n 0, 1) := by decide +kernel
theorem dX11_howManyMinded_13 : decode cX11_howManyMinded 13 = .ok (.iload_n 2, 1) := by decide +kernel
theorem dX11_howManyMinded_14 : decode cX11_howManyMinded 14 = .ok (.invokevirtual 143, 3) := by decide +kernel
theorem dX11_howManyMinded_17 : decode cX11_howManyMinded 17 = .ok (.ifCond .eq 6, 3) := by decide +kernel
theorem dX11_howManyMinded_20 : decode cX11_howManyMinded 20 = .ok (.iinc 1 1, 3) := by decide +kernel
theorem dX11_howManyMinded_23 : decode cX11_howManyMinded 23 = .ok (.iinc 2 1, 3) := by decide +kernel
theorem dX11_howManyMinded_26 : decode cX11_howManyMinded 26 = .ok (.goto (-22), 3) := by decide +kernel
theorem dX11_howManyMinded_29 : decode cX11_howManyMinded 29 = .ok (.iload_n 1, 1) := by decide +kernel
theorem dX11_howManyMinded_30 : decode cX11_howManyMinded 30 = .ok (.ireturn, 1) := by decide +kernel
theorem dX11_isWatched_0 : decode cX11_isWatched 0 = .ok (.aload_n 0, 1) := by decide +kernel
theorem dX11_isWatched_1 : decode cX11_isWatched 1 = .ok (.getfield 343, 3) := by decide +kernel
theorem dX11_isWatched_4 : decode cX11_isWatched 4 = .ok (.ifCond .ne 11, 3) := by decide +kernel
theorem dX11_isWatched_7 : decode cX11_isWatched 7 = .ok (.iload_n 1, 1) := by decide +kernel
theorem dX11_isWatched_8 : decode cX11_isWatched 8 = .ok (.invokestatic 218, 3) := by decide +kernel
theorem dX11_isWatched_11 : decode cX11_isWatched 11 = .ok (.iconst 4, 1) := by decide +kernel
theorem dX11_isWatched_12 : decode cX11_isWatched 12 = .ok (.if_icmp .ge 7, 3) := by decide +kernel
theorem dX11_isWatched_15 : decode cX11_isWatched 15 = .ok (.iconst 1, 1) := by decide +kernel
theorem dX11_isWatched_16 : decode cX11_isWatched 16 = .ok (.goto 4, 3) := by decide +kernel
theorem dX11_isWatched_19 : decode cX11_isWatched 19 = .ok (.iconst 0, 1) := by decide +kernel
theorem dX11_isWatched_20 : decode cX11_isWatched 20 = .ok (.ireturn, 1) := by decide +kernel
theorem dX11_blackOf_0 : decode cX11_blackOf 0 = .ok (.aload_n 1, 1) := by decide +kernel
theorem dX11_blackOf_1 : decode cX11_blackOf 1 = .ok (.iload_n 2, 1) := by decide +kernel
theorem dX11_blackOf_2 : decode cX11_blackOf 2 = .ok (.aload_n 0, 1) := by decide +kernel
theorem dX11_blackOf_3 : decode cX11_blackOf 3 = .ok (.iload_n 2, 1) := by decide +kernel
theorem dX11_blackOf_4 : decode cX11_blackOf 4 = .ok (.invokevirtual 140, 3) := by decide +kernel
theorem dX11_blackOf_7 : decode cX11_blackOf 7 = .ok (.iload_n 3, 1) := by decide +kernel
theorem dX11_blackOf_8 : decode cX11_blackOf 8 = .ok (.invokevirtual 346, 3) := by decide +kernel
theorem dX11_blackOf_11 : decode cX11_blackOf 11 = .ok (.ireturn, 1) := by decide +kernel
theorem dX11_tallyBalls_0 : decode cX11_tallyBalls 0 = .ok (.aload_n 0, 1) := by decide +kernel
theorem dX11_tallyBalls_1 : decode cX11_tallyBalls 1 = .ok (.getfield 35, 3) := by decide +kernel
theorem dX11_tallyBalls_4 : decode cX11_tallyBalls 4 = .ok (.invokevirtual 350, 3) := by decide +kernel
theorem dX11_tallyBalls_7 : decode cX11_tallyBalls 7 = .ok (.iconst 0, 1) := by decide +kernel
theorem dX11_tallyBalls_8 : decode cX11_tallyBalls 8 = .ok (.istore 4, 2) := by decide +kernel
theorem dX11_tallyBalls_10 : decode cX11_tallyBalls 10 = .ok (.iload 4, 2) := by decide +kernel
theorem dX11_tallyBalls_12 : decode cX11_tallyBalls 12 = .ok (.aload_n 0, 1) := by decide +kernel
theorem dX11_tallyBalls_13 : decode cX11_tallyBalls 13 = .ok (.getfield 103, 3) := by decide +kernel
theorem dX11_tallyBalls_16 : decode cX11_tallyBalls 16 = .ok (.if_icmp .ge 38, 3) := by decide +kernel
theorem dX11_tallyBalls_19 : decode cX11_tallyBalls 19 = .ok (.iload_n 2, 1) := by decide +kernel
theorem dX11_tallyBalls_20 : decode cX11_tallyBalls 20 = .ok (.iload 4, 2) := by decide +kernel
theorem dX11_tallyBalls_22 : decode cX11_tallyBalls 22 = .ok (.invokestatic 152, 3) := by decide +kernel
theorem dX11_tallyBalls_25 : decode cX11_tallyBalls 25 = .ok (.ifCond .eq 23, 3) := by decide +kernel
theorem dX11_tallyBalls_28 : decode cX11_tallyBalls 28 = .ok (.aload_n 0, 1) := by decide +kernel
theorem dX11_tallyBalls_29 : decode cX11_tallyBalls 29 = .ok (.getfield 35, 3) := by decide +kernel
theorem dX11_tallyBalls_32 : decode cX11_tallyBalls 32 = .ok (.aload_n 0, 1) := by decide +kernel
theorem dX11_tallyBalls_33 : decode cX11_tallyBalls 33 = .ok (.aload_n 0, 1) := by decide +kernel
theorem dX11_tallyBalls_34 : decode cX11_tallyBalls 34 = .ok (.getfield 24, 3) := by decide +kernel
theorem dX11_tallyBalls_37 : decode cX11_tallyBalls 37 = .ok (.iload 4, 2) := by decide +kernel
theorem dX11_tallyBalls_39 : decode cX11_tallyBalls 39 = .ok (.aaload, 1) := by decide +kernel
theorem dX11_tallyBalls_40 : decode cX11_tallyBalls 40 = .ok (.iload_n 1, 1) := by decide +kernel
theorem dX11_tallyBalls_41 : decode cX11_tallyBalls 41 = .ok (.iload_n 3, 1) := by decide +kernel
theorem dX11_tallyBalls_42 : decode cX11_tallyBalls 42 = .ok (.invokevirtual 160, 3) := by decide +kernel
theorem dX11_tallyBalls_45 : decode cX11_tallyBalls 45 = .ok (.invokevirtual 351, 3) := by decide +kernel
theorem dX11_tallyBalls_48 : decode cX11_tallyBalls 48 = .ok (.iinc 4 1, 3) := by decide +kernel
theorem dX11_tallyBalls_51 : decode cX11_tallyBalls 51 = .ok (.goto (-41), 3) := by decide +kernel
theorem dX11_tallyBalls_54 : decode cX11_tallyBalls 54 = .ok (.return_, 1) := by decide +kernel
theorem dX11_inWays_0 : decode cX11_inWays 0 = .ok (.iload_n 3, 1) := by decide +kernel
theorem dX11_inWays_1 : decode cX11_inWays 1 = .ok (.invokestatic 218, 3) := by decide +kernel
theorem dX11_inWays_4 : decode cX11_inWays 4 = .ok (.istore 4, 2) := by decide +kernel
theorem dX11_inWays_6 : decode cX11_inWays 6 = .ok (.aload_n 1, 1) := by decide +kernel
theorem dX11_inWays_7 : decode cX11_inWays 7 = .ok (.iload 4, 2) := by decide +kernel
theorem dX11_inWays_9 : decode cX11_inWays 9 = .ok (.invokevirtual 354, 3) := by decide +kernel
theorem dX11_inWays_12 : decode cX11_inWays 12 = .ok (.ifCond .ne 5, 3) := by decide +kernel
theorem dX11_inWays_15 : decode cX11_inWays 15 = .ok (.lconst 0, 1) := by decide +kernel
theorem dX11_inWays_16 : decode cX11_inWays 16 = .ok (.lreturn, 1) := by decide +kernel
theorem dX11_inWays_17 : decode cX11_inWays 17 = .ok (.aload_n 0, 1) := by decide +kernel
theorem dX11_inWays_18 : decode cX11_inWays 18 = .ok (.iload_n 2, 1) := by decide +kernel
theorem dX11_inWays_19 : decode cX11_inWays 19 = .ok (.iload_n 3, 1) := by decide +kernel
theorem dX11_inWays_20 : decode cX11_inWays 20 = .ok (.aload_n 1, 1) := by decide +kernel
theorem dX11_inWays_21 : decode cX11_inWays 21 = .ok (.iload_n 3, 1) := by decide +kernel
theorem dX11_inWays_22 : decode cX11_inWays 22 = .ok (.invokestatic 156, 3) := by decide +kernel
theorem dX11_inWays_25 : decode cX11_inWays 25 = .ok (.invokevirtual 167, 3) := by decide +kernel
theorem dX11_inWays_28 : decode cX11_inWays 28 = .ok (.aload_n 0, 1) := by decide +kernel
theorem dX11_inWays_29 : decode cX11_inWays 29 = .ok (.getfield 35, 3) := by decide +kernel
theorem dX11_inWays_32 : decode cX11_inWays 32 = .ok (.invokevirtual 175, 3) := by decide +kernel
theorem dX11_inWays_35 : decode cX11_inWays 35 = .ok (.lstore 5, 2) := by decide +kernel
theorem dX11_inWays_37 : decode cX11_inWays 37 = .ok (.lconst 0, 1) := by decide +kernel
theorem dX11_inWays_38 : decode cX11_inWays 38 = .ok (.lstore 7, 2) := by decide +kernel
theorem dX11_inWays_40 : decode cX11_inWays 40 = .ok (.iconst 0, 1) := by decide +kernel
theorem dX11_inWays_41 : decode cX11_inWays 41 = .ok (.istore 9, 2) := by decide +kernel
theorem dX11_inWays_43 : decode cX11_inWays 43 = .ok (.iload 9, 2) := by decide +kernel
theorem dX11_inWays_45 : decode cX11_inWays 45 = .ok (.iload 4, 2) := by decide +kernel
theorem dX11_inWays_47 : decode cX11_inWays 47 = .ok (.if_icmp .gt 34, 3) := by decide +kernel
theorem dX11_inWays_50 : decode cX11_inWays 50 = .ok (.aload_n 1, 1) := by decide +kernel
theorem dX11_inWays_51 : decode cX11_inWays 51 = .ok (.iload 9, 2) := by decide +kernel
theorem dX11_inWays_53 : decode cX11_inWays 53 = .ok (.iload 4, 2) := by decide +kernel
theorem dX11_inWays_55 : decode cX11_inWays 55 = .ok (.invokevirtual 223, 3) := by decide +kernel
theorem dX11_inWays_58 : decode cX11_inWays 58 = .ok (.ifCond .eq 17, 3) := by decide +kernel
theorem dX11_inWays_61 : decode cX11_inWays 61 = .ok (.lload 7, 2) := by decide +kernel
theorem dX11_inWays_63 : decode cX11_inWays 63 = .ok (.aload_n 0, 1) := by decide +kernel
theorem dX11_inWays_64 : decode cX11_inWays 64 = .ok (.getfield 35, 3) := by decide +kernel
theorem dX11_inWays_67 : decode cX11_inWays 67 = .ok (.iload 9, 2) := by decide +kernel
theorem dX11_inWays_69 : decode cX11_inWays 69 = .ok (.invokevirtual 171, 3) := by decide +kernel
theorem dX11_inWays_72 : decode cX11_inWays 72 = .ok (.ladd, 1) := by decide +kernel
theorem dX11_inWays_73 : decode cX11_inWays 73 = .ok (.lstore 7, 2) := by decide +kernel
theorem dX11_inWays_75 : decode cX11_inWays 75 = .ok (.iinc 9 1, 3) := by decide +kernel
theorem dX11_inWays_78 : decode cX11_inWays 78 = .ok (.goto (-35), 3) := by decide +kernel
theorem dX11_inWays_81 : decode cX11_inWays 81 = .ok (.aload_n 1, 1) := by decide +kernel
theorem dX11_inWays_82 : decode cX11_inWays 82 = .ok (.getfield 194, 3) := by decide +kernel
theorem dX11_inWays_85 : decode cX11_inWays 85 = .ok (.ifCond .eq 17, 3) := by decide +kernel
theorem dX11_inWays_88 : decode cX11_inWays 88 = .ok (.lload 5, 2) := by decide +kernel
theorem dX11_inWays_90 : decode cX11_inWays 90 = .ok (.lload 5, 2) := by decide +kernel
theorem dX11_inWays_92 : decode cX11_inWays 92 = .ok (.lmul, 1) := by decide +kernel
theorem dX11_inWays_93 : decode cX11_inWays 93 = .ok (.lload 7, 2) := by decide +kernel
theorem dX11_inWays_95 : decode cX11_inWays 95 = .ok (.lload 7, 2) := by decide +kernel
theorem dX11_inWays_97 : decode cX11_inWays 97 = .ok (.lmul, 1) := by decide +kernel
theorem dX11_inWays_98 : decode cX11_inWays 98 = .ok (.lsub, 1) := by decide +kernel
theorem dX11_inWays_99 : decode cX11_inWays 99 = .ok (.goto 11, 3) := by decide +kernel
theorem dX11_inWays_102 : decode cX11_inWays 102 = .ok (.lload 5, 2) := by decide +kernel
theorem dX11_inWays_104 : decode cX11_inWays 104 = .ok (.lload 7, 2) := by decide +kernel
theorem dX11_inWays_106 : decode cX11_inWays 106 = .ok (.lsub, 1) := by decide +kernel
theorem dX11_inWays_107 : decode cX11_inWays 107 = .ok (.lload 5, 2) := by decide +kernel
theorem dX11_inWays_109 : decode cX11_inWays 109 = .ok (.lmul, 1) := by decide +kernel
theorem dX11_inWays_110 : decode cX11_inWays 110 = .ok (.lreturn, 1) := by decide +kernel
theorem dX11_squaredTens_0 : decode cX11_squaredTens 0 = .ok (.ldc2_w 357, 3) := by decide +kernel
theorem dX11_squaredTens_3 : decode cX11_squaredTens 3 = .ok (.iload_n 0, 1) := by decide +kernel
theorem dX11_squaredTens_4 : decode cX11_squaredTens 4 = .ok (.invokestatic 218, 3) := by decide +kernel
theorem dX11_squaredTens_7 : decode cX11_squaredTens 7 = .ok (.invokestatic 359, 3) := by decide +kernel
theorem dX11_squaredTens_10 : decode cX11_squaredTens 10 = .ok (.lstore_n 1, 1) := by decide +kernel
theorem dX11_squaredTens_11 : decode cX11_squaredTens 11 = .ok (.lload_n 1, 1) := by decide +kernel
theorem dX11_squaredTens_12 : decode cX11_squaredTens 12 = .ok (.lload_n 1, 1) := by decide +kernel
theorem dX11_squaredTens_13 : decode cX11_squaredTens 13 = .ok (.lmul, 1) := by decide +kernel
theorem dX11_squaredTens_14 : decode cX11_squaredTens 14 = .ok (.lreturn, 1) := by decide +kernel
theorem dX11_wrongWays_0 : decode cX11_wrongWays 0 = .ok (.iload_n 2, 1) := by decide +kernel
theorem dX11_wrongWays_1 : decode cX11_wrongWays 1 = .ok (.invokestatic 191, 3) := by decide +kernel
theorem dX11_wrongWays_4 : decode cX11_wrongWays 4 = .ok (.lstore_n 3, 1) := by decide +kernel
theorem dX11_wrongWays_5 : decode cX11_wrongWays 5 = .ok (.lconst 0, 1) := by decide +kernel
theorem dX11_wrongWays_6 : decode cX11_wrongWays 6 = .ok (.lstore 5, 2) := by decide +kernel
theorem dX11_wrongWays_8 : decode cX11_wrongWays 8 = .ok (.iconst 0, 1) := by decide +kernel
theorem dX11_wrongWays_9 : decode cX11_wrongWays 9 = .ok (.istore 7, 2) := by decide +kernel
theorem dX11_wrongWays_11 : decode cX11_wrongWays 11 = .ok (.iload 7, 2) := by decide +kernel
theorem dX11_wrongWays_13 : decode cX11_wrongWays 13 = .ok (.aload_n 0, 1) := by decide +kernel
theorem dX11_wrongWays_14 : decode cX11_wrongWays 14 = .ok (.getfield 126, 3) := by decide +kernel
theorem dX11_wrongWays_17 : decode cX11_wrongWays 17 = .ok (.if_icmp .ge 42, 3) := by decide +kernel
theorem dX11_wrongWays_20 : decode cX11_wrongWays 20 = .ok (.aload_n 0, 1) := by decide +kernel
theorem dX11_wrongWays_21 : decode cX11_wrongWays 21 = .ok (.aload_n 1, 1) := by decide +kernel
theorem dX11_wrongWays_22 : decode cX11_wrongWays 22 = .ok (.iload 7, 2) := by decide +kernel
theorem dX11_wrongWays_24 : decode cX11_wrongWays 24 = .ok (.iload_n 2, 1) := by decide +kernel
theorem dX11_wrongWays_25 : decode cX11_wrongWays 25 = .ok (.invokevirtual 187, 3) := by decide +kernel
theorem dX11_wrongWays_28 : decode cX11_wrongWays 28 = .ok (.lstore 8, 2) := by decide +kernel
theorem dX11_wrongWays_30 : decode cX11_wrongWays 30 = .ok (.lload 5, 2) := by decide +kernel
theorem dX11_wrongWays_32 : decode cX11_wrongWays 32 = .ok (.aload_n 0, 1) := by decide +kernel
theorem dX11_wrongWays_33 : decode cX11_wrongWays 33 = .ok (.iload 7, 2) := by decide +kernel
theorem dX11_wrongWays_35 : decode cX11_wrongWays 35 = .ok (.invokevirtual 143, 3) := by decide +kernel
theorem dX11_wrongWays_38 : decode cX11_wrongWays 38 = .ok (.ifCond .eq 8, 3) := by decide +kernel
theorem dX11_wrongWays_41 : decode cX11_wrongWays 41 = .ok (.lload 8, 2) := by decide +kernel
theorem dX11_wrongWays_43 : decode cX11_wrongWays 43 = .ok (.goto 7, 3) := by decide +kernel
theorem dX11_wrongWays_46 : decode cX11_wrongWays 46 = .ok (.lload_n 3, 1) := by decide +kernel
theorem dX11_wrongWays_47 : decode cX11_wrongWays 47 = .ok (.lload 8, 2) := by decide +kernel
theorem dX11_wrongWays_49 : decode cX11_wrongWays 49 = .ok (.lsub, 1) := by decide +kernel
theorem dX11_wrongWays_50 : decode cX11_wrongWays 50 = .ok (.ladd, 1) := by decide +kernel
theorem dX11_wrongWays_51 : decode cX11_wrongWays 51 = .ok (.lstore 5, 2) := by decide +kernel
theorem dX11_wrongWays_53 : decode cX11_wrongWays 53 = .ok (.iinc 7 1, 3) := by decide +kernel
theorem dX11_wrongWays_56 : decode cX11_wrongWays 56 = .ok (.goto (-45), 3) := by decide +kernel
theorem dX11_wrongWays_59 : decode cX11_wrongWays 59 = .ok (.lload 5, 2) := by decide +kernel
theorem dX11_wrongWays_61 : decode cX11_wrongWays 61 = .ok (.lreturn, 1) := by decide +kernel
theorem dX11_withdraws_0 : decode cX11_withdraws 0 = .ok (.lload_n 0, 1) := by decide +kernel
theorem dX11_withdraws_1 : decode cX11_withdraws 1 = .ok (.ldc2_w 357, 3) := by decide +kernel
theorem dX11_withdraws_4 : decode cX11_withdraws 4 = .ok (.lmul, 1) := by decide +kernel
theorem dX11_withdraws_5 : decode cX11_withdraws 5 = .ok (.iload_n 3, 1) := by decide +kernel
theorem dX11_withdraws_6 : decode cX11_withdraws 6 = .ok (.i2l, 1) := by decide +kernel
theorem dX11_withdraws_7 : decode cX11_withdraws 7 = .ok (.iload_n 2, 1) := by decide +kernel
theorem dX11_withdraws_8 : decode cX11_withdraws 8 = .ok (.invokestatic 191, 3) := by decide +kernel
theorem dX11_withdraws_11 : decode cX11_withdraws 11 = .ok (.lmul, 1) := by decide +kernel
theorem dX11_withdraws_12 : decode cX11_withdraws 12 = .ok (.lcmp, 1) := by decide +kernel
theorem dX11_withdraws_13 : decode cX11_withdraws 13 = .ok (.ifCond .ge 7, 3) := by decide +kernel
theorem dX11_withdraws_16 : decode cX11_withdraws 16 = .ok (.iconst 1, 1) := by decide +kernel
theorem dX11_withdraws_17 : decode cX11_withdraws 17 = .ok (.goto 4, 3) := by decide +kernel
theorem dX11_withdraws_20 : decode cX11_withdraws 20 = .ok (.iconst 0, 1) := by decide +kernel
theorem dX11_withdraws_21 : decode cX11_withdraws 21 = .ok (.ireturn, 1) := by decide +kernel
theorem dX11_letInByOneBall_0 : decode cX11_letInByOneBall 0 = .ok (.iconst 0, 1) := by decide +kernel
theorem dX11_letInByOneBall_1 : decode cX11_letInByOneBall 1 = .ok (.istore 5, 2) := by decide +kernel
theorem dX11_letInByOneBall_3 : decode cX11_letInByOneBall 3 = .ok (.iconst 0, 1) := by decide +kernel
theorem dX11_letInByOneBall_4 : decode cX11_letInByOneBall 4 = .ok (.istore 6, 2) := by decide +kernel
theorem dX11_letInByOneBall_6 : decode cX11_letInByOneBall 6 = .ok (.iload 6, 2) := by decide +kernel
theorem dX11_letInByOneBall_8 : decode cX11_letInByOneBall 8 = .ok (.aload_n 0, 1) := by decide +kernel
theorem dX11_letInByOneBall_9 : decode cX11_letInByOneBall 9 = .ok (.getfield 103, 3) := by decide +kernel
theorem dX11_letInByOneBall_12 : decode cX11_letInByOneBall 12 = .ok (.if_icmp .ge 39, 3) := by decide +kernel
theorem dX11_letInByOneBall_15 : decode cX11_letInByOneBall 15 = .ok (.iload 6, 2) := by decide +kernel
theorem dX11_letInByOneBall_17 : decode cX11_letInByOneBall 17 = .ok (.iload_n 3, 1) := by decide +kernel
theorem dX11_letInByOneBall_18 : decode cX11_letInByOneBall 18 = .ok (.if_icmp .eq 27, 3) := by decide +kernel
theorem dX11_letInByOneBall_21 : decode cX11_letInByOneBall 21 = .ok (.iload 6, 2) := by decide +kernel
theorem dX11_letInByOneBall_23 : decode cX11_letInByOneBall 23 = .ok (.iload 4, 2) := by decide +kernel
theorem dX11_letInByOneBall_25 : decode cX11_letInByOneBall 25 = .ok (.if_icmp .eq 20, 3) := by decide +kernel
theorem dX11_letInByOneBall_28 : decode cX11_letInByOneBall 28 = .ok (.aload_n 0, 1) := by decide +kernel
theorem dX11_letInByOneBall_29 : decode cX11_letInByOneBall 29 = .ok (.getfield 24, 3) := by decide +kernel
theorem dX11_letInByOneBall_32 : decode cX11_letInByOneBall 32 = .ok (.iload 6, 2) := by decide +kernel
theorem dX11_letInByOneBall_34 : decode cX11_letInByOneBall 34 = .ok (.aaload, 1) := by decide +kernel
theorem dX11_letInByOneBall_35 : decode cX11_letInByOneBall 35 = .ok (.iload_n 2, 1) := by decide +kernel
theorem dX11_letInByOneBall_36 : decode cX11_letInByOneBall 36 = .ok (.invokevirtual 340, 3) := by decide +kernel
theorem dX11_letInByOneBall_39 : decode cX11_letInByOneBall 39 = .ok (.ifCond .eq 6, 3) := by decide +kernel
theorem dX11_letInByOneBall_42 : decode cX11_letInByOneBall 42 = .ok (.iinc 5 1, 3) := by decide +kernel
theorem dX11_letInByOneBall_45 : decode cX11_letInByOneBall 45 = .ok (.iinc 6 1, 3) := by decide +kernel
theorem dX11_letInByOneBall_48 : decode cX11_letInByOneBall 48 = .ok (.goto (-42), 3) := by decide +kernel
theorem dX11_letInByOneBall_51 : decode cX11_letInByOneBall 51 = .ok (.aload_n 1, 1) := by decide +kernel
theorem dX11_letInByOneBall_52 : decode cX11_letInByOneBall 52 = .ok (.iload 5, 2) := by decide +kernel
theorem dX11_letInByOneBall_54 : decode cX11_letInByOneBall 54 = .ok (.aload_n 0, 1) := by decide +kernel
theorem dX11_letInByOneBall_55 : decode cX11_letInByOneBall 55 = .ok (.getfield 103, 3) := by decide +kernel
theorem dX11_letInByOneBall_58 : decode cX11_letInByOneBall 58 = .ok (.invokevirtual 363, 3) := by decide +kernel
theorem dX11_letInByOneBall_61 : decode cX11_letInByOneBall 61 = .ok (.ifCond .eq 7, 3) := by decide +kernel
theorem dX11_letInByOneBall_64 : decode cX11_letInByOneBall 64 = .ok (.iconst 1, 1) := by decide +kernel
theorem dX11_letInByOneBall_65 : decode cX11_letInByOneBall 65 = .ok (.goto 4, 3) := by decide +kernel
theorem dX11_letInByOneBall_68 : decode cX11_letInByOneBall 68 = .ok (.iconst 0, 1) := by decide +kernel
theorem dX11_letInByOneBall_69 : decode cX11_letInByOneBall 69 = .ok (.istore 6, 2) := by decide +kernel
theorem dX11_letInByOneBall_71 : decode cX11_letInByOneBall 71 = .ok (.aload_n 1, 1) := by decide +kernel
theorem dX11_letInByOneBall_72 : decode cX11_letInByOneBall 72 = .ok (.iload 5, 2) := by decide +kernel
theorem dX11_letInByOneBall_74 : decode cX11_letInByOneBall 74 = .ok (.iconst 1, 1) := by decide +kernel
theorem dX11_letInByOneBall_75 : decode cX11_letInByOneBall 75 = .ok (.iadd, 1) := by decide +kernel
theorem dX11_letInByOneBall_76 : decode cX11_letInByOneBall 76 = .ok (.aload_n 0, 1) := by decide +kernel
theorem dX11_letInByOneBall_77 : decode cX11_letInByOneBall 77 = .ok (.getfield 103, 3) := by decide +kernel
theorem dX11_letInByOneBall_80 : decode cX11_letInByOneBall 80 = .ok (.invokevirtual 363, 3) := by decide +kernel
theorem dX11_letInByOneBall_83 : decode cX11_letInByOneBall 83 = .ok (.ifCond .eq 7, 3) := by decide +kernel
theorem dX11_letInByOneBall_86 : decode cX11_letInByOneBall 86 = .ok (.iconst 2, 1) := by decide +kernel
theorem dX11_letInByOneBall_87 : decode cX11_letInByOneBall 87 = .ok (.goto 4, 3) := by decide +kernel
theorem dX11_letInByOneBall_90 : decode cX11_letInByOneBall 90 = .ok (.iconst 0, 1) := by decide +kernel
theorem dX11_letInByOneBall_91 : decode cX11_letInByOneBall 91 = .ok (.istore 7, 2) := by decide +kernel
theorem dX11_letInByOneBall_93 : decode cX11_letInByOneBall 93 = .ok (.iload 6, 2) := by decide +kernel
theorem dX11_letInByOneBall_95 : decode cX11_letInByOneBall 95 = .ok (.iload 7, 2) := by decide +kernel
theorem dX11_letInByOneBall_97 : decode cX11_letInByOneBall 97 = .ok (.ior, 1) := by decide +kernel
theorem dX11_letInByOneBall_98 : decode cX11_letInByOneBall 98 = .ok (.ireturn, 1) := by decide +kernel
theorem dX11_gain_0 : decode cX11_gain 0 = .ok (.iload 5, 2) := by decide +kernel
theorem dX11_gain_2 : decode cX11_gain 2 = .ok (.iconst 1, 1) := by decide +kernel
theorem dX11_gain_3 : decode cX11_gain 3 = .ok (.iand, 1) := by decide +kernel
theorem dX11_gain_4 : decode cX11_gain 4 = .ok (.istore 6, 2) := by decide +kernel
theorem dX11_gain_6 : decode cX11_gain 6 = .ok (.iload 5, 2) := by decide +kernel
theorem dX11_gain_8 : decode cX11_gain 8 = .ok (.iconst 1, 1) := by decide +kernel
theorem dX11_gain_9 : decode cX11_gain 9 = .ok (.ishr, 1) := by decide +kernel
theorem dX11_gain_10 : decode cX11_gain 10 = .ok (.iconst 1, 1) := by decide +kernel
theorem dX11_gain_11 : decode cX11_gain 11 = .ok (.iand, 1) := by decide +kernel
theorem dX11_gain_12 : decode cX11_gain 12 = .ok (.istore 7, 2) := by decide +kernel
theorem dX11_gain_14 : decode cX11_gain 14 = .ok (.iload_n 2, 1) := by decide +kernel
theorem dX11_gain_15 : decode cX11_gain 15 = .ok (.iload 7, 2) := by decide +kernel
theorem dX11_gain_17 : decode cX11_gain 17 = .ok (.ishr, 1) := by decide +kernel
theorem dX11_gain_18 : decode cX11_gain 18 = .ok (.iconst 1, 1) := by decide +kernel
theorem dX11_gain_19 : decode cX11_gain 19 = .ok (.iand, 1) := by decide +kernel
theorem dX11_gain_20 : decode cX11_gain 20 = .ok (.iconst 5, 1) := by decide +kernel
theorem dX11_gain_21 : decode cX11_gain 21 = .ok (.aload_n 0, 1) := by decide +kernel
theorem dX11_gain_22 : decode cX11_gain 22 = .ok (.iload_n 1, 1) := by decide +kernel
theorem dX11_gain_23 : decode cX11_gain 23 = .ok (.invokevirtual 133, 3) := by decide +kernel
theorem dX11_gain_26 : decode cX11_gain 26 = .ok (.isub, 1) := by decide +kernel
theorem dX11_gain_27 : decode cX11_gain 27 = .ok (.imul, 1) := by decide +kernel
theorem dX11_gain_28 : decode cX11_gain 28 = .ok (.istore 8, 2) := by decide +kernel
theorem dX11_gain_30 : decode cX11_gain 30 = .ok (.iload 4, 2) := by decide +kernel
theorem dX11_gain_32 : decode cX11_gain 32 = .ok (.iload 6, 2) := by decide +kernel
theorem dX11_gain_34 : decode cX11_gain 34 = .ok (.ishr, 1) := by decide +kernel
theorem dX11_gain_35 : decode cX11_gain 35 = .ok (.iconst 1, 1) := by decide +kernel
theorem dX11_gain_36 : decode cX11_gain 36 = .ok (.iand, 1) := by decide +kernel
theorem dX11_gain_37 : decode cX11_gain 37 = .ok (.iconst 5, 1) := by decide +kernel
theorem dX11_gain_38 : decode cX11_gain 38 = .ok (.aload_n 0, 1) := by decide +kernel
theorem dX11_gain_39 : decode cX11_gain 39 = .ok (.iload_n 3, 1) := by decide +kernel
theorem dX11_gain_40 : decode cX11_gain 40 = .ok (.invokevirtual 133, 3) := by decide +kernel
theorem dX11_gain_43 : decode cX11_gain 43 = .ok (.isub, 1) := by decide +kernel
theorem dX11_gain_44 : decode cX11_gain 44 = .ok (.imul, 1) := by decide +kernel
theorem dX11_gain_45 : decode cX11_gain 45 = .ok (.istore 9, 2) := by decide +kernel
theorem dX11_gain_47 : decode cX11_gain 47 = .ok (.iload 8, 2) := by decide +kernel
theorem dX11_gain_49 : decode cX11_gain 49 = .ok (.iload 9, 2) := by decide +kernel
theorem dX11_gain_51 : decode cX11_gain 51 = .ok (.iadd, 1) := by decide +kernel
theorem dX11_gain_52 : decode cX11_gain 52 = .ok (.ireturn, 1) := by decide +kernel
theorem dX11_expectVetoes_0 : decode cX11_expectVetoes 0 = .ok (.aload_n 0, 1) := by decide +kernel
theorem dX11_expectVetoes_1 : decode cX11_expectVetoes 1 = .ok (.getfield 60, 3) := by decide +kernel
theorem dX11_expectVetoes_4 : decode cX11_expectVetoes 4 = .ok (.lconst 0, 1) := by decide +kernel
theorem dX11_expectVetoes_5 : decode cX11_expectVetoes 5 = .ok (.invokestatic 366, 3) := by decide +kernel
theorem dX11_expectVetoes_8 : decode cX11_expectVetoes 8 = .ok (.lconst 1, 1) := by decide +kernel
end
section
theorem dX11_expectVetoes_9 : decode cX11_expectVetoes 9 = .ok (.lstore_n 2, 1) := by decide +kernel
theorem dX11_expectVetoes_10 : decode cX11_expectVetoes 10 = .ok (.iconst 0, 1) := by decide +kernel
theorem dX11_expectVetoes_11 : decode cX11_expectVetoes 11 = .ok (.istore 4, 2) := by decide +kernel
theorem dX11_expectVetoes_13 : decode cX11_expectVetoes 13 = .ok (.iload 4, 2) := by decide +kernel
theorem dX11_expectVetoes_15 : decode cX11_expectVetoes 15 = .ok (.iload_n 1, 1) := by decide +kernel
theorem dX11_expectVetoes_16 : decode cX11_expectVetoes 16 = .ok (.if_icmp .ge 88, 3) := by decide +kernel
theorem dX11_expectVetoes_19 : decode cX11_expectVetoes 19 = .ok (.iconst 3, 1) := by decide +kernel
theorem dX11_expectVetoes_20 : decode cX11_expectVetoes 20 = .ok (.istore 5, 2) := by decide +kernel
theorem dX11_expectVetoes_22 : decode cX11_expectVetoes 22 = .ok (.iload 5, 2) := by decide +kernel
theorem dX11_expectVetoes_24 : decode cX11_expectVetoes 24 = .ok (.iconst 1, 1) := by decide +kernel
theorem dX11_expectVetoes_25 : decode cX11_expectVetoes 25 = .ok (.if_icmp .lt 67, 3) := by decide +kernel
theorem dX11_expectVetoes_28 : decode cX11_expectVetoes 28 = .ok (.lconst 0, 1) := by decide +kernel
theorem dX11_expectVetoes_29 : decode cX11_expectVetoes 29 = .ok (.lstore 6, 2) := by decide +kernel
theorem dX11_expectVetoes_31 : decode cX11_expectVetoes 31 = .ok (.iconst 0, 1) := by decide +kernel
theorem dX11_expectVetoes_32 : decode cX11_expectVetoes 32 = .ok (.istore 8, 2) := by decide +kernel
theorem dX11_expectVetoes_34 : decode cX11_expectVetoes 34 = .ok (.iload 8, 2) := by decide +kernel
theorem dX11_expectVetoes_36 : decode cX11_expectVetoes 36 = .ok (.bipush 10, 2) := by decide +kernel
theorem dX11_expectVetoes_38 : decode cX11_expectVetoes 38 = .ok (.if_icmp .gt 39, 3) := by decide +kernel
theorem dX11_expectVetoes_41 : decode cX11_expectVetoes 41 = .ok (.lload 6, 2) := by decide +kernel
theorem dX11_expectVetoes_43 : decode cX11_expectVetoes 43 = .ok (.iload 8, 2) := by decide +kernel
theorem dX11_expectVetoes_45 : decode cX11_expectVetoes 45 = .ok (.i2l, 1) := by decide +kernel
theorem dX11_expectVetoes_46 : decode cX11_expectVetoes 46 = .ok (.lload_n 2, 1) := by decide +kernel
theorem dX11_expectVetoes_47 : decode cX11_expectVetoes 47 = .ok (.lmul, 1) := by decide +kernel
theorem dX11_expectVetoes_48 : decode cX11_expectVetoes 48 = .ok (.aload_n 0, 1) := by decide +kernel
theorem dX11_expectVetoes_49 : decode cX11_expectVetoes 49 = .ok (.getfield 60, 3) := by decide +kernel
theorem dX11_expectVetoes_52 : decode cX11_expectVetoes 52 = .ok (.iload 5, 2) := by decide +kernel
theorem dX11_expectVetoes_54 : decode cX11_expectVetoes 54 = .ok (.iconst 1, 1) := by decide +kernel
theorem dX11_expectVetoes_55 : decode cX11_expectVetoes 55 = .ok (.isub, 1) := by decide +kernel
theorem dX11_expectVetoes_56 : decode cX11_expectVetoes 56 = .ok (.laload, 1) := by decide +kernel
theorem dX11_expectVetoes_57 : decode cX11_expectVetoes 57 = .ok (.ladd, 1) := by decide +kernel
theorem dX11_expectVetoes_58 : decode cX11_expectVetoes 58 = .ok (.aload_n 0, 1) := by decide +kernel
theorem dX11_expectVetoes_59 : decode cX11_expectVetoes 59 = .ok (.getfield 60, 3) := by decide +kernel
theorem dX11_expectVetoes_62 : decode cX11_expectVetoes 62 = .ok (.iload 5, 2) := by decide +kernel
theorem dX11_expectVetoes_64 : decode cX11_expectVetoes 64 = .ok (.laload, 1) := by decide +kernel
theorem dX11_expectVetoes_65 : decode cX11_expectVetoes 65 = .ok (.invokestatic 372, 3) := by decide +kernel
theorem dX11_expectVetoes_68 : decode cX11_expectVetoes 68 = .ok (.ladd, 1) := by decide +kernel
theorem dX11_expectVetoes_69 : decode cX11_expectVetoes 69 = .ok (.lstore 6, 2) := by decide +kernel
theorem dX11_expectVetoes_71 : decode cX11_expectVetoes 71 = .ok (.iinc 8 1, 3) := by decide +kernel
theorem dX11_expectVetoes_74 : decode cX11_expectVetoes 74 = .ok (.goto (-40), 3) := by decide +kernel
theorem dX11_expectVetoes_77 : decode cX11_expectVetoes 77 = .ok (.aload_n 0, 1) := by decide +kernel
theorem dX11_expectVetoes_78 : decode cX11_expectVetoes 78 = .ok (.getfield 60, 3) := by decide +kernel
theorem dX11_expectVetoes_81 : decode cX11_expectVetoes 81 = .ok (.iload 5, 2) := by decide +kernel
theorem dX11_expectVetoes_83 : decode cX11_expectVetoes 83 = .ok (.lload 6, 2) := by decide +kernel
theorem dX11_expectVetoes_85 : decode cX11_expectVetoes 85 = .ok (.lastore, 1) := by decide +kernel
theorem dX11_expectVetoes_86 : decode cX11_expectVetoes 86 = .ok (.iinc 5 (-1), 3) := by decide +kernel
theorem dX11_expectVetoes_89 : decode cX11_expectVetoes 89 = .ok (.goto (-67), 3) := by decide +kernel
theorem dX11_expectVetoes_92 : decode cX11_expectVetoes 92 = .ok (.lload_n 2, 1) := by decide +kernel
theorem dX11_expectVetoes_93 : decode cX11_expectVetoes 93 = .ok (.ldc2_w 375, 3) := by decide +kernel
theorem dX11_expectVetoes_96 : decode cX11_expectVetoes 96 = .ok (.lmul, 1) := by decide +kernel
theorem dX11_expectVetoes_97 : decode cX11_expectVetoes 97 = .ok (.lstore_n 2, 1) := by decide +kernel
theorem dX11_expectVetoes_98 : decode cX11_expectVetoes 98 = .ok (.iinc 4 1, 3) := by decide +kernel
theorem dX11_expectVetoes_101 : decode cX11_expectVetoes 101 = .ok (.goto (-88), 3) := by decide +kernel
theorem dX11_expectVetoes_104 : decode cX11_expectVetoes 104 = .ok (.lload_n 2, 1) := by decide +kernel
theorem dX11_expectVetoes_105 : decode cX11_expectVetoes 105 = .ok (.lreturn, 1) := by decide +kernel
theorem dX11_digestRules_0 : decode cX11_digestRules 0 = .ok (.lload_n 1, 1) := by decide +kernel
theorem dX11_digestRules_1 : decode cX11_digestRules 1 = .ok (.lstore_n 3, 1) := by decide +kernel
theorem dX11_digestRules_2 : decode cX11_digestRules 2 = .ok (.iconst 0, 1) := by decide +kernel
theorem dX11_digestRules_3 : decode cX11_digestRules 3 = .ok (.istore 5, 2) := by decide +kernel
theorem dX11_digestRules_5 : decode cX11_digestRules 5 = .ok (.iload 5, 2) := by decide +kernel
theorem dX11_digestRules_7 : decode cX11_digestRules 7 = .ok (.aload_n 0, 1) := by decide +kernel
theorem dX11_digestRules_8 : decode cX11_digestRules 8 = .ok (.getfield 79, 3) := by decide +kernel
theorem dX11_digestRules_11 : decode cX11_digestRules 11 = .ok (.if_icmp .ge 42, 3) := by decide +kernel
theorem dX11_digestRules_14 : decode cX11_digestRules 14 = .ok (.iconst 0, 1) := by decide +kernel
theorem dX11_digestRules_15 : decode cX11_digestRules 15 = .ok (.istore 6, 2) := by decide +kernel
theorem dX11_digestRules_17 : decode cX11_digestRules 17 = .ok (.iload 6, 2) := by decide +kernel
theorem dX11_digestRules_19 : decode cX11_digestRules 19 = .ok (.iconst 4, 1) := by decide +kernel
theorem dX11_digestRules_20 : decode cX11_digestRules 20 = .ok (.if_icmp .gt 27, 3) := by decide +kernel
theorem dX11_digestRules_23 : decode cX11_digestRules 23 = .ok (.lload_n 3, 1) := by decide +kernel
theorem dX11_digestRules_24 : decode cX11_digestRules 24 = .ok (.aload_n 0, 1) := by decide +kernel
theorem dX11_digestRules_25 : decode cX11_digestRules 25 = .ok (.getfield 18, 3) := by decide +kernel
theorem dX11_digestRules_28 : decode cX11_digestRules 28 = .ok (.iload 5, 2) := by decide +kernel
theorem dX11_digestRules_30 : decode cX11_digestRules 30 = .ok (.aaload, 1) := by decide +kernel
theorem dX11_digestRules_31 : decode cX11_digestRules 31 = .ok (.iload 6, 2) := by decide +kernel
theorem dX11_digestRules_33 : decode cX11_digestRules 33 = .ok (.invokevirtual 95, 3) := by decide +kernel
theorem dX11_digestRules_36 : decode cX11_digestRules 36 = .ok (.i2l, 1) := by decide +kernel
theorem dX11_digestRules_37 : decode cX11_digestRules 37 = .ok (.invokestatic 320, 3) := by decide +kernel
theorem dX11_digestRules_40 : decode cX11_digestRules 40 = .ok (.lstore_n 3, 1) := by decide +kernel
theorem dX11_digestRules_41 : decode cX11_digestRules 41 = .ok (.iinc 6 1, 3) := by decide +kernel
theorem dX11_digestRules_44 : decode cX11_digestRules 44 = .ok (.goto (-27), 3) := by decide +kernel
theorem dX11_digestRules_47 : decode cX11_digestRules 47 = .ok (.iinc 5 1, 3) := by decide +kernel
theorem dX11_digestRules_50 : decode cX11_digestRules 50 = .ok (.goto (-45), 3) := by decide +kernel
theorem dX11_digestRules_53 : decode cX11_digestRules 53 = .ok (.lload_n 3, 1) := by decide +kernel
theorem dX11_digestRules_54 : decode cX11_digestRules 54 = .ok (.lreturn, 1) := by decide +kernel
theorem dX11_digestPeople_0 : decode cX11_digestPeople 0 = .ok (.lload_n 1, 1) := by decide +kernel
theorem dX11_digestPeople_1 : decode cX11_digestPeople 1 = .ok (.lstore_n 3, 1) := by decide +kernel
theorem dX11_digestPeople_2 : decode cX11_digestPeople 2 = .ok (.iconst 0, 1) := by decide +kernel
theorem dX11_digestPeople_3 : decode cX11_digestPeople 3 = .ok (.istore 5, 2) := by decide +kernel
theorem dX11_digestPeople_5 : decode cX11_digestPeople 5 = .ok (.iload 5, 2) := by decide +kernel
theorem dX11_digestPeople_7 : decode cX11_digestPeople 7 = .ok (.aload_n 0, 1) := by decide +kernel
theorem dX11_digestPeople_8 : decode cX11_digestPeople 8 = .ok (.getfield 103, 3) := by decide +kernel
theorem dX11_digestPeople_11 : decode cX11_digestPeople 11 = .ok (.if_icmp .ge 74, 3) := by decide +kernel
theorem dX11_digestPeople_14 : decode cX11_digestPeople 14 = .ok (.iconst 0, 1) := by decide +kernel
theorem dX11_digestPeople_15 : decode cX11_digestPeople 15 = .ok (.istore 6, 2) := by decide +kernel
theorem dX11_digestPeople_17 : decode cX11_digestPeople 17 = .ok (.iload 6, 2) := by decide +kernel
theorem dX11_digestPeople_19 : decode cX11_digestPeople 19 = .ok (.iconst 2, 1) := by decide +kernel
theorem dX11_digestPeople_20 : decode cX11_digestPeople 20 = .ok (.if_icmp .gt 23, 3) := by decide +kernel
theorem dX11_digestPeople_23 : decode cX11_digestPeople 23 = .ok (.lload_n 3, 1) := by decide +kernel
theorem dX11_digestPeople_24 : decode cX11_digestPeople 24 = .ok (.aload_n 0, 1) := by decide +kernel
theorem dX11_digestPeople_25 : decode cX11_digestPeople 25 = .ok (.iload 5, 2) := by decide +kernel
theorem dX11_digestPeople_27 : decode cX11_digestPeople 27 = .ok (.iload 6, 2) := by decide +kernel
theorem dX11_digestPeople_29 : decode cX11_digestPeople 29 = .ok (.invokevirtual 377, 3) := by decide +kernel
theorem dX11_digestPeople_32 : decode cX11_digestPeople 32 = .ok (.i2l, 1) := by decide +kernel
theorem dX11_digestPeople_33 : decode cX11_digestPeople 33 = .ok (.invokestatic 320, 3) := by decide +kernel
theorem dX11_digestPeople_36 : decode cX11_digestPeople 36 = .ok (.lstore_n 3, 1) := by decide +kernel
theorem dX11_digestPeople_37 : decode cX11_digestPeople 37 = .ok (.iinc 6 1, 3) := by decide +kernel
theorem dX11_digestPeople_40 : decode cX11_digestPeople 40 = .ok (.goto (-23), 3) := by decide +kernel
theorem dX11_digestPeople_43 : decode cX11_digestPeople 43 = .ok (.iconst 0, 1) := by decide +kernel
theorem dX11_digestPeople_44 : decode cX11_digestPeople 44 = .ok (.istore 6, 2) := by decide +kernel
theorem dX11_digestPeople_46 : decode cX11_digestPeople 46 = .ok (.iload 6, 2) := by decide +kernel
theorem dX11_digestPeople_48 : decode cX11_digestPeople 48 = .ok (.aload_n 0, 1) := by decide +kernel
theorem dX11_digestPeople_49 : decode cX11_digestPeople 49 = .ok (.getfield 126, 3) := by decide +kernel
theorem dX11_digestPeople_52 : decode cX11_digestPeople 52 = .ok (.if_icmp .ge 27, 3) := by decide +kernel
theorem dX11_digestPeople_55 : decode cX11_digestPeople 55 = .ok (.lload_n 3, 1) := by decide +kernel
theorem dX11_digestPeople_56 : decode cX11_digestPeople 56 = .ok (.aload_n 0, 1) := by decide +kernel
theorem dX11_digestPeople_57 : decode cX11_digestPeople 57 = .ok (.getfield 24, 3) := by decide +kernel
theorem dX11_digestPeople_60 : decode cX11_digestPeople 60 = .ok (.iload 5, 2) := by decide +kernel
theorem dX11_digestPeople_62 : decode cX11_digestPeople 62 = .ok (.aaload, 1) := by decide +kernel
theorem dX11_digestPeople_63 : decode cX11_digestPeople 63 = .ok (.iload 6, 2) := by decide +kernel
theorem dX11_digestPeople_65 : decode cX11_digestPeople 65 = .ok (.invokevirtual 133, 3) := by decide +kernel
theorem dX11_digestPeople_68 : decode cX11_digestPeople 68 = .ok (.i2l, 1) := by decide +kernel
theorem dX11_digestPeople_69 : decode cX11_digestPeople 69 = .ok (.invokestatic 320, 3) := by decide +kernel
theorem dX11_digestPeople_72 : decode cX11_digestPeople 72 = .ok (.lstore_n 3, 1) := by decide +kernel
theorem dX11_digestPeople_73 : decode cX11_digestPeople 73 = .ok (.iinc 6 1, 3) := by decide +kernel
theorem dX11_digestPeople_76 : decode cX11_digestPeople 76 = .ok (.goto (-30), 3) := by decide +kernel
theorem dX11_digestPeople_79 : decode cX11_digestPeople 79 = .ok (.iinc 5 1, 3) := by decide +kernel
theorem dX11_digestPeople_82 : decode cX11_digestPeople 82 = .ok (.goto (-77), 3) := by decide +kernel
theorem dX11_digestPeople_85 : decode cX11_digestPeople 85 = .ok (.lload_n 3, 1) := by decide +kernel
theorem dX11_digestPeople_86 : decode cX11_digestPeople 86 = .ok (.lreturn, 1) := by decide +kernel
theorem dX11_digestCandidates_0 : decode cX11_digestCandidates 0 = .ok (.lload_n 1, 1) := by decide +kernel
theorem dX11_digestCandidates_1 : decode cX11_digestCandidates 1 = .ok (.lstore_n 3, 1) := by decide +kernel
theorem dX11_digestCandidates_2 : decode cX11_digestCandidates 2 = .ok (.iconst 0, 1) := by decide +kernel
theorem dX11_digestCandidates_3 : decode cX11_digestCandidates 3 = .ok (.istore 5, 2) := by decide +kernel
theorem dX11_digestCandidates_5 : decode cX11_digestCandidates 5 = .ok (.iload 5, 2) := by decide +kernel
theorem dX11_digestCandidates_7 : decode cX11_digestCandidates 7 = .ok (.aload_n 0, 1) := by decide +kernel
theorem dX11_digestCandidates_8 : decode cX11_digestCandidates 8 = .ok (.getfield 126, 3) := by decide +kernel
theorem dX11_digestCandidates_11 : decode cX11_digestCandidates 11 = .ok (.if_icmp .ge 38, 3) := by decide +kernel
theorem dX11_digestCandidates_14 : decode cX11_digestCandidates 14 = .ok (.iconst 0, 1) := by decide +kernel
theorem dX11_digestCandidates_15 : decode cX11_digestCandidates 15 = .ok (.istore 6, 2) := by decide +kernel
theorem dX11_digestCandidates_17 : decode cX11_digestCandidates 17 = .ok (.iload 6, 2) := by decide +kernel
theorem dX11_digestCandidates_19 : decode cX11_digestCandidates 19 = .ok (.iconst 2, 1) := by decide +kernel
theorem dX11_digestCandidates_20 : decode cX11_digestCandidates 20 = .ok (.if_icmp .gt 23, 3) := by decide +kernel
theorem dX11_digestCandidates_23 : decode cX11_digestCandidates 23 = .ok (.lload_n 3, 1) := by decide +kernel
theorem dX11_digestCandidates_24 : decode cX11_digestCandidates 24 = .ok (.aload_n 0, 1) := by decide +kernel
theorem dX11_digestCandidates_25 : decode cX11_digestCandidates 25 = .ok (.iload 5, 2) := by decide +kernel
theorem dX11_digestCandidates_27 : decode cX11_digestCandidates 27 = .ok (.iload 6, 2) := by decide +kernel
theorem dX11_digestCandidates_29 : decode cX11_digestCandidates 29 = .ok (.invokevirtual 381, 3) := by decide +kernel
theorem dX11_digestCandidates_32 : decode cX11_digestCandidates 32 = .ok (.i2l, 1) := by decide +kernel
theorem dX11_digestCandidates_33 : decode cX11_digestCandidates 33 = .ok (.invokestatic 320, 3) := by decide +kernel
theorem dX11_digestCandidates_36 : decode cX11_digestCandidates 36 = .ok (.lstore_n 3, 1) := by decide +kernel
theorem dX11_digestCandidates_37 : decode cX11_digestCandidates 37 = .ok (.iinc 6 1, 3) := by decide +kernel
theorem dX11_digestCandidates_40 : decode cX11_digestCandidates 40 = .ok (.goto (-23), 3) := by decide +kernel
theorem dX11_digestCandidates_43 : decode cX11_digestCandidates 43 = .ok (.iinc 5 1, 3) := by decide +kernel
theorem dX11_digestCandidates_46 : decode cX11_digestCandidates 46 = .ok (.goto (-41), 3) := by decide +kernel
theorem dX11_digestCandidates_49 : decode cX11_digestCandidates 49 = .ok (.lload_n 3, 1) := by decide +kernel
theorem dX11_digestCandidates_50 : decode cX11_digestCandidates 50 = .ok (.lreturn, 1) := by decide +kernel
theorem dX11_digestIn_0 : decode cX11_digestIn 0 = .ok (.lload_n 1, 1) := by decide +kernel
theorem dX11_digestIn_1 : decode cX11_digestIn 1 = .ok (.lstore_n 3, 1) := by decide +kernel
theorem dX11_digestIn_2 : decode cX11_digestIn 2 = .ok (.aload_n 0, 1) := by decide +kernel
theorem dX11_digestIn_3 : decode cX11_digestIn 3 = .ok (.invokevirtual 200, 3) := by decide +kernel
theorem dX11_digestIn_6 : decode cX11_digestIn 6 = .ok (.invokestatic 191, 3) := by decide +kernel
theorem dX11_digestIn_9 : decode cX11_digestIn 9 = .ok (.lstore 5, 2) := by decide +kernel
theorem dX11_digestIn_11 : decode cX11_digestIn 11 = .ok (.iconst 0, 1) := by decide +kernel
theorem dX11_digestIn_12 : decode cX11_digestIn 12 = .ok (.istore 7, 2) := by decide +kernel
theorem dX11_digestIn_14 : decode cX11_digestIn 14 = .ok (.iload 7, 2) := by decide +kernel
theorem dX11_digestIn_16 : decode cX11_digestIn 16 = .ok (.aload_n 0, 1) := by decide +kernel
theorem dX11_digestIn_17 : decode cX11_digestIn 17 = .ok (.getfield 79, 3) := by decide +kernel
theorem dX11_digestIn_20 : decode cX11_digestIn 20 = .ok (.if_icmp .ge 72, 3) := by decide +kernel
theorem dX11_digestIn_23 : decode cX11_digestIn 23 = .ok (.iconst 0, 1) := by decide +kernel
theorem dX11_digestIn_24 : decode cX11_digestIn 24 = .ok (.istore 8, 2) := by decide +kernel
theorem dX11_digestIn_26 : decode cX11_digestIn 26 = .ok (.iload 8, 2) := by decide +kernel
theorem dX11_digestIn_28 : decode cX11_digestIn 28 = .ok (.aload_n 0, 1) := by decide +kernel
theorem dX11_digestIn_29 : decode cX11_digestIn 29 = .ok (.getfield 126, 3) := by decide +kernel
theorem dX11_digestIn_32 : decode cX11_digestIn 32 = .ok (.if_icmp .ge 54, 3) := by decide +kernel
theorem dX11_digestIn_35 : decode cX11_digestIn 35 = .ok (.aload_n 0, 1) := by decide +kernel
theorem dX11_digestIn_36 : decode cX11_digestIn 36 = .ok (.aload_n 0, 1) := by decide +kernel
theorem dX11_digestIn_37 : decode cX11_digestIn 37 = .ok (.getfield 18, 3) := by decide +kernel
theorem dX11_digestIn_40 : decode cX11_digestIn 40 = .ok (.iload 7, 2) := by decide +kernel
theorem dX11_digestIn_42 : decode cX11_digestIn 42 = .ok (.aaload, 1) := by decide +kernel
theorem dX11_digestIn_43 : decode cX11_digestIn 43 = .ok (.iload 8, 2) := by decide +kernel
theorem dX11_digestIn_45 : decode cX11_digestIn 45 = .ok (.aload_n 0, 1) := by decide +kernel
theorem dX11_digestIn_46 : decode cX11_digestIn 46 = .ok (.invokevirtual 200, 3) := by decide +kernel
theorem dX11_digestIn_49 : decode cX11_digestIn 49 = .ok (.invokevirtual 187, 3) := by decide +kernel
theorem dX11_digestIn_52 : decode cX11_digestIn 52 = .ok (.lstore 9, 2) := by decide +kernel
theorem dX11_digestIn_54 : decode cX11_digestIn 54 = .ok (.lload_n 3, 1) := by decide +kernel
theorem dX11_digestIn_55 : decode cX11_digestIn 55 = .ok (.lload 9, 2) := by decide +kernel
theorem dX11_digestIn_57 : decode cX11_digestIn 57 = .ok (.lload 5, 2) := by decide +kernel
theorem dX11_digestIn_59 : decode cX11_digestIn 59 = .ok (.iconst 0, 1) := by decide +kernel
theorem dX11_digestIn_60 : decode cX11_digestIn 60 = .ok (.invokestatic 179, 3) := by decide +kernel
theorem dX11_digestIn_63 : decode cX11_digestIn 63 = .ok (.invokestatic 320, 3) := by decide +kernel
theorem dX11_digestIn_66 : decode cX11_digestIn 66 = .ok (.lstore_n 3, 1) := by decide +kernel
theorem dX11_digestIn_67 : decode cX11_digestIn 67 = .ok (.lload_n 3, 1) := by decide +kernel
theorem dX11_digestIn_68 : decode cX11_digestIn 68 = .ok (.lload 9, 2) := by decide +kernel
theorem dX11_digestIn_70 : decode cX11_digestIn 70 = .ok (.lload 5, 2) := by decide +kernel
theorem dX11_digestIn_72 : decode cX11_digestIn 72 = .ok (.iconst 1, 1) := by decide +kernel
theorem dX11_digestIn_73 : decode cX11_digestIn 73 = .ok (.invokestatic 179, 3) := by decide +kernel
theorem dX11_digestIn_76 : decode cX11_digestIn 76 = .ok (.invokestatic 320, 3) := by decide +kernel
theorem dX11_digestIn_79 : decode cX11_digestIn 79 = .ok (.lstore_n 3, 1) := by decide +kernel
theorem dX11_digestIn_80 : decode cX11_digestIn 80 = .ok (.iinc 8 1, 3) := by decide +kernel
theorem dX11_digestIn_83 : decode cX11_digestIn 83 = .ok (.goto (-57), 3) := by decide +kernel
theorem dX11_digestIn_86 : decode cX11_digestIn 86 = .ok (.iinc 7 1, 3) := by decide +kernel
theorem dX11_digestIn_89 : decode cX11_digestIn 89 = .ok (.goto (-75), 3) := by decide +kernel
theorem dX11_digestIn_92 : decode cX11_digestIn 92 = .ok (.lload_n 3, 1) := by decide +kernel
theorem dX11_digestIn_93 : decode cX11_digestIn 93 = .ok (.lreturn, 1) := by decide +kernel
theorem dX11_mix_0 : decode cX11_mix 0 = .ok (.ldc2_w 384, 3) := by decide +kernel
theorem dX11_mix_3 : decode cX11_mix 3 = .ok (.lload_n 0, 1) := by decide +kernel
theorem dX11_mix_4 : decode cX11_mix 4 = .ok (.lmul, 1) := by decide +kernel
theorem dX11_mix_5 : decode cX11_mix 5 = .ok (.lload_n 2, 1) := by decide +kernel
theorem dX11_mix_6 : decode cX11_mix 6 = .ok (.ladd, 1) := by decide +kernel
theorem dX11_mix_7 : decode cX11_mix 7 = .ok (.lreturn, 1) := by decide +kernel
theorem dX11_power_0 : decode cX11_power 0 = .ok (.lconst 1, 1) := by decide +kernel
theorem dX11_power_1 : decode cX11_power 1 = .ok (.lstore_n 3, 1) := by decide +kernel
theorem dX11_power_2 : decode cX11_power 2 = .ok (.iconst 0, 1) := by decide +kernel
theorem dX11_power_3 : decode cX11_power 3 = .ok (.istore 5, 2) := by decide +kernel
theorem dX11_power_5 : decode cX11_power 5 = .ok (.iload 5, 2) := by decide +kernel
theorem dX11_power_7 : decode cX11_power 7 = .ok (.iload_n 2, 1) := by decide +kernel
theorem dX11_power_8 : decode cX11_power 8 = .ok (.if_icmp .ge 13, 3) := by decide +kernel
theorem dX11_power_11 : decode cX11_power 11 = .ok (.lload_n 3, 1) := by decide +kernel
theorem dX11_power_12 : decode cX11_power 12 = .ok (.lload_n 0, 1) := by decide +kernel
theorem dX11_power_13 : decode cX11_power 13 = .ok (.lmul, 1) := by decide +kernel
theorem dX11_power_14 : decode cX11_power 14 = .ok (.lstore_n 3, 1) := by decide +kernel
theorem dX11_power_15 : decode cX11_power 15 = .ok (.iinc 5 1, 3) := by decide +kernel
theorem dX11_power_18 : decode cX11_power 18 = .ok (.goto (-13), 3) := by decide +kernel
theorem dX11_power_21 : decode cX11_power 21 = .ok (.lload_n 3, 1) := by decide +kernel
theorem dX11_power_22 : decode cX11_power 22 = .ok (.lreturn, 1) := by decide +kernel
theorem dX11_commonDivisor_0 : decode cX11_commonDivisor 0 = .ok (.lload_n 0, 1) := by decide +kernel
theorem dX11_commonDivisor_1 : decode cX11_commonDivisor 1 = .ok (.lstore 4, 2) := by decide +kernel
theorem dX11_commonDivisor_3 : decode cX11_commonDivisor 3 = .ok (.lload_n 2, 1) := by decide +kernel
theorem dX11_commonDivisor_4 : decode cX11_commonDivisor 4 = .ok (.lstore 6, 2) := by decide +kernel
theorem dX11_commonDivisor_6 : decode cX11_commonDivisor 6 = .ok (.iconst 0, 1) := by decide +kernel
theorem dX11_commonDivisor_7 : decode cX11_commonDivisor 7 = .ok (.istore 8, 2) := by decide +kernel
theorem dX11_commonDivisor_9 : decode cX11_commonDivisor 9 = .ok (.iload 8, 2) := by decide +kernel
theorem dX11_commonDivisor_11 : decode cX11_commonDivisor 11 = .ok (.sipush 1000, 3) := by decide +kernel
theorem dX11_commonDivisor_14 : decode cX11_commonDivisor 14 = .ok (.if_icmp .ge 31, 3) := by decide +kernel
theorem dX11_commonDivisor_17 : decode cX11_commonDivisor 17 = .ok (.lload 6, 2) := by decide +kernel
theorem dX11_commonDivisor_19 : decode cX11_commonDivisor 19 = .ok (.lconst 0, 1) := by decide +kernel
theorem dX11_commonDivisor_20 : decode cX11_commonDivisor 20 = .ok (.lcmp, 1) := by decide +kernel
theorem dX11_commonDivisor_21 : decode cX11_commonDivisor 21 = .ok (.ifCond .eq 24, 3) := by decide +kernel
theorem dX11_commonDivisor_24 : decode cX11_commonDivisor 24 = .ok (.lload 4, 2) := by decide +kernel
theorem dX11_commonDivisor_26 : decode cX11_commonDivisor 26 = .ok (.lload 6, 2) := by decide +kernel
theorem dX11_commonDivisor_28 : decode cX11_commonDivisor 28 = .ok (.lrem, 1) := by decide +kernel
theorem dX11_commonDivisor_29 : decode cX11_commonDivisor 29 = .ok (.lstore 9, 2) := by decide +kernel
theorem dX11_commonDivisor_31 : decode cX11_commonDivisor 31 = .ok (.lload 6, 2) := by decide +kernel
theorem dX11_commonDivisor_33 : decode cX11_commonDivisor 33 = .ok (.lstore 4, 2) := by decide +kernel
theorem dX11_commonDivisor_35 : decode cX11_commonDivisor 35 = .ok (.lload 9, 2) := by decide +kernel
theorem dX11_commonDivisor_37 : decode cX11_commonDivisor 37 = .ok (.lstore 6, 2) := by decide +kernel
theorem dX11_commonDivisor_39 : decode cX11_commonDivisor 39 = .ok (.iinc 8 1, 3) := by decide +kernel
theorem dX11_commonDivisor_42 : decode cX11_commonDivisor 42 = .ok (.goto (-33), 3) := by decide +kernel
theorem dX11_commonDivisor_45 : decode cX11_commonDivisor 45 = .ok (.lload 4, 2) := by decide +kernel
theorem dX11_commonDivisor_47 : decode cX11_commonDivisor 47 = .ok (.lreturn, 1) := by decide +kernel
theorem dX11_lowest_0 : decode cX11_lowest 0 = .ok (.lload_n 0, 1) := by decide +kernel
theorem dX11_lowest_1 : decode cX11_lowest 1 = .ok (.lload_n 2, 1) := by decide +kernel
theorem dX11_lowest_2 : decode cX11_lowest 2 = .ok (.invokestatic 386, 3) := by decide +kernel
theorem dX11_lowest_5 : decode cX11_lowest 5 = .ok (.lstore 5, 2) := by decide +kernel
theorem dX11_lowest_7 : decode cX11_lowest 7 = .ok (.lload 5, 2) := by decide +kernel
theorem dX11_lowest_9 : decode cX11_lowest 9 = .ok (.lconst 0, 1) := by decide +kernel
theorem dX11_lowest_10 : decode cX11_lowest 10 = .ok (.lcmp, 1) := by decide +kernel
theorem dX11_lowest_11 : decode cX11_lowest 11 = .ok (.ifCond .ne 7, 3) := by decide +kernel
theorem dX11_lowest_14 : decode cX11_lowest 14 = .ok (.ldc2_w 226, 3) := by decide +kernel
theorem dX11_lowest_17 : decode cX11_lowest 17 = .ok (.lreturn, 1) := by decide +kernel
theorem dX11_lowest_18 : decode cX11_lowest 18 = .ok (.iload 4, 2) := by decide +kernel
theorem dX11_lowest_20 : decode cX11_lowest 20 = .ok (.ifCond .ne 7, 3) := by decide +kernel
theorem dX11_lowest_23 : decode cX11_lowest 23 = .ok (.lload_n 0, 1) := by decide +kernel
theorem dX11_lowest_24 : decode cX11_lowest 24 = .ok (.goto 4, 3) := by decide +kernel
theorem dX11_lowest_27 : decode cX11_lowest 27 = .ok (.lload_n 2, 1) := by decide +kernel
theorem dX11_lowest_28 : decode cX11_lowest 28 = .ok (.lload 5, 2) := by decide +kernel
theorem dX11_lowest_30 : decode cX11_lowest 30 = .ok (.ldiv, 1) := by decide +kernel
theorem dX11_lowest_31 : decode cX11_lowest 31 = .ok (.lreturn, 1) := by decide +kernel
theorem dX12_init_0 : decode cX12_init 0 = .ok (.aload_n 0, 1) := by decide +kernel
theorem dX12_init_1 : decode cX12_init 1 = .ok (.invokespecial 1, 3) := by decide +kernel
theorem dX12_init_4 : decode cX12_init 4 = .ok (.aload_n 0, 1) := by decide +kernel
theorem dX12_init_5 : decode cX12_init 5 = .ok (.bipush 8, 2) := by decide +kernel
theorem dX12_init_7 : decode cX12_init 7 = .ok (.newarray .int, 2) := by decide +kernel
theorem dX12_init_9 : decode cX12_init 9 = .ok (.putfield 7, 3) := by decide +kernel
theorem dX12_init_12 : decode cX12_init 12 = .ok (.aload_n 0, 1) := by decide +kernel
theorem dX12_init_13 : decode cX12_init 13 = .ok (.bipush 8, 2) := by decide +kernel
theorem dX12_init_15 : decode cX12_init 15 = .ok (.newarray .int, 2) := by decide +kernel
theorem dX12_init_17 : decode cX12_init 17 = .ok (.putfield 13, 3) := by decide +kernel
theorem dX12_init_20 : decode cX12_init 20 = .ok (.aload_n 0, 1) := by decide +kernel
theorem dX12_init_21 : decode cX12_init 21 = .ok (.bipush 8, 2) := by decide +kernel
theorem dX12_init_23 : decode cX12_init 23 = .ok (.newarray .int, 2) := by decide +kernel
theorem dX12_init_25 : decode cX12_init 25 = .ok (.putfield 16, 3) := by decide +kernel
theorem dX12_init_28 : decode cX12_init 28 = .ok (.aload_n 0, 1) := by decide +kernel
theorem dX12_init_29 : decode cX12_init 29 = .ok (.bipush 6, 2) := by decide +kernel
theorem dX12_init_31 : decode cX12_init 31 = .ok (.newarray .int, 2) := by decide +kernel
theorem dX12_init_33 : decode cX12_init 33 = .ok (.putfield 19, 3) := by decide +kernel
theorem dX12_init_36 : decode cX12_init 36 = .ok (.aload_n 0, 1) := by decide +kernel
theorem dX12_init_37 : decode cX12_init 37 = .ok (.bipush 48, 2) := by decide +kernel
theorem dX12_init_39 : decode cX12_init 39 = .ok (.newarray .int, 2) := by decide +kernel
theorem dX12_init_41 : decode cX12_init 41 = .ok (.putfield 22, 3) := by decide +kernel
theorem dX12_init_44 : decode cX12_init 44 = .ok (.aload_n 0, 1) := by decide +kernel
theorem dX12_init_45 : decode cX12_init 45 = .ok (.bipush 6, 2) := by decide +kernel
theorem dX12_init_47 : decode cX12_init 47 = .ok (.newarray .int, 2) := by decide +kernel
theorem dX12_init_49 : decode cX12_init 49 = .ok (.putfield 25, 3) := by decide +kernel
theorem dX12_init_52 : decode cX12_init 52 = .ok (.aload_n 0, 1) := by decide +kernel
theorem dX12_init_53 : decode cX12_init 53 = .ok (.bipush 6, 2) := by decide +kernel
theorem dX12_init_55 : decode cX12_init 55 = .ok (.newarray .int, 2) := by decide +kernel
theorem dX12_init_57 : decode cX12_init 57 = .ok (.putfield 28, 3) := by decide +kernel
theorem dX12_init_60 : decode cX12_init 60 = .ok (.aload_n 0, 1) := by decide +kernel
theorem dX12_init_61 : decode cX12_init 61 = .ok (.bipush 6, 2) := by decide +kernel
theorem dX12_init_63 : decode cX12_init 63 = .ok (.newarray .int, 2) := by decide +kernel
theorem dX12_init_65 : decode cX12_init 65 = .ok (.putfield 31, 3) := by decide +kernel
theorem dX12_init_68 : decode cX12_init 68 = .ok (.aload_n 0, 1) := by decide +kernel
theorem dX12_init_69 : decode cX12_init 69 = .ok (.bipush 6, 2) := by decide +kernel
theorem dX12_init_71 : decode cX12_init 71 = .ok (.newarray .boolean, 2) := by decide +kernel
theorem dX12_init_73 : decode cX12_init 73 = .ok (.putfield 34, 3) := by decide +kernel
theorem dX12_init_76 : decode cX12_init 76 = .ok (.aload_n 0, 1) := by decide +kernel
theorem dX12_init_77 : decode cX12_init 77 = .ok (.bipush 6, 2) := by decide +kernel
theorem dX12_init_79 : decode cX12_init 79 = .ok (.newarray .boolean, 2) := by decide +kernel
theorem dX12_init_81 : decode cX12_init 81 = .ok (.putfield 38, 3) := by decide +kernel
theorem dX12_init_84 : decode cX12_init 84 = .ok (.aload_n 0, 1) := by decide +kernel
theorem dX12_init_85 : decode cX12_init 85 = .ok (.bipush 20, 2) := by decide +kernel
theorem dX12_init_87 : decode cX12_init 87 = .ok (.newarray .byte, 2) := by decide +kernel
theorem dX12_init_89 : decode cX12_init 89 = .ok (.putfield 41, 3) := by decide +kernel
theorem dX12_init_92 : decode cX12_init 92 = .ok (.aload_n 0, 1) := by decide +kernel
theorem dX12_init_93 : decode cX12_init 93 = .ok (.bipush 8, 2) := by decide +kernel
theorem dX12_init_95 : decode cX12_init 95 = .ok (.newarray .int, 2) := by decide +kernel
theorem dX12_init_97 : decode cX12_init 97 = .ok (.putfield 45, 3) := by decide +kernel
theorem dX12_init_100 : decode cX12_init 100 = .ok (.aload_n 0, 1) := by decide +kernel
theorem dX12_init_101 : decode cX12_init 101 = .ok (.bipush 48, 2) := by decide +kernel
theorem dX12_init_103 : decode cX12_init 103 = .ok (.newarray .int, 2) := by decide +kernel
theorem dX12_init_105 : decode cX12_init 105 = .ok (.putfield 48, 3) := by decide +kernel
theorem dX12_init_108 : decode cX12_init 108 = .ok (.aload_n 0, 1) := by decide +kernel
theorem dX12_init_109 : decode cX12_init 109 = .ok (.bipush 9, 2) := by decide +kernel
theorem dX12_init_111 : decode cX12_init 111 = .ok (.newarray .long, 2) := by decide +kernel
theorem dX12_init_113 : decode cX12_init 113 = .ok (.putfield 51, 3) := by decide +kernel
theorem dX12_init_116 : decode cX12_init 116 = .ok (.aload_n 0, 1) := by decide +kernel
theorem dX12_init_117 : decode cX12_init 117 = .ok (.bipush 36, 2) := by decide +kernel
theorem dX12_init_119 : decode cX12_init 119 = .ok (.newarray .long, 2) := by decide +kernel
theorem dX12_init_121 : decode cX12_init 121 = .ok (.putfield 55, 3) := by decide +kernel
theorem dX12_init_124 : decode cX12_init 124 = .ok (.aload_n 0, 1) := by decide +kernel
theorem dX12_init_125 : decode cX12_init 125 = .ok (.bipush 9, 2) := by decide +kernel
theorem dX12_init_127 : decode cX12_init 127 = .ok (.newarray .int, 2) := by decide +kernel
theorem dX12_init_129 : decode cX12_init 129 = .ok (.putfield 58, 3) := by decide +kernel
theorem dX12_init_132 : decode cX12_init 132 = .ok (.return_, 1) := by decide +kernel
theorem dX12_within_0 : decode cX12_within 0 = .ok (.iload_n 0, 1) := by decide +kernel
theorem dX12_within_1 : decode cX12_within 1 = .ok (.iload_n 1, 1) := by decide +kernel
theorem dX12_within_2 : decode cX12_within 2 = .ok (.if_icmp .lt 12, 3) := by decide +kernel
theorem dX12_within_5 : decode cX12_within 5 = .ok (.iload_n 0, 1) := by decide +kernel
theorem dX12_within_6 : decode cX12_within 6 = .ok (.iload_n 2, 1) := by decide +kernel
theorem dX12_within_7 : decode cX12_within 7 = .ok (.if_icmp .gt 7, 3) := by decide +kernel
theorem dX12_within_10 : decode cX12_within 10 = .ok (.iconst 1, 1) := by decide +kernel
theorem dX12_within_11 : decode cX12_within 11 = .ok (.goto 4, 3) := by decide +kernel
theorem dX12_within_14 : decode cX12_within 14 = .ok (.iconst 0, 1) := by decide +kernel
theorem dX12_within_15 : decode cX12_within 15 = .ok (.ireturn, 1) := by decide +kernel
theorem dX12_has_0 : decode cX12_has 0 = .ok (.iload_n 0, 1) := by decide +kernel
theorem dX12_has_1 : decode cX12_has 1 = .ok (.iload_n 1, 1) := by decide +kernel
theorem dX12_has_2 : decode cX12_has 2 = .ok (.ishr, 1) := by decide +kernel
theorem dX12_has_3 : decode cX12_has 3 = .ok (.iconst 1, 1) := by decide +kernel
theorem dX12_has_4 : decode cX12_has 4 = .ok (.iand, 1) := by decide +kernel
theorem dX12_has_5 : decode cX12_has 5 = .ok (.iconst 1, 1) := by decide +kernel
theorem dX12_has_6 : decode cX12_has 6 = .ok (.if_icmp .ne 7, 3) := by decide +kernel
theorem dX12_has_9 : decode cX12_has 9 = .ok (.iconst 1, 1) := by decide +kernel
theorem dX12_has_10 : decode cX12_has 10 = .ok (.goto 4, 3) := by decide +kernel
theorem dX12_has_13 : decode cX12_has 13 = .ok (.iconst 0, 1) := by decide +kernel
theorem dX12_has_14 : decode cX12_has 14 = .ok (.ireturn, 1) := by decide +kernel
theorem dX12_ones_0 : decode cX12_ones 0 = .ok (.iconst 0, 1) := by decide +kernel
theorem dX12_ones_1 : decode cX12_ones 1 = .ok (.istore_n 1, 1) := by decide +kernel
theorem dX12_ones_2 : decode cX12_ones 2 = .ok (.iload_n 0, 1) := by decide +kernel
theorem dX12_ones_3 : decode cX12_ones 3 = .ok (.istore_n 2, 1) := by decide +kernel
theorem dX12_ones_4 : decode cX12_ones 4 = .ok (.iload_n 2, 1) := by decide +kernel
theorem dX12_ones_5 : decode cX12_ones 5 = .ok (.ifCond .eq 15, 3) := by decide +kernel
theorem dX12_ones_8 : decode cX12_ones 8 = .ok (.iinc 1 1, 3) := by decide +kernel
theorem dX12_ones_11 : decode cX12_ones 11 = .ok (.iload_n 2, 1) := by decide +kernel
theorem dX12_ones_12 : decode cX12_ones 12 = .ok (.iload_n 2, 1) := by decide +kernel
theorem dX12_ones_13 : decode cX12_ones 13 = .ok (.iconst 1, 1) := by decide +kernel
theorem dX12_ones_14 : decode cX12_ones 14 = .ok (.isub, 1) := by decide +kernel
theorem dX12_ones_15 : decode cX12_ones 15 = .ok (.iand, 1) := by decide +kernel
theorem dX12_ones_16 : decode cX12_ones 16 = .ok (.istore_n 2, 1) := by decide +kernel
theorem dX12_ones_17 : decode cX12_ones 17 = .ok (.goto (-13), 3) := by decide +kernel
theorem dX12_ones_20 : decode cX12_ones 20 = .ok (.iload_n 1, 1) := by decide +kernel
theorem dX12_ones_21 : decode cX12_ones 21 = .ok (.ireturn, 1) := by decide +kernel
theorem dX12_isPart_0 : decode cX12_isPart 0 = .ok (.iload_n 0, 1) := by decide +kernel
theorem dX12_isPart_1 : decode cX12_isPart 1 = .ok (.iconst 0, 1) := by decide +kernel
theorem dX12_isPart_2 : decode cX12_isPart 2 = .ok (.iconst 1, 1) := by decide +kernel
theorem dX12_isPart_3 : decode cX12_isPart 3 = .ok (.invokestatic 61, 3) := by decide +kernel
theorem dX12_isPart_6 : decode cX12_isPart 6 = .ok (.ireturn, 1) := by decide +kernel
theorem dX12_lowest_0 : decode cX12_lowest 0 = .ok (.lload_n 0, 1) := by decide +kernel
theorem dX12_lowest_1 : decode cX12_lowest 1 = .ok (.lstore 5, 2) := by decide +kernel
theorem dX12_lowest_3 : decode cX12_lowest 3 = .ok (.lload_n 2, 1) := by decide +kernel
theorem dX12_lowest_4 : decode cX12_lowest 4 = .ok (.lstore 7, 2) := by decide +kernel
theorem dX12_lowest_6 : decode cX12_lowest 6 = .ok (.lload 7, 2) := by decide +kernel
theorem dX12_lowest_8 : decode cX12_lowest 8 = .ok (.lconst 0, 1) := by decide +kernel
theorem dX12_lowest_9 : decode cX12_lowest 9 = .ok (.lcmp, 1) := by decide +kernel
theorem dX12_lowest_10 : decode cX12_lowest 10 = .ok (.ifCond .eq 21, 3) := by decide +kernel
theorem dX12_lowest_13 : decode cX12_lowest 13 = .ok (.lload 5, 2) := by decide +kernel
theorem dX12_lowest_15 : decode cX12_lowest 15 = .ok (.lload 7, 2) := by decide +kernel
theorem dX12_lowest_17 : decode cX12_lowest 17 = .ok (.lrem, 1) := by decide +kernel
theorem dX12_lowest_18 : decode cX12_lowest 18 = .ok (.lstore 9, 2) := by decide +kernel
theorem dX12_lowest_20 : decode cX12_lowest 20 = .ok (.lload 7, 2) := by decide +kernel
theorem dX12_lowest_22 : decode cX12_lowest 22 = .ok (.lstore 5, 2) := by decide +kernel
theorem dX12_lowest_24 : decode cX12_lowest 24 = .ok (.lload 9, 2) := by decide +kernel
theorem dX12_lowest_26 : decode cX12_lowest 26 = .ok (.lstore 7, 2) := by decide +kernel
theorem dX12_lowest_28 : decode cX12_lowest 28 = .ok (.goto (-22), 3) := by decide +kernel
theorem dX12_lowest_31 : decode cX12_lowest 31 = .ok (.iload 4, 2) := by decide +kernel
theorem dX12_lowest_33 : decode cX12_lowest 33 = .ok (.ifCond .ne 10, 3) := by decide +kernel
theorem dX12_lowest_36 : decode cX12_lowest 36 = .ok (.lload_n 0, 1) := by decide +kernel
theorem dX12_lowest_37 : decode cX12_lowest 37 = .ok (.lload 5, 2) := by decide +kernel
theorem dX12_lowest_39 : decode cX12_lowest 39 = .ok (.ldiv, 1) := by decide +kernel
theorem dX12_lowest_40 : decode cX12_lowest 40 = .ok (.goto 7, 3) := by decide +kernel
theorem dX12_lowest_43 : decode cX12_lowest 43 = .ok (.lload_n 2, 1) := by decide +kernel
theorem dX12_lowest_44 : decode cX12_lowest 44 = .ok (.lload 5, 2) := by decide +kernel
theorem dX12_lowest_46 : decode cX12_lowest 46 = .ok (.ldiv, 1) := by decide +kernel
theorem dX12_lowest_47 : decode cX12_lowest 47 = .ok (.lreturn, 1) := by decide +kernel
theorem dX12_tens_0 : decode cX12_tens 0 = .ok (.lconst 1, 1) := by decide +kernel
theorem dX12_tens_1 : decode cX12_tens 1 = .ok (.lstore_n 1, 1) := by decide +kernel
theorem dX12_tens_2 : decode cX12_tens 2 = .ok (.iconst 0, 1) := by decide +kernel
theorem dX12_tens_3 : decode cX12_tens 3 = .ok (.istore_n 3, 1) := by decide +kernel
theorem dX12_tens_4 : decode cX12_tens 4 = .ok (.iload_n 3, 1) := by decide +kernel
theorem dX12_tens_5 : decode cX12_tens 5 = .ok (.iload_n 0, 1) := by decide +kernel
theorem dX12_tens_6 : decode cX12_tens 6 = .ok (.if_icmp .ge 15, 3) := by decide +kernel
theorem dX12_tens_9 : decode cX12_tens 9 = .ok (.lload_n 1, 1) := by decide +kernel
theorem dX12_tens_10 : decode cX12_tens 10 = .ok (.ldc2_w 65, 3) := by decide +kernel
theorem dX12_tens_13 : decode cX12_tens 13 = .ok (.lmul, 1) := by decide +kernel
theorem dX12_tens_14 : decode cX12_tens 14 = .ok (.lstore_n 1, 1) := by decide +kernel
theorem dX12_tens_15 : decode cX12_tens 15 = .ok (.iinc 3 1, 3) := by decide +kernel
theorem dX12_tens_18 : decode cX12_tens 18 = .ok (.goto (-14), 3) := by decide +kernel
theorem dX12_tens_21 : decode cX12_tens 21 = .ok (.lload_n 1, 1) := by decide +kernel
theorem dX12_tens_22 : decode cX12_tens 22 = .ok (.lreturn, 1) := by decide +kernel
theorem dX12_letters_0 : decode cX12_letters 0 = .ok (.iconst 0, 1) := by decide +kernel
theorem dX12_letters_1 : decode cX12_letters 1 = .ok (.istore_n 3, 1) := by decide +kernel
theorem dX12_letters_2 : decode cX12_letters 2 = .ok (.iconst 0, 1) := by decide +kernel
theorem dX12_letters_3 : decode cX12_letters 3 = .ok (.istore 4, 2) := by decide +kernel
theorem dX12_letters_5 : decode cX12_letters 5 = .ok (.iconst 0, 1) := by decide +kernel
theorem dX12_letters_6 : decode cX12_letters 6 = .ok (.istore 5, 2) := by decide +kernel
theorem dX12_letters_8 : decode cX12_letters 8 = .ok (.iload 5, 2) := by decide +kernel
theorem dX12_letters_10 : decode cX12_letters 10 = .ok (.bipush 8, 2) := by decide +kernel
theorem dX12_letters_12 : decode cX12_letters 12 = .ok (.if_icmp .ge 73, 3) := by decide +kernel
theorem dX12_letters_15 : decode cX12_letters 15 = .ok (.lload_n 1, 1) := by decide +kernel
theorem dX12_letters_16 : decode cX12_letters 16 = .ok (.bipush 8, 2) := by decide +kernel
theorem dX12_letters_18 : decode cX12_letters 18 = .ok (.iload 5, 2) := by decide +kernel
theorem dX12_letters_20 : decode cX12_letters 20 = .ok (.imul, 1) := by decide +kernel
theorem dX12_letters_21 : decode cX12_letters 21 = .ok (.lshr, 1) := by decide +kernel
theorem dX12_letters_22 : decode cX12_letters 22 = .ok (.ldc2_w 67, 3) := by decide +kernel
theorem dX12_letters_25 : decode cX12_letters 25 = .ok (.land, 1) := by decide +kernel
theorem dX12_letters_26 : decode cX12_letters 26 = .ok (.l2i, 1) := by decide +kernel
theorem dX12_letters_27 : decode cX12_letters 27 = .ok (.istore 6, 2) := by decide +kernel
theorem dX12_letters_29 : decode cX12_letters 29 = .ok (.iload 6, 2) := by decide +kernel
theorem dX12_letters_31 : decode cX12_letters 31 = .ok (.bipush 126, 2) := by decide +kernel
theorem dX12_letters_33 : decode cX12_letters 33 = .ok (.if_icmp .gt 13, 3) := by decide +kernel
theorem dX12_letters_36 : decode cX12_letters 36 = .ok (.iload 4, 2) := by decide +kernel
theorem dX12_letters_38 : decode cX12_letters 38 = .ok (.ifCond .eq 11, 3) := by decide +kernel
theorem dX12_letters_41 : decode cX12_letters 41 = .ok (.iload 6, 2) := by decide +kernel
theorem dX12_letters_43 : decode cX12_letters 43 = .ok (.ifCond .eq 6, 3) := by decide +kernel
theorem dX12_letters_46 : decode cX12_letters 46 = .ok (.bipush (-102), 2) := by decide +kernel
theorem dX12_letters_48 : decode cX12_letters 48 = .ok (.ireturn, 1) := by decide +kernel
theorem dX12_letters_49 : decode cX12_letters 49 = .ok (.iload 4, 2) := by decide +kernel
theorem dX12_letters_51 : decode cX12_letters 51 = .ok (.ifCond .ne 8, 3) := by decide +kernel
theorem dX12_letters_54 : decode cX12_letters 54 = .ok (.iload 6, 2) := by decide +kernel
theorem dX12_letters_56 : decode cX12_letters 56 = .ok (.ifCond .ne 7, 3) := by decide +kernel
theorem dX12_letters_59 : decode cX12_letters 59 = .ok (.iconst 1, 1) := by decide +kernel
theorem dX12_letters_60 : decode cX12_letters 60 = .ok (.goto 4, 3) := by decide +kernel
theorem dX12_letters_63 : decode cX12_letters 63 = .ok (.iconst 0, 1) := by decide +kernel
theorem dX12_letters_64 : decode cX12_letters 64 = .ok (.istore 4, 2) := by decide +kernel
theorem dX12_letters_66 : decode cX12_letters 66 = .ok (.iload_n 3, 1) := by decide +kernel
theorem dX12_letters_67 : decode cX12_letters 67 = .ok (.iload 6, 2) := by decide +kernel
theorem dX12_letters_69 : decode cX12_letters 69 = .ok (.ifCond .ne 7, 3) := by decide +kernel
theorem dX12_letters_72 : decode cX12_letters 72 = .ok (.iconst 0, 1) := by decide +kernel
theorem dX12_letters_73 : decode cX12_letters 73 = .ok (.goto 4, 3) := by decide +kernel
theorem dX12_letters_76 : decode cX12_letters 76 = .ok (.iconst 1, 1) := by decide +kernel
theorem dX12_letters_77 : decode cX12_letters 77 = .ok (.iadd, 1) := by decide +kernel
theorem dX12_letters_78 : decode cX12_letters 78 = .ok (.istore_n 3, 1) := by decide +kernel
theorem dX12_letters_79 : decode cX12_letters 79 = .ok (.iinc 5 1, 3) := by decide +kernel
theorem dX12_letters_82 : decode cX12_letters 82 = .ok (.goto (-74), 3) := by decide +kernel
theorem dX12_letters_85 : decode cX12_letters 85 = .ok (.aload_n 0, 1) := by decide +kernel
theorem dX12_letters_86 : decode cX12_letters 86 = .ok (.getfield 69, 3) := by decide +kernel
theorem dX12_letters_89 : decode cX12_letters 89 = .ok (.iload_n 3, 1) := by decide +kernel
theorem dX12_letters_90 : decode cX12_letters 90 = .ok (.iadd, 1) := by decide +kernel
theorem dX12_letters_91 : decode cX12_letters 91 = .ok (.bipush 20, 2) := by decide +kernel
theorem dX12_letters_93 : decode cX12_letters 93 = .ok (.if_icmp .le 6, 3) := by decide +kernel
theorem dX12_letters_96 : decode cX12_letters 96 = .ok (.bipush (-104), 2) := by decide +kernel
theorem dX12_letters_98 : decode cX12_letters 98 = .ok (.ireturn, 1) := by decide +kernel
theorem dX12_letters_99 : decode cX12_letters 99 = .ok (.iconst 0, 1) := by decide +kernel
theorem dX12_letters_100 : decode cX12_letters 100 = .ok (.istore 5, 2) := by decide +kernel
theorem dX12_letters_102 : decode cX12_letters 102 = .ok (.iload 5, 2) := by decide +kernel
theorem dX12_letters_104 : decode cX12_letters 104 = .ok (.iload_n 3, 1) := by decide +kernel
theorem dX12_letters_105 : decode cX12_letters 105 = .ok (.if_icmp .ge 30, 3) := by decide +kernel
theorem dX12_letters_108 : decode cX12_letters 108 = .ok (.aload_n 0, 1) := by decide +kernel
theorem dX12_letters_109 : decode cX12_letters 109 = .ok (.getfield 41, 3) := by decide +kernel
theorem dX12_letters_112 : decode cX12_letters 112 = .ok (.aload_n 0, 1) := by decide +kernel
theorem dX12_letters_113 : decode cX12_letters 113 = .ok (.getfield 69, 3) := by decide +kernel
theorem dX12_letters_116 : decode cX12_letters 116 = .ok (.iload 5, 2) := by decide +kernel
theorem dX12_letters_118 : decode cX12_letters 118 = .ok (.iadd, 1) := by decide +kernel
theorem dX12_letters_119 : decode cX12_letters 119 = .ok (.lload_n 1, 1) := by decide +kernel
theorem dX12_letters_120 : decode cX12_letters 120 = .ok (.bipush 8, 2) := by decide +kernel
theorem dX12_letters_122 : decode cX12_letters 122 = .ok (.iload 5, 2) := by decide +kernel
theorem dX12_letters_124 : decode cX12_letters 124 = .ok (.imul, 1) := by decide +kernel
theorem dX12_letters_125 : decode cX12_letters 125 = .ok (.lshr, 1) := by decide +kernel
theorem dX12_letters_126 : decode cX12_letters 126 = .ok (.l2i, 1) := by decide +kernel
theorem dX12_letters_127 : decode cX12_letters 127 = .ok (.i2b, 1) := by decide +kernel
theorem dX12_letters_128 : decode cX12_letters 128 = .ok (.bastore, 1) := by decide +kernel
theorem dX12_letters_129 : decode cX12_letters 129 = .ok (.iinc 5 1, 3) := by decide +kernel
theorem dX12_letters_132 : decode cX12_letters 132 = .ok (.goto (-30), 3) := by decide +kernel
theorem dX12_letters_135 : decode cX12_letters 135 = .ok (.aload_n 0, 1) := by decide +kernel
theorem dX12_letters_136 : decode cX12_letters 136 = .ok (.dup, 1) := by decide +kernel
theorem dX12_letters_137 : decode cX12_letters 137 = .ok (.getfield 69, 3) := by decide +kernel
theorem dX12_letters_140 : decode cX12_letters 140 = .ok (.iload_n 3, 1) := by decide +kernel
theorem dX12_letters_141 : decode cX12_letters 141 = .ok (.iadd, 1) := by decide +kernel
theorem dX12_letters_142 : decode cX12_letters 142 = .ok (.putfield 69, 3) := by decide +kernel
theorem dX12_letters_145 : decode cX12_letters 145 = .ok (.aload_n 0, 1) := by decide +kernel
theorem dX12_letters_146 : decode cX12_letters 146 = .ok (.getfield 69, 3) := by decide +kernel
theorem dX12_letters_149 : decode cX12_letters 149 = .ok (.ireturn, 1) := by decide +kernel
theorem dX12_blank_0 : decode cX12_blank 0 = .ok (.aload_n 0, 1) := by decide +kernel
theorem dX12_blank_1 : decode cX12_blank 1 = .ok (.getfield 69, 3) := by decide +kernel
theorem dX12_blank_4 : decode cX12_blank 4 = .ok (.istore_n 1, 1) := by decide +kernel
theorem dX12_blank_5 : decode cX12_blank 5 = .ok (.aload_n 0, 1) := by decide +kernel
theorem dX12_blank_6 : decode cX12_blank 6 = .ok (.iconst 0, 1) := by decide +kernel
theorem dX12_blank_7 : decode cX12_blank 7 = .ok (.putfield 69, 3) := by decide +kernel
theorem dX12_blank_10 : decode cX12_blank 10 = .ok (.iload_n 1, 1) := by decide +kernel
theorem dX12_blank_11 : decode cX12_blank 11 = .ok (.ireturn, 1) := by decide +kernel
theorem dX12_isDigit_0 : decode cX12_isDigit 0 = .ok (.iload_n 0, 1) := by decide +kernel
theorem dX12_isDigit_1 : decode cX12_isDigit 1 = .ok (.bipush 48, 2) := by decide +kernel
theorem dX12_isDigit_3 : decode cX12_isDigit 3 = .ok (.bipush 57, 2) := by decide +kernel
theorem dX12_isDigit_5 : decode cX12_isDigit 5 = .ok (.invokestatic 61, 3) := by decide +kernel
theorem dX12_isDigit_8 : decode cX12_isDigit 8 = .ok (.ireturn, 1) := by decide +kernel
theorem dX12_next_0 : decode cX12_next 0 = .ok (.iload_n 1, 1) := by decide +kernel
theorem dX12_next_1 : decode cX12_next 1 = .ok (.tableswitch 258 0 7 #[47, 69, 94, 119, 125, 137, 163, 224], 47) := by decide +kernel
theorem dX12_next_48 : decode cX12_next 48 = .ok (.iload_n 2, 1) := by decide +kernel
theorem dX12_next_49 : decode cX12_next 49 = .ok (.bipush 98, 2) := by decide +kernel
theorem dX12_next_51 : decode cX12_next 51 = .ok (.if_icmp .ne 7, 3) := by decide +kernel
theorem dX12_next_54 : decode cX12_next 54 = .ok (.iconst 1, 1) := by decide +kernel
theorem dX12_next_55 : decode cX12_next 55 = .ok (.goto 14, 3) := by decide +kernel
theorem dX12_next_58 : decode cX12_next 58 = .ok (.iload_n 2, 1) := by decide +kernel
theorem dX12_next_59 : decode cX12_next 59 = .ok (.bipush 114, 2) := by decide +kernel
theorem dX12_next_61 : decode cX12_next 61 = .ok (.if_icmp .ne 7, 3) := by decide +kernel
theorem dX12_next_64 : decode cX12_next 64 = .ok (.iconst 2, 1) := by decide +kernel
theorem dX12_next_65 : decode cX12_next 65 = .ok (.goto 4, 3) := by decide +kernel
theorem dX12_next_68 : decode cX12_next 68 = .ok (.iconst (-1), 1) := by decide +kernel
theorem dX12_next_69 : decode cX12_next 69 = .ok (.ireturn, 1) := by decide +kernel
theorem dX12_next_70 : decode cX12_next 70 = .ok (.aload_n 0, 1) := by decide +kernel
theorem dX12_next_71 : decode cX12_next 71 = .ok (.iload_n 2, 1) := by decide +kernel
theorem dX12_next_72 : decode cX12_next 72 = .ok (.bipush 48, 2) := by decide +kernel
theorem dX12_next_74 : decode cX12_next 74 = .ok (.isub, 1) := by decide +kernel
theorem dX12_next_75 : decode cX12_next 75 = .ok (.putfield 73, 3) := by decide +kernel
theorem dX12_next_78 : decode cX12_next 78 = .ok (.iload_n 2, 1) := by decide +kernel
theorem dX12_next_79 : decode cX12_next 79 = .ok (.bipush 49, 2) := by decide +kernel
theorem dX12_next_81 : decode cX12_next 81 = .ok (.bipush 56, 2) := by decide +kernel
theorem dX12_next_83 : decode cX12_next 83 = .ok (.invokestatic 61, 3) := by decide +kernel
theorem dX12_next_86 : decode cX12_next 86 = .ok (.ifCond .eq 7, 3) := by decide +kernel
theorem dX12_next_89 : decode cX12_next 89 = .ok (.iconst 4, 1) := by decide +kernel
theorem dX12_next_90 : decode cX12_next 90 = .ok (.goto 4, 3) := by decide +kernel
theorem dX12_next_93 : decode cX12_next 93 = .ok (.iconst (-1), 1) := by decide +kernel
theorem dX12_next_94 : decode cX12_next 94 = .ok (.ireturn, 1) := by decide +kernel
theorem dX12_next_95 : decode cX12_next 95 = .ok (.aload_n 0, 1) := by decide +kernel
theorem dX12_next_96 : decode cX12_next 96 = .ok (.iload_n 2, 1) := by decide +kernel
theorem dX12_next_97 : decode cX12_next 97 = .ok (.bipush 48, 2) := by decide +kernel
theorem dX12_next_99 : decode cX12_next 99 = .ok (.isub, 1) := by decide +kernel
theorem dX12_next_100 : decode cX12_next 100 = .ok (.putfield 76, 3) := by decide +kernel
theorem dX12_next_103 : decode cX12_next 103 = .ok (.iload_n 2, 1) := by decide +kernel
theorem dX12_next_104 : decode cX12_next 104 = .ok (.bipush 49, 2) := by decide +kernel
theorem dX12_next_106 : decode cX12_next 106 = .ok (.bipush 57, 2) := by decide +kernel
theorem dX12_next_108 : decode cX12_next 108 = .ok (.invokestatic 61, 3) := by decide +kernel
theorem dX12_next_111 : decode cX12_next 111 = .ok (.ifCond .eq 7, 3) := by decide +kernel
theorem dX12_next_114 : decode cX12_next 114 = .ok (.iconst 3, 1) := by decide +kernel
theorem dX12_next_115 : decode cX12_next 115 = .ok (.goto 4, 3) := by decide +kernel
theorem dX12_next_118 : decode cX12_next 118 = .ok (.iconst (-1), 1) := by decide +kernel
theorem dX12_next_119 : decode cX12_next 119 = .ok (.ireturn, 1) := by decide +kernel
theorem dX12_next_120 : decode cX12_next 120 = .ok (.aload_n 0, 1) := by decide +kernel
theorem dX12_next_121 : decode cX12_next 121 = .ok (.iload_n 2, 1) := by decide +kernel
theorem dX12_next_122 : decode cX12_next 122 = .ok (.invokevirtual 79, 3) := by decide +kernel
theorem dX12_next_125 : decode cX12_next 125 = .ok (.ireturn, 1) := by decide +kernel
theorem dX12_next_126 : decode cX12_next 126 = .ok (.iload_n 2, 1) := by decide +kernel
theorem dX12_next_127 : decode cX12_next 127 = .ok (.bipush 113, 2) := by decide +kernel
theorem dX12_next_129 : decode cX12_next 129 = .ok (.if_icmp .ne 7, 3) := by decide +kernel
theorem dX12_next_132 : decode cX12_next 132 = .ok (.iconst 5, 1) := by decide +kernel
theorem dX12_next_133 : decode cX12_next 133 = .ok (.goto 4, 3) := by decide +kernel
theorem dX12_next_136 : decode cX12_next 136 = .ok (.iconst (-1), 1) := by decide +kernel
theorem dX12_next_137 : decode cX12_next 137 = .ok (.ireturn, 1) := by decide +kernel
theorem dX12_next_138 : decode cX12_next 138 = .ok (.aload_n 0, 1) := by decide +kernel
theorem dX12_next_139 : decode cX12_next 139 = .ok (.iload_n 2, 1) := by decide +kernel
theorem dX12_next_140 : decode cX12_next 140 = .ok (.bipush 48, 2) := by decide +kernel
theorem dX12_next_142 : decode cX12_next 142 = .ok (.isub, 1) := by decide +kernel
theorem dX12_next_143 : decode cX12_next 143 = .ok (.putfield 83, 3) := by decide +kernel
theorem dX12_next_146 : decode cX12_next 146 = .ok (.iload_n 2, 1) := by decide +kernel
theorem dX12_next_147 : decode cX12_next 147 = .ok (.bipush 48, 2) := by decide +kernel
theorem dX12_next_149 : decode cX12_next 149 = .ok (.bipush 56, 2) := by decide +kernel
theorem dX12_next_151 : decode cX12_next 151 = .ok (.invokestatic 61, 3) := by decide +kernel
theorem dX12_next_154 : decode cX12_next 154 = .ok (.ifCond .eq 8, 3) := by decide +kernel
theorem dX12_next_157 : decode cX12_next 157 = .ok (.bipush 6, 2) := by decide +kernel
theorem dX12_next_159 : decode cX12_next 159 = .ok (.goto 4, 3) := by decide +kernel
theorem dX12_next_162 : decode cX12_next 162 = .ok (.iconst (-1), 1) := by decide +kernel
theorem dX12_next_163 : decode cX12_next 163 = .ok (.ireturn, 1) := by decide +kernel
theorem dX12_next_164 : decode cX12_next 164 = .ok (.aload_n 0, 1) := by decide +kernel
theorem dX12_next_165 : decode cX12_next 165 = .ok (.iload_n 2, 1) := by decide +kernel
theorem dX12_next_166 : decode cX12_next 166 = .ok (.bipush 116, 2) := by decide +kernel
theorem dX12_next_168 : decode cX12_next 168 = .ok (.if_icmp .ne 7, 3) := by decide +kernel
theorem dX12_next_171 : decode cX12_next 171 = .ok (.iconst 1, 1) := by decide +kernel
theorem dX12_next_172 : decode cX12_next 172 = .ok (.goto 4, 3) := by decide +kernel
theorem dX12_next_175 : decode cX12_next 175 = .ok (.iconst 0, 1) := by decide +kernel
theorem dX12_next_176 : decode cX12_next 176 = .ok (.putfield 86, 3) := by decide +kernel
theorem dX12_next_179 : decode cX12_next 179 = .ok (.aload_n 0, 1) := by decide +kernel
theorem dX12_next_180 : decode cX12_next 180 = .ok (.iload_n 2, 1) := by decide +kernel
theorem dX12_next_181 : decode cX12_next 181 = .ok (.bipush 99, 2) := by decide +kernel
theorem dX12_next_183 : decode cX12_next 183 = .ok (.if_icmp .ne 7, 3) := by decide +kernel
theorem dX12_next_186 : decode cX12_next 186 = .ok (.iconst 1, 1) := by decide +kernel
theorem dX12_next_187 : decode cX12_next 187 = .ok (.goto 4, 3) := by decide +kernel
theorem dX12_next_190 : decode cX12_next 190 = .ok (.iconst 0, 1) := by decide +kernel
theorem dX12_next_191 : decode cX12_next 191 = .ok (.putfield 90, 3) := by decide +kernel
theorem dX12_next_194 : decode cX12_next 194 = .ok (.aload_n 0, 1) := by decide +kernel
theorem dX12_next_195 : decode cX12_next 195 = .ok (.getfield 86, 3) := by decide +kernel
theorem dX12_next_198 : decode cX12_next 198 = .ok (.ifCond .eq 8, 3) := by decide +kernel
theorem dX12_next_201 : decode cX12_next 201 = .ok (.bipush 7, 2) := by decide +kernel
theorem dX12_next_203 : decode cX12_next 203 = .ok (.goto 21, 3) := by decide +kernel
theorem dX12_next_206 : decode cX12_next 206 = .ok (.iload_n 2, 1) := by decide +kernel
theorem dX12_next_207 : decode cX12_next 207 = .ok (.bipush 99, 2) := by decide +kernel
theorem dX12_next_209 : decode cX12_next 209 = .ok (.if_icmp .eq 9, 3) := by decide +kernel
theorem dX12_next_212 : decode cX12_next 212 = .ok (.iload_n 2, 1) := by decide +kernel
theorem dX12_next_213 : decode cX12_next 213 = .ok (.bipush 121, 2) := by decide +kernel
theorem dX12_next_215 : decode cX12_next 215 = .ok (.if_icmp .ne 8, 3) := by decide +kernel
theorem dX12_next_218 : decode cX12_next 218 = .ok (.bipush 8, 2) := by decide +kernel
theorem dX12_next_220 : decode cX12_next 220 = .ok (.goto 4, 3) := by decide +kernel
theorem dX12_next_223 : decode cX12_next 223 = .ok (.iconst (-1), 1) := by decide +kernel
theorem dX12_next_224 : decode cX12_next 224 = .ok (.ireturn, 1) := by decide +kernel
theorem dX12_next_225 : decode cX12_next 225 = .ok (.aload_n 0, 1) := by decide +kernel
theorem dX12_next_226 : decode cX12_next 226 = .ok (.iload_n 2, 1) := by decide +kernel
theorem dX12_next_227 : decode cX12_next 227 = .ok (.bipush 99, 2) := by decide +kernel
theorem dX12_next_229 : decode cX12_next 229 = .ok (.if_icmp .ne 7, 3) := by decide +kernel
theorem dX12_next_232 : decode cX12_next 232 = .ok (.iconst 1, 1) := by decide +kernel
theorem dX12_next_233 : decode cX12_next 233 = .ok (.goto 4, 3) := by decide +kernel
theorem dX12_next_236 : decode cX12_next 236 = .ok (.iconst 0, 1) := by decide +kernel
theorem dX12_next_237 : decode cX12_next 237 = .ok (.putfield 90, 3) := by decide +kernel
theorem dX12_next_240 : decode cX12_next 240 = .ok (.iload_n 2, 1) := by decide +kernel
theorem dX12_next_241 : decode cX12_next 241 = .ok (.bipush 99, 2) := by decide +kernel
theorem dX12_next_243 : decode cX12_next 243 = .ok (.if_icmp .eq 9, 3) := by decide +kernel
theorem dX12_next_246 : decode cX12_next 246 = .ok (.iload_n 2, 1) := by decide +kernel
theorem dX12_next_247 : decode cX12_next 247 = .ok (.bipush 121, 2) := by decide +kernel
theorem dX12_next_249 : decode cX12_next 249 = .ok (.if_icmp .ne 8, 3) := by decide +kernel
theorem dX12_next_252 : decode cX12_next 252 = .ok (.bipush 8, 2) := by decide +kernel
theorem dX12_next_254 : decode cX12_next 254 = .ok (.goto 4, 3) := by decide +kernel
theorem dX12_next_257 : decode cX12_next 257 = .ok (.iconst (-1), 1) := by decide +kernel
theorem dX12_next_258 : decode cX12_next 258 = .ok (.ireturn, 1) := by decide +kernel
theorem dX12_next_259 : decode cX12_next 259 = .ok (.iconst (-1), 1) := by decide +kernel
theorem dX12_next_260 : decode cX12_next 260 = .ok (.ireturn, 1) := by decide +kernel
theorem dX12_nextRatio_0 : decode cX12_nextRatio 0 = .ok (.aload_n 0, 1) := by decide +kernel
theorem dX12_nextRatio_1 : decode cX12_nextRatio 1 = .ok (.getfield 76, 3) := by decide +kernel
theorem dX12_nextRatio_4 : decode cX12_nextRatio 4 = .ok (.iconst 1, 1) := by decide +kernel
theorem dX12_nextRatio_5 : decode cX12_nextRatio 5 = .ok (.if_icmp .ne 10, 3) := by decide +kernel
theorem dX12_nextRatio_8 : decode cX12_nextRatio 8 = .ok (.iload_n 1, 1) := by decide +kernel
theorem dX12_nextRatio_9 : decode cX12_nextRatio 9 = .ok (.invokestatic 93, 3) := by decide +kernel
theorem dX12_nextRatio_12 : decode cX12_nextRatio 12 = .ok (.ifCond .ne 17, 3) := by decide +kernel
theorem dX12_nextRatio_15 : decode cX12_nextRatio 15 = .ok (.aload_n 0, 1) := by decide +kernel
theorem dX12_nextRatio_16 : decode cX12_nextRatio 16 = .ok (.getfield 76, 3) := by decide +kernel
theorem dX12_nextRatio_19 : decode cX12_nextRatio 19 = .ok (.iconst 2, 1) := by decide +kernel
theorem dX12_nextRatio_20 : decode cX12_nextRatio 20 = .ok (.if_icmp .ne 13, 3) := by decide +kernel
theorem dX12_nextRatio_23 : decode cX12_nextRatio 23 = .ok (.iload_n 1, 1) := by decide +kernel
theorem dX12_nextRatio_24 : decode cX12_nextRatio 24 = .ok (.bipush 48, 2) := by decide +kernel
theorem dX12_nextRatio_26 : decode cX12_nextRatio 26 = .ok (.if_icmp .ne 7, 3) := by decide +kernel
theorem dX12_nextRatio_29 : decode cX12_nextRatio 29 = .ok (.iconst 1, 1) := by decide +kernel
theorem dX12_nextRatio_30 : decode cX12_nextRatio 30 = .ok (.goto 4, 3) := by decide +kernel
theorem dX12_nextRatio_33 : decode cX12_nextRatio 33 = .ok (.iconst 0, 1) := by decide +kernel
theorem dX12_nextRatio_34 : decode cX12_nextRatio 34 = .ok (.istore_n 2, 1) := by decide +kernel
theorem dX12_nextRatio_35 : decode cX12_nextRatio 35 = .ok (.iload_n 2, 1) := by decide +kernel
theorem dX12_nextRatio_36 : decode cX12_nextRatio 36 = .ok (.ifCond .eq 21, 3) := by decide +kernel
theorem dX12_nextRatio_39 : decode cX12_nextRatio 39 = .ok (.aload_n 0, 1) := by decide +kernel
theorem dX12_nextRatio_40 : decode cX12_nextRatio 40 = .ok (.bipush 10, 2) := by decide +kernel
theorem dX12_nextRatio_42 : decode cX12_nextRatio 42 = .ok (.aload_n 0, 1) := by decide +kernel
theorem dX12_nextRatio_43 : decode cX12_nextRatio 43 = .ok (.getfield 76, 3) := by decide +kernel
theorem dX12_nextRatio_46 : decode cX12_nextRatio 46 = .ok (.imul, 1) := by decide +kernel
theorem dX12_nextRatio_47 : decode cX12_nextRatio 47 = .ok (.iload_n 1, 1) := by decide +kernel
theorem dX12_nextRatio_48 : decode cX12_nextRatio 48 = .ok (.iadd, 1) := by decide +kernel
theorem dX12_nextRatio_49 : decode cX12_nextRatio 49 = .ok (.bipush 48, 2) := by decide +kernel
theorem dX12_nextRatio_51 : decode cX12_nextRatio 51 = .ok (.isub, 1) := by decide +kernel
theorem dX12_nextRatio_52 : decode cX12_nextRatio 52 = .ok (.putfield 76, 3) := by decide +kernel
theorem dX12_nextRatio_55 : decode cX12_nextRatio 55 = .ok (.iconst 4, 1) := by decide +kernel
theorem dX12_nextRatio_56 : decode cX12_nextRatio 56 = .ok (.ireturn, 1) := by decide +kernel
theorem dX12_nextRatio_57 : decode cX12_nextRatio 57 = .ok (.aload_n 0, 1) := by decide +kernel
theorem dX12_nextRatio_58 : decode cX12_nextRatio 58 = .ok (.getfield 76, 3) := by decide +kernel
theorem dX12_nextRatio_61 : decode cX12_nextRatio 61 = .ok (.iconst 1, 1) := by decide +kernel
theorem dX12_nextRatio_62 : decode cX12_nextRatio 62 = .ok (.if_icmp .le 13, 3) := by decide +kernel
theorem dX12_nextRatio_65 : decode cX12_nextRatio 65 = .ok (.iload_n 1, 1) := by decide +kernel
theorem dX12_nextRatio_66 : decode cX12_nextRatio 66 = .ok (.bipush 113, 2) := by decide +kernel
theorem dX12_nextRatio_68 : decode cX12_nextRatio 68 = .ok (.if_icmp .ne 7, 3) := by decide +kernel
theorem dX12_nextRatio_71 : decode cX12_nextRatio 71 = .ok (.iconst 5, 1) := by decide +kernel
theorem dX12_nextRatio_72 : decode cX12_nextRatio 72 = .ok (.goto 4, 3) := by decide +kernel
theorem dX12_nextRatio_75 : decode cX12_nextRatio 75 = .ok (.iconst (-1), 1) := by decide +kernel
theorem dX12_nextRatio_76 : decode cX12_nextRatio 76 = .ok (.ireturn, 1) := by decide +kernel
theorem dX12_readPage_0 : decode cX12_readPage 0 = .ok (.aload_n 0, 1) := by decide +kernel
theorem dX12_readPage_1 : decode cX12_readPage 1 = .ok (.iconst 0, 1) := by decide +kernel
theorem dX12_readPage_2 : decode cX12_readPage 2 = .ok (.putfield 73, 3) := by decide +kernel
theorem dX12_readPage_5 : decode cX12_readPage 5 = .ok (.aload_n 0, 1) := by decide +kernel
theorem dX12_readPage_6 : decode cX12_readPage 6 = .ok (.iconst 0, 1) := by decide +kernel
theorem dX12_readPage_7 : decode cX12_readPage 7 = .ok (.putfield 76, 3) := by decide +kernel
theorem dX12_readPage_10 : decode cX12_readPage 10 = .ok (.iconst 0, 1) := by decide +kernel
theorem dX12_readPage_11 : decode cX12_readPage 11 = .ok (.istore_n 1, 1) := by decide +kernel
theorem dX12_readPage_12 : decode cX12_readPage 12 = .ok (.iconst 0, 1) := by decide +kernel
theorem dX12_readPage_13 : decode cX12_readPage 13 = .ok (.istore_n 2, 1) := by decide +kernel
theorem dX12_readPage_14 : decode cX12_readPage 14 = .ok (.iconst 1, 1) := by decide +kernel
theorem dX12_readPage_15 : decode cX12_readPage 15 = .ok (.istore_n 3, 1) := by decide +kernel
theorem dX12_readPage_16 : decode cX12_readPage 16 = .ok (.iload_n 2, 1) := by decide +kernel
theorem dX12_readPage_17 : decode cX12_readPage 17 = .ok (.aload_n 0, 1) := by decide +kernel
theorem dX12_readPage_18 : decode cX12_readPage 18 = .ok (.getfield 69, 3) := by decide +kernel
theorem dX12_readPage_21 : decode cX12_readPage 21 = .ok (.if_icmp .ge 58, 3) := by decide +kernel
theorem dX12_readPage_24 : decode cX12_readPage 24 = .ok (.iload_n 3, 1) := by decide +kernel
theorem dX12_readPage_25 : decode cX12_readPage 25 = .ok (.ifCond .eq 54, 3) := by decide +kernel
theorem dX12_readPage_28 : decode cX12_readPage 28 = .ok (.aload_n 0, 1) := by decide +kernel
theorem dX12_readPage_29 : decode cX12_readPage 29 = .ok (.iload_n 1, 1) := by decide +kernel
theorem dX12_readPage_30 : decode cX12_readPage 30 = .ok (.aload_n 0, 1) := by decide +kernel
theorem dX12_readPage_31 : decode cX12_readPage 31 = .ok (.getfield 41, 3) := by decide +kernel
theorem dX12_readPage_34 : decode cX12_readPage 34 = .ok (.iload_n 2, 1) := by decide +kernel
theorem dX12_readPage_35 : decode cX12_readPage 35 = .ok (.baload, 1) := by decide +kernel
theorem dX12_readPage_36 : decode cX12_readPage 36 = .ok (.invokevirtual 97, 3) := by decide +kernel
theorem dX12_readPage_39 : decode cX12_readPage 39 = .ok (.istore 4, 2) := by decide +kernel
theorem dX12_readPage_41 : decode cX12_readPage 41 = .ok (.iload 4, 2) := by decide +kernel
theorem dX12_readPage_43 : decode cX12_readPage 43 = .ok (.iconst (-1), 1) := by decide +kernel
theorem dX12_readPage_44 : decode cX12_readPage 44 = .ok (.if_icmp .eq 7, 3) := by decide +kernel
theorem dX12_readPage_47 : decode cX12_readPage 47 = .ok (.iconst 1, 1) := by decide +kernel
theorem dX12_readPage_48 : decode cX12_readPage 48 = .ok (.goto 4, 3) := by decide +kernel
theorem dX12_readPage_51 : decode cX12_readPage 51 = .ok (.iconst 0, 1) := by decide +kernel
theorem dX12_readPage_52 : decode cX12_readPage 52 = .ok (.istore_n 3, 1) := by decide +kernel
theorem dX12_readPage_53 : decode cX12_readPage 53 = .ok (.iload_n 3, 1) := by decide +kernel
theorem dX12_readPage_54 : decode cX12_readPage 54 = .ok (.ifCond .eq 8, 3) := by decide +kernel
theorem dX12_readPage_57 : decode cX12_readPage 57 = .ok (.iload 4, 2) := by decide +kernel
theorem dX12_readPage_59 : decode cX12_readPage 59 = .ok (.goto 4, 3) := by decide +kernel
theorem dX12_readPage_62 : decode cX12_readPage 62 = .ok (.iload_n 1, 1) := by decide +kernel
theorem dX12_readPage_63 : decode cX12_readPage 63 = .ok (.istore_n 1, 1) := by decide +kernel
theorem dX12_readPage_64 : decode cX12_readPage 64 = .ok (.iload_n 2, 1) := by decide +kernel
theorem dX12_readPage_65 : decode cX12_readPage 65 = .ok (.iload_n 3, 1) := by decide +kernel
theorem dX12_readPage_66 : decode cX12_readPage 66 = .ok (.ifCond .eq 7, 3) := by decide +kernel
theorem dX12_readPage_69 : decode cX12_readPage 69 = .ok (.iconst 1, 1) := by decide +kernel
theorem dX12_readPage_70 : decode cX12_readPage 70 = .ok (.goto 4, 3) := by decide +kernel
theorem dX12_readPage_73 : decode cX12_readPage 73 = .ok (.iconst 0, 1) := by decide +kernel
theorem dX12_readPage_74 : decode cX12_readPage 74 = .ok (.iadd, 1) := by decide +kernel
theorem dX12_readPage_75 : decode cX12_readPage 75 = .ok (.istore_n 2, 1) := by decide +kernel
theorem dX12_readPage_76 : decode cX12_readPage 76 = .ok (.goto (-60), 3) := by decide +kernel
theorem dX12_readPage_79 : decode cX12_readPage 79 = .ok (.aload_n 0, 1) := by decide +kernel
theorem dX12_readPage_80 : decode cX12_readPage 80 = .ok (.iload_n 2, 1) := by decide +kernel
theorem dX12_readPage_81 : decode cX12_readPage 81 = .ok (.putfield 101, 3) := by decide +kernel
theorem dX12_readPage_84 : decode cX12_readPage 84 = .ok (.aload_n 0, 1) := by decide +kernel
theorem dX12_readPage_85 : decode cX12_readPage 85 = .ok (.iload_n 2, 1) := by decide +kernel
theorem dX12_readPage_86 : decode cX12_readPage 86 = .ok (.aload_n 0, 1) := by decide +kernel
theorem dX12_readPage_87 : decode cX12_readPage 87 = .ok (.getfield 69, 3) := by decide +kernel
theorem dX12_readPage_90 : decode cX12_readPage 90 = .ok (.if_icmp .ne 13, 3) := by decide +kernel
theorem dX12_readPage_93 : decode cX12_readPage 93 = .ok (.iload_n 1, 1) := by decide +kernel
theorem dX12_readPage_94 : decode cX12_readPage 94 = .ok (.bipush 8, 2) := by decide +kernel
theorem dX12_readPage_96 : decode cX12_readPage 96 = .ok (.if_icmp .ne 7, 3) := by decide +kernel
theorem dX12_readPage_99 : decode cX12_readPage 99 = .ok (.iconst 1, 1) := by decide +kernel
theorem dX12_readPage_100 : decode cX12_readPage 100 = .ok (.goto 4, 3) := by decide +kernel
theorem dX12_readPage_103 : decode cX12_readPage 103 = .ok (.iconst 0, 1) := by decide +kernel
theorem dX12_readPage_104 : decode cX12_readPage 104 = .ok (.putfield 104, 3) := by decide +kernel
theorem dX12_readPage_107 : decode cX12_readPage 107 = .ok (.return_, 1) := by decide +kernel
theorem dX12_fault_0 : decode cX12_fault 0 = .ok (.aload_n 0, 1) := by decide +kernel
theorem dX12_fault_1 : decode cX12_fault 1 = .ok (.invokevirtual 107, 3) := by decide +kernel
theorem dX12_fault_4 : decode cX12_fault 4 = .ok (.aload_n 0, 1) := by decide +kernel
theorem dX12_fault_5 : decode cX12_fault 5 = .ok (.getfield 101, 3) := by decide +kernel
theorem dX12_fault_8 : decode cX12_fault 8 = .ok (.ireturn, 1) := by decide +kernel
theorem dX12_rule_0 : decode cX12_rule 0 = .ok (.aload_n 0, 1) := by decide +kernel
theorem dX12_rule_1 : decode cX12_rule 1 = .ok (.invokevirtual 107, 3) := by decide +kernel
theorem dX12_rule_4 : decode cX12_rule 4 = .ok (.aload_n 0, 1) := by decide +kernel
theorem dX12_rule_5 : decode cX12_rule 5 = .ok (.getfield 104, 3) := by decide +kernel
theorem dX12_rule_8 : decode cX12_rule 8 = .ok (.ifCond .ne 6, 3) := by decide +kernel
theorem dX12_rule_11 : decode cX12_rule 11 = .ok (.bipush (-103), 2) := by decide +kernel
theorem dX12_rule_13 : decode cX12_rule 13 = .ok (.ireturn, 1) := by decide +kernel
theorem dX12_rule_14 : decode cX12_rule 14 = .ok (.aload_n 0, 1) := by decide +kernel
theorem dX12_rule_15 : decode cX12_rule 15 = .ok (.getfield 110, 3) := by decide +kernel
theorem dX12_rule_18 : decode cX12_rule 18 = .ok (.bipush 6, 2) := by decide +kernel
theorem dX12_rule_20 : decode cX12_rule 20 = .ok (.if_icmp .ne 6, 3) := by decide +kernel
theorem dX12_rule_23 : decode cX12_rule 23 = .ok (.bipush (-104), 2) := by decide +kernel
theorem dX12_rule_25 : decode cX12_rule 25 = .ok (.ireturn, 1) := by decide +kernel
theorem dX12_rule_26 : decode cX12_rule 26 = .ok (.aload_n 0, 1) := by decide +kernel
theorem dX12_rule_27 : decode cX12_rule 27 = .ok (.getfield 25, 3) := by decide +kernel
theorem dX12_rule_30 : decode cX12_rule 30 = .ok (.aload_n 0, 1) := by decide +kernel
theorem dX12_rule_31 : decode cX12_rule 31 = .ok (.getfield 110, 3) := by decide +kernel
theorem dX12_rule_34 : decode cX12_rule 34 = .ok (.aload_n 0, 1) := by decide +kernel
theorem dX12_rule_35 : decode cX12_rule 35 = .ok (.getfield 73, 3) := by decide +kernel
theorem dX12_rule_38 : decode cX12_rule 38 = .ok (.iastore, 1) := by decide +kernel
theorem dX12_rule_39 : decode cX12_rule 39 = .ok (.aload_n 0, 1) := by decide +kernel
theorem dX12_rule_40 : decode cX12_rule 40 = .ok (.getfield 28, 3) := by decide +kernel
theorem dX12_rule_43 : decode cX12_rule 43 = .ok (.aload_n 0, 1) := by decide +kernel
theorem dX12_rule_44 : decode cX12_rule 44 = .ok (.getfield 110, 3) := by decide +kernel
theorem dX12_rule_47 : decode cX12_rule 47 = .ok (.aload_n 0, 1) := by decide +kernel
theorem dX12_rule_48 : decode cX12_rule 48 = .ok (.getfield 76, 3) := by decide +kernel
theorem dX12_rule_51 : decode cX12_rule 51 = .ok (.iastore, 1) := by decide +kernel
theorem dX12_rule_52 : decode cX12_rule 52 = .ok (.aload_n 0, 1) := by decide +kernel
theorem dX12_rule_53 : decode cX12_rule 53 = .ok (.getfield 31, 3) := by decide +kernel
theorem dX12_rule_56 : decode cX12_rule 56 = .ok (.aload_n 0, 1) := by decide +kernel
theorem dX12_rule_57 : decode cX12_rule 57 = .ok (.getfield 110, 3) := by decide +kernel
theorem dX12_rule_60 : decode cX12_rule 60 = .ok (.aload_n 0, 1) := by decide +kernel
theorem dX12_rule_61 : decode cX12_rule 61 = .ok (.getfield 83, 3) := by decide +kernel
theorem dX12_rule_64 : decode cX12_rule 64 = .ok (.iastore, 1) := by decide +kernel
theorem dX12_rule_65 : decode cX12_rule 65 = .ok (.aload_n 0, 1) := by decide +kernel
theorem dX12_rule_66 : decode cX12_rule 66 = .ok (.getfield 34, 3) := by decide +kernel
theorem dX12_rule_69 : decode cX12_rule 69 = .ok (.aload_n 0, 1) := by decide +kernel
theorem dX12_rule_70 : decode cX12_rule 70 = .ok (.getfield 110, 3) := by decide +kernel
theorem dX12_rule_73 : decode cX12_rule 73 = .ok (.aload_n 0, 1) := by decide +kernel
theorem dX12_rule_74 : decode cX12_rule 74 = .ok (.getfield 86, 3) := by decide +kernel
theorem dX12_rule_77 : decode cX12_rule 77 = .ok (.bastore, 1) := by decide +kernel
theorem dX12_rule_78 : decode cX12_rule 78 = .ok (.aload_n 0, 1) := by decide +kernel
theorem dX12_rule_79 : decode cX12_rule 79 = .ok (.getfield 38, 3) := by decide +kernel
theorem dX12_rule_82 : decode cX12_rule 82 = .ok (.aload_n 0, 1) := by decide +kernel
theorem dX12_rule_83 : decode cX12_rule 83 = .ok (.getfield 110, 3) := by decide +kernel
theorem dX12_rule_86 : decode cX12_rule 86 = .ok (.aload_n 0, 1) := by decide +kernel
theorem dX12_rule_87 : decode cX12_rule 87 = .ok (.getfield 90, 3) := by decide +kernel
theorem dX12_rule_90 : decode cX12_rule 90 = .ok (.bastore, 1) := by decide +kernel
theorem dX12_rule_91 : decode cX12_rule 91 = .ok (.aload_n 0, 1) := by decide +kernel
theorem dX12_rule_92 : decode cX12_rule 92 = .ok (.dup, 1) := by decide +kernel
theorem dX12_rule_93 : decode cX12_rule 93 = .ok (.getfield 110, 3) := by decide +kernel
theorem dX12_rule_96 : decode cX12_rule 96 = .ok (.iconst 1, 1) := by decide +kernel
theorem dX12_rule_97 : decode cX12_rule 97 = .ok (.iadd, 1) := by decide +kernel
theorem dX12_rule_98 : decode cX12_rule 98 = .ok (.putfield 110, 3) := by decide +kernel
theorem dX12_rule_101 : decode cX12_rule 101 = .ok (.aload_n 0, 1) := by decide +kernel
theorem dX12_rule_102 : decode cX12_rule 102 = .ok (.iconst 0, 1) := by decide +kernel
theorem dX12_rule_103 : decode cX12_rule 103 = .ok (.putfield 69, 3) := by decide +kernel
theorem dX12_rule_106 : decode cX12_rule 106 = .ok (.aload_n 0, 1) := by decide +kernel
theorem dX12_rule_107 : decode cX12_rule 107 = .ok (.getfield 110, 3) := by decide +kernel
theorem dX12_rule_110 : decode cX12_rule 110 = .ok (.iconst 1, 1) := by decide +kernel
theorem dX12_rule_111 : decode cX12_rule 111 = .ok (.isub, 1) := by decide +kernel
theorem dX12_rule_112 : decode cX12_rule 112 = .ok (.ireturn, 1) := by decide +kernel
theorem dX12_isRule_0 : decode cX12_isRule 0 = .ok (.iload_n 1, 1) := by decide +kernel
theorem dX12_isRule_1 : decode cX12_isRule 1 = .ok (.iconst 0, 1) := by decide +kernel
theorem dX12_isRule_2 : decode cX12_isRule 2 = .ok (.aload_n 0, 1) := by decide +kernel
theorem dX12_isRule_3 : decode cX12_isRule 3 = .ok (.getfield 110, 3) := by decide +kernel
theorem dX12_isRule_6 : decode cX12_isRule 6 = .ok (.iconst 1, 1) := by decide +kernel
theorem dX12_isRule_7 : decode cX12_isRule 7 = .ok (.isub, 1) := by decide +kernel
theorem dX12_isRule_8 : decode cX12_isRule 8 = .ok (.invokestatic 61, 3) := by decide +kernel
theorem dX12_isRule_11 : decode cX12_isRule 11 = .ok (.ireturn, 1) := by decide +kernel
theorem dX12_ruleNow_0 : decode cX12_ruleNow 0 = .ok (.iload_n 2, 1) := by decide +kernel
theorem dX12_ruleNow_1 : decode cX12_ruleNow 1 = .ok (.tableswitch 67 0 3 #[31, 38, 45, 52], 31) := by decide +kernel
theorem dX12_ruleNow_32 : decode cX12_ruleNow 32 = .ok (.aload_n 0, 1) := by decide +kernel
theorem dX12_ruleNow_33 : decode cX12_ruleNow 33 = .ok (.getfield 25, 3) := by decide +kernel
theorem dX12_ruleNow_36 : decode cX12_ruleNow 36 = .ok (.iload_n 1, 1) := by decide +kernel
theorem dX12_ruleNow_37 : decode cX12_ruleNow 37 = .ok (.iaload, 1) := by decide +kernel
theorem dX12_ruleNow_38 : decode cX12_ruleNow 38 = .ok (.ireturn, 1) := by decide +kernel
theorem dX12_ruleNow_39 : decode cX12_ruleNow 39 = .ok (.aload_n 0, 1) := by decide +kernel
theorem dX12_ruleNow_40 : decode cX12_ruleNow 40 = .ok (.getfield 28, 3) := by decide +kernel
theorem dX12_ruleNow_43 : decode cX12_ruleNow 43 = .ok (.iload_n 1, 1) := by decide +kernel
theorem dX12_ruleNow_44 : decode cX12_ruleNow 44 = .ok (.iaload, 1) := by decide +kernel
theorem dX12_ruleNow_45 : decode cX12_ruleNow 45 = .ok (.ireturn, 1) := by decide +kernel
theorem dX12_ruleNow_46 : decode cX12_ruleNow 46 = .ok (.aload_n 0, 1) := by decide +kernel
theorem dX12_ruleNow_47 : decode cX12_ruleNow 47 = .ok (.getfield 31, 3) := by decide +kernel
theorem dX12_ruleNow_50 : decode cX12_ruleNow 50 = .ok (.iload_n 1, 1) := by decide +kernel
theorem dX12_ruleNow_51 : decode cX12_ruleNow 51 = .ok (.iaload, 1) := by decide +kernel
theorem dX12_ruleNow_52 : decode cX12_ruleNow 52 = .ok (.ireturn, 1) := by decide +kernel
theorem dX12_ruleNow_53 : decode cX12_ruleNow 53 = .ok (.aload_n 0, 1) := by decide +kernel
theorem dX12_ruleNow_54 : decode cX12_ruleNow 54 = .ok (.getfield 34, 3) := by decide +kernel
theorem dX12_ruleNow_57 : decode cX12_ruleNow 57 = .ok (.iload_n 1, 1) := by decide +kernel
theorem dX12_ruleNow_58 : decode cX12_ruleNow 58 = .ok (.baload, 1) := by decide +kernel
theorem dX12_ruleNow_59 : decode cX12_ruleNow 59 = .ok (.ifCond .eq 7, 3) := by decide +kernel
theorem dX12_ruleNow_62 : decode cX12_ruleNow 62 = .ok (.iconst 1, 1) := by decide +kernel
theorem dX12_ruleNow_63 : decode cX12_ruleNow 63 = .ok (.goto 4, 3) := by decide +kernel
theorem dX12_ruleNow_66 : decode cX12_ruleNow 66 = .ok (.iconst 0, 1) := by decide +kernel
theorem dX12_ruleNow_67 : decode cX12_ruleNow 67 = .ok (.ireturn, 1) := by decide +kernel
theorem dX12_ruleNow_68 : decode cX12_ruleNow 68 = .ok (.aload_n 0, 1) := by decide +kernel
theorem dX12_ruleNow_69 : decode cX12_ruleNow 69 = .ok (.getfield 38, 3) := by decide +kernel
theorem dX12_ruleNow_72 : decode cX12_ruleNow 72 = .ok (.iload_n 1, 1) := by decide +kernel
theorem dX12_ruleNow_73 : decode cX12_ruleNow 73 = .ok (.baload, 1) := by decide +kernel
theorem dX12_ruleNow_74 : decode cX12_ruleNow 74 = .ok (.ifCond .eq 7, 3) := by decide +kernel
theorem dX12_ruleNow_77 : decode cX12_ruleNow 77 = .ok (.iconst 1, 1) := by decide +kernel
theorem dX12_ruleNow_78 : decode cX12_ruleNow 78 = .ok (.goto 4, 3) := by decide +kernel
theorem dX12_ruleNow_81 : decode cX12_ruleNow 81 = .ok (.iconst 0, 1) := by decide +kernel
theorem dX12_ruleNow_82 : decode cX12_ruleNow 82 = .ok (.ireturn, 1) := by decide +kernel
theorem dX12_ruleTold_0 : decode cX12_ruleTold 0 = .ok (.aload_n 0, 1) := by decide +kernel
theorem dX12_ruleTold_1 : decode cX12_ruleTold 1 = .ok (.iload_n 1, 1) := by decide +kernel
theorem dX12_ruleTold_2 : decode cX12_ruleTold 2 = .ok (.invokevirtual 113, 3) := by decide +kernel
theorem dX12_ruleTold_5 : decode cX12_ruleTold 5 = .ok (.ifCond .ne 8, 3) := by decide +kernel
theorem dX12_ruleTold_8 : decode cX12_ruleTold 8 = .ok (.bipush (-101), 2) := by decide +kernel
theorem dX12_ruleTold_10 : decode cX12_ruleTold 10 = .ok (.goto 23, 3) := by decide +kernel
theorem dX12_ruleTold_13 : decode cX12_ruleTold 13 = .ok (.iload_n 2, 1) := by decide +kernel
theorem dX12_ruleTold_14 : decode cX12_ruleTold 14 = .ok (.iconst 0, 1) := by decide +kernel
theorem dX12_ruleTold_15 : decode cX12_ruleTold 15 = .ok (.iconst 4, 1) := by decide +kernel
theorem dX12_ruleTold_16 : decode cX12_ruleTold 16 = .ok (.invokestatic 61, 3) := by decide +kernel
theorem dX12_ruleTold_19 : decode cX12_ruleTold 19 = .ok (.ifCond .eq 12, 3) := by decide +kernel
theorem dX12_ruleTold_22 : decode cX12_ruleTold 22 = .ok (.aload_n 0, 1) := by decide +kernel
theorem dX12_ruleTold_23 : decode cX12_ruleTold 23 = .ok (.iload_n 1, 1) := by decide +kernel
theorem dX12_ruleTold_24 : decode cX12_ruleTold 24 = .ok (.iload_n 2, 1) := by decide +kernel
theorem dX12_ruleTold_25 : decode cX12_ruleTold 25 = .ok (.invokevirtual 116, 3) := by decide +kernel
theorem dX12_ruleTold_28 : decode cX12_ruleTold 28 = .ok (.goto 5, 3) := by decide +kernel
theorem dX12_ruleTold_31 : decode cX12_ruleTold 31 = .ok (.bipush (-102), 2) := by decide +kernel
theorem dX12_ruleTold_33 : decode cX12_ruleTold 33 = .ok (.ireturn, 1) := by decide +kernel
theorem dX12_isMember_0 : decode cX12_isMember 0 = .ok (.iload_n 1, 1) := by decide +kernel
theorem dX12_isMember_1 : decode cX12_isMember 1 = .ok (.iconst 0, 1) := by decide +kernel
theorem dX12_isMember_2 : decode cX12_isMember 2 = .ok (.aload_n 0, 1) := by decide +kernel
theorem dX12_isMember_3 : decode cX12_isMember 3 = .ok (.getfield 119, 3) := by decide +kernel
theorem dX12_isMember_6 : decode cX12_isMember 6 = .ok (.iconst 1, 1) := by decide +kernel
theorem dX12_isMember_7 : decode cX12_isMember 7 = .ok (.isub, 1) := by decide +kernel
theorem dX12_isMember_8 : decode cX12_isMember 8 = .ok (.invokestatic 61, 3) := by decide +kernel
theorem dX12_isMember_11 : decode cX12_isMember 11 = .ok (.ireturn, 1) := by decide +kernel
theorem dX12_isCandidate_0 : decode cX12_isCandidate 0 = .ok (.iload_n 1, 1) := by decide +kernel
theorem dX12_isCandidate_1 : decode cX12_isCandidate 1 = .ok (.iconst 0, 1) := by decide +kernel
theorem dX12_isCandidate_2 : decode cX12_isCandidate 2 = .ok (.aload_n 0, 1) := by decide +kernel
theorem dX12_isCandidate_3 : decode cX12_isCandidate 3 = .ok (.getfield 122, 3) := by decide +kernel
theorem dX12_isCandidate_6 : decode cX12_isCandidate 6 = .ok (.iconst 1, 1) := by decide +kernel
theorem dX12_isCandidate_7 : decode cX12_isCandidate 7 = .ok (.isub, 1) := by decide +kernel
theorem dX12_isCandidate_8 : decode cX12_isCandidate 8 = .ok (.invokestatic 61, 3) := by decide +kernel
theorem dX12_isCandidate_11 : decode cX12_isCandidate 11 = .ok (.ireturn, 1) := by decide +kernel
theorem dX12_member_0 : decode cX12_member 0 = .ok (.iload_n 1, 1) := by decide +kernel
theorem dX12_member_1 : decode cX12_member 1 = .ok (.iconst 0, 1) := by decide +kernel
theorem dX12_member_2 : decode cX12_member 2 = .ok (.iconst 4, 1) := by decide +kernel
theorem dX12_member_3 : decode cX12_member 3 = .ok (.invokestatic 61, 3) := by decide +kernel
theorem dX12_member_6 : decode cX12_member 6 = .ok (.ifCond .eq 26, 3) := by decide +kernel
theorem dX12_member_9 : decode cX12_member 9 = .ok (.iload_n 1, 1) := by decide +kernel
theorem dX12_member_10 : decode cX12_member 10 = .ok (.iconst 3, 1) := by decide +kernel
theorem dX12_member_11 : decode cX12_member 11 = .ok (.if_icmp .ge 24, 3) := by decide +kernel
theorem dX12_member_14 : decode cX12_member 14 = .ok (.iload_n 2, 1) := by decide +kernel
theorem dX12_member_15 : decode cX12_member 15 = .ok (.iconst 0, 1) := by decide +kernel
theorem dX12_member_16 : decode cX12_member 16 = .ok (.iload_n 1, 1) := by decide +kernel
theorem dX12_member_17 : decode cX12_member 17 = .ok (.iconst 2, 1) := by decide +kernel
theorem dX12_member_18 : decode cX12_member 18 = .ok (.if_icmp .ne 7, 3) := by decide +kernel
theorem dX12_member_21 : decode cX12_member 21 = .ok (.iconst 5, 1) := by decide +kernel
theorem dX12_member_22 : decode cX12_member 22 = .ok (.goto 4, 3) := by decide +kernel
theorem dX12_member_25 : decode cX12_member 25 = .ok (.iconst 0, 1) := by decide +kernel
theorem dX12_member_26 : decode cX12_member 26 = .ok (.invokestatic 61, 3) := by decide +kernel
theorem dX12_member_29 : decode cX12_member 29 = .ok (.ifCond .ne 6, 3) := by decide +kernel
theorem dX12_member_32 : decode cX12_member 32 = .ok (.bipush (-102), 2) := by decide +kernel
theorem dX12_member_34 : decode cX12_member 34 = .ok (.ireturn, 1) := by decide +kernel
theorem dX12_member_35 : decode cX12_member 35 = .ok (.iload_n 1, 1) := by decide +kernel
theorem dX12_member_36 : decode cX12_member 36 = .ok (.iconst 3, 1) := by decide +kernel
theorem dX12_member_37 : decode cX12_member 37 = .ok (.if_icmp .lt 14, 3) := by decide +kernel
theorem dX12_member_40 : decode cX12_member 40 = .ok (.aload_n 0, 1) := by decide +kernel
theorem dX12_member_41 : decode cX12_member 41 = .ok (.iload_n 2, 1) := by decide +kernel
theorem dX12_member_42 : decode cX12_member 42 = .ok (.invokevirtual 125, 3) := by decide +kernel
theorem dX12_member_45 : decode cX12_member 45 = .ok (.ifCond .ne 6, 3) := by decide +kernel
theorem dX12_member_48 : decode cX12_member 48 = .ok (.bipush (-101), 2) := by decide +kernel
theorem dX12_member_50 : decode cX12_member 50 = .ok (.ireturn, 1) := by decide +kernel
theorem dX12_member_51 : decode cX12_member 51 = .ok (.iload_n 3, 1) := by decide +kernel
theorem dX12_member_52 : decode cX12_member 52 = .ok (.iconst 0, 1) := by decide +kernel
theorem dX12_member_53 : decode cX12_member 53 = .ok (.bipush 10, 2) := by decide +kernel
theorem dX12_member_55 : decode cX12_member 55 = .ok (.invokestatic 61, 3) := by decide +kernel
theorem dX12_member_58 : decode cX12_member 58 = .ok (.ifCond .ne 6, 3) := by decide +kernel
theorem dX12_member_61 : decode cX12_member 61 = .ok (.bipush (-102), 2) := by decide +kernel
theorem dX12_member_63 : decode cX12_member 63 = .ok (.ireturn, 1) := by decide +kernel
theorem dX12_member_64 : decode cX12_member 64 = .ok (.aload_n 0, 1) := by decide +kernel
theorem dX12_member_65 : decode cX12_member 65 = .ok (.getfield 119, 3) := by decide +kernel
theorem dX12_member_68 : decode cX12_member 68 = .ok (.bipush 8, 2) := by decide +kernel
theorem dX12_member_70 : decode cX12_member 70 = .ok (.if_icmp .ne 6, 3) := by decide +kernel
theorem dX12_member_73 : decode cX12_member 73 = .ok (.bipush (-104), 2) := by decide +kernel
theorem dX12_member_75 : decode cX12_member 75 = .ok (.ireturn, 1) := by decide +kernel
theorem dX12_member_76 : decode cX12_member 76 = .ok (.aload_n 0, 1) := by decide +kernel
theorem dX12_member_77 : decode cX12_member 77 = .ok (.getfield 7, 3) := by decide +kernel
theorem dX12_member_80 : decode cX12_member 80 = .ok (.aload_n 0, 1) := by decide +kernel
theorem dX12_member_81 : decode cX12_member 81 = .ok (.getfield 119, 3) := by decide +kernel
theorem dX12_member_84 : decode cX12_member 84 = .ok (.iload_n 1, 1) := by decide +kernel
theorem dX12_member_85 : decode cX12_member 85 = .ok (.iastore, 1) := by decide +kernel
theorem dX12_member_86 : decode cX12_member 86 = .ok (.aload_n 0, 1) := by decide +kernel
theorem dX12_member_87 : decode cX12_member 87 = .ok (.getfield 13, 3) := by decide +kernel
theorem dX12_member_90 : decode cX12_member 90 = .ok (.aload_n 0, 1) := by decide +kernel
theorem dX12_member_91 : decode cX12_member 91 = .ok (.getfield 119, 3) := by decide +kernel
theorem dX12_member_94 : decode cX12_member 94 = .ok (.iload_n 2, 1) := by decide +kernel
theorem dX12_member_95 : decode cX12_member 95 = .ok (.iastore, 1) := by decide +kernel
theorem dX12_member_96 : decode cX12_member 96 = .ok (.aload_n 0, 1) := by decide +kernel
theorem dX12_member_97 : decode cX12_member 97 = .ok (.getfield 16, 3) := by decide +kernel
theorem dX12_member_100 : decode cX12_member 100 = .ok (.aload_n 0, 1) := by decide +kernel
theorem dX12_member_101 : decode cX12_member 101 = .ok (.getfield 119, 3) := by decide +kernel
theorem dX12_member_104 : decode cX12_member 104 = .ok (.iload_n 3, 1) := by decide +kernel
theorem dX12_member_105 : decode cX12_member 105 = .ok (.iastore, 1) := by decide +kernel
theorem dX12_member_106 : decode cX12_member 106 = .ok (.aload_n 0, 1) := by decide +kernel
theorem dX12_member_107 : decode cX12_member 107 = .ok (.dup, 1) := by decide +kernel
theorem dX12_member_108 : decode cX12_member 108 = .ok (.getfield 119, 3) := by decide +kernel
theorem dX12_member_111 : decode cX12_member 111 = .ok (.iconst 1, 1) := by decide +kernel
theorem dX12_member_112 : decode cX12_member 112 = .ok (.iadd, 1) := by decide +kernel
theorem dX12_member_113 : decode cX12_member 113 = .ok (.putfield 119, 3) := by decide +kernel
theorem dX12_member_116 : decode cX12_member 116 = .ok (.aload_n 0, 1) := by decide +kernel
theorem dX12_member_117 : decode cX12_member 117 = .ok (.getfield 119, 3) := by decide +kernel
theorem dX12_member_120 : decode cX12_member 120 = .ok (.iconst 1, 1) := by decide +kernel
theorem dX12_member_121 : decode cX12_member 121 = .ok (.isub, 1) := by decide +kernel
theorem dX12_member_122 : decode cX12_member 122 = .ok (.ireturn, 1) := by decide +kernel
theorem dX12_as_0 : decode cX12_as 0 = .ok (.aload_n 0, 1) := by decide +kernel
theorem dX12_as_1 : decode cX12_as 1 = .ok (.iload_n 1, 1) := by decide +kernel
theorem dX12_as_2 : decode cX12_as 2 = .ok (.invokevirtual 125, 3) := by decide +kernel
theorem dX12_as_5 : decode cX12_as 5 = .ok (.ifCond .ne 6, 3) := by decide +kernel
theorem dX12_as_8 : decode cX12_as 8 = .ok (.bipush (-101), 2) := by decide +kernel
theorem dX12_as_10 : decode cX12_as 10 = .ok (.ireturn, 1) := by decide +kernel
theorem dX12_as_11 : decode cX12_as 11 = .ok (.iload_n 2, 1) := by decide +kernel
theorem dX12_as_12 : decode cX12_as 12 = .ok (.iconst 0, 1) := by decide +kernel
theorem dX12_as_13 : decode cX12_as 13 = .ok (.iconst 4, 1) := by decide +kernel
theorem dX12_as_14 : decode cX12_as 14 = .ok (.invokestatic 61, 3) := by decide +kernel
theorem dX12_as_17 : decode cX12_as 17 = .ok (.ifCond .ne 6, 3) := by decide +kernel
theorem dX12_as_20 : decode cX12_as 20 = .ok (.bipush (-102), 2) := by decide +kernel
theorem dX12_as_22 : decode cX12_as 22 = .ok (.ireturn, 1) := by decide +kernel
theorem dX12_as_23 : decode cX12_as 23 = .ok (.aload_n 0, 1) := by decide +kernel
theorem dX12_as_24 : decode cX12_as 24 = .ok (.getfield 7, 3) := by decide +kernel
theorem dX12_as_27 : decode cX12_as 27 = .ok (.iload_n 1, 1) := by decide +kernel
theorem dX12_as_28 : decode cX12_as 28 = .ok (.iaload, 1) := by decide +kernel
theorem dX12_as_29 : decode cX12_as 29 = .ok (.istore_n 3, 1) := by decide +kernel
theorem dX12_as_30 : decode cX12_as 30 = .ok (.iload_n 2, 1) := by decide +kernel
theorem dX12_as_31 : decode cX12_as 31 = .ok (.ifCond .eq 18, 3) := by decide +kernel
theorem dX12_as_34 : decode cX12_as 34 = .ok (.iload_n 3, 1) := by decide +kernel
theorem dX12_as_35 : decode cX12_as 35 = .ok (.iload_n 2, 1) := by decide +kernel
theorem dX12_as_36 : decode cX12_as 36 = .ok (.if_icmp .eq 13, 3) := by decide +kernel
theorem dX12_as_39 : decode cX12_as 39 = .ok (.iload_n 2, 1) := by decide +kernel
theorem dX12_as_40 : decode cX12_as 40 = .ok (.iconst 3, 1) := by decide +kernel
theorem dX12_as_41 : decode cX12_as 41 = .ok (.if_icmp .ne 12, 3) := by decide +kernel
theorem dX12_as_44 : decode cX12_as 44 = .ok (.iload_n 3, 1) := by decide +kernel
theorem dX12_as_45 : decode cX12_as 45 = .ok (.iconst 4, 1) := by decide +kernel
theorem dX12_as_46 : decode cX12_as 46 = .ok (.if_icmp .ne 7, 3) := by decide +kernel
theorem dX12_as_49 : decode cX12_as 49 = .ok (.iload_n 1, 1) := by decide +kernel
theorem dX12_as_50 : decode cX12_as 50 = .ok (.goto 4, 3) := by decide +kernel
theorem dX12_as_53 : decode cX12_as 53 = .ok (.iconst (-1), 1) := by decide +kernel
theorem dX12_as_54 : decode cX12_as 54 = .ok (.ireturn, 1) := by decide +kernel
theorem dX12_memberNow_0 : decode cX12_memberNow 0 = .ok (.iload_n 2, 1) := by decide +kernel
theorem dX12_memberNow_1 : decode cX12_memberNow 1 = .ok (.ifCond .ne 12, 3) := by decide +kernel
theorem dX12_memberNow_4 : decode cX12_memberNow 4 = .ok (.aload_n 0, 1) := by decide +kernel
theorem dX12_memberNow_5 : decode cX12_memberNow 5 = .ok (.getfield 7, 3) := by decide +kernel
theorem dX12_memberNow_8 : decode cX12_memberNow 8 = .ok (.iload_n 1, 1) := by decide +kernel
theorem dX12_memberNow_9 : decode cX12_memberNow 9 = .ok (.iaload, 1) := by decide +kernel
theorem dX12_memberNow_10 : decode cX12_memberNow 10 = .ok (.goto 23, 3) := by decide +kernel
theorem dX12_memberNow_13 : decode cX12_memberNow 13 = .ok (.iload_n 2, 1) := by decide +kernel
theorem dX12_memberNow_14 : decode cX12_memberNow 14 = .ok (.iconst 1, 1) := by decide +kernel
theorem dX12_memberNow_15 : decode cX12_memberNow 15 = .ok (.if_icmp .ne 12, 3) := by decide +kernel
theorem dX12_memberNow_18 : decode cX12_memberNow 18 = .ok (.aload_n 0, 1) := by decide +kernel
theorem dX12_memberNow_19 : decode cX12_memberNow 19 = .ok (.getfield 13, 3) := by decide +kernel
theorem dX12_memberNow_22 : decode cX12_memberNow 22 = .ok (.iload_n 1, 1) := by decide +kernel
theorem dX12_memberNow_23 : decode cX12_memberNow 23 = .ok (.iaload, 1) := by decide +kernel
theorem dX12_memberNow_24 : decode cX12_memberNow 24 = .ok (.goto 9, 3) := by decide +kernel
theorem dX12_memberNow_27 : decode cX12_memberNow 27 = .ok (.aload_n 0, 1) := by decide +kernel
theorem dX12_memberNow_28 : decode cX12_memberNow 28 = .ok (.getfield 16, 3) := by decide +kernel
theorem dX12_memberNow_31 : decode cX12_memberNow 31 = .ok (.iload_n 1, 1) := by decide +kernel
theorem dX12_memberNow_32 : decode cX12_memberNow 32 = .ok (.iaload, 1) := by decide +kernel
theorem dX12_memberNow_33 : decode cX12_memberNow 33 = .ok (.ireturn, 1) := by decide +kernel
theorem dX12_about_0 : decode cX12_about 0 = .ok (.aload_n 0, 1) := by decide +kernel
theorem dX12_about_1 : decode cX12_about 1 = .ok (.iload_n 1, 1) := by decide +kernel
theorem dX12_about_2 : decode cX12_about 2 = .ok (.invokevirtual 125, 3) := by decide +kernel
theorem dX12_about_5 : decode cX12_about 5 = .ok (.ifCond .ne 8, 3) := by decide +kernel
theorem dX12_about_8 : decode cX12_about 8 = .ok (.bipush (-101), 2) := by decide +kernel
theorem dX12_about_10 : decode cX12_about 10 = .ok (.goto 23, 3) := by decide +kernel
theorem dX12_about_13 : decode cX12_about 13 = .ok (.iload_n 2, 1) := by decide +kernel
theorem dX12_about_14 : decode cX12_about 14 = .ok (.iconst 0, 1) := by decide +kernel
theorem dX12_about_15 : decode cX12_about 15 = .ok (.iconst 2, 1) := by decide +kernel
theorem dX12_about_16 : decode cX12_about 16 = .ok (.invokestatic 61, 3) := by decide +kernel
theorem dX12_about_19 : decode cX12_about 19 = .ok (.ifCond .eq 12, 3) := by decide +kernel
theorem dX12_about_22 : decode cX12_about 22 = .ok (.aload_n 0, 1) := by decide +kernel
theorem dX12_about_23 : decode cX12_about 23 = .ok (.iload_n 1, 1) := by decide +kernel
theorem dX12_about_24 : decode cX12_about 24 = .ok (.iload_n 2, 1) := by decide +kernel
theorem dX12_about_25 : decode cX12_about 25 = .ok (.invokevirtual 128, 3) := by decide +kernel
theorem dX12_about_28 : decode cX12_about 28 = .ok (.goto 5, 3) := by decide +kernel
theorem dX12_about_31 : decode cX12_about 31 = .ok (.bipush (-102), 2) := by decide +kernel
theorem dX12_about_33 : decode cX12_about 33 = .ok (.ireturn, 1) := by decide +kernel
theorem dX12_comes_0 : decode cX12_comes 0 = .ok (.aload_n 0, 1) := by decide +kernel
theorem dX12_comes_1 : decode cX12_comes 1 = .ok (.iload_n 1, 1) := by decide +kernel
theorem dX12_comes_2 : decode cX12_comes 2 = .ok (.invokevirtual 125, 3) := by decide +kernel
theorem dX12_comes_5 : decode cX12_comes 5 = .ok (.ifCond .ne 6, 3) := by decide +kernel
theorem dX12_comes_8 : decode cX12_comes 8 = .ok (.bipush (-101), 2) := by decide +kernel
theorem dX12_comes_10 : decode cX12_comes 10 = .ok (.ireturn, 1) := by decide +kernel
theorem dX12_comes_11 : decode cX12_comes 11 = .ok (.iload_n 2, 1) := by decide +kernel
theorem dX12_comes_12 : decode cX12_comes 12 = .ok (.iconst 0, 1) := by decide +kernel
theorem dX12_comes_13 : decode cX12_comes 13 = .ok (.bipush 10, 2) := by decide +kernel
theorem dX12_comes_15 : decode cX12_comes 15 = .ok (.invokestatic 61, 3) := by decide +kernel
theorem dX12_comes_18 : decode cX12_comes 18 = .ok (.ifCond .ne 6, 3) := by decide +kernel
theorem dX12_comes_21 : decode cX12_comes 21 = .ok (.bipush (-102), 2) := by decide +kernel
theorem dX12_comes_23 : decode cX12_comes 23 = .ok (.ireturn, 1) := by decide +kernel
theorem dX12_comes_24 : decode cX12_comes 24 = .ok (.aload_n 0, 1) := by decide +kernel
theorem dX12_comes_25 : decode cX12_comes 25 = .ok (.getfield 16, 3) := by decide +kernel
theorem dX12_comes_28 : decode cX12_comes 28 = .ok (.iload_n 1, 1) := by decide +kernel
theorem dX12_comes_29 : decode cX12_comes 29 = .ok (.iaload, 1) := by decide +kernel
theorem dX12_comes_30 : decode cX12_comes 30 = .ok (.istore_n 3, 1) := by decide +kernel
theorem dX12_comes_31 : decode cX12_comes 31 = .ok (.aload_n 0, 1) := by decide +kernel
theorem dX12_comes_32 : decode cX12_comes 32 = .ok (.getfield 16, 3) := by decide +kernel
theorem dX12_comes_35 : decode cX12_comes 35 = .ok (.iload_n 1, 1) := by decide +kernel
theorem dX12_comes_36 : decode cX12_comes 36 = .ok (.iload_n 2, 1) := by decide +kernel
theorem dX12_comes_37 : decode cX12_comes 37 = .ok (.iastore, 1) := by decide +kernel
theorem dX12_comes_38 : decode cX12_comes 38 = .ok (.iload_n 3, 1) := by decide +kernel
theorem dX12_comes_39 : decode cX12_comes 39 = .ok (.ireturn, 1) := by decide +kernel
theorem dX12_candidate_0 : decode cX12_candidate 0 = .ok (.aload_n 0, 1) := by decide +kernel
theorem dX12_candidate_1 : decode cX12_candidate 1 = .ok (.iload_n 1, 1) := by decide +kernel
theorem dX12_candidate_2 : decode cX12_candidate 2 = .ok (.invokevirtual 125, 3) := by decide +kernel
theorem dX12_candidate_5 : decode cX12_candidate 5 = .ok (.ifCond .ne 6, 3) := by decide +kernel
theorem dX12_candidate_8 : decode cX12_candidate 8 = .ok (.bipush (-101), 2) := by decide +kernel
theorem dX12_candidate_10 : decode cX12_candidate 10 = .ok (.ireturn, 1) := by decide +kernel
theorem dX12_candidate_11 : decode cX12_candidate 11 = .ok (.aload_n 0, 1) := by decide +kernel
theorem dX12_candidate_12 : decode cX12_candidate 12 = .ok (.getfield 122, 3) := by decide +kernel
theorem dX12_candidate_15 : decode cX12_candidate 15 = .ok (.bipush 6, 2) := by decide +kernel
theorem dX12_candidate_17 : decode cX12_candidate 17 = .ok (.if_icmp .ne 6, 3) := by decide +kernel
theorem dX12_candidate_20 : decode cX12_candidate 20 = .ok (.bipush (-104), 2) := by decide +kernel
theorem dX12_candidate_22 : decode cX12_candidate 22 = .ok (.ireturn, 1) := by decide +kernel
theorem dX12_candidate_23 : decode cX12_candidate 23 = .ok (.aload_n 0, 1) := by decide +kernel
theorem dX12_candidate_24 : decode cX12_candidate 24 = .ok (.getfield 19, 3) := by decide +kernel
theorem dX12_candidate_27 : decode cX12_candidate 27 = .ok (.aload_n 0, 1) := by decide +kernel
theorem dX12_candidate_28 : decode cX12_candidate 28 = .ok (.getfield 122, 3) := by decide +kernel
theorem dX12_candidate_31 : decode cX12_candidate 31 = .ok (.iload_n 1, 1) := by decide +kernel
theorem dX12_candidate_32 : decode cX12_candidate 32 = .ok (.iastore, 1) := by decide +kernel
theorem dX12_candidate_33 : decode cX12_candidate 33 = .ok (.aload_n 0, 1) := by decide +kernel
theorem dX12_candidate_34 : decode cX12_candidate 34 = .ok (.dup, 1) := by decide +kernel
theorem dX12_candidate_35 : decode cX12_candidate 35 = .ok (.getfield 122, 3) := by decide +kernel
theorem dX12_candidate_38 : decode cX12_candidate 38 = .ok (.iconst 1, 1) := by decide +kernel
theorem dX12_candidate_39 : decode cX12_candidate 39 = .ok (.iadd, 1) := by decide +kernel
theorem dX12_candidate_40 : decode cX12_candidate 40 = .ok (.putfield 122, 3) := by decide +kernel
theorem dX12_candidate_43 : decode cX12_candidate 43 = .ok (.aload_n 0, 1) := by decide +kernel
theorem dX12_candidate_44 : decode cX12_candidate 44 = .ok (.getfield 122, 3) := by decide +kernel
theorem dX12_candidate_47 : decode cX12_candidate 47 = .ok (.iconst 1, 1) := by decide +kernel
theorem dX12_candidate_48 : decode cX12_candidate 48 = .ok (.isub, 1) := by decide +kernel
theorem dX12_candidate_49 : decode cX12_candidate 49 = .ok (.ireturn, 1) := by decide +kernel
theorem dX12_minds_0 : decode cX12_minds 0 = .ok (.aload_n 0, 1) := by decide +kernel
theorem dX12_minds_1 : decode cX12_minds 1 = .ok (.iload_n 1, 1) := by decide +kernel
theorem dX12_minds_2 : decode cX12_minds 2 = .ok (.invokevirtual 125, 3) := by decide +kernel
theorem dX12_minds_5 : decode cX12_minds 5 = .ok (.ifCond .eq 11, 3) := by decide +kernel
theorem dX12_minds_8 : decode cX12_minds 8 = .ok (.aload_n 0, 1) := by decide +kernel
theorem dX12_minds_9 : decode cX12_minds 9 = .ok (.iload_n 2, 1) := by decide +kernel
theorem dX12_minds_10 : decode cX12_minds 10 = .ok (.invokevirtual 131, 3) := by decide +kernel
theorem dX12_minds_13 : decode cX12_minds 13 = .ok (.ifCond .ne 6, 3) := by decide +kernel
theorem dX12_minds_16 : decode cX12_minds 16 = .ok (.bipush (-101), 2) := by decide +kernel
theorem dX12_minds_18 : decode cX12_minds 18 = .ok (.ireturn, 1) := by decide +kernel
theorem dX12_minds_19 : decode cX12_minds 19 = .ok (.iload_n 3, 1) := by decide +kernel
theorem dX12_minds_20 : decode cX12_minds 20 = .ok (.iconst (-1), 1) := by decide +kernel
theorem dX12_minds_21 : decode cX12_minds 21 = .ok (.bipush 10, 2) := by decide +kernel
theorem dX12_minds_23 : decode cX12_minds 23 = .ok (.invokestatic 61, 3) := by decide +kernel
theorem dX12_minds_26 : decode cX12_minds 26 = .ok (.ifCond .ne 6, 3) := by decide +kernel
theorem dX12_minds_29 : decode cX12_minds 29 = .ok (.bipush (-102), 2) := by decide +kernel
theorem dX12_minds_31 : decode cX12_minds 31 = .ok (.ireturn, 1) := by decide +kernel
theorem dX12_minds_32 : decode cX12_minds 32 = .ok (.aload_n 0, 1) := by decide +kernel
theorem dX12_minds_33 : decode cX12_minds 33 = .ok (.getfield 22, 3) := by decide +kernel
theorem dX12_minds_36 : decode cX12_minds 36 = .ok (.bipush 6, 2) := by decide +kernel
theorem dX12_minds_38 : decode cX12_minds 38 = .ok (.iload_n 1, 1) := by decide +kernel
theorem dX12_minds_39 : decode cX12_minds 39 = .ok (.imul, 1) := by decide +kernel
theorem dX12_minds_40 : decode cX12_minds 40 = .ok (.iload_n 2, 1) := by decide +kernel
theorem dX12_minds_41 : decode cX12_minds 41 = .ok (.iadd, 1) := by decide +kernel
theorem dX12_minds_42 : decode cX12_minds 42 = .ok (.iaload, 1) := by decide +kernel
theorem dX12_minds_43 : decode cX12_minds 43 = .ok (.istore 4, 2) := by decide +kernel
theorem dX12_minds_45 : decode cX12_minds 45 = .ok (.aload_n 0, 1) := by decide +kernel
theorem dX12_minds_46 : decode cX12_minds 46 = .ok (.getfield 22, 3) := by decide +kernel
theorem dX12_minds_49 : decode cX12_minds 49 = .ok (.bipush 6, 2) := by decide +kernel
theorem dX12_minds_51 : decode cX12_minds 51 = .ok (.iload_n 1, 1) := by decide +kernel
theorem dX12_minds_52 : decode cX12_minds 52 = .ok (.imul, 1) := by decide +kernel
theorem dX12_minds_53 : decode cX12_minds 53 = .ok (.iload_n 2, 1) := by decide +kernel
theorem dX12_minds_54 : decode cX12_minds 54 = .ok (.iadd, 1) := by decide +kernel
theorem dX12_minds_55 : decode cX12_minds 55 = .ok (.iload_n 3, 1) := by decide +kernel
theorem dX12_minds_56 : decode cX12_minds 56 = .ok (.iconst (-1), 1) := by decide +kernel
theorem dX12_minds_57 : decode cX12_minds 57 = .ok (.if_icmp .ne 8, 3) := by decide +kernel
theorem dX12_minds_60 : decode cX12_minds 60 = .ok (.iload 4, 2) := by decide +kernel
theorem dX12_minds_62 : decode cX12_minds 62 = .ok (.goto 4, 3) := by decide +kernel
theorem dX12_minds_65 : decode cX12_minds 65 = .ok (.iload_n 3, 1) := by decide +kernel
theorem dX12_minds_66 : decode cX12_minds 66 = .ok (.iastore, 1) := by decide +kernel
theorem dX12_minds_67 : decode cX12_minds 67 = .ok (.iload 4, 2) := by decide +kernel
theorem dX12_minds_69 : decode cX12_minds 69 = .ok (.ireturn, 1) := by decide +kernel
theorem dX12_mindedBy_0 : decode cX12_mindedBy 0 = .ok (.iconst 0, 1) := by decide +kernel
theorem dX12_mindedBy_1 : decode cX12_mindedBy 1 = .ok (.istore_n 2, 1) := by decide +kernel
theorem dX12_mindedBy_2 : decode cX12_mindedBy 2 = .ok (.iconst 0, 1) := by decide +kernel
theorem dX12_mindedBy_3 : decode cX12_mindedBy 3 = .ok (.istore_n 3, 1) := by decide +kernel
theorem dX12_mindedBy_4 : decode cX12_mindedBy 4 = .ok (.iload_n 3, 1) := by decide +kernel
theorem dX12_mindedBy_5 : decode cX12_mindedBy 5 = .ok (.aload_n 0, 1) := by decide +kernel
theorem dX12_mindedBy_6 : decode cX12_mindedBy 6 = .ok (.getfield 119, 3) := by decide +kernel
theorem dX12_mindedBy_9 : decode cX12_mindedBy 9 = .ok (.if_icmp .ge 32, 3) := by decide +kernel
theorem dX12_mindedBy_12 : decode cX12_mindedBy 12 = .ok (.iload_n 2, 1) := by decide +kernel
theorem dX12_mindedBy_13 : decode cX12_mindedBy 13 = .ok (.aload_n 0, 1) := by decide +kernel
theorem dX12_mindedBy_14 : decode cX12_mindedBy 14 = .ok (.getfield 22, 3) := by decide +kernel
theorem dX12_mindedBy_17 : decode cX12_mindedBy 17 = .ok (.bipush 6, 2) := by decide +kernel
theorem dX12_mindedBy_19 : decode cX12_mindedBy 19 = .ok (.iload_n 3, 1) := by decide +kernel
theorem dX12_mindedBy_20 : decode cX12_mindedBy 20 = .ok (.imul, 1) := by decide +kernel
theorem dX12_mindedBy_21 : decode cX12_mindedBy 21 = .ok (.iload_n 1, 1) := by decide +kernel
theorem dX12_mindedBy_22 : decode cX12_mindedBy 22 = .ok (.iadd, 1) := by decide +kernel
theorem dX12_mindedBy_23 : decode cX12_mindedBy 23 = .ok (.iaload, 1) := by decide +kernel
theorem dX12_mindedBy_24 : decode cX12_mindedBy 24 = .ok (.iconst 5, 1) := by decide +kernel
theorem dX12_mindedBy_25 : decode cX12_mindedBy 25 = .ok (.if_icmp .lt 7, 3) := by decide +kernel
theorem dX12_mindedBy_28 : decode cX12_mindedBy 28 = .ok (.iconst 1, 1) := by decide +kernel
theorem dX12_mindedBy_29 : decode cX12_mindedBy 29 = .ok (.goto 4, 3) := by decide +kernel
theorem dX12_mindedBy_32 : decode cX12_mindedBy 32 = .ok (.iconst 0, 1) := by decide +kernel
theorem dX12_mindedBy_33 : decode cX12_mindedBy 33 = .ok (.iadd, 1) := by decide +kernel
theorem dX12_mindedBy_34 : decode cX12_mindedBy 34 = .ok (.istore_n 2, 1) := by decide +kernel
theorem dX12_mindedBy_35 : decode cX12_mindedBy 35 = .ok (.iinc 3 1, 3) := by decide +kernel
theorem dX12_mindedBy_38 : decode cX12_mindedBy 38 = .ok (.goto (-34), 3) := by decide +kernel
theorem dX12_mindedBy_41 : decode cX12_mindedBy 41 = .ok (.iload_n 2, 1) := by decide +kernel
theorem dX12_mindedBy_42 : decode cX12_mindedBy 42 = .ok (.ireturn, 1) := by decide +kernel
theorem dX12_isMinded_0 : decode cX12_isMinded 0 = .ok (.aload_n 0, 1) := by decide +kernel
theorem dX12_isMinded_1 : decode cX12_isMinded 1 = .ok (.iload_n 1, 1) := by decide +kernel
theorem dX12_isMinded_2 : decode cX12_isMinded 2 = .ok (.invokevirtual 134, 3) := by decide +kernel
theorem dX12_isMinded_5 : decode cX12_isMinded 5 = .ok (.iconst 1, 1) := by decide +kernel
theorem dX12_isMinded_6 : decode cX12_isMinded 6 = .ok (.if_icmp .le 7, 3) := by decide +kernel
theorem dX12_isMinded_9 : decode cX12_isMinded 9 = .ok (.iconst 1, 1) := by decide +kernel
theorem dX12_isMinded_10 : decode cX12_isMinded 10 = .ok (.goto 4, 3) := by decide +kernel
theorem dX12_isMinded_13 : decode cX12_isMinded 13 = .ok (.iconst 0, 1) := by decide +kernel
theorem dX12_isMinded_14 : decode cX12_isMinded 14 = .ok (.ireturn, 1) := by decide +kernel
theorem dX12_candidateNow_0 : decode cX12_candidateNow 0 = .ok (.iload_n 2, 1) := by decide +kernel
theorem dX12_candidateNow_1 : decode cX12_candidateNow 1 = .ok (.ifCond .ne 12, 3) := by decide +kernel
theorem dX12_candidateNow_4 : decode cX12_candidateNow 4 = .ok (.aload_n 0, 1) := by decide +kernel
theorem dX12_candidateNow_5 : decode cX12_candidateNow 5 = .ok (.getfield 19, 3) := by decide +kernel
theorem dX12_candidateNow_8 : decode cX12_candidateNow 8 = .ok (.iload_n 1, 1) := by decide +kernel
theorem dX12_candidateNow_9 : decode cX12_candidateNow 9 = .ok (.iaload, 1) := by decide +kernel
theorem dX12_candidateNow_10 : decode cX12_candidateNow 10 = .ok (.goto 29, 3) := by decide +kernel
theorem dX12_candidateNow_13 : decode cX12_candidateNow 13 = .ok (.iload_n 2, 1) := by decide +kernel
theorem dX12_candidateNow_14 : decode cX12_candidateNow 14 = .ok (.iconst 1, 1) := by decide +kernel
theorem dX12_candidateNow_15 : decode cX12_candidateNow 15 = .ok (.if_icmp .ne 19, 3) := by decide +kernel
theorem dX12_candidateNow_18 : decode cX12_candidateNow 18 = .ok (.aload_n 0, 1) := by decide +kernel
theorem dX12_candidateNow_19 : decode cX12_candidateNow 19 = .ok (.iload_n 1, 1) := by decide +kernel
theorem dX12_candidateNow_20 : decode cX12_candidateNow 20 = .ok (.invokevirtual 137, 3) := by decide +kernel
theorem dX12_candidateNow_23 : decode cX12_candidateNow 23 = .ok (.ifCond .eq 7, 3) := by decide +kernel
theorem dX12_candidateNow_26 : decode cX12_candidateNow 26 = .ok (.iconst 1, 1) := by decide +kernel
theorem dX12_candidateNow_27 : decode cX12_candidateNow 27 = .ok (.goto 12, 3) := by decide +kernel
theorem dX12_candidateNow_30 : decode cX12_candidateNow 30 = .ok (.iconst 0, 1) := by decide +kernel
theorem dX12_candidateNow_31 : decode cX12_candidateNow 31 = .ok (.goto 8, 3) := by decide +kernel
theorem dX12_candidateNow_34 : decode cX12_candidateNow 34 = .ok (.aload_n 0, 1) := by decide +kernel
theorem dX12_candidateNow_35 : decode cX12_candidateNow 35 = .ok (.iload_n 1, 1) := by decide +kernel
theorem dX12_candidateNow_36 : decode cX12_candidateNow 36 = .ok (.invokevirtual 134, 3) := by decide +kernel
theorem dX12_candidateNow_39 : decode cX12_candidateNow 39 = .ok (.ireturn, 1) := by decide +kernel
theorem dX12_friend_0 : decode cX12_friend 0 = .ok (.aload_n 0, 1) := by decide +kernel
theorem dX12_friend_1 : decode cX12_friend 1 = .ok (.iload_n 1, 1) := by decide +kernel
theorem dX12_friend_2 : decode cX12_friend 2 = .ok (.invokevirtual 131, 3) := by decide +kernel
theorem dX12_friend_5 : decode cX12_friend 5 = .ok (.ifCond .ne 8, 3) := by decide +kernel
theorem dX12_friend_8 : decode cX12_friend 8 = .ok (.bipush (-101), 2) := by decide +kernel
theorem dX12_friend_10 : decode cX12_friend 10 = .ok (.goto 23, 3) := by decide +kernel
theorem dX12_friend_13 : decode cX12_friend 13 = .ok (.iload_n 2, 1) := by decide +kernel
theorem dX12_friend_14 : decode cX12_friend 14 = .ok (.iconst 0, 1) := by decide +kernel
theorem dX12_friend_15 : decode cX12_friend 15 = .ok (.iconst 2, 1) := by decide +kernel
theorem dX12_friend_16 : decode cX12_friend 16 = .ok (.invokestatic 61, 3) := by decide +kernel
theorem dX12_friend_19 : decode cX12_friend 19 = .ok (.ifCond .eq 12, 3) := by decide +kernel
theorem dX12_friend_22 : decode cX12_friend 22 = .ok (.aload_n 0, 1) := by decide +kernel
theorem dX12_friend_23 : decode cX12_friend 23 = .ok (.iload_n 1, 1) := by decide +kernel
theorem dX12_friend_24 : decode cX12_friend 24 = .ok (.iload_n 2, 1) := by decide +kernel
theorem dX12_friend_25 : decode cX12_friend 25 = .ok (.invokevirtual 140, 3) := by decide +kernel
theorem dX12_friend_28 : decode cX12_friend 28 = .ok (.goto 5, 3) := by decide +kernel
theorem dX12_friend_31 : decode cX12_friend 31 = .ok (.bipush (-102), 2) := by decide +kernel
theorem dX12_friend_33 : decode cX12_friend 33 = .ok (.ireturn, 1) := by decide +kernel
theorem dX12_areComers_0 : decode cX12_areComers 0 = .ok (.iload_n 1, 1) := by decide +kernel
theorem dX12_areComers_1 : decode cX12_areComers 1 = .ok (.iconst 1, 1) := by decide +kernel
theorem dX12_areComers_2 : decode cX12_areComers 2 = .ok (.iconst 1, 1) := by decide +kernel
theorem dX12_areComers_3 : decode cX12_areComers 3 = .ok (.aload_n 0, 1) := by decide +kernel
theorem dX12_areComers_4 : decode cX12_areComers 4 = .ok (.getfield 119, 3) := by decide +kernel
theorem dX12_areComers_7 : decode cX12_areComers 7 = .ok (.ishl, 1) := by decide +kernel
theorem dX12_areComers_8 : decode cX12_areComers 8 = .ok (.iconst 1, 1) := by decide +kernel
theorem dX12_areComers_9 : decode cX12_areComers 9 = .ok (.isub, 1) := by decide +kernel
theorem dX12_areComers_10 : decode cX12_areComers 10 = .ok (.invokestatic 61, 3) := by decide +kernel
theorem dX12_areComers_13 : decode cX12_areComers 13 = .ok (.ireturn, 1) := by decide +kernel
theorem dX12_blackBy_0 : decode cX12_blackBy 0 = .ok (.aload_n 0, 1) := by decide +kernel
theorem dX12_blackBy_1 : decode cX12_blackBy 1 = .ok (.getfield 22, 3) := by decide +kernel
theorem dX12_blackBy_4 : decode cX12_blackBy 4 = .ok (.bipush 6, 2) := by decide +kernel
theorem dX12_blackBy_6 : decode cX12_blackBy 6 = .ok (.iload 4, 2) := by decide +kernel
theorem dX12_blackBy_8 : decode cX12_blackBy 8 = .ok (.imul, 1) := by decide +kernel
theorem dX12_blackBy_9 : decode cX12_blackBy 9 = .ok (.iload_n 2, 1) := by decide +kernel
theorem dX12_blackBy_10 : decode cX12_blackBy 10 = .ok (.iadd, 1) := by decide +kernel
theorem dX12_blackBy_11 : decode cX12_blackBy 11 = .ok (.iaload, 1) := by decide +kernel
theorem dX12_blackBy_12 : decode cX12_blackBy 12 = .ok (.istore 5, 2) := by decide +kernel
theorem dX12_blackBy_14 : decode cX12_blackBy 14 = .ok (.aload_n 0, 1) := by decide +kernel
theorem dX12_blackBy_15 : decode cX12_blackBy 15 = .ok (.getfield 19, 3) := by decide +kernel
theorem dX12_blackBy_18 : decode cX12_blackBy 18 = .ok (.iload_n 2, 1) := by decide +kernel
theorem dX12_blackBy_19 : decode cX12_blackBy 19 = .ok (.iaload, 1) := by decide +kernel
theorem dX12_blackBy_20 : decode cX12_blackBy 20 = .ok (.iload 4, 2) := by decide +kernel
theorem dX12_blackBy_22 : decode cX12_blackBy 22 = .ok (.if_icmp .ne 5, 3) := by decide +kernel
theorem dX12_blackBy_25 : decode cX12_blackBy 25 = .ok (.iconst 0, 1) := by decide +kernel
theorem dX12_blackBy_26 : decode cX12_blackBy 26 = .ok (.ireturn, 1) := by decide +kernel
theorem dX12_blackBy_27 : decode cX12_blackBy 27 = .ok (.aload_n 0, 1) := by decide +kernel
theorem dX12_blackBy_28 : decode cX12_blackBy 28 = .ok (.getfield 7, 3) := by decide +kernel
theorem dX12_blackBy_31 : decode cX12_blackBy 31 = .ok (.iload 4, 2) := by decide +kernel
theorem dX12_blackBy_33 : decode cX12_blackBy 33 = .ok (.iaload, 1) := by decide +kernel
theorem dX12_blackBy_34 : decode cX12_blackBy 34 = .ok (.tableswitch 132 1 4 #[30, 54, 85, 109], 30) := by decide +kernel
theorem dX12_blackBy_64 : decode cX12_blackBy 64 = .ok (.aload_n 0, 1) := by decide +kernel
theorem dX12_blackBy_65 : decode cX12_blackBy 65 = .ok (.getfield 38, 3) := by decide +kernel
theorem dX12_blackBy_68 : decode cX12_blackBy 68 = .ok (.iload_n 1, 1) := by decide +kernel
theorem dX12_blackBy_69 : decode cX12_blackBy 69 = .ok (.baload, 1) := by decide +kernel
theorem dX12_blackBy_70 : decode cX12_blackBy 70 = .ok (.ifCond .ne 8, 3) := by decide +kernel
theorem dX12_blackBy_73 : decode cX12_blackBy 73 = .ok (.iload_n 3, 1) := by decide +kernel
theorem dX12_blackBy_74 : decode cX12_blackBy 74 = .ok (.iconst 4, 1) := by decide +kernel
theorem dX12_blackBy_75 : decode cX12_blackBy 75 = .ok (.if_icmp .ge 10, 3) := by decide +kernel
theorem dX12_blackBy_78 : decode cX12_blackBy 78 = .ok (.iload 5, 2) := by decide +kernel
theorem dX12_blackBy_80 : decode cX12_blackBy 80 = .ok (.iconst 2, 1) := by decide +kernel
theorem dX12_blackBy_81 : decode cX12_blackBy 81 = .ok (.idiv, 1) := by decide +kernel
theorem dX12_blackBy_82 : decode cX12_blackBy 82 = .ok (.goto 5, 3) := by decide +kernel
theorem dX12_blackBy_85 : decode cX12_blackBy 85 = .ok (.iload 5, 2) := by decide +kernel
theorem dX12_blackBy_87 : decode cX12_blackBy 87 = .ok (.ireturn, 1) := by decide +kernel
theorem dX12_blackBy_88 : decode cX12_blackBy 88 = .ok (.iload 5, 2) := by decide +kernel
theorem dX12_blackBy_90 : decode cX12_blackBy 90 = .ok (.bipush 10, 2) := by decide +kernel
theorem dX12_blackBy_92 : decode cX12_blackBy 92 = .ok (.aload_n 0, 1) := by decide +kernel
theorem dX12_blackBy_93 : decode cX12_blackBy 93 = .ok (.getfield 13, 3) := by decide +kernel
theorem dX12_blackBy_96 : decode cX12_blackBy 96 = .ok (.iload 4, 2) := by decide +kernel
theorem dX12_blackBy_98 : decode cX12_blackBy 98 = .ok (.iaload, 1) := by decide +kernel
theorem dX12_blackBy_99 : decode cX12_blackBy 99 = .ok (.isub, 1) := by decide +kernel
theorem dX12_blackBy_100 : decode cX12_blackBy 100 = .ok (.imul, 1) := by decide +kernel
theorem dX12_blackBy_101 : decode cX12_blackBy 101 = .ok (.aload_n 0, 1) := by decide +kernel
theorem dX12_blackBy_102 : decode cX12_blackBy 102 = .ok (.getfield 13, 3) := by decide +kernel
theorem dX12_blackBy_105 : decode cX12_blackBy 105 = .ok (.iload 4, 2) := by decide +kernel
theorem dX12_blackBy_107 : decode cX12_blackBy 107 = .ok (.iaload, 1) := by decide +kernel
theorem dX12_blackBy_108 : decode cX12_blackBy 108 = .ok (.bipush 10, 2) := by decide +kernel
theorem dX12_blackBy_110 : decode cX12_blackBy 110 = .ok (.iload 5, 2) := by decide +kernel
theorem dX12_blackBy_112 : decode cX12_blackBy 112 = .ok (.isub, 1) := by decide +kernel
theorem dX12_blackBy_113 : decode cX12_blackBy 113 = .ok (.imul, 1) := by decide +kernel
theorem dX12_blackBy_114 : decode cX12_blackBy 114 = .ok (.iadd, 1) := by decide +kernel
theorem dX12_blackBy_115 : decode cX12_blackBy 115 = .ok (.bipush 10, 2) := by decide +kernel
theorem dX12_blackBy_117 : decode cX12_blackBy 117 = .ok (.idiv, 1) := by decide +kernel
theorem dX12_blackBy_118 : decode cX12_blackBy 118 = .ok (.ireturn, 1) := by decide +kernel
theorem dX12_blackBy_119 : decode cX12_blackBy 119 = .ok (.aload_n 0, 1) := by decide +kernel
theorem dX12_blackBy_120 : decode cX12_blackBy 120 = .ok (.getfield 19, 3) := by decide +kernel
theorem dX12_blackBy_123 : decode cX12_blackBy 123 = .ok (.iload_n 2, 1) := by decide +kernel
theorem dX12_blackBy_124 : decode cX12_blackBy 124 = .ok (.iaload, 1) := by decide +kernel
theorem dX12_blackBy_125 : decode cX12_blackBy 125 = .ok (.aload_n 0, 1) := by decide +kernel
theorem dX12_blackBy_126 : decode cX12_blackBy 126 = .ok (.getfield 13, 3) := by decide +kernel
theorem dX12_blackBy_129 : decode cX12_blackBy 129 = .ok (.iload 4, 2) := by decide +kernel
theorem dX12_blackBy_131 : decode cX12_blackBy 131 = .ok (.iaload, 1) := by decide +kernel
theorem dX12_blackBy_132 : decode cX12_blackBy 132 = .ok (.if_icmp .ne 8, 3) := by decide +kernel
theorem dX12_blackBy_135 : decode cX12_blackBy 135 = .ok (.bipush 10, 2) := by decide +kernel
theorem dX12_blackBy_137 : decode cX12_blackBy 137 = .ok (.goto 5, 3) := by decide +kernel
theorem dX12_blackBy_140 : decode cX12_blackBy 140 = .ok (.iload 5, 2) := by decide +kernel
theorem dX12_blackBy_142 : decode cX12_blackBy 142 = .ok (.ireturn, 1) := by decide +kernel
theorem dX12_blackBy_143 : decode cX12_blackBy 143 = .ok (.aload_n 0, 1) := by decide +kernel
theorem dX12_blackBy_144 : decode cX12_blackBy 144 = .ok (.getfield 19, 3) := by decide +kernel
theorem dX12_blackBy_147 : decode cX12_blackBy 147 = .ok (.iload_n 2, 1) := by decide +kernel
theorem dX12_blackBy_148 : decode cX12_blackBy 148 = .ok (.iaload, 1) := by decide +kernel
theorem dX12_blackBy_149 : decode cX12_blackBy 149 = .ok (.aload_n 0, 1) := by decide +kernel
theorem dX12_blackBy_150 : decode cX12_blackBy 150 = .ok (.getfield 13, 3) := by decide +kernel
theorem dX12_blackBy_153 : decode cX12_blackBy 153 = .ok (.iload 4, 2) := by decide +kernel
theorem dX12_blackBy_155 : decode cX12_blackBy 155 = .ok (.iaload, 1) := by decide +kernel
theorem dX12_blackBy_156 : decode cX12_blackBy 156 = .ok (.if_icmp .ne 7, 3) := by decide +kernel
theorem dX12_blackBy_159 : decode cX12_blackBy 159 = .ok (.iconst 0, 1) := by decide +kernel
theorem dX12_blackBy_160 : decode cX12_blackBy 160 = .ok (.goto 5, 3) := by decide +kernel
theorem dX12_blackBy_163 : decode cX12_blackBy 163 = .ok (.iload 5, 2) := by decide +kernel
theorem dX12_blackBy_165 : decode cX12_blackBy 165 = .ok (.ireturn, 1) := by decide +kernel
theorem dX12_blackBy_166 : decode cX12_blackBy 166 = .ok (.iload 5, 2) := by decide +kernel
theorem dX12_blackBy_168 : decode cX12_blackBy 168 = .ok (.ireturn, 1) := by decide +kernel
theorem dX12_black_0 : decode cX12_black 0 = .ok (.aload_n 0, 1) := by decide +kernel
theorem dX12_black_1 : decode cX12_black 1 = .ok (.iload_n 1, 1) := by decide +kernel
theorem dX12_black_2 : decode cX12_black 2 = .ok (.invokevirtual 113, 3) := by decide +kernel
theorem dX12_black_5 : decode cX12_black 5 = .ok (.ifCond .eq 20, 3) := by decide +kernel
theorem dX12_black_8 : decode cX12_black 8 = .ok (.aload_n 0, 1) := by decide +kernel
theorem dX12_black_9 : decode cX12_black 9 = .ok (.iload_n 2, 1) := by decide +kernel
theorem dX12_black_10 : decode cX12_black 10 = .ok (.invokevirtual 131, 3) := by decide +kernel
theorem dX12_black_13 : decode cX12_black 13 = .ok (.ifCond .eq 12, 3) := by decide +kernel
theorem dX12_black_16 : decode cX12_black 16 = .ok (.aload_n 0, 1) := by decide +kernel
theorem dX12_black_17 : decode cX12_black 17 = .ok (.iload 4, 2) := by decide +kernel
theorem dX12_black_19 : decode cX12_black 19 = .ok (.invokevirtual 125, 3) := by decide +kernel
theorem dX12_black_22 : decode cX12_black 22 = .ok (.ifCond .ne 6, 3) := by decide +kernel
theorem dX12_black_25 : decode cX12_black 25 = .ok (.bipush (-101), 2) := by decide +kernel
theorem dX12_black_27 : decode cX12_black 27 = .ok (.ireturn, 1) := by decide +kernel
theorem dX12_black_28 : decode cX12_black 28 = .ok (.aload_n 0, 1) := by decide +kernel
theorem dX12_black_29 : decode cX12_black 29 = .ok (.iload_n 3, 1) := by decide +kernel
theorem dX12_black_30 : decode cX12_black 30 = .ok (.invokevirtual 143, 3) := by decide +kernel
theorem dX12_black_33 : decode cX12_black 33 = .ok (.ifCond .eq 27, 3) := by decide +kernel
theorem dX12_black_36 : decode cX12_black 36 = .ok (.iload_n 3, 1) := by decide +kernel
theorem dX12_black_37 : decode cX12_black 37 = .ok (.iload 4, 2) := by decide +kernel
theorem dX12_black_39 : decode cX12_black 39 = .ok (.invokestatic 146, 3) := by decide +kernel
theorem dX12_black_42 : decode cX12_black 42 = .ok (.ifCond .eq 18, 3) := by decide +kernel
theorem dX12_black_45 : decode cX12_black 45 = .ok (.aload_n 0, 1) := by decide +kernel
theorem dX12_black_46 : decode cX12_black 46 = .ok (.iload_n 1, 1) := by decide +kernel
theorem dX12_black_47 : decode cX12_black 47 = .ok (.iload_n 2, 1) := by decide +kernel
theorem dX12_black_48 : decode cX12_black 48 = .ok (.iload_n 3, 1) := by decide +kernel
theorem dX12_black_49 : decode cX12_black 49 = .ok (.invokestatic 150, 3) := by decide +kernel
theorem dX12_black_52 : decode cX12_black 52 = .ok (.iload 4, 2) := by decide +kernel
theorem dX12_black_54 : decode cX12_black 54 = .ok (.invokevirtual 153, 3) := by decide +kernel
theorem dX12_black_57 : decode cX12_black 57 = .ok (.goto 5, 3) := by decide +kernel
theorem dX12_black_60 : decode cX12_black 60 = .ok (.bipush (-102), 2) := by decide +kernel
theorem dX12_black_62 : decode cX12_black 62 = .ok (.ireturn, 1) := by decide +kernel
theorem dX12_layWays_0 : decode cX12_layWays 0 = .ok (.iconst 0, 1) := by decide +kernel
theorem dX12_layWays_1 : decode cX12_layWays 1 = .ok (.istore 6, 2) := by decide +kernel
theorem dX12_layWays_3 : decode cX12_layWays 3 = .ok (.iload 6, 2) := by decide +kernel
theorem dX12_layWays_5 : decode cX12_layWays 5 = .ok (.bipush 9, 2) := by decide +kernel
theorem dX12_layWays_7 : decode cX12_layWays 7 = .ok (.if_icmp .ge 26, 3) := by decide +kernel
theorem dX12_layWays_10 : decode cX12_layWays 10 = .ok (.aload_n 0, 1) := by decide +kernel
theorem dX12_layWays_11 : decode cX12_layWays 11 = .ok (.getfield 51, 3) := by decide +kernel
theorem dX12_layWays_14 : decode cX12_layWays 14 = .ok (.iload 6, 2) := by decide +kernel
theorem dX12_layWays_16 : decode cX12_layWays 16 = .ok (.iload 6, 2) := by decide +kernel
theorem dX12_layWays_18 : decode cX12_layWays 18 = .ok (.ifCond .ne 7, 3) := by decide +kernel
theorem dX12_layWays_21 : decode cX12_layWays 21 = .ok (.lconst 1, 1) := by decide +kernel
theorem dX12_layWays_22 : decode cX12_layWays 22 = .ok (.goto 4, 3) := by decide +kernel
theorem dX12_layWays_25 : decode cX12_layWays 25 = .ok (.lconst 0, 1) := by decide +kernel
theorem dX12_layWays_26 : decode cX12_layWays 26 = .ok (.lastore, 1) := by decide +kernel
theorem dX12_layWays_27 : decode cX12_layWays 27 = .ok (.iinc 6 1, 3) := by decide +kernel
theorem dX12_layWays_30 : decode cX12_layWays 30 = .ok (.goto (-27), 3) := by decide +kernel
theorem dX12_layWays_33 : decode cX12_layWays 33 = .ok (.iconst 0, 1) := by decide +kernel
theorem dX12_layWays_34 : decode cX12_layWays 34 = .ok (.istore 6, 2) := by decide +kernel
theorem dX12_layWays_36 : decode cX12_layWays 36 = .ok (.iload 6, 2) := by decide +kernel
theorem dX12_layWays_38 : decode cX12_layWays 38 = .ok (.aload_n 0, 1) := by decide +kernel
theorem dX12_layWays_39 : decode cX12_layWays 39 = .ok (.getfield 119, 3) := by decide +kernel
theorem dX12_layWays_42 : decode cX12_layWays 42 = .ok (.if_icmp .ge 96, 3) := by decide +kernel
theorem dX12_layWays_45 : decode cX12_layWays 45 = .ok (.iload_n 3, 1) := by decide +kernel
theorem dX12_layWays_46 : decode cX12_layWays 46 = .ok (.iload 6, 2) := by decide +kernel
theorem dX12_layWays_48 : decode cX12_layWays 48 = .ok (.invokestatic 146, 3) := by decide +kernel
theorem dX12_layWays_51 : decode cX12_layWays 51 = .ok (.ifCond .eq 81, 3) := by decide +kernel
theorem dX12_layWays_54 : decode cX12_layWays 54 = .ok (.iload 6, 2) := by decide +kernel
theorem dX12_layWays_56 : decode cX12_layWays 56 = .ok (.iload 5, 2) := by decide +kernel
theorem dX12_layWays_58 : decode cX12_layWays 58 = .ok (.if_icmp .eq 74, 3) := by decide +kernel
theorem dX12_layWays_61 : decode cX12_layWays 61 = .ok (.aload_n 0, 1) := by decide +kernel
theorem dX12_layWays_62 : decode cX12_layWays 62 = .ok (.iload_n 1, 1) := by decide +kernel
theorem dX12_layWays_63 : decode cX12_layWays 63 = .ok (.iload_n 2, 1) := by decide +kernel
theorem dX12_layWays_64 : decode cX12_layWays 64 = .ok (.iload 4, 2) := by decide +kernel
theorem dX12_layWays_66 : decode cX12_layWays 66 = .ok (.iload 6, 2) := by decide +kernel
theorem dX12_layWays_68 : decode cX12_layWays 68 = .ok (.invokevirtual 153, 3) := by decide +kernel
theorem dX12_layWays_71 : decode cX12_layWays 71 = .ok (.istore 7, 2) := by decide +kernel
theorem dX12_layWays_73 : decode cX12_layWays 73 = .ok (.bipush 8, 2) := by decide +kernel
theorem dX12_layWays_75 : decode cX12_layWays 75 = .ok (.istore 8, 2) := by decide +kernel
theorem dX12_layWays_77 : decode cX12_layWays 77 = .ok (.iload 8, 2) := by decide +kernel
theorem dX12_layWays_79 : decode cX12_layWays 79 = .ok (.ifCond .lt 53, 3) := by decide +kernel
theorem dX12_layWays_82 : decode cX12_layWays 82 = .ok (.aload_n 0, 1) := by decide +kernel
theorem dX12_layWays_83 : decode cX12_layWays 83 = .ok (.getfield 51, 3) := by decide +kernel
theorem dX12_layWays_86 : decode cX12_layWays 86 = .ok (.iload 8, 2) := by decide +kernel
theorem dX12_layWays_88 : decode cX12_layWays 88 = .ok (.aload_n 0, 1) := by decide +kernel
theorem dX12_layWays_89 : decode cX12_layWays 89 = .ok (.getfield 51, 3) := by decide +kernel
theorem dX12_layWays_92 : decode cX12_layWays 92 = .ok (.iload 8, 2) := by decide +kernel
theorem dX12_layWays_94 : decode cX12_layWays 94 = .ok (.laload, 1) := by decide +kernel
theorem dX12_layWays_95 : decode cX12_layWays 95 = .ok (.bipush 10, 2) := by decide +kernel
theorem dX12_layWays_97 : decode cX12_layWays 97 = .ok (.iload 7, 2) := by decide +kernel
theorem dX12_layWays_99 : decode cX12_layWays 99 = .ok (.isub, 1) := by decide +kernel
theorem dX12_layWays_100 : decode cX12_layWays 100 = .ok (.i2l, 1) := by decide +kernel
theorem dX12_layWays_101 : decode cX12_layWays 101 = .ok (.lmul, 1) := by decide +kernel
theorem dX12_layWays_102 : decode cX12_layWays 102 = .ok (.iload 8, 2) := by decide +kernel
theorem dX12_layWays_104 : decode cX12_layWays 104 = .ok (.ifCond .ne 7, 3) := by decide +kernel
theorem dX12_layWays_107 : decode cX12_layWays 107 = .ok (.lconst 0, 1) := by decide +kernel
theorem dX12_layWays_108 : decode cX12_layWays 108 = .ok (.goto 16, 3) := by decide +kernel
theorem dX12_layWays_111 : decode cX12_layWays 111 = .ok (.aload_n 0, 1) := by decide +kernel
theorem dX12_layWays_112 : decode cX12_layWays 112 = .ok (.getfield 51, 3) := by decide +kernel
theorem dX12_layWays_115 : decode cX12_layWays 115 = .ok (.iload 8, 2) := by decide +kernel
theorem dX12_layWays_117 : decode cX12_layWays 117 = .ok (.iconst 1, 1) := by decide +kernel
theorem dX12_layWays_118 : decode cX12_layWays 118 = .ok (.isub, 1) := by decide +kernel
theorem dX12_layWays_119 : decode cX12_layWays 119 = .ok (.laload, 1) := by decide +kernel
theorem dX12_layWays_120 : decode cX12_layWays 120 = .ok (.iload 7, 2) := by decide +kernel
theorem dX12_layWays_122 : decode cX12_layWays 122 = .ok (.i2l, 1) := by decide +kernel
theorem dX12_layWays_123 : decode cX12_layWays 123 = .ok (.lmul, 1) := by decide +kernel
theorem dX12_layWays_124 : decode cX12_layWays 124 = .ok (.ladd, 1) := by decide +kernel
theorem dX12_layWays_125 : decode cX12_layWays 125 = .ok (.lastore, 1) := by decide +kernel
theorem dX12_layWays_126 : decode cX12_layWays 126 = .ok (.iinc 8 (-1), 3) := by decide +kernel
theorem dX12_layWays_129 : decode cX12_layWays 129 = .ok (.goto (-52), 3) := by decide +kernel
theorem dX12_layWays_132 : decode cX12_layWays 132 = .ok (.iinc 6 1, 3) := by decide +kernel
theorem dX12_layWays_135 : decode cX12_layWays 135 = .ok (.goto (-99), 3) := by decide +kernel
theorem dX12_layWays_138 : decode cX12_layWays 138 = .ok (.return_, 1) := by decide +kernel
theorem dX12_shuts_0 : decode cX12_shuts 0 = .ok (.aload_n 0, 1) := by decide +kernel
theorem dX12_shuts_1 : decode cX12_shuts 1 = .ok (.getfield 25, 3) := by decide +kernel
theorem dX12_shuts_4 : decode cX12_shuts 4 = .ok (.iload_n 1, 1) := by decide +kernel
theorem dX12_shuts_5 : decode cX12_shuts 5 = .ok (.iaload, 1) := by decide +kernel
theorem dX12_shuts_6 : decode cX12_shuts 6 = .ok (.ifCond .le 21, 3) := by decide +kernel
theorem dX12_shuts_9 : decode cX12_shuts 9 = .ok (.iload_n 2, 1) := by decide +kernel
theorem dX12_shuts_10 : decode cX12_shuts 10 = .ok (.aload_n 0, 1) := by decide +kernel
theorem dX12_shuts_11 : decode cX12_shuts 11 = .ok (.getfield 25, 3) := by decide +kernel
theorem dX12_shuts_14 : decode cX12_shuts 14 = .ok (.iload_n 1, 1) := by decide +kernel
theorem dX12_shuts_15 : decode cX12_shuts 15 = .ok (.iaload, 1) := by decide +kernel
theorem dX12_shuts_16 : decode cX12_shuts 16 = .ok (.if_icmp .lt 7, 3) := by decide +kernel
theorem dX12_shuts_19 : decode cX12_shuts 19 = .ok (.iconst 1, 1) := by decide +kernel
theorem dX12_shuts_20 : decode cX12_shuts 20 = .ok (.goto 24, 3) := by decide +kernel
theorem dX12_shuts_23 : decode cX12_shuts 23 = .ok (.iconst 0, 1) := by decide +kernel
theorem dX12_shuts_24 : decode cX12_shuts 24 = .ok (.goto 20, 3) := by decide +kernel
theorem dX12_shuts_27 : decode cX12_shuts 27 = .ok (.aload_n 0, 1) := by decide +kernel
theorem dX12_shuts_28 : decode cX12_shuts 28 = .ok (.getfield 28, 3) := by decide +kernel
theorem dX12_shuts_31 : decode cX12_shuts 31 = .ok (.iload_n 1, 1) := by decide +kernel
theorem dX12_shuts_32 : decode cX12_shuts 32 = .ok (.iaload, 1) := by decide +kernel
theorem dX12_shuts_33 : decode cX12_shuts 33 = .ok (.iload_n 2, 1) := by decide +kernel
theorem dX12_shuts_34 : decode cX12_shuts 34 = .ok (.imul, 1) := by decide +kernel
theorem dX12_shuts_35 : decode cX12_shuts 35 = .ok (.iload_n 3, 1) := by decide +kernel
theorem dX12_shuts_36 : decode cX12_shuts 36 = .ok (.if_icmp .lt 7, 3) := by decide +kernel
theorem dX12_shuts_39 : decode cX12_shuts 39 = .ok (.iconst 1, 1) := by decide +kernel
theorem dX12_shuts_40 : decode cX12_shuts 40 = .ok (.goto 4, 3) := by decide +kernel
theorem dX12_shuts_43 : decode cX12_shuts 43 = .ok (.iconst 0, 1) := by decide +kernel
theorem dX12_shuts_44 : decode cX12_shuts 44 = .ok (.ireturn, 1) := by decide +kernel
theorem dX12_shutBy_0 : decode cX12_shutBy 0 = .ok (.aload_n 0, 1) := by decide +kernel
theorem dX12_shutBy_1 : decode cX12_shutBy 1 = .ok (.iload_n 1, 1) := by decide +kernel
theorem dX12_shutBy_2 : decode cX12_shutBy 2 = .ok (.iload_n 2, 1) := by decide +kernel
theorem dX12_shutBy_3 : decode cX12_shutBy 3 = .ok (.iload_n 3, 1) := by decide +kernel
theorem dX12_shutBy_4 : decode cX12_shutBy 4 = .ok (.iload 4, 2) := by decide +kernel
theorem dX12_shutBy_6 : decode cX12_shutBy 6 = .ok (.iconst (-1), 1) := by decide +kernel
theorem dX12_shutBy_7 : decode cX12_shutBy 7 = .ok (.invokevirtual 157, 3) := by decide +kernel
theorem dX12_shutBy_10 : decode cX12_shutBy 10 = .ok (.lconst 0, 1) := by decide +kernel
theorem dX12_shutBy_11 : decode cX12_shutBy 11 = .ok (.lstore 5, 2) := by decide +kernel
theorem dX12_shutBy_13 : decode cX12_shutBy 13 = .ok (.iconst 0, 1) := by decide +kernel
theorem dX12_shutBy_14 : decode cX12_shutBy 14 = .ok (.istore 7, 2) := by decide +kernel
theorem dX12_shutBy_16 : decode cX12_shutBy 16 = .ok (.iload 7, 2) := by decide +kernel
theorem dX12_shutBy_18 : decode cX12_shutBy 18 = .ok (.bipush 9, 2) := by decide +kernel
theorem dX12_shutBy_20 : decode cX12_shutBy 20 = .ok (.if_icmp .ge 39, 3) := by decide +kernel
theorem dX12_shutBy_23 : decode cX12_shutBy 23 = .ok (.lload 5, 2) := by decide +kernel
theorem dX12_shutBy_25 : decode cX12_shutBy 25 = .ok (.aload_n 0, 1) := by decide +kernel
theorem dX12_shutBy_26 : decode cX12_shutBy 26 = .ok (.iload_n 1, 1) := by decide +kernel
theorem dX12_shutBy_27 : decode cX12_shutBy 27 = .ok (.iload 7, 2) := by decide +kernel
theorem dX12_shutBy_29 : decode cX12_shutBy 29 = .ok (.iload_n 3, 1) := by decide +kernel
theorem dX12_shutBy_30 : decode cX12_shutBy 30 = .ok (.invokestatic 150, 3) := by decide +kernel
theorem dX12_shutBy_33 : decode cX12_shutBy 33 = .ok (.invokevirtual 161, 3) := by decide +kernel
theorem dX12_shutBy_36 : decode cX12_shutBy 36 = .ok (.ifCond .eq 13, 3) := by decide +kernel
theorem dX12_shutBy_39 : decode cX12_shutBy 39 = .ok (.aload_n 0, 1) := by decide +kernel
theorem dX12_shutBy_40 : decode cX12_shutBy 40 = .ok (.getfield 51, 3) := by decide +kernel
theorem dX12_shutBy_43 : decode cX12_shutBy 43 = .ok (.iload 7, 2) := by decide +kernel
theorem dX12_shutBy_45 : decode cX12_shutBy 45 = .ok (.laload, 1) := by decide +kernel
theorem dX12_shutBy_46 : decode cX12_shutBy 46 = .ok (.goto 4, 3) := by decide +kernel
theorem dX12_shutBy_49 : decode cX12_shutBy 49 = .ok (.lconst 0, 1) := by decide +kernel
theorem dX12_shutBy_50 : decode cX12_shutBy 50 = .ok (.ladd, 1) := by decide +kernel
theorem dX12_shutBy_51 : decode cX12_shutBy 51 = .ok (.lstore 5, 2) := by decide +kernel
theorem dX12_shutBy_53 : decode cX12_shutBy 53 = .ok (.iinc 7 1, 3) := by decide +kernel
theorem dX12_shutBy_56 : decode cX12_shutBy 56 = .ok (.goto (-40), 3) := by decide +kernel
theorem dX12_shutBy_59 : decode cX12_shutBy 59 = .ok (.lload 5, 2) := by decide +kernel
theorem dX12_shutBy_61 : decode cX12_shutBy 61 = .ok (.lreturn, 1) := by decide +kernel
theorem dX12_inBy_0 : decode cX12_inBy 0 = .ok (.iload_n 3, 1) := by decide +kernel
theorem dX12_inBy_1 : decode cX12_inBy 1 = .ok (.invokestatic 150, 3) := by decide +kernel
theorem dX12_inBy_4 : decode cX12_inBy 4 = .ok (.istore 4, 2) := by decide +kernel
theorem dX12_inBy_6 : decode cX12_inBy 6 = .ok (.iload 4, 2) := by decide +kernel
theorem dX12_inBy_8 : decode cX12_inBy 8 = .ok (.ifCond .eq 14, 3) := by decide +kernel
theorem dX12_inBy_11 : decode cX12_inBy 11 = .ok (.iload 4, 2) := by decide +kernel
theorem dX12_inBy_13 : decode cX12_inBy 13 = .ok (.aload_n 0, 1) := by decide +kernel
theorem dX12_inBy_14 : decode cX12_inBy 14 = .ok (.getfield 31, 3) := by decide +kernel
theorem dX12_inBy_17 : decode cX12_inBy 17 = .ok (.iload_n 1, 1) := by decide +kernel
theorem dX12_inBy_18 : decode cX12_inBy 18 = .ok (.iaload, 1) := by decide +kernel
theorem dX12_inBy_19 : decode cX12_inBy 19 = .ok (.if_icmp .ge 5, 3) := by decide +kernel
theorem dX12_inBy_22 : decode cX12_inBy 22 = .ok (.lconst 0, 1) := by decide +kernel
theorem dX12_inBy_23 : decode cX12_inBy 23 = .ok (.lreturn, 1) := by decide +kernel
theorem dX12_inBy_24 : decode cX12_inBy 24 = .ok (.aload_n 0, 1) := by decide +kernel
theorem dX12_inBy_25 : decode cX12_inBy 25 = .ok (.iload_n 1, 1) := by decide +kernel
theorem dX12_inBy_26 : decode cX12_inBy 26 = .ok (.iload_n 2, 1) := by decide +kernel
theorem dX12_inBy_27 : decode cX12_inBy 27 = .ok (.iload_n 3, 1) := by decide +kernel
theorem dX12_inBy_28 : decode cX12_inBy 28 = .ok (.iload 4, 2) := by decide +kernel
theorem dX12_inBy_30 : decode cX12_inBy 30 = .ok (.invokevirtual 164, 3) := by decide +kernel
theorem dX12_inBy_33 : decode cX12_inBy 33 = .ok (.lstore 5, 2) := by decide +kernel
theorem dX12_inBy_35 : decode cX12_inBy 35 = .ok (.aload_n 0, 1) := by decide +kernel
theorem dX12_inBy_36 : decode cX12_inBy 36 = .ok (.getfield 34, 3) := by decide +kernel
theorem dX12_inBy_39 : decode cX12_inBy 39 = .ok (.iload_n 1, 1) := by decide +kernel
theorem dX12_inBy_40 : decode cX12_inBy 40 = .ok (.baload, 1) := by decide +kernel
theorem dX12_inBy_41 : decode cX12_inBy 41 = .ok (.ifCond .eq 19, 3) := by decide +kernel
theorem dX12_inBy_44 : decode cX12_inBy 44 = .ok (.iconst 2, 1) := by decide +kernel
theorem dX12_inBy_45 : decode cX12_inBy 45 = .ok (.iload 4, 2) := by decide +kernel
theorem dX12_inBy_47 : decode cX12_inBy 47 = .ok (.imul, 1) := by decide +kernel
theorem dX12_inBy_48 : decode cX12_inBy 48 = .ok (.invokestatic 168, 3) := by decide +kernel
theorem dX12_inBy_51 : decode cX12_inBy 51 = .ok (.lload 5, 2) := by decide +kernel
theorem dX12_inBy_53 : decode cX12_inBy 53 = .ok (.lload 5, 2) := by decide +kernel
theorem dX12_inBy_55 : decode cX12_inBy 55 = .ok (.lmul, 1) := by decide +kernel
theorem dX12_inBy_56 : decode cX12_inBy 56 = .ok (.lsub, 1) := by decide +kernel
theorem dX12_inBy_57 : decode cX12_inBy 57 = .ok (.goto 17, 3) := by decide +kernel
theorem dX12_inBy_60 : decode cX12_inBy 60 = .ok (.iload 4, 2) := by decide +kernel
theorem dX12_inBy_62 : decode cX12_inBy 62 = .ok (.invokestatic 168, 3) := by decide +kernel
theorem dX12_inBy_65 : decode cX12_inBy 65 = .ok (.lload 5, 2) := by decide +kernel
theorem dX12_inBy_67 : decode cX12_inBy 67 = .ok (.lsub, 1) := by decide +kernel
theorem dX12_inBy_68 : decode cX12_inBy 68 = .ok (.iload 4, 2) := by decide +kernel
theorem dX12_inBy_70 : decode cX12_inBy 70 = .ok (.invokestatic 168, 3) := by decide +kernel
theorem dX12_inBy_73 : decode cX12_inBy 73 = .ok (.lmul, 1) := by decide +kernel
theorem dX12_inBy_74 : decode cX12_inBy 74 = .ok (.lreturn, 1) := by decide +kernel
theorem dX12_areThere_0 : decode cX12_areThere 0 = .ok (.aload_n 0, 1) := by decide +kernel
end
section
theorem dX12_areThere_1 : decode cX12_areThere 1 = .ok (.iload_n 1, 1) := by decide +kernel
theorem dX12_areThere_2 : decode cX12_areThere 2 = .ok (.invokevirtual 113, 3) := by decide +kernel
theorem dX12_areThere_5 : decode cX12_areThere 5 = .ok (.ifCond .eq 15, 3) := by decide +kernel
theorem dX12_areThere_8 : decode cX12_areThere 8 = .ok (.aload_n 0, 1) := by decide +kernel
theorem dX12_areThere_9 : decode cX12_areThere 9 = .ok (.iload_n 2, 1) := by decide +kernel
theorem dX12_areThere_10 : decode cX12_areThere 10 = .ok (.invokevirtual 131, 3) := by decide +kernel
theorem dX12_areThere_13 : decode cX12_areThere 13 = .ok (.ifCond .eq 7, 3) := by decide +kernel
theorem dX12_areThere_16 : decode cX12_areThere 16 = .ok (.iconst 1, 1) := by decide +kernel
theorem dX12_areThere_17 : decode cX12_areThere 17 = .ok (.goto 4, 3) := by decide +kernel
theorem dX12_areThere_20 : decode cX12_areThere 20 = .ok (.iconst 0, 1) := by decide +kernel
theorem dX12_areThere_21 : decode cX12_areThere 21 = .ok (.ireturn, 1) := by decide +kernel
theorem dX12_balls_0 : decode cX12_balls 0 = .ok (.aload_n 0, 1) := by decide +kernel
theorem dX12_balls_1 : decode cX12_balls 1 = .ok (.iload_n 1, 1) := by decide +kernel
theorem dX12_balls_2 : decode cX12_balls 2 = .ok (.iload_n 2, 1) := by decide +kernel
theorem dX12_balls_3 : decode cX12_balls 3 = .ok (.invokevirtual 172, 3) := by decide +kernel
theorem dX12_balls_6 : decode cX12_balls 6 = .ok (.ifCond .ne 6, 3) := by decide +kernel
theorem dX12_balls_9 : decode cX12_balls 9 = .ok (.bipush (-101), 2) := by decide +kernel
theorem dX12_balls_11 : decode cX12_balls 11 = .ok (.ireturn, 1) := by decide +kernel
theorem dX12_balls_12 : decode cX12_balls 12 = .ok (.aload_n 0, 1) := by decide +kernel
theorem dX12_balls_13 : decode cX12_balls 13 = .ok (.iload_n 3, 1) := by decide +kernel
theorem dX12_balls_14 : decode cX12_balls 14 = .ok (.invokevirtual 143, 3) := by decide +kernel
theorem dX12_balls_17 : decode cX12_balls 17 = .ok (.ifCond .eq 22, 3) := by decide +kernel
theorem dX12_balls_20 : decode cX12_balls 20 = .ok (.iload 4, 2) := by decide +kernel
theorem dX12_balls_22 : decode cX12_balls 22 = .ok (.iconst 0, 1) := by decide +kernel
theorem dX12_balls_23 : decode cX12_balls 23 = .ok (.bipush 8, 2) := by decide +kernel
theorem dX12_balls_25 : decode cX12_balls 25 = .ok (.invokestatic 61, 3) := by decide +kernel
theorem dX12_balls_28 : decode cX12_balls 28 = .ok (.ifCond .eq 11, 3) := by decide +kernel
theorem dX12_balls_31 : decode cX12_balls 31 = .ok (.iload 5, 2) := by decide +kernel
theorem dX12_balls_33 : decode cX12_balls 33 = .ok (.invokestatic 175, 3) := by decide +kernel
theorem dX12_balls_36 : decode cX12_balls 36 = .ok (.ifCond .ne 6, 3) := by decide +kernel
theorem dX12_balls_39 : decode cX12_balls 39 = .ok (.bipush (-102), 2) := by decide +kernel
theorem dX12_balls_41 : decode cX12_balls 41 = .ok (.ireturn, 1) := by decide +kernel
theorem dX12_balls_42 : decode cX12_balls 42 = .ok (.aload_n 0, 1) := by decide +kernel
theorem dX12_balls_43 : decode cX12_balls 43 = .ok (.iload_n 1, 1) := by decide +kernel
theorem dX12_balls_44 : decode cX12_balls 44 = .ok (.iload_n 2, 1) := by decide +kernel
theorem dX12_balls_45 : decode cX12_balls 45 = .ok (.iload_n 3, 1) := by decide +kernel
theorem dX12_balls_46 : decode cX12_balls 46 = .ok (.iload_n 3, 1) := by decide +kernel
theorem dX12_balls_47 : decode cX12_balls 47 = .ok (.invokestatic 150, 3) := by decide +kernel
theorem dX12_balls_50 : decode cX12_balls 50 = .ok (.iconst (-1), 1) := by decide +kernel
theorem dX12_balls_51 : decode cX12_balls 51 = .ok (.invokevirtual 157, 3) := by decide +kernel
theorem dX12_balls_54 : decode cX12_balls 54 = .ok (.aload_n 0, 1) := by decide +kernel
theorem dX12_balls_55 : decode cX12_balls 55 = .ok (.getfield 51, 3) := by decide +kernel
theorem dX12_balls_58 : decode cX12_balls 58 = .ok (.iload 4, 2) := by decide +kernel
theorem dX12_balls_60 : decode cX12_balls 60 = .ok (.laload, 1) := by decide +kernel
theorem dX12_balls_61 : decode cX12_balls 61 = .ok (.iload_n 3, 1) := by decide +kernel
theorem dX12_balls_62 : decode cX12_balls 62 = .ok (.invokestatic 150, 3) := by decide +kernel
theorem dX12_balls_65 : decode cX12_balls 65 = .ok (.invokestatic 168, 3) := by decide +kernel
theorem dX12_balls_68 : decode cX12_balls 68 = .ok (.iload 5, 2) := by decide +kernel
theorem dX12_balls_70 : decode cX12_balls 70 = .ok (.invokestatic 178, 3) := by decide +kernel
theorem dX12_balls_73 : decode cX12_balls 73 = .ok (.l2i, 1) := by decide +kernel
theorem dX12_balls_74 : decode cX12_balls 74 = .ok (.ireturn, 1) := by decide +kernel
theorem dX12_in_0 : decode cX12_in 0 = .ok (.aload_n 0, 1) := by decide +kernel
theorem dX12_in_1 : decode cX12_in 1 = .ok (.iload_n 1, 1) := by decide +kernel
theorem dX12_in_2 : decode cX12_in 2 = .ok (.iload_n 2, 1) := by decide +kernel
theorem dX12_in_3 : decode cX12_in 3 = .ok (.invokevirtual 172, 3) := by decide +kernel
theorem dX12_in_6 : decode cX12_in 6 = .ok (.ifCond .ne 7, 3) := by decide +kernel
theorem dX12_in_9 : decode cX12_in 9 = .ok (.ldc2_w 182, 3) := by decide +kernel
theorem dX12_in_12 : decode cX12_in 12 = .ok (.lreturn, 1) := by decide +kernel
theorem dX12_in_13 : decode cX12_in 13 = .ok (.aload_n 0, 1) := by decide +kernel
theorem dX12_in_14 : decode cX12_in 14 = .ok (.iload_n 3, 1) := by decide +kernel
theorem dX12_in_15 : decode cX12_in 15 = .ok (.invokevirtual 143, 3) := by decide +kernel
theorem dX12_in_18 : decode cX12_in 18 = .ok (.ifCond .eq 11, 3) := by decide +kernel
theorem dX12_in_21 : decode cX12_in 21 = .ok (.iload 4, 2) := by decide +kernel
theorem dX12_in_23 : decode cX12_in 23 = .ok (.invokestatic 175, 3) := by decide +kernel
theorem dX12_in_26 : decode cX12_in 26 = .ok (.ifCond .ne 7, 3) := by decide +kernel
theorem dX12_in_29 : decode cX12_in 29 = .ok (.ldc2_w 184, 3) := by decide +kernel
theorem dX12_in_32 : decode cX12_in 32 = .ok (.lreturn, 1) := by decide +kernel
theorem dX12_in_33 : decode cX12_in 33 = .ok (.aload_n 0, 1) := by decide +kernel
theorem dX12_in_34 : decode cX12_in 34 = .ok (.iload_n 1, 1) := by decide +kernel
theorem dX12_in_35 : decode cX12_in 35 = .ok (.iload_n 2, 1) := by decide +kernel
theorem dX12_in_36 : decode cX12_in 36 = .ok (.iload_n 3, 1) := by decide +kernel
theorem dX12_in_37 : decode cX12_in 37 = .ok (.invokevirtual 186, 3) := by decide +kernel
theorem dX12_in_40 : decode cX12_in 40 = .ok (.iconst 2, 1) := by decide +kernel
theorem dX12_in_41 : decode cX12_in 41 = .ok (.iload_n 3, 1) := by decide +kernel
theorem dX12_in_42 : decode cX12_in 42 = .ok (.invokestatic 150, 3) := by decide +kernel
theorem dX12_in_45 : decode cX12_in 45 = .ok (.imul, 1) := by decide +kernel
theorem dX12_in_46 : decode cX12_in 46 = .ok (.invokestatic 168, 3) := by decide +kernel
theorem dX12_in_49 : decode cX12_in 49 = .ok (.iload 4, 2) := by decide +kernel
theorem dX12_in_51 : decode cX12_in 51 = .ok (.invokestatic 178, 3) := by decide +kernel
theorem dX12_in_54 : decode cX12_in 54 = .ok (.lreturn, 1) := by decide +kernel
theorem dX12_comesBy_0 : decode cX12_comesBy 0 = .ok (.lconst 1, 1) := by decide +kernel
theorem dX12_comesBy_1 : decode cX12_comesBy 1 = .ok (.lstore_n 2, 1) := by decide +kernel
theorem dX12_comesBy_2 : decode cX12_comesBy 2 = .ok (.iconst 0, 1) := by decide +kernel
theorem dX12_comesBy_3 : decode cX12_comesBy 3 = .ok (.istore 4, 2) := by decide +kernel
theorem dX12_comesBy_5 : decode cX12_comesBy 5 = .ok (.iload 4, 2) := by decide +kernel
theorem dX12_comesBy_7 : decode cX12_comesBy 7 = .ok (.aload_n 0, 1) := by decide +kernel
theorem dX12_comesBy_8 : decode cX12_comesBy 8 = .ok (.getfield 119, 3) := by decide +kernel
theorem dX12_comesBy_11 : decode cX12_comesBy 11 = .ok (.if_icmp .ge 43, 3) := by decide +kernel
theorem dX12_comesBy_14 : decode cX12_comesBy 14 = .ok (.lload_n 2, 1) := by decide +kernel
theorem dX12_comesBy_15 : decode cX12_comesBy 15 = .ok (.iload_n 1, 1) := by decide +kernel
theorem dX12_comesBy_16 : decode cX12_comesBy 16 = .ok (.iload 4, 2) := by decide +kernel
theorem dX12_comesBy_18 : decode cX12_comesBy 18 = .ok (.invokestatic 146, 3) := by decide +kernel
theorem dX12_comesBy_21 : decode cX12_comesBy 21 = .ok (.ifCond .eq 14, 3) := by decide +kernel
theorem dX12_comesBy_24 : decode cX12_comesBy 24 = .ok (.aload_n 0, 1) := by decide +kernel
theorem dX12_comesBy_25 : decode cX12_comesBy 25 = .ok (.getfield 16, 3) := by decide +kernel
theorem dX12_comesBy_28 : decode cX12_comesBy 28 = .ok (.iload 4, 2) := by decide +kernel
theorem dX12_comesBy_30 : decode cX12_comesBy 30 = .ok (.iaload, 1) := by decide +kernel
theorem dX12_comesBy_31 : decode cX12_comesBy 31 = .ok (.i2l, 1) := by decide +kernel
theorem dX12_comesBy_32 : decode cX12_comesBy 32 = .ok (.goto 14, 3) := by decide +kernel
theorem dX12_comesBy_35 : decode cX12_comesBy 35 = .ok (.bipush 10, 2) := by decide +kernel
theorem dX12_comesBy_37 : decode cX12_comesBy 37 = .ok (.aload_n 0, 1) := by decide +kernel
theorem dX12_comesBy_38 : decode cX12_comesBy 38 = .ok (.getfield 16, 3) := by decide +kernel
theorem dX12_comesBy_41 : decode cX12_comesBy 41 = .ok (.iload 4, 2) := by decide +kernel
theorem dX12_comesBy_43 : decode cX12_comesBy 43 = .ok (.iaload, 1) := by decide +kernel
theorem dX12_comesBy_44 : decode cX12_comesBy 44 = .ok (.isub, 1) := by decide +kernel
theorem dX12_comesBy_45 : decode cX12_comesBy 45 = .ok (.i2l, 1) := by decide +kernel
theorem dX12_comesBy_46 : decode cX12_comesBy 46 = .ok (.lmul, 1) := by decide +kernel
theorem dX12_comesBy_47 : decode cX12_comesBy 47 = .ok (.lstore_n 2, 1) := by decide +kernel
theorem dX12_comesBy_48 : decode cX12_comesBy 48 = .ok (.iinc 4 1, 3) := by decide +kernel
theorem dX12_comesBy_51 : decode cX12_comesBy 51 = .ok (.goto (-46), 3) := by decide +kernel
theorem dX12_comesBy_54 : decode cX12_comesBy 54 = .ok (.lload_n 2, 1) := by decide +kernel
theorem dX12_comesBy_55 : decode cX12_comesBy 55 = .ok (.lreturn, 1) := by decide +kernel
theorem dX12_large_0 : decode cX12_large 0 = .ok (.aload_n 0, 1) := by decide +kernel
theorem dX12_large_1 : decode cX12_large 1 = .ok (.iload_n 1, 1) := by decide +kernel
theorem dX12_large_2 : decode cX12_large 2 = .ok (.iload_n 2, 1) := by decide +kernel
theorem dX12_large_3 : decode cX12_large 3 = .ok (.invokevirtual 172, 3) := by decide +kernel
theorem dX12_large_6 : decode cX12_large 6 = .ok (.ifCond .ne 7, 3) := by decide +kernel
theorem dX12_large_9 : decode cX12_large 9 = .ok (.ldc2_w 182, 3) := by decide +kernel
theorem dX12_large_12 : decode cX12_large 12 = .ok (.lreturn, 1) := by decide +kernel
theorem dX12_large_13 : decode cX12_large 13 = .ok (.iload_n 3, 1) := by decide +kernel
theorem dX12_large_14 : decode cX12_large 14 = .ok (.invokestatic 175, 3) := by decide +kernel
theorem dX12_large_17 : decode cX12_large 17 = .ok (.ifCond .ne 7, 3) := by decide +kernel
theorem dX12_large_20 : decode cX12_large 20 = .ok (.ldc2_w 184, 3) := by decide +kernel
theorem dX12_large_23 : decode cX12_large 23 = .ok (.lreturn, 1) := by decide +kernel
theorem dX12_large_24 : decode cX12_large 24 = .ok (.aload_n 0, 1) := by decide +kernel
theorem dX12_large_25 : decode cX12_large 25 = .ok (.getfield 34, 3) := by decide +kernel
theorem dX12_large_28 : decode cX12_large 28 = .ok (.iload_n 1, 1) := by decide +kernel
theorem dX12_large_29 : decode cX12_large 29 = .ok (.baload, 1) := by decide +kernel
theorem dX12_large_30 : decode cX12_large 30 = .ok (.ifCond .ne 10, 3) := by decide +kernel
theorem dX12_large_33 : decode cX12_large 33 = .ok (.aload_n 0, 1) := by decide +kernel
theorem dX12_large_34 : decode cX12_large 34 = .ok (.getfield 119, 3) := by decide +kernel
theorem dX12_large_37 : decode cX12_large 37 = .ok (.ifCond .ne 7, 3) := by decide +kernel
theorem dX12_large_40 : decode cX12_large 40 = .ok (.ldc2_w 190, 3) := by decide +kernel
theorem dX12_large_43 : decode cX12_large 43 = .ok (.lreturn, 1) := by decide +kernel
theorem dX12_large_44 : decode cX12_large 44 = .ok (.lconst 0, 1) := by decide +kernel
theorem dX12_large_45 : decode cX12_large 45 = .ok (.lstore 4, 2) := by decide +kernel
theorem dX12_large_47 : decode cX12_large 47 = .ok (.iconst 1, 1) := by decide +kernel
theorem dX12_large_48 : decode cX12_large 48 = .ok (.istore 6, 2) := by decide +kernel
theorem dX12_large_50 : decode cX12_large 50 = .ok (.iload 6, 2) := by decide +kernel
theorem dX12_large_52 : decode cX12_large 52 = .ok (.iconst 1, 1) := by decide +kernel
theorem dX12_large_53 : decode cX12_large 53 = .ok (.aload_n 0, 1) := by decide +kernel
theorem dX12_large_54 : decode cX12_large 54 = .ok (.getfield 119, 3) := by decide +kernel
theorem dX12_large_57 : decode cX12_large 57 = .ok (.ishl, 1) := by decide +kernel
theorem dX12_large_58 : decode cX12_large 58 = .ok (.if_icmp .ge 72, 3) := by decide +kernel
theorem dX12_large_61 : decode cX12_large 61 = .ok (.iload 6, 2) := by decide +kernel
theorem dX12_large_63 : decode cX12_large 63 = .ok (.invokestatic 150, 3) := by decide +kernel
theorem dX12_large_66 : decode cX12_large 66 = .ok (.istore 7, 2) := by decide +kernel
theorem dX12_large_68 : decode cX12_large 68 = .ok (.iload 7, 2) := by decide +kernel
theorem dX12_large_70 : decode cX12_large 70 = .ok (.aload_n 0, 1) := by decide +kernel
theorem dX12_large_71 : decode cX12_large 71 = .ok (.getfield 31, 3) := by decide +kernel
theorem dX12_large_74 : decode cX12_large 74 = .ok (.iload_n 1, 1) := by decide +kernel
theorem dX12_large_75 : decode cX12_large 75 = .ok (.iaload, 1) := by decide +kernel
theorem dX12_large_76 : decode cX12_large 76 = .ok (.if_icmp .lt 48, 3) := by decide +kernel
theorem dX12_large_79 : decode cX12_large 79 = .ok (.iload 7, 2) := by decide +kernel
theorem dX12_large_81 : decode cX12_large 81 = .ok (.invokestatic 168, 3) := by decide +kernel
theorem dX12_large_84 : decode cX12_large 84 = .ok (.aload_n 0, 1) := by decide +kernel
theorem dX12_large_85 : decode cX12_large 85 = .ok (.iload_n 1, 1) := by decide +kernel
theorem dX12_large_86 : decode cX12_large 86 = .ok (.iload_n 2, 1) := by decide +kernel
theorem dX12_large_87 : decode cX12_large 87 = .ok (.iload 6, 2) := by decide +kernel
theorem dX12_large_89 : decode cX12_large 89 = .ok (.aload_n 0, 1) := by decide +kernel
theorem dX12_large_90 : decode cX12_large 90 = .ok (.getfield 119, 3) := by decide +kernel
theorem dX12_large_93 : decode cX12_large 93 = .ok (.invokevirtual 164, 3) := by decide +kernel
theorem dX12_large_96 : decode cX12_large 96 = .ok (.lsub, 1) := by decide +kernel
theorem dX12_large_97 : decode cX12_large 97 = .ok (.lstore 8, 2) := by decide +kernel
theorem dX12_large_99 : decode cX12_large 99 = .ok (.lload 4, 2) := by decide +kernel
theorem dX12_large_101 : decode cX12_large 101 = .ok (.aload_n 0, 1) := by decide +kernel
theorem dX12_large_102 : decode cX12_large 102 = .ok (.iload 6, 2) := by decide +kernel
theorem dX12_large_104 : decode cX12_large 104 = .ok (.invokevirtual 192, 3) := by decide +kernel
theorem dX12_large_107 : decode cX12_large 107 = .ok (.lload 8, 2) := by decide +kernel
theorem dX12_large_109 : decode cX12_large 109 = .ok (.lmul, 1) := by decide +kernel
theorem dX12_large_110 : decode cX12_large 110 = .ok (.aload_n 0, 1) := by decide +kernel
theorem dX12_large_111 : decode cX12_large 111 = .ok (.getfield 119, 3) := by decide +kernel
theorem dX12_large_114 : decode cX12_large 114 = .ok (.iload 7, 2) := by decide +kernel
theorem dX12_large_116 : decode cX12_large 116 = .ok (.isub, 1) := by decide +kernel
theorem dX12_large_117 : decode cX12_large 117 = .ok (.invokestatic 168, 3) := by decide +kernel
theorem dX12_large_120 : decode cX12_large 120 = .ok (.lmul, 1) := by decide +kernel
theorem dX12_large_121 : decode cX12_large 121 = .ok (.ladd, 1) := by decide +kernel
theorem dX12_large_122 : decode cX12_large 122 = .ok (.lstore 4, 2) := by decide +kernel
theorem dX12_large_124 : decode cX12_large 124 = .ok (.iinc 6 1, 3) := by decide +kernel
theorem dX12_large_127 : decode cX12_large 127 = .ok (.goto (-77), 3) := by decide +kernel
theorem dX12_large_130 : decode cX12_large 130 = .ok (.lload 4, 2) := by decide +kernel
theorem dX12_large_132 : decode cX12_large 132 = .ok (.iconst 2, 1) := by decide +kernel
theorem dX12_large_133 : decode cX12_large 133 = .ok (.aload_n 0, 1) := by decide +kernel
theorem dX12_large_134 : decode cX12_large 134 = .ok (.getfield 119, 3) := by decide +kernel
theorem dX12_large_137 : decode cX12_large 137 = .ok (.imul, 1) := by decide +kernel
theorem dX12_large_138 : decode cX12_large 138 = .ok (.invokestatic 168, 3) := by decide +kernel
theorem dX12_large_141 : decode cX12_large 141 = .ok (.iload_n 3, 1) := by decide +kernel
theorem dX12_large_142 : decode cX12_large 142 = .ok (.invokestatic 178, 3) := by decide +kernel
theorem dX12_large_145 : decode cX12_large 145 = .ok (.lreturn, 1) := by decide +kernel
theorem dX12_wrongBy_0 : decode cX12_wrongBy 0 = .ok (.lconst 0, 1) := by decide +kernel
theorem dX12_wrongBy_1 : decode cX12_wrongBy 1 = .ok (.lstore_n 3, 1) := by decide +kernel
theorem dX12_wrongBy_2 : decode cX12_wrongBy 2 = .ok (.iconst 0, 1) := by decide +kernel
theorem dX12_wrongBy_3 : decode cX12_wrongBy 3 = .ok (.istore 5, 2) := by decide +kernel
theorem dX12_wrongBy_5 : decode cX12_wrongBy 5 = .ok (.iload 5, 2) := by decide +kernel
theorem dX12_wrongBy_7 : decode cX12_wrongBy 7 = .ok (.aload_n 0, 1) := by decide +kernel
theorem dX12_wrongBy_8 : decode cX12_wrongBy 8 = .ok (.getfield 122, 3) := by decide +kernel
theorem dX12_wrongBy_11 : decode cX12_wrongBy 11 = .ok (.if_icmp .ge 48, 3) := by decide +kernel
theorem dX12_wrongBy_14 : decode cX12_wrongBy 14 = .ok (.aload_n 0, 1) := by decide +kernel
theorem dX12_wrongBy_15 : decode cX12_wrongBy 15 = .ok (.iload_n 1, 1) := by decide +kernel
theorem dX12_wrongBy_16 : decode cX12_wrongBy 16 = .ok (.iload 5, 2) := by decide +kernel
theorem dX12_wrongBy_18 : decode cX12_wrongBy 18 = .ok (.iload_n 2, 1) := by decide +kernel
theorem dX12_wrongBy_19 : decode cX12_wrongBy 19 = .ok (.invokevirtual 186, 3) := by decide +kernel
theorem dX12_wrongBy_22 : decode cX12_wrongBy 22 = .ok (.lstore 6, 2) := by decide +kernel
theorem dX12_wrongBy_24 : decode cX12_wrongBy 24 = .ok (.lload_n 3, 1) := by decide +kernel
theorem dX12_wrongBy_25 : decode cX12_wrongBy 25 = .ok (.aload_n 0, 1) := by decide +kernel
theorem dX12_wrongBy_26 : decode cX12_wrongBy 26 = .ok (.iload 5, 2) := by decide +kernel
theorem dX12_wrongBy_28 : decode cX12_wrongBy 28 = .ok (.invokevirtual 137, 3) := by decide +kernel
theorem dX12_wrongBy_31 : decode cX12_wrongBy 31 = .ok (.ifCond .eq 8, 3) := by decide +kernel
theorem dX12_wrongBy_34 : decode cX12_wrongBy 34 = .ok (.lload 6, 2) := by decide +kernel
theorem dX12_wrongBy_36 : decode cX12_wrongBy 36 = .ok (.goto 15, 3) := by decide +kernel
theorem dX12_wrongBy_39 : decode cX12_wrongBy 39 = .ok (.iconst 2, 1) := by decide +kernel
theorem dX12_wrongBy_40 : decode cX12_wrongBy 40 = .ok (.iload_n 2, 1) := by decide +kernel
theorem dX12_wrongBy_41 : decode cX12_wrongBy 41 = .ok (.invokestatic 150, 3) := by decide +kernel
theorem dX12_wrongBy_44 : decode cX12_wrongBy 44 = .ok (.imul, 1) := by decide +kernel
theorem dX12_wrongBy_45 : decode cX12_wrongBy 45 = .ok (.invokestatic 168, 3) := by decide +kernel
theorem dX12_wrongBy_48 : decode cX12_wrongBy 48 = .ok (.lload 6, 2) := by decide +kernel
theorem dX12_wrongBy_50 : decode cX12_wrongBy 50 = .ok (.lsub, 1) := by decide +kernel
theorem dX12_wrongBy_51 : decode cX12_wrongBy 51 = .ok (.ladd, 1) := by decide +kernel
theorem dX12_wrongBy_52 : decode cX12_wrongBy 52 = .ok (.lstore_n 3, 1) := by decide +kernel
theorem dX12_wrongBy_53 : decode cX12_wrongBy 53 = .ok (.iinc 5 1, 3) := by decide +kernel
theorem dX12_wrongBy_56 : decode cX12_wrongBy 56 = .ok (.goto (-51), 3) := by decide +kernel
theorem dX12_wrongBy_59 : decode cX12_wrongBy 59 = .ok (.lload_n 3, 1) := by decide +kernel
theorem dX12_wrongBy_60 : decode cX12_wrongBy 60 = .ok (.lreturn, 1) := by decide +kernel
theorem dX12_wrong_0 : decode cX12_wrong 0 = .ok (.aload_n 0, 1) := by decide +kernel
theorem dX12_wrong_1 : decode cX12_wrong 1 = .ok (.iload_n 1, 1) := by decide +kernel
theorem dX12_wrong_2 : decode cX12_wrong 2 = .ok (.invokevirtual 113, 3) := by decide +kernel
theorem dX12_wrong_5 : decode cX12_wrong 5 = .ok (.ifCond .ne 7, 3) := by decide +kernel
theorem dX12_wrong_8 : decode cX12_wrong 8 = .ok (.ldc2_w 182, 3) := by decide +kernel
theorem dX12_wrong_11 : decode cX12_wrong 11 = .ok (.lreturn, 1) := by decide +kernel
theorem dX12_wrong_12 : decode cX12_wrong 12 = .ok (.aload_n 0, 1) := by decide +kernel
theorem dX12_wrong_13 : decode cX12_wrong 13 = .ok (.iload_n 2, 1) := by decide +kernel
theorem dX12_wrong_14 : decode cX12_wrong 14 = .ok (.invokevirtual 143, 3) := by decide +kernel
theorem dX12_wrong_17 : decode cX12_wrong 17 = .ok (.ifCond .eq 12, 3) := by decide +kernel
theorem dX12_wrong_20 : decode cX12_wrong 20 = .ok (.aload_n 0, 1) := by decide +kernel
theorem dX12_wrong_21 : decode cX12_wrong 21 = .ok (.iload_n 1, 1) := by decide +kernel
theorem dX12_wrong_22 : decode cX12_wrong 22 = .ok (.iload_n 2, 1) := by decide +kernel
theorem dX12_wrong_23 : decode cX12_wrong 23 = .ok (.invokevirtual 195, 3) := by decide +kernel
theorem dX12_wrong_26 : decode cX12_wrong 26 = .ok (.goto 6, 3) := by decide +kernel
theorem dX12_wrong_29 : decode cX12_wrong 29 = .ok (.ldc2_w 184, 3) := by decide +kernel
theorem dX12_wrong_32 : decode cX12_wrong 32 = .ok (.lreturn, 1) := by decide +kernel
theorem dX12_best_0 : decode cX12_best 0 = .ok (.aload_n 0, 1) := by decide +kernel
theorem dX12_best_1 : decode cX12_best 1 = .ok (.iload_n 1, 1) := by decide +kernel
theorem dX12_best_2 : decode cX12_best 2 = .ok (.invokevirtual 143, 3) := by decide +kernel
theorem dX12_best_5 : decode cX12_best 5 = .ok (.ifCond .ne 6, 3) := by decide +kernel
theorem dX12_best_8 : decode cX12_best 8 = .ok (.bipush (-102), 2) := by decide +kernel
theorem dX12_best_10 : decode cX12_best 10 = .ok (.ireturn, 1) := by decide +kernel
theorem dX12_best_11 : decode cX12_best 11 = .ok (.iconst (-1), 1) := by decide +kernel
theorem dX12_best_12 : decode cX12_best 12 = .ok (.istore_n 2, 1) := by decide +kernel
theorem dX12_best_13 : decode cX12_best 13 = .ok (.lconst 0, 1) := by decide +kernel
theorem dX12_best_14 : decode cX12_best 14 = .ok (.lstore_n 3, 1) := by decide +kernel
theorem dX12_best_15 : decode cX12_best 15 = .ok (.iconst 0, 1) := by decide +kernel
theorem dX12_best_16 : decode cX12_best 16 = .ok (.istore 5, 2) := by decide +kernel
theorem dX12_best_18 : decode cX12_best 18 = .ok (.iload 5, 2) := by decide +kernel
theorem dX12_best_20 : decode cX12_best 20 = .ok (.aload_n 0, 1) := by decide +kernel
theorem dX12_best_21 : decode cX12_best 21 = .ok (.getfield 110, 3) := by decide +kernel
theorem dX12_best_24 : decode cX12_best 24 = .ok (.if_icmp .ge 61, 3) := by decide +kernel
theorem dX12_best_27 : decode cX12_best 27 = .ok (.aload_n 0, 1) := by decide +kernel
theorem dX12_best_28 : decode cX12_best 28 = .ok (.iload 5, 2) := by decide +kernel
theorem dX12_best_30 : decode cX12_best 30 = .ok (.iload_n 1, 1) := by decide +kernel
theorem dX12_best_31 : decode cX12_best 31 = .ok (.invokevirtual 195, 3) := by decide +kernel
theorem dX12_best_34 : decode cX12_best 34 = .ok (.lstore 6, 2) := by decide +kernel
theorem dX12_best_36 : decode cX12_best 36 = .ok (.iload_n 2, 1) := by decide +kernel
theorem dX12_best_37 : decode cX12_best 37 = .ok (.iconst (-1), 1) := by decide +kernel
theorem dX12_best_38 : decode cX12_best 38 = .ok (.if_icmp .eq 10, 3) := by decide +kernel
theorem dX12_best_41 : decode cX12_best 41 = .ok (.lload 6, 2) := by decide +kernel
theorem dX12_best_43 : decode cX12_best 43 = .ok (.lload_n 3, 1) := by decide +kernel
theorem dX12_best_44 : decode cX12_best 44 = .ok (.lcmp, 1) := by decide +kernel
theorem dX12_best_45 : decode cX12_best 45 = .ok (.ifCond .ge 7, 3) := by decide +kernel
theorem dX12_best_48 : decode cX12_best 48 = .ok (.iconst 1, 1) := by decide +kernel
theorem dX12_best_49 : decode cX12_best 49 = .ok (.goto 4, 3) := by decide +kernel
theorem dX12_best_52 : decode cX12_best 52 = .ok (.iconst 0, 1) := by decide +kernel
theorem dX12_best_53 : decode cX12_best 53 = .ok (.istore 8, 2) := by decide +kernel
theorem dX12_best_55 : decode cX12_best 55 = .ok (.iload 8, 2) := by decide +kernel
theorem dX12_best_57 : decode cX12_best 57 = .ok (.ifCond .eq 8, 3) := by decide +kernel
theorem dX12_best_60 : decode cX12_best 60 = .ok (.iload 5, 2) := by decide +kernel
theorem dX12_best_62 : decode cX12_best 62 = .ok (.goto 4, 3) := by decide +kernel
theorem dX12_best_65 : decode cX12_best 65 = .ok (.iload_n 2, 1) := by decide +kernel
theorem dX12_best_66 : decode cX12_best 66 = .ok (.istore_n 2, 1) := by decide +kernel
theorem dX12_best_67 : decode cX12_best 67 = .ok (.iload 8, 2) := by decide +kernel
theorem dX12_best_69 : decode cX12_best 69 = .ok (.ifCond .eq 8, 3) := by decide +kernel
theorem dX12_best_72 : decode cX12_best 72 = .ok (.lload 6, 2) := by decide +kernel
theorem dX12_best_74 : decode cX12_best 74 = .ok (.goto 4, 3) := by decide +kernel
theorem dX12_best_77 : decode cX12_best 77 = .ok (.lload_n 3, 1) := by decide +kernel
theorem dX12_best_78 : decode cX12_best 78 = .ok (.lstore_n 3, 1) := by decide +kernel
theorem dX12_best_79 : decode cX12_best 79 = .ok (.iinc 5 1, 3) := by decide +kernel
theorem dX12_best_82 : decode cX12_best 82 = .ok (.goto (-64), 3) := by decide +kernel
theorem dX12_best_85 : decode cX12_best 85 = .ok (.iload_n 2, 1) := by decide +kernel
theorem dX12_best_86 : decode cX12_best 86 = .ok (.ireturn, 1) := by decide +kernel
theorem dX12_isAsked_0 : decode cX12_isAsked 0 = .ok (.aload_n 0, 1) := by decide +kernel
theorem dX12_isAsked_1 : decode cX12_isAsked 1 = .ok (.iload_n 1, 1) := by decide +kernel
theorem dX12_isAsked_2 : decode cX12_isAsked 2 = .ok (.invokevirtual 143, 3) := by decide +kernel
theorem dX12_isAsked_5 : decode cX12_isAsked 5 = .ok (.ifCond .eq 22, 3) := by decide +kernel
theorem dX12_isAsked_8 : decode cX12_isAsked 8 = .ok (.iload_n 1, 1) := by decide +kernel
theorem dX12_isAsked_9 : decode cX12_isAsked 9 = .ok (.iload_n 2, 1) := by decide +kernel
theorem dX12_isAsked_10 : decode cX12_isAsked 10 = .ok (.invokestatic 146, 3) := by decide +kernel
theorem dX12_isAsked_13 : decode cX12_isAsked 13 = .ok (.ifCond .eq 14, 3) := by decide +kernel
theorem dX12_isAsked_16 : decode cX12_isAsked 16 = .ok (.iload_n 3, 1) := by decide +kernel
theorem dX12_isAsked_17 : decode cX12_isAsked 17 = .ok (.invokestatic 175, 3) := by decide +kernel
theorem dX12_isAsked_20 : decode cX12_isAsked 20 = .ok (.ifCond .eq 7, 3) := by decide +kernel
theorem dX12_isAsked_23 : decode cX12_isAsked 23 = .ok (.iconst 1, 1) := by decide +kernel
theorem dX12_isAsked_24 : decode cX12_isAsked 24 = .ok (.goto 4, 3) := by decide +kernel
theorem dX12_isAsked_27 : decode cX12_isAsked 27 = .ok (.iconst 0, 1) := by decide +kernel
theorem dX12_isAsked_28 : decode cX12_isAsked 28 = .ok (.ireturn, 1) := by decide +kernel
theorem dX12_who_0 : decode cX12_who 0 = .ok (.aload_n 0, 1) := by decide +kernel
theorem dX12_who_1 : decode cX12_who 1 = .ok (.iload_n 1, 1) := by decide +kernel
theorem dX12_who_2 : decode cX12_who 2 = .ok (.iload_n 2, 1) := by decide +kernel
theorem dX12_who_3 : decode cX12_who 3 = .ok (.invokevirtual 172, 3) := by decide +kernel
theorem dX12_who_6 : decode cX12_who 6 = .ok (.ifCond .eq 12, 3) := by decide +kernel
theorem dX12_who_9 : decode cX12_who 9 = .ok (.aload_n 0, 1) := by decide +kernel
theorem dX12_who_10 : decode cX12_who 10 = .ok (.iload 4, 2) := by decide +kernel
theorem dX12_who_12 : decode cX12_who 12 = .ok (.invokevirtual 125, 3) := by decide +kernel
theorem dX12_who_15 : decode cX12_who 15 = .ok (.ifCond .ne 6, 3) := by decide +kernel
theorem dX12_who_18 : decode cX12_who 18 = .ok (.bipush (-101), 2) := by decide +kernel
theorem dX12_who_20 : decode cX12_who 20 = .ok (.ireturn, 1) := by decide +kernel
theorem dX12_who_21 : decode cX12_who 21 = .ok (.aload_n 0, 1) := by decide +kernel
theorem dX12_who_22 : decode cX12_who 22 = .ok (.iload_n 3, 1) := by decide +kernel
theorem dX12_who_23 : decode cX12_who 23 = .ok (.iload 4, 2) := by decide +kernel
theorem dX12_who_25 : decode cX12_who 25 = .ok (.iload 6, 2) := by decide +kernel
theorem dX12_who_27 : decode cX12_who 27 = .ok (.invokevirtual 199, 3) := by decide +kernel
theorem dX12_who_30 : decode cX12_who 30 = .ok (.ifCond .eq 14, 3) := by decide +kernel
theorem dX12_who_33 : decode cX12_who 33 = .ok (.iload 5, 2) := by decide +kernel
theorem dX12_who_35 : decode cX12_who 35 = .ok (.iconst (-1), 1) := by decide +kernel
theorem dX12_who_36 : decode cX12_who 36 = .ok (.bipush 8, 2) := by decide +kernel
theorem dX12_who_38 : decode cX12_who 38 = .ok (.invokestatic 61, 3) := by decide +kernel
theorem dX12_who_41 : decode cX12_who 41 = .ok (.ifCond .ne 6, 3) := by decide +kernel
theorem dX12_who_44 : decode cX12_who 44 = .ok (.bipush (-102), 2) := by decide +kernel
theorem dX12_who_46 : decode cX12_who 46 = .ok (.ireturn, 1) := by decide +kernel
theorem dX12_who_47 : decode cX12_who 47 = .ok (.iload_n 3, 1) := by decide +kernel
theorem dX12_who_48 : decode cX12_who 48 = .ok (.invokestatic 150, 3) := by decide +kernel
theorem dX12_who_51 : decode cX12_who 51 = .ok (.istore 7, 2) := by decide +kernel
theorem dX12_who_53 : decode cX12_who 53 = .ok (.aload_n 0, 1) := by decide +kernel
theorem dX12_who_54 : decode cX12_who 54 = .ok (.iload_n 1, 1) := by decide +kernel
theorem dX12_who_55 : decode cX12_who 55 = .ok (.iload_n 2, 1) := by decide +kernel
theorem dX12_who_56 : decode cX12_who 56 = .ok (.iload 7, 2) := by decide +kernel
theorem dX12_who_58 : decode cX12_who 58 = .ok (.iload 4, 2) := by decide +kernel
theorem dX12_who_60 : decode cX12_who 60 = .ok (.invokevirtual 153, 3) := by decide +kernel
theorem dX12_who_63 : decode cX12_who 63 = .ok (.istore 8, 2) := by decide +kernel
theorem dX12_who_65 : decode cX12_who 65 = .ok (.aload_n 0, 1) := by decide +kernel
theorem dX12_who_66 : decode cX12_who 66 = .ok (.iload_n 1, 1) := by decide +kernel
theorem dX12_who_67 : decode cX12_who 67 = .ok (.iload_n 2, 1) := by decide +kernel
theorem dX12_who_68 : decode cX12_who 68 = .ok (.iload_n 3, 1) := by decide +kernel
theorem dX12_who_69 : decode cX12_who 69 = .ok (.iload 7, 2) := by decide +kernel
theorem dX12_who_71 : decode cX12_who 71 = .ok (.iload 4, 2) := by decide +kernel
theorem dX12_who_73 : decode cX12_who 73 = .ok (.invokevirtual 157, 3) := by decide +kernel
theorem dX12_who_76 : decode cX12_who 76 = .ok (.lconst 0, 1) := by decide +kernel
theorem dX12_who_77 : decode cX12_who 77 = .ok (.lstore 9, 2) := by decide +kernel
theorem dX12_who_79 : decode cX12_who 79 = .ok (.lconst 0, 1) := by decide +kernel
theorem dX12_who_80 : decode cX12_who 80 = .ok (.lstore 11, 2) := by decide +kernel
theorem dX12_who_82 : decode cX12_who 82 = .ok (.iconst 0, 1) := by decide +kernel
theorem dX12_who_83 : decode cX12_who 83 = .ok (.istore 13, 2) := by decide +kernel
theorem dX12_who_85 : decode cX12_who 85 = .ok (.iload 13, 2) := by decide +kernel
theorem dX12_who_87 : decode cX12_who 87 = .ok (.bipush 9, 2) := by decide +kernel
theorem dX12_who_89 : decode cX12_who 89 = .ok (.if_icmp .ge 112, 3) := by decide +kernel
theorem dX12_who_92 : decode cX12_who 92 = .ok (.iload 5, 2) := by decide +kernel
theorem dX12_who_94 : decode cX12_who 94 = .ok (.iconst (-1), 1) := by decide +kernel
theorem dX12_who_95 : decode cX12_who 95 = .ok (.if_icmp .ne 15, 3) := by decide +kernel
theorem dX12_who_98 : decode cX12_who 98 = .ok (.aload_n 0, 1) := by decide +kernel
theorem dX12_who_99 : decode cX12_who 99 = .ok (.iload_n 1, 1) := by decide +kernel
theorem dX12_who_100 : decode cX12_who 100 = .ok (.iload 13, 2) := by decide +kernel
theorem dX12_who_102 : decode cX12_who 102 = .ok (.iload 7, 2) := by decide +kernel
theorem dX12_who_104 : decode cX12_who 104 = .ok (.invokevirtual 161, 3) := by decide +kernel
theorem dX12_who_107 : decode cX12_who 107 = .ok (.goto 15, 3) := by decide +kernel
theorem dX12_who_110 : decode cX12_who 110 = .ok (.iload 13, 2) := by decide +kernel
theorem dX12_who_112 : decode cX12_who 112 = .ok (.iload 5, 2) := by decide +kernel
theorem dX12_who_114 : decode cX12_who 114 = .ok (.if_icmp .ne 7, 3) := by decide +kernel
theorem dX12_who_117 : decode cX12_who 117 = .ok (.iconst 1, 1) := by decide +kernel
theorem dX12_who_118 : decode cX12_who 118 = .ok (.goto 4, 3) := by decide +kernel
theorem dX12_who_121 : decode cX12_who 121 = .ok (.iconst 0, 1) := by decide +kernel
theorem dX12_who_122 : decode cX12_who 122 = .ok (.istore 14, 2) := by decide +kernel
theorem dX12_who_124 : decode cX12_who 124 = .ok (.iload 13, 2) := by decide +kernel
theorem dX12_who_126 : decode cX12_who 126 = .ok (.ifCond .ne 7, 3) := by decide +kernel
theorem dX12_who_129 : decode cX12_who 129 = .ok (.lconst 0, 1) := by decide +kernel
theorem dX12_who_130 : decode cX12_who 130 = .ok (.goto 16, 3) := by decide +kernel
theorem dX12_who_133 : decode cX12_who 133 = .ok (.aload_n 0, 1) := by decide +kernel
theorem dX12_who_134 : decode cX12_who 134 = .ok (.getfield 51, 3) := by decide +kernel
theorem dX12_who_137 : decode cX12_who 137 = .ok (.iload 13, 2) := by decide +kernel
theorem dX12_who_139 : decode cX12_who 139 = .ok (.iconst 1, 1) := by decide +kernel
theorem dX12_who_140 : decode cX12_who 140 = .ok (.isub, 1) := by decide +kernel
theorem dX12_who_141 : decode cX12_who 141 = .ok (.laload, 1) := by decide +kernel
theorem dX12_who_142 : decode cX12_who 142 = .ok (.iload 8, 2) := by decide +kernel
theorem dX12_who_144 : decode cX12_who 144 = .ok (.i2l, 1) := by decide +kernel
theorem dX12_who_145 : decode cX12_who 145 = .ok (.lmul, 1) := by decide +kernel
theorem dX12_who_146 : decode cX12_who 146 = .ok (.lstore 15, 2) := by decide +kernel
theorem dX12_who_148 : decode cX12_who 148 = .ok (.lload 9, 2) := by decide +kernel
theorem dX12_who_150 : decode cX12_who 150 = .ok (.iload 14, 2) := by decide +kernel
theorem dX12_who_152 : decode cX12_who 152 = .ok (.ifCond .eq 8, 3) := by decide +kernel
theorem dX12_who_155 : decode cX12_who 155 = .ok (.lload 15, 2) := by decide +kernel
theorem dX12_who_157 : decode cX12_who 157 = .ok (.goto 4, 3) := by decide +kernel
theorem dX12_who_160 : decode cX12_who 160 = .ok (.lconst 0, 1) := by decide +kernel
theorem dX12_who_161 : decode cX12_who 161 = .ok (.ladd, 1) := by decide +kernel
theorem dX12_who_162 : decode cX12_who 162 = .ok (.lstore 9, 2) := by decide +kernel
theorem dX12_who_164 : decode cX12_who 164 = .ok (.lload 11, 2) := by decide +kernel
theorem dX12_who_166 : decode cX12_who 166 = .ok (.iload 14, 2) := by decide +kernel
theorem dX12_who_168 : decode cX12_who 168 = .ok (.ifCond .eq 23, 3) := by decide +kernel
theorem dX12_who_171 : decode cX12_who 171 = .ok (.lload 15, 2) := by decide +kernel
theorem dX12_who_173 : decode cX12_who 173 = .ok (.aload_n 0, 1) := by decide +kernel
theorem dX12_who_174 : decode cX12_who 174 = .ok (.getfield 51, 3) := by decide +kernel
theorem dX12_who_177 : decode cX12_who 177 = .ok (.iload 13, 2) := by decide +kernel
theorem dX12_who_179 : decode cX12_who 179 = .ok (.laload, 1) := by decide +kernel
theorem dX12_who_180 : decode cX12_who 180 = .ok (.bipush 10, 2) := by decide +kernel
theorem dX12_who_182 : decode cX12_who 182 = .ok (.iload 8, 2) := by decide +kernel
theorem dX12_who_184 : decode cX12_who 184 = .ok (.isub, 1) := by decide +kernel
theorem dX12_who_185 : decode cX12_who 185 = .ok (.i2l, 1) := by decide +kernel
theorem dX12_who_186 : decode cX12_who 186 = .ok (.lmul, 1) := by decide +kernel
theorem dX12_who_187 : decode cX12_who 187 = .ok (.ladd, 1) := by decide +kernel
theorem dX12_who_188 : decode cX12_who 188 = .ok (.goto 4, 3) := by decide +kernel
theorem dX12_who_191 : decode cX12_who 191 = .ok (.lconst 0, 1) := by decide +kernel
theorem dX12_who_192 : decode cX12_who 192 = .ok (.ladd, 1) := by decide +kernel
theorem dX12_who_193 : decode cX12_who 193 = .ok (.lstore 11, 2) := by decide +kernel
theorem dX12_who_195 : decode cX12_who 195 = .ok (.iinc 13 1, 3) := by decide +kernel
theorem dX12_who_198 : decode cX12_who 198 = .ok (.goto (-113), 3) := by decide +kernel
theorem dX12_who_201 : decode cX12_who 201 = .ok (.lload 11, 2) := by decide +kernel
theorem dX12_who_203 : decode cX12_who 203 = .ok (.lconst 0, 1) := by decide +kernel
theorem dX12_who_204 : decode cX12_who 204 = .ok (.lcmp, 1) := by decide +kernel
theorem dX12_who_205 : decode cX12_who 205 = .ok (.ifCond .ne 7, 3) := by decide +kernel
theorem dX12_who_208 : decode cX12_who 208 = .ok (.iconst (-1), 1) := by decide +kernel
theorem dX12_who_209 : decode cX12_who 209 = .ok (.goto 13, 3) := by decide +kernel
theorem dX12_who_212 : decode cX12_who 212 = .ok (.lload 9, 2) := by decide +kernel
theorem dX12_who_214 : decode cX12_who 214 = .ok (.lload 11, 2) := by decide +kernel
theorem dX12_who_216 : decode cX12_who 216 = .ok (.iload 6, 2) := by decide +kernel
theorem dX12_who_218 : decode cX12_who 218 = .ok (.invokestatic 178, 3) := by decide +kernel
theorem dX12_who_221 : decode cX12_who 221 = .ok (.l2i, 1) := by decide +kernel
theorem dX12_who_222 : decode cX12_who 222 = .ok (.ireturn, 1) := by decide +kernel
theorem dX12_heard_0 : decode cX12_heard 0 = .ok (.aload_n 0, 1) := by decide +kernel
theorem dX12_heard_1 : decode cX12_heard 1 = .ok (.iload_n 1, 1) := by decide +kernel
theorem dX12_heard_2 : decode cX12_heard 2 = .ok (.iload_n 2, 1) := by decide +kernel
theorem dX12_heard_3 : decode cX12_heard 3 = .ok (.invokevirtual 172, 3) := by decide +kernel
theorem dX12_heard_6 : decode cX12_heard 6 = .ok (.ifCond .eq 12, 3) := by decide +kernel
theorem dX12_heard_9 : decode cX12_heard 9 = .ok (.aload_n 0, 1) := by decide +kernel
theorem dX12_heard_10 : decode cX12_heard 10 = .ok (.iload 4, 2) := by decide +kernel
theorem dX12_heard_12 : decode cX12_heard 12 = .ok (.invokevirtual 125, 3) := by decide +kernel
theorem dX12_heard_15 : decode cX12_heard 15 = .ok (.ifCond .ne 6, 3) := by decide +kernel
theorem dX12_heard_18 : decode cX12_heard 18 = .ok (.bipush (-101), 2) := by decide +kernel
theorem dX12_heard_20 : decode cX12_heard 20 = .ok (.ireturn, 1) := by decide +kernel
theorem dX12_heard_21 : decode cX12_heard 21 = .ok (.aload_n 0, 1) := by decide +kernel
theorem dX12_heard_22 : decode cX12_heard 22 = .ok (.iload_n 3, 1) := by decide +kernel
theorem dX12_heard_23 : decode cX12_heard 23 = .ok (.iload 4, 2) := by decide +kernel
theorem dX12_heard_25 : decode cX12_heard 25 = .ok (.iload 7, 2) := by decide +kernel
theorem dX12_heard_27 : decode cX12_heard 27 = .ok (.invokevirtual 199, 3) := by decide +kernel
theorem dX12_heard_30 : decode cX12_heard 30 = .ok (.ifCond .eq 14, 3) := by decide +kernel
theorem dX12_heard_33 : decode cX12_heard 33 = .ok (.iload 5, 2) := by decide +kernel
theorem dX12_heard_35 : decode cX12_heard 35 = .ok (.iconst 0, 1) := by decide +kernel
theorem dX12_heard_36 : decode cX12_heard 36 = .ok (.bipush 10, 2) := by decide +kernel
theorem dX12_heard_38 : decode cX12_heard 38 = .ok (.invokestatic 61, 3) := by decide +kernel
theorem dX12_heard_41 : decode cX12_heard 41 = .ok (.ifCond .ne 6, 3) := by decide +kernel
theorem dX12_heard_44 : decode cX12_heard 44 = .ok (.bipush (-102), 2) := by decide +kernel
theorem dX12_heard_46 : decode cX12_heard 46 = .ok (.ireturn, 1) := by decide +kernel
theorem dX12_heard_47 : decode cX12_heard 47 = .ok (.aload_n 0, 1) := by decide +kernel
theorem dX12_heard_48 : decode cX12_heard 48 = .ok (.iload_n 1, 1) := by decide +kernel
theorem dX12_heard_49 : decode cX12_heard 49 = .ok (.iload_n 2, 1) := by decide +kernel
theorem dX12_heard_50 : decode cX12_heard 50 = .ok (.iload_n 3, 1) := by decide +kernel
theorem dX12_heard_51 : decode cX12_heard 51 = .ok (.invokestatic 150, 3) := by decide +kernel
theorem dX12_heard_54 : decode cX12_heard 54 = .ok (.iload 4, 2) := by decide +kernel
theorem dX12_heard_56 : decode cX12_heard 56 = .ok (.invokevirtual 153, 3) := by decide +kernel
theorem dX12_heard_59 : decode cX12_heard 59 = .ok (.istore 8, 2) := by decide +kernel
theorem dX12_heard_61 : decode cX12_heard 61 = .ok (.iload 8, 2) := by decide +kernel
theorem dX12_heard_63 : decode cX12_heard 63 = .ok (.iload 6, 2) := by decide +kernel
theorem dX12_heard_65 : decode cX12_heard 65 = .ok (.ifCond .eq 8, 3) := by decide +kernel
theorem dX12_heard_68 : decode cX12_heard 68 = .ok (.iload 5, 2) := by decide +kernel
theorem dX12_heard_70 : decode cX12_heard 70 = .ok (.goto 8, 3) := by decide +kernel
theorem dX12_heard_73 : decode cX12_heard 73 = .ok (.bipush 10, 2) := by decide +kernel
theorem dX12_heard_75 : decode cX12_heard 75 = .ok (.iload 5, 2) := by decide +kernel
theorem dX12_heard_77 : decode cX12_heard 77 = .ok (.isub, 1) := by decide +kernel
theorem dX12_heard_78 : decode cX12_heard 78 = .ok (.imul, 1) := by decide +kernel
theorem dX12_heard_79 : decode cX12_heard 79 = .ok (.istore 9, 2) := by decide +kernel
theorem dX12_heard_81 : decode cX12_heard 81 = .ok (.iload 9, 2) := by decide +kernel
theorem dX12_heard_83 : decode cX12_heard 83 = .ok (.bipush 10, 2) := by decide +kernel
theorem dX12_heard_85 : decode cX12_heard 85 = .ok (.iload 8, 2) := by decide +kernel
theorem dX12_heard_87 : decode cX12_heard 87 = .ok (.isub, 1) := by decide +kernel
theorem dX12_heard_88 : decode cX12_heard 88 = .ok (.iload 6, 2) := by decide +kernel
theorem dX12_heard_90 : decode cX12_heard 90 = .ok (.ifCond .eq 11, 3) := by decide +kernel
theorem dX12_heard_93 : decode cX12_heard 93 = .ok (.bipush 10, 2) := by decide +kernel
theorem dX12_heard_95 : decode cX12_heard 95 = .ok (.iload 5, 2) := by decide +kernel
theorem dX12_heard_97 : decode cX12_heard 97 = .ok (.isub, 1) := by decide +kernel
theorem dX12_heard_98 : decode cX12_heard 98 = .ok (.goto 5, 3) := by decide +kernel
theorem dX12_heard_101 : decode cX12_heard 101 = .ok (.iload 5, 2) := by decide +kernel
theorem dX12_heard_103 : decode cX12_heard 103 = .ok (.imul, 1) := by decide +kernel
theorem dX12_heard_104 : decode cX12_heard 104 = .ok (.iadd, 1) := by decide +kernel
theorem dX12_heard_105 : decode cX12_heard 105 = .ok (.istore 10, 2) := by decide +kernel
theorem dX12_heard_107 : decode cX12_heard 107 = .ok (.iload 10, 2) := by decide +kernel
theorem dX12_heard_109 : decode cX12_heard 109 = .ok (.ifCond .ne 7, 3) := by decide +kernel
theorem dX12_heard_112 : decode cX12_heard 112 = .ok (.iconst (-1), 1) := by decide +kernel
theorem dX12_heard_113 : decode cX12_heard 113 = .ok (.goto 15, 3) := by decide +kernel
theorem dX12_heard_116 : decode cX12_heard 116 = .ok (.iload 9, 2) := by decide +kernel
theorem dX12_heard_118 : decode cX12_heard 118 = .ok (.i2l, 1) := by decide +kernel
theorem dX12_heard_119 : decode cX12_heard 119 = .ok (.iload 10, 2) := by decide +kernel
theorem dX12_heard_121 : decode cX12_heard 121 = .ok (.i2l, 1) := by decide +kernel
theorem dX12_heard_122 : decode cX12_heard 122 = .ok (.iload 7, 2) := by decide +kernel
theorem dX12_heard_124 : decode cX12_heard 124 = .ok (.invokestatic 178, 3) := by decide +kernel
theorem dX12_heard_127 : decode cX12_heard 127 = .ok (.l2i, 1) := by decide +kernel
theorem dX12_heard_128 : decode cX12_heard 128 = .ok (.ireturn, 1) := by decide +kernel
theorem dX12_sway_0 : decode cX12_sway 0 = .ok (.aload_n 0, 1) := by decide +kernel
theorem dX12_sway_1 : decode cX12_sway 1 = .ok (.iload_n 1, 1) := by decide +kernel
theorem dX12_sway_2 : decode cX12_sway 2 = .ok (.iload_n 2, 1) := by decide +kernel
theorem dX12_sway_3 : decode cX12_sway 3 = .ok (.invokevirtual 172, 3) := by decide +kernel
theorem dX12_sway_6 : decode cX12_sway 6 = .ok (.ifCond .ne 6, 3) := by decide +kernel
theorem dX12_sway_9 : decode cX12_sway 9 = .ok (.bipush (-101), 2) := by decide +kernel
theorem dX12_sway_11 : decode cX12_sway 11 = .ok (.ireturn, 1) := by decide +kernel
theorem dX12_sway_12 : decode cX12_sway 12 = .ok (.aload_n 0, 1) := by decide +kernel
theorem dX12_sway_13 : decode cX12_sway 13 = .ok (.iload_n 3, 1) := by decide +kernel
theorem dX12_sway_14 : decode cX12_sway 14 = .ok (.invokevirtual 143, 3) := by decide +kernel
theorem dX12_sway_17 : decode cX12_sway 17 = .ok (.ifCond .ne 6, 3) := by decide +kernel
theorem dX12_sway_20 : decode cX12_sway 20 = .ok (.bipush (-102), 2) := by decide +kernel
theorem dX12_sway_22 : decode cX12_sway 22 = .ok (.ireturn, 1) := by decide +kernel
theorem dX12_sway_23 : decode cX12_sway 23 = .ok (.aload_n 0, 1) := by decide +kernel
theorem dX12_sway_24 : decode cX12_sway 24 = .ok (.iload_n 1, 1) := by decide +kernel
theorem dX12_sway_25 : decode cX12_sway 25 = .ok (.iload_n 2, 1) := by decide +kernel
theorem dX12_sway_26 : decode cX12_sway 26 = .ok (.iload_n 3, 1) := by decide +kernel
theorem dX12_sway_27 : decode cX12_sway 27 = .ok (.invokevirtual 186, 3) := by decide +kernel
theorem dX12_sway_30 : decode cX12_sway 30 = .ok (.lstore 4, 2) := by decide +kernel
theorem dX12_sway_32 : decode cX12_sway 32 = .ok (.iconst (-1), 1) := by decide +kernel
theorem dX12_sway_33 : decode cX12_sway 33 = .ok (.istore 6, 2) := by decide +kernel
theorem dX12_sway_35 : decode cX12_sway 35 = .ok (.lconst 0, 1) := by decide +kernel
theorem dX12_sway_36 : decode cX12_sway 36 = .ok (.lstore 7, 2) := by decide +kernel
theorem dX12_sway_38 : decode cX12_sway 38 = .ok (.iconst 0, 1) := by decide +kernel
theorem dX12_sway_39 : decode cX12_sway 39 = .ok (.istore 9, 2) := by decide +kernel
theorem dX12_sway_41 : decode cX12_sway 41 = .ok (.iload 9, 2) := by decide +kernel
theorem dX12_sway_43 : decode cX12_sway 43 = .ok (.aload_n 0, 1) := by decide +kernel
theorem dX12_sway_44 : decode cX12_sway 44 = .ok (.getfield 119, 3) := by decide +kernel
theorem dX12_sway_47 : decode cX12_sway 47 = .ok (.if_icmp .ge 107, 3) := by decide +kernel
theorem dX12_sway_50 : decode cX12_sway 50 = .ok (.iload_n 3, 1) := by decide +kernel
theorem dX12_sway_51 : decode cX12_sway 51 = .ok (.iload 9, 2) := by decide +kernel
theorem dX12_sway_53 : decode cX12_sway 53 = .ok (.invokestatic 146, 3) := by decide +kernel
theorem dX12_sway_56 : decode cX12_sway 56 = .ok (.ifCond .eq 92, 3) := by decide +kernel
theorem dX12_sway_59 : decode cX12_sway 59 = .ok (.lload 4, 2) := by decide +kernel
theorem dX12_sway_61 : decode cX12_sway 61 = .ok (.ldc2_w 202, 3) := by decide +kernel
theorem dX12_sway_64 : decode cX12_sway 64 = .ok (.aload_n 0, 1) := by decide +kernel
theorem dX12_sway_65 : decode cX12_sway 65 = .ok (.iload_n 1, 1) := by decide +kernel
theorem dX12_sway_66 : decode cX12_sway 66 = .ok (.iload_n 2, 1) := by decide +kernel
theorem dX12_sway_67 : decode cX12_sway 67 = .ok (.iload_n 3, 1) := by decide +kernel
theorem dX12_sway_68 : decode cX12_sway 68 = .ok (.iconst 1, 1) := by decide +kernel
theorem dX12_sway_69 : decode cX12_sway 69 = .ok (.iload 9, 2) := by decide +kernel
theorem dX12_sway_71 : decode cX12_sway 71 = .ok (.ishl, 1) := by decide +kernel
theorem dX12_sway_72 : decode cX12_sway 72 = .ok (.iconst (-1), 1) := by decide +kernel
theorem dX12_sway_73 : decode cX12_sway 73 = .ok (.ixor, 1) := by decide +kernel
theorem dX12_sway_74 : decode cX12_sway 74 = .ok (.iand, 1) := by decide +kernel
theorem dX12_sway_75 : decode cX12_sway 75 = .ok (.invokevirtual 186, 3) := by decide +kernel
theorem dX12_sway_78 : decode cX12_sway 78 = .ok (.lmul, 1) := by decide +kernel
theorem dX12_sway_79 : decode cX12_sway 79 = .ok (.lsub, 1) := by decide +kernel
theorem dX12_sway_80 : decode cX12_sway 80 = .ok (.lstore 10, 2) := by decide +kernel
theorem dX12_sway_82 : decode cX12_sway 82 = .ok (.lload 10, 2) := by decide +kernel
theorem dX12_sway_84 : decode cX12_sway 84 = .ok (.lconst 0, 1) := by decide +kernel
theorem dX12_sway_85 : decode cX12_sway 85 = .ok (.lcmp, 1) := by decide +kernel
theorem dX12_sway_86 : decode cX12_sway 86 = .ok (.ifCond .ge 9, 3) := by decide +kernel
theorem dX12_sway_89 : decode cX12_sway 89 = .ok (.lload 10, 2) := by decide +kernel
theorem dX12_sway_91 : decode cX12_sway 91 = .ok (.lneg, 1) := by decide +kernel
theorem dX12_sway_92 : decode cX12_sway 92 = .ok (.goto 5, 3) := by decide +kernel
theorem dX12_sway_95 : decode cX12_sway 95 = .ok (.lload 10, 2) := by decide +kernel
theorem dX12_sway_97 : decode cX12_sway 97 = .ok (.lstore 10, 2) := by decide +kernel
theorem dX12_sway_99 : decode cX12_sway 99 = .ok (.iload 6, 2) := by decide +kernel
theorem dX12_sway_101 : decode cX12_sway 101 = .ok (.iconst (-1), 1) := by decide +kernel
theorem dX12_sway_102 : decode cX12_sway 102 = .ok (.if_icmp .eq 11, 3) := by decide +kernel
theorem dX12_sway_105 : decode cX12_sway 105 = .ok (.lload 10, 2) := by decide +kernel
theorem dX12_sway_107 : decode cX12_sway 107 = .ok (.lload 7, 2) := by decide +kernel
theorem dX12_sway_109 : decode cX12_sway 109 = .ok (.lcmp, 1) := by decide +kernel
theorem dX12_sway_110 : decode cX12_sway 110 = .ok (.ifCond .le 7, 3) := by decide +kernel
theorem dX12_sway_113 : decode cX12_sway 113 = .ok (.iconst 1, 1) := by decide +kernel
theorem dX12_sway_114 : decode cX12_sway 114 = .ok (.goto 4, 3) := by decide +kernel
theorem dX12_sway_117 : decode cX12_sway 117 = .ok (.iconst 0, 1) := by decide +kernel
theorem dX12_sway_118 : decode cX12_sway 118 = .ok (.istore 12, 2) := by decide +kernel
theorem dX12_sway_120 : decode cX12_sway 120 = .ok (.iload 12, 2) := by decide +kernel
theorem dX12_sway_122 : decode cX12_sway 122 = .ok (.ifCond .eq 8, 3) := by decide +kernel
theorem dX12_sway_125 : decode cX12_sway 125 = .ok (.iload 9, 2) := by decide +kernel
theorem dX12_sway_127 : decode cX12_sway 127 = .ok (.goto 5, 3) := by decide +kernel
theorem dX12_sway_130 : decode cX12_sway 130 = .ok (.iload 6, 2) := by decide +kernel
theorem dX12_sway_132 : decode cX12_sway 132 = .ok (.istore 6, 2) := by decide +kernel
theorem dX12_sway_134 : decode cX12_sway 134 = .ok (.iload 12, 2) := by decide +kernel
theorem dX12_sway_136 : decode cX12_sway 136 = .ok (.ifCond .eq 8, 3) := by decide +kernel
theorem dX12_sway_139 : decode cX12_sway 139 = .ok (.lload 10, 2) := by decide +kernel
theorem dX12_sway_141 : decode cX12_sway 141 = .ok (.goto 5, 3) := by decide +kernel
theorem dX12_sway_144 : decode cX12_sway 144 = .ok (.lload 7, 2) := by decide +kernel
theorem dX12_sway_146 : decode cX12_sway 146 = .ok (.lstore 7, 2) := by decide +kernel
theorem dX12_sway_148 : decode cX12_sway 148 = .ok (.iinc 9 1, 3) := by decide +kernel
theorem dX12_sway_151 : decode cX12_sway 151 = .ok (.goto (-110), 3) := by decide +kernel
theorem dX12_sway_154 : decode cX12_sway 154 = .ok (.iload 6, 2) := by decide +kernel
theorem dX12_sway_156 : decode cX12_sway 156 = .ok (.ireturn, 1) := by decide +kernel
theorem dX12_withdraws_0 : decode cX12_withdraws 0 = .ok (.ldc2_w 65, 3) := by decide +kernel
theorem dX12_withdraws_3 : decode cX12_withdraws 3 = .ok (.aload_n 0, 1) := by decide +kernel
theorem dX12_withdraws_4 : decode cX12_withdraws 4 = .ok (.iload_n 1, 1) := by decide +kernel
theorem dX12_withdraws_5 : decode cX12_withdraws 5 = .ok (.iload_n 2, 1) := by decide +kernel
theorem dX12_withdraws_6 : decode cX12_withdraws 6 = .ok (.iload_n 3, 1) := by decide +kernel
theorem dX12_withdraws_7 : decode cX12_withdraws 7 = .ok (.invokevirtual 186, 3) := by decide +kernel
theorem dX12_withdraws_10 : decode cX12_withdraws 10 = .ok (.lmul, 1) := by decide +kernel
theorem dX12_withdraws_11 : decode cX12_withdraws 11 = .ok (.iload 4, 2) := by decide +kernel
theorem dX12_withdraws_13 : decode cX12_withdraws 13 = .ok (.i2l, 1) := by decide +kernel
theorem dX12_withdraws_14 : decode cX12_withdraws 14 = .ok (.iconst 2, 1) := by decide +kernel
theorem dX12_withdraws_15 : decode cX12_withdraws 15 = .ok (.iload_n 3, 1) := by decide +kernel
theorem dX12_withdraws_16 : decode cX12_withdraws 16 = .ok (.invokestatic 150, 3) := by decide +kernel
theorem dX12_withdraws_19 : decode cX12_withdraws 19 = .ok (.imul, 1) := by decide +kernel
theorem dX12_withdraws_20 : decode cX12_withdraws 20 = .ok (.invokestatic 168, 3) := by decide +kernel
theorem dX12_withdraws_23 : decode cX12_withdraws 23 = .ok (.lmul, 1) := by decide +kernel
theorem dX12_withdraws_24 : decode cX12_withdraws 24 = .ok (.lcmp, 1) := by decide +kernel
theorem dX12_withdraws_25 : decode cX12_withdraws 25 = .ok (.ifCond .ge 7, 3) := by decide +kernel
theorem dX12_withdraws_28 : decode cX12_withdraws 28 = .ok (.iconst 1, 1) := by decide +kernel
theorem dX12_withdraws_29 : decode cX12_withdraws 29 = .ok (.goto 4, 3) := by decide +kernel
theorem dX12_withdraws_32 : decode cX12_withdraws 32 = .ok (.iconst 0, 1) := by decide +kernel
theorem dX12_withdraws_33 : decode cX12_withdraws 33 = .ok (.ireturn, 1) := by decide +kernel
theorem dX12_word_0 : decode cX12_word 0 = .ok (.aload_n 0, 1) := by decide +kernel
theorem dX12_word_1 : decode cX12_word 1 = .ok (.iload_n 1, 1) := by decide +kernel
theorem dX12_word_2 : decode cX12_word 2 = .ok (.invokevirtual 113, 3) := by decide +kernel
theorem dX12_word_5 : decode cX12_word 5 = .ok (.ifCond .ne 6, 3) := by decide +kernel
theorem dX12_word_8 : decode cX12_word 8 = .ok (.bipush (-101), 2) := by decide +kernel
theorem dX12_word_10 : decode cX12_word 10 = .ok (.ireturn, 1) := by decide +kernel
theorem dX12_word_11 : decode cX12_word 11 = .ok (.aload_n 0, 1) := by decide +kernel
theorem dX12_word_12 : decode cX12_word 12 = .ok (.iload_n 2, 1) := by decide +kernel
theorem dX12_word_13 : decode cX12_word 13 = .ok (.invokevirtual 143, 3) := by decide +kernel
theorem dX12_word_16 : decode cX12_word 16 = .ok (.ifCond .eq 13, 3) := by decide +kernel
theorem dX12_word_19 : decode cX12_word 19 = .ok (.iload_n 3, 1) := by decide +kernel
theorem dX12_word_20 : decode cX12_word 20 = .ok (.iconst 0, 1) := by decide +kernel
theorem dX12_word_21 : decode cX12_word 21 = .ok (.bipush 10, 2) := by decide +kernel
theorem dX12_word_23 : decode cX12_word 23 = .ok (.invokestatic 61, 3) := by decide +kernel
theorem dX12_word_26 : decode cX12_word 26 = .ok (.ifCond .ne 6, 3) := by decide +kernel
theorem dX12_word_29 : decode cX12_word 29 = .ok (.bipush (-102), 2) := by decide +kernel
theorem dX12_word_31 : decode cX12_word 31 = .ok (.ireturn, 1) := by decide +kernel
theorem dX12_word_32 : decode cX12_word 32 = .ok (.iconst 0, 1) := by decide +kernel
theorem dX12_word_33 : decode cX12_word 33 = .ok (.istore 4, 2) := by decide +kernel
theorem dX12_word_35 : decode cX12_word 35 = .ok (.iconst 0, 1) := by decide +kernel
theorem dX12_word_36 : decode cX12_word 36 = .ok (.istore 5, 2) := by decide +kernel
theorem dX12_word_38 : decode cX12_word 38 = .ok (.iload 5, 2) := by decide +kernel
theorem dX12_word_40 : decode cX12_word 40 = .ok (.aload_n 0, 1) := by decide +kernel
theorem dX12_word_41 : decode cX12_word 41 = .ok (.getfield 122, 3) := by decide +kernel
theorem dX12_word_44 : decode cX12_word 44 = .ok (.if_icmp .ge 34, 3) := by decide +kernel
theorem dX12_word_47 : decode cX12_word 47 = .ok (.iload 4, 2) := by decide +kernel
theorem dX12_word_49 : decode cX12_word 49 = .ok (.aload_n 0, 1) := by decide +kernel
theorem dX12_word_50 : decode cX12_word 50 = .ok (.iload_n 1, 1) := by decide +kernel
theorem dX12_word_51 : decode cX12_word 51 = .ok (.iload 5, 2) := by decide +kernel
theorem dX12_word_53 : decode cX12_word 53 = .ok (.iload_n 2, 1) := by decide +kernel
theorem dX12_word_54 : decode cX12_word 54 = .ok (.iload_n 3, 1) := by decide +kernel
theorem dX12_word_55 : decode cX12_word 55 = .ok (.invokevirtual 204, 3) := by decide +kernel
theorem dX12_word_58 : decode cX12_word 58 = .ok (.ifCond .eq 10, 3) := by decide +kernel
theorem dX12_word_61 : decode cX12_word 61 = .ok (.iconst 1, 1) := by decide +kernel
theorem dX12_word_62 : decode cX12_word 62 = .ok (.iload 5, 2) := by decide +kernel
theorem dX12_word_64 : decode cX12_word 64 = .ok (.ishl, 1) := by decide +kernel
theorem dX12_word_65 : decode cX12_word 65 = .ok (.goto 4, 3) := by decide +kernel
theorem dX12_word_68 : decode cX12_word 68 = .ok (.iconst 0, 1) := by decide +kernel
theorem dX12_word_69 : decode cX12_word 69 = .ok (.ior, 1) := by decide +kernel
theorem dX12_word_70 : decode cX12_word 70 = .ok (.istore 4, 2) := by decide +kernel
theorem dX12_word_72 : decode cX12_word 72 = .ok (.iinc 5 1, 3) := by decide +kernel
theorem dX12_word_75 : decode cX12_word 75 = .ok (.goto (-37), 3) := by decide +kernel
theorem dX12_word_78 : decode cX12_word 78 = .ok (.iload 4, 2) := by decide +kernel
theorem dX12_word_80 : decode cX12_word 80 = .ok (.ireturn, 1) := by decide +kernel
theorem dX12_seen_0 : decode cX12_seen 0 = .ok (.aload_n 0, 1) := by decide +kernel
theorem dX12_seen_1 : decode cX12_seen 1 = .ok (.iload_n 1, 1) := by decide +kernel
theorem dX12_seen_2 : decode cX12_seen 2 = .ok (.invokevirtual 113, 3) := by decide +kernel
theorem dX12_seen_5 : decode cX12_seen 5 = .ok (.ifCond .ne 7, 3) := by decide +kernel
theorem dX12_seen_8 : decode cX12_seen 8 = .ok (.ldc2_w 182, 3) := by decide +kernel
theorem dX12_seen_11 : decode cX12_seen 11 = .ok (.lreturn, 1) := by decide +kernel
theorem dX12_seen_12 : decode cX12_seen 12 = .ok (.aload_n 0, 1) := by decide +kernel
theorem dX12_seen_13 : decode cX12_seen 13 = .ok (.iload_n 2, 1) := by decide +kernel
theorem dX12_seen_14 : decode cX12_seen 14 = .ok (.invokevirtual 143, 3) := by decide +kernel
theorem dX12_seen_17 : decode cX12_seen 17 = .ok (.ifCond .eq 21, 3) := by decide +kernel
theorem dX12_seen_20 : decode cX12_seen 20 = .ok (.iload_n 3, 1) := by decide +kernel
theorem dX12_seen_21 : decode cX12_seen 21 = .ok (.iconst 0, 1) := by decide +kernel
theorem dX12_seen_22 : decode cX12_seen 22 = .ok (.bipush 10, 2) := by decide +kernel
theorem dX12_seen_24 : decode cX12_seen 24 = .ok (.invokestatic 61, 3) := by decide +kernel
theorem dX12_seen_27 : decode cX12_seen 27 = .ok (.ifCond .eq 11, 3) := by decide +kernel
theorem dX12_seen_30 : decode cX12_seen 30 = .ok (.iload 4, 2) := by decide +kernel
theorem dX12_seen_32 : decode cX12_seen 32 = .ok (.invokestatic 175, 3) := by decide +kernel
theorem dX12_seen_35 : decode cX12_seen 35 = .ok (.ifCond .ne 7, 3) := by decide +kernel
theorem dX12_seen_38 : decode cX12_seen 38 = .ok (.ldc2_w 184, 3) := by decide +kernel
theorem dX12_seen_41 : decode cX12_seen 41 = .ok (.lreturn, 1) := by decide +kernel
theorem dX12_seen_42 : decode cX12_seen 42 = .ok (.iconst 2, 1) := by decide +kernel
theorem dX12_seen_43 : decode cX12_seen 43 = .ok (.iload_n 2, 1) := by decide +kernel
theorem dX12_seen_44 : decode cX12_seen 44 = .ok (.invokestatic 150, 3) := by decide +kernel
theorem dX12_seen_47 : decode cX12_seen 47 = .ok (.imul, 1) := by decide +kernel
theorem dX12_seen_48 : decode cX12_seen 48 = .ok (.invokestatic 168, 3) := by decide +kernel
theorem dX12_seen_51 : decode cX12_seen 51 = .ok (.lstore 5, 2) := by decide +kernel
theorem dX12_seen_53 : decode cX12_seen 53 = .ok (.lconst 0, 1) := by decide +kernel
theorem dX12_seen_54 : decode cX12_seen 54 = .ok (.lstore 7, 2) := by decide +kernel
theorem dX12_seen_56 : decode cX12_seen 56 = .ok (.iconst 0, 1) := by decide +kernel
theorem dX12_seen_57 : decode cX12_seen 57 = .ok (.istore 9, 2) := by decide +kernel
theorem dX12_seen_59 : decode cX12_seen 59 = .ok (.iload 9, 2) := by decide +kernel
theorem dX12_seen_61 : decode cX12_seen 61 = .ok (.aload_n 0, 1) := by decide +kernel
theorem dX12_seen_62 : decode cX12_seen 62 = .ok (.getfield 122, 3) := by decide +kernel
theorem dX12_seen_65 : decode cX12_seen 65 = .ok (.if_icmp .ge 41, 3) := by decide +kernel
theorem dX12_seen_68 : decode cX12_seen 68 = .ok (.lload 7, 2) := by decide +kernel
theorem dX12_seen_70 : decode cX12_seen 70 = .ok (.aload_n 0, 1) := by decide +kernel
theorem dX12_seen_71 : decode cX12_seen 71 = .ok (.iload_n 1, 1) := by decide +kernel
theorem dX12_seen_72 : decode cX12_seen 72 = .ok (.iload 9, 2) := by decide +kernel
theorem dX12_seen_74 : decode cX12_seen 74 = .ok (.iload_n 2, 1) := by decide +kernel
theorem dX12_seen_75 : decode cX12_seen 75 = .ok (.iload_n 3, 1) := by decide +kernel
theorem dX12_seen_76 : decode cX12_seen 76 = .ok (.invokevirtual 204, 3) := by decide +kernel
theorem dX12_seen_79 : decode cX12_seen 79 = .ok (.ifCond .eq 7, 3) := by decide +kernel
theorem dX12_seen_82 : decode cX12_seen 82 = .ok (.lconst 0, 1) := by decide +kernel
theorem dX12_seen_83 : decode cX12_seen 83 = .ok (.goto 14, 3) := by decide +kernel
theorem dX12_seen_86 : decode cX12_seen 86 = .ok (.lload 5, 2) := by decide +kernel
theorem dX12_seen_88 : decode cX12_seen 88 = .ok (.aload_n 0, 1) := by decide +kernel
theorem dX12_seen_89 : decode cX12_seen 89 = .ok (.iload_n 1, 1) := by decide +kernel
theorem dX12_seen_90 : decode cX12_seen 90 = .ok (.iload 9, 2) := by decide +kernel
theorem dX12_seen_92 : decode cX12_seen 92 = .ok (.iload_n 2, 1) := by decide +kernel
theorem dX12_seen_93 : decode cX12_seen 93 = .ok (.invokevirtual 186, 3) := by decide +kernel
theorem dX12_seen_96 : decode cX12_seen 96 = .ok (.lsub, 1) := by decide +kernel
theorem dX12_seen_97 : decode cX12_seen 97 = .ok (.ladd, 1) := by decide +kernel
theorem dX12_seen_98 : decode cX12_seen 98 = .ok (.lstore 7, 2) := by decide +kernel
theorem dX12_seen_100 : decode cX12_seen 100 = .ok (.iinc 9 1, 3) := by decide +kernel
theorem dX12_seen_103 : decode cX12_seen 103 = .ok (.goto (-44), 3) := by decide +kernel
theorem dX12_seen_106 : decode cX12_seen 106 = .ok (.lload 7, 2) := by decide +kernel
theorem dX12_seen_108 : decode cX12_seen 108 = .ok (.lload 5, 2) := by decide +kernel
theorem dX12_seen_110 : decode cX12_seen 110 = .ok (.iload 4, 2) := by decide +kernel
theorem dX12_seen_112 : decode cX12_seen 112 = .ok (.invokestatic 178, 3) := by decide +kernel
theorem dX12_seen_115 : decode cX12_seen 115 = .ok (.lreturn, 1) := by decide +kernel
theorem dX12_draw_0 : decode cX12_draw 0 = .ok (.aload_n 0, 1) := by decide +kernel
theorem dX12_draw_1 : decode cX12_draw 1 = .ok (.ldc2_w 208, 3) := by decide +kernel
theorem dX12_draw_4 : decode cX12_draw 4 = .ok (.aload_n 0, 1) := by decide +kernel
theorem dX12_draw_5 : decode cX12_draw 5 = .ok (.getfield 210, 3) := by decide +kernel
theorem dX12_draw_8 : decode cX12_draw 8 = .ok (.lmul, 1) := by decide +kernel
theorem dX12_draw_9 : decode cX12_draw 9 = .ok (.ldc2_w 214, 3) := by decide +kernel
theorem dX12_draw_12 : decode cX12_draw 12 = .ok (.ladd, 1) := by decide +kernel
theorem dX12_draw_13 : decode cX12_draw 13 = .ok (.ldc2_w 216, 3) := by decide +kernel
theorem dX12_draw_16 : decode cX12_draw 16 = .ok (.land, 1) := by decide +kernel
theorem dX12_draw_17 : decode cX12_draw 17 = .ok (.putfield 210, 3) := by decide +kernel
theorem dX12_draw_20 : decode cX12_draw 20 = .ok (.aload_n 0, 1) := by decide +kernel
theorem dX12_draw_21 : decode cX12_draw 21 = .ok (.getfield 210, 3) := by decide +kernel
theorem dX12_draw_24 : decode cX12_draw 24 = .ok (.ldc2_w 218, 3) := by decide +kernel
theorem dX12_draw_27 : decode cX12_draw 27 = .ok (.ldiv, 1) := by decide +kernel
theorem dX12_draw_28 : decode cX12_draw 28 = .ok (.iload_n 1, 1) := by decide +kernel
theorem dX12_draw_29 : decode cX12_draw 29 = .ok (.i2l, 1) := by decide +kernel
theorem dX12_draw_30 : decode cX12_draw 30 = .ok (.lrem, 1) := by decide +kernel
theorem dX12_draw_31 : decode cX12_draw 31 = .ok (.l2i, 1) := by decide +kernel
theorem dX12_draw_32 : decode cX12_draw 32 = .ok (.ireturn, 1) := by decide +kernel
theorem dX12_goRound_0 : decode cX12_goRound 0 = .ok (.iconst 0, 1) := by decide +kernel
theorem dX12_goRound_1 : decode cX12_goRound 1 = .ok (.istore 4, 2) := by decide +kernel
theorem dX12_goRound_3 : decode cX12_goRound 3 = .ok (.iconst 0, 1) := by decide +kernel
theorem dX12_goRound_4 : decode cX12_goRound 4 = .ok (.istore 5, 2) := by decide +kernel
theorem dX12_goRound_6 : decode cX12_goRound 6 = .ok (.iload 5, 2) := by decide +kernel
theorem dX12_goRound_8 : decode cX12_goRound 8 = .ok (.aload_n 0, 1) := by decide +kernel
theorem dX12_goRound_9 : decode cX12_goRound 9 = .ok (.getfield 119, 3) := by decide +kernel
theorem dX12_goRound_12 : decode cX12_goRound 12 = .ok (.if_icmp .ge 49, 3) := by decide +kernel
theorem dX12_goRound_15 : decode cX12_goRound 15 = .ok (.iload_n 3, 1) := by decide +kernel
theorem dX12_goRound_16 : decode cX12_goRound 16 = .ok (.iload 5, 2) := by decide +kernel
theorem dX12_goRound_18 : decode cX12_goRound 18 = .ok (.invokestatic 146, 3) := by decide +kernel
theorem dX12_goRound_21 : decode cX12_goRound 21 = .ok (.ifCond .eq 34, 3) := by decide +kernel
theorem dX12_goRound_24 : decode cX12_goRound 24 = .ok (.iload 4, 2) := by decide +kernel
theorem dX12_goRound_26 : decode cX12_goRound 26 = .ok (.aload_n 0, 1) := by decide +kernel
theorem dX12_goRound_27 : decode cX12_goRound 27 = .ok (.bipush 10, 2) := by decide +kernel
theorem dX12_goRound_29 : decode cX12_goRound 29 = .ok (.invokevirtual 220, 3) := by decide +kernel
theorem dX12_goRound_32 : decode cX12_goRound 32 = .ok (.aload_n 0, 1) := by decide +kernel
theorem dX12_goRound_33 : decode cX12_goRound 33 = .ok (.iload_n 1, 1) := by decide +kernel
theorem dX12_goRound_34 : decode cX12_goRound 34 = .ok (.iload_n 2, 1) := by decide +kernel
theorem dX12_goRound_35 : decode cX12_goRound 35 = .ok (.iload_n 3, 1) := by decide +kernel
theorem dX12_goRound_36 : decode cX12_goRound 36 = .ok (.invokestatic 150, 3) := by decide +kernel
theorem dX12_goRound_39 : decode cX12_goRound 39 = .ok (.iload 5, 2) := by decide +kernel
theorem dX12_goRound_41 : decode cX12_goRound 41 = .ok (.invokevirtual 153, 3) := by decide +kernel
theorem dX12_goRound_44 : decode cX12_goRound 44 = .ok (.if_icmp .ge 7, 3) := by decide +kernel
theorem dX12_goRound_47 : decode cX12_goRound 47 = .ok (.iconst 1, 1) := by decide +kernel
theorem dX12_goRound_48 : decode cX12_goRound 48 = .ok (.goto 4, 3) := by decide +kernel
theorem dX12_goRound_51 : decode cX12_goRound 51 = .ok (.iconst 0, 1) := by decide +kernel
theorem dX12_goRound_52 : decode cX12_goRound 52 = .ok (.iadd, 1) := by decide +kernel
theorem dX12_goRound_53 : decode cX12_goRound 53 = .ok (.istore 4, 2) := by decide +kernel
theorem dX12_goRound_55 : decode cX12_goRound 55 = .ok (.iinc 5 1, 3) := by decide +kernel
theorem dX12_goRound_58 : decode cX12_goRound 58 = .ok (.goto (-52), 3) := by decide +kernel
theorem dX12_goRound_61 : decode cX12_goRound 61 = .ok (.iload 4, 2) := by decide +kernel
theorem dX12_goRound_63 : decode cX12_goRound 63 = .ok (.ireturn, 1) := by decide +kernel
theorem dX12_evening_0 : decode cX12_evening 0 = .ok (.aload_n 0, 1) := by decide +kernel
theorem dX12_evening_1 : decode cX12_evening 1 = .ok (.iload_n 1, 1) := by decide +kernel
theorem dX12_evening_2 : decode cX12_evening 2 = .ok (.iload_n 2, 1) := by decide +kernel
theorem dX12_evening_3 : decode cX12_evening 3 = .ok (.invokevirtual 172, 3) := by decide +kernel
theorem dX12_evening_6 : decode cX12_evening 6 = .ok (.ifCond .ne 6, 3) := by decide +kernel
theorem dX12_evening_9 : decode cX12_evening 9 = .ok (.bipush (-101), 2) := by decide +kernel
theorem dX12_evening_11 : decode cX12_evening 11 = .ok (.ireturn, 1) := by decide +kernel
theorem dX12_evening_12 : decode cX12_evening 12 = .ok (.aload_n 0, 1) := by decide +kernel
theorem dX12_evening_13 : decode cX12_evening 13 = .ok (.iload_n 3, 1) := by decide +kernel
theorem dX12_evening_14 : decode cX12_evening 14 = .ok (.invokevirtual 143, 3) := by decide +kernel
theorem dX12_evening_17 : decode cX12_evening 17 = .ok (.ifCond .eq 18, 3) := by decide +kernel
theorem dX12_evening_20 : decode cX12_evening 20 = .ok (.iload 4, 2) := by decide +kernel
theorem dX12_evening_22 : decode cX12_evening 22 = .ok (.ifCond .lt 13, 3) := by decide +kernel
theorem dX12_evening_25 : decode cX12_evening 25 = .ok (.iload 5, 2) := by decide +kernel
theorem dX12_evening_27 : decode cX12_evening 27 = .ok (.iconst 0, 1) := by decide +kernel
theorem dX12_evening_28 : decode cX12_evening 28 = .ok (.iconst 2, 1) := by decide +kernel
theorem dX12_evening_29 : decode cX12_evening 29 = .ok (.invokestatic 61, 3) := by decide +kernel
theorem dX12_evening_32 : decode cX12_evening 32 = .ok (.ifCond .ne 6, 3) := by decide +kernel
theorem dX12_evening_35 : decode cX12_evening 35 = .ok (.bipush (-102), 2) := by decide +kernel
theorem dX12_evening_37 : decode cX12_evening 37 = .ok (.ireturn, 1) := by decide +kernel
theorem dX12_evening_38 : decode cX12_evening 38 = .ok (.aload_n 0, 1) := by decide +kernel
theorem dX12_evening_39 : decode cX12_evening 39 = .ok (.iload 4, 2) := by decide +kernel
theorem dX12_evening_41 : decode cX12_evening 41 = .ok (.i2l, 1) := by decide +kernel
theorem dX12_evening_42 : decode cX12_evening 42 = .ok (.putfield 210, 3) := by decide +kernel
theorem dX12_evening_45 : decode cX12_evening 45 = .ok (.iload_n 3, 1) := by decide +kernel
theorem dX12_evening_46 : decode cX12_evening 46 = .ok (.invokestatic 150, 3) := by decide +kernel
theorem dX12_evening_49 : decode cX12_evening 49 = .ok (.istore 6, 2) := by decide +kernel
theorem dX12_evening_51 : decode cX12_evening 51 = .ok (.iconst (-1), 1) := by decide +kernel
theorem dX12_evening_52 : decode cX12_evening 52 = .ok (.istore 7, 2) := by decide +kernel
theorem dX12_evening_54 : decode cX12_evening 54 = .ok (.iconst 0, 1) := by decide +kernel
theorem dX12_evening_55 : decode cX12_evening 55 = .ok (.istore 8, 2) := by decide +kernel
theorem dX12_evening_57 : decode cX12_evening 57 = .ok (.iload 6, 2) := by decide +kernel
theorem dX12_evening_59 : decode cX12_evening 59 = .ok (.aload_n 0, 1) := by decide +kernel
theorem dX12_evening_60 : decode cX12_evening 60 = .ok (.getfield 31, 3) := by decide +kernel
theorem dX12_evening_63 : decode cX12_evening 63 = .ok (.iload_n 1, 1) := by decide +kernel
theorem dX12_evening_64 : decode cX12_evening 64 = .ok (.iaload, 1) := by decide +kernel
theorem dX12_evening_65 : decode cX12_evening 65 = .ok (.if_icmp .lt 73, 3) := by decide +kernel
theorem dX12_evening_68 : decode cX12_evening 68 = .ok (.aload_n 0, 1) := by decide +kernel
theorem dX12_evening_69 : decode cX12_evening 69 = .ok (.iload_n 1, 1) := by decide +kernel
theorem dX12_evening_70 : decode cX12_evening 70 = .ok (.iload_n 2, 1) := by decide +kernel
theorem dX12_evening_71 : decode cX12_evening 71 = .ok (.iload_n 3, 1) := by decide +kernel
theorem dX12_evening_72 : decode cX12_evening 72 = .ok (.invokevirtual 223, 3) := by decide +kernel
theorem dX12_evening_75 : decode cX12_evening 75 = .ok (.istore 7, 2) := by decide +kernel
theorem dX12_evening_77 : decode cX12_evening 77 = .ok (.aload_n 0, 1) := by decide +kernel
theorem dX12_evening_78 : decode cX12_evening 78 = .ok (.iload_n 1, 1) := by decide +kernel
theorem dX12_evening_79 : decode cX12_evening 79 = .ok (.iload 7, 2) := by decide +kernel
theorem dX12_evening_81 : decode cX12_evening 81 = .ok (.iload 6, 2) := by decide +kernel
theorem dX12_evening_83 : decode cX12_evening 83 = .ok (.invokevirtual 161, 3) := by decide +kernel
theorem dX12_evening_86 : decode cX12_evening 86 = .ok (.ifCond .ne 7, 3) := by decide +kernel
theorem dX12_evening_89 : decode cX12_evening 89 = .ok (.iconst 1, 1) := by decide +kernel
theorem dX12_evening_90 : decode cX12_evening 90 = .ok (.goto 4, 3) := by decide +kernel
theorem dX12_evening_93 : decode cX12_evening 93 = .ok (.iconst 0, 1) := by decide +kernel
theorem dX12_evening_94 : decode cX12_evening 94 = .ok (.istore 8, 2) := by decide +kernel
theorem dX12_evening_96 : decode cX12_evening 96 = .ok (.iload 8, 2) := by decide +kernel
theorem dX12_evening_98 : decode cX12_evening 98 = .ok (.ifCond .ne 40, 3) := by decide +kernel
theorem dX12_evening_101 : decode cX12_evening 101 = .ok (.aload_n 0, 1) := by decide +kernel
theorem dX12_evening_102 : decode cX12_evening 102 = .ok (.getfield 34, 3) := by decide +kernel
theorem dX12_evening_105 : decode cX12_evening 105 = .ok (.iload_n 1, 1) := by decide +kernel
theorem dX12_evening_106 : decode cX12_evening 106 = .ok (.baload, 1) := by decide +kernel
theorem dX12_evening_107 : decode cX12_evening 107 = .ok (.ifCond .eq 31, 3) := by decide +kernel
theorem dX12_evening_110 : decode cX12_evening 110 = .ok (.aload_n 0, 1) := by decide +kernel
theorem dX12_evening_111 : decode cX12_evening 111 = .ok (.iload_n 1, 1) := by decide +kernel
theorem dX12_evening_112 : decode cX12_evening 112 = .ok (.iload_n 2, 1) := by decide +kernel
theorem dX12_evening_113 : decode cX12_evening 113 = .ok (.iload_n 3, 1) := by decide +kernel
theorem dX12_evening_114 : decode cX12_evening 114 = .ok (.invokevirtual 223, 3) := by decide +kernel
theorem dX12_evening_117 : decode cX12_evening 117 = .ok (.istore 7, 2) := by decide +kernel
theorem dX12_evening_119 : decode cX12_evening 119 = .ok (.aload_n 0, 1) := by decide +kernel
theorem dX12_evening_120 : decode cX12_evening 120 = .ok (.iload_n 1, 1) := by decide +kernel
theorem dX12_evening_121 : decode cX12_evening 121 = .ok (.iload 7, 2) := by decide +kernel
theorem dX12_evening_123 : decode cX12_evening 123 = .ok (.iload 6, 2) := by decide +kernel
theorem dX12_evening_125 : decode cX12_evening 125 = .ok (.invokevirtual 161, 3) := by decide +kernel
theorem dX12_evening_128 : decode cX12_evening 128 = .ok (.ifCond .ne 7, 3) := by decide +kernel
theorem dX12_evening_131 : decode cX12_evening 131 = .ok (.iconst 1, 1) := by decide +kernel
theorem dX12_evening_132 : decode cX12_evening 132 = .ok (.goto 4, 3) := by decide +kernel
theorem dX12_evening_135 : decode cX12_evening 135 = .ok (.iconst 0, 1) := by decide +kernel
theorem dX12_evening_136 : decode cX12_evening 136 = .ok (.istore 8, 2) := by decide +kernel
theorem dX12_evening_138 : decode cX12_evening 138 = .ok (.iload 5, 2) := by decide +kernel
theorem dX12_evening_140 : decode cX12_evening 140 = .ok (.ifCond .ne 8, 3) := by decide +kernel
theorem dX12_evening_143 : decode cX12_evening 143 = .ok (.iload 7, 2) := by decide +kernel
theorem dX12_evening_145 : decode cX12_evening 145 = .ok (.goto 27, 3) := by decide +kernel
theorem dX12_evening_148 : decode cX12_evening 148 = .ok (.iload 5, 2) := by decide +kernel
theorem dX12_evening_150 : decode cX12_evening 150 = .ok (.iconst 1, 1) := by decide +kernel
theorem dX12_evening_151 : decode cX12_evening 151 = .ok (.if_icmp .ne 16, 3) := by decide +kernel
theorem dX12_evening_154 : decode cX12_evening 154 = .ok (.iload 8, 2) := by decide +kernel
theorem dX12_evening_156 : decode cX12_evening 156 = .ok (.ifCond .eq 7, 3) := by decide +kernel
theorem dX12_evening_159 : decode cX12_evening 159 = .ok (.iconst 1, 1) := by decide +kernel
theorem dX12_evening_160 : decode cX12_evening 160 = .ok (.goto 12, 3) := by decide +kernel
theorem dX12_evening_163 : decode cX12_evening 163 = .ok (.iconst 0, 1) := by decide +kernel
theorem dX12_evening_164 : decode cX12_evening 164 = .ok (.goto 8, 3) := by decide +kernel
theorem dX12_evening_167 : decode cX12_evening 167 = .ok (.aload_n 0, 1) := by decide +kernel
theorem dX12_evening_168 : decode cX12_evening 168 = .ok (.getfield 210, 3) := by decide +kernel
theorem dX12_evening_171 : decode cX12_evening 171 = .ok (.l2i, 1) := by decide +kernel
theorem dX12_evening_172 : decode cX12_evening 172 = .ok (.ireturn, 1) := by decide +kernel
theorem dX12_isInBy_0 : decode cX12_isInBy 0 = .ok (.iload 5, 2) := by decide +kernel
theorem dX12_isInBy_2 : decode cX12_isInBy 2 = .ok (.istore 6, 2) := by decide +kernel
theorem dX12_isInBy_4 : decode cX12_isInBy 4 = .ok (.iconst 0, 1) := by decide +kernel
theorem dX12_isInBy_5 : decode cX12_isInBy 5 = .ok (.istore 7, 2) := by decide +kernel
theorem dX12_isInBy_7 : decode cX12_isInBy 7 = .ok (.iload 7, 2) := by decide +kernel
theorem dX12_isInBy_9 : decode cX12_isInBy 9 = .ok (.aload_n 0, 1) := by decide +kernel
theorem dX12_isInBy_10 : decode cX12_isInBy 10 = .ok (.getfield 119, 3) := by decide +kernel
theorem dX12_isInBy_13 : decode cX12_isInBy 13 = .ok (.if_icmp .ge 48, 3) := by decide +kernel
theorem dX12_isInBy_16 : decode cX12_isInBy 16 = .ok (.iload 6, 2) := by decide +kernel
theorem dX12_isInBy_18 : decode cX12_isInBy 18 = .ok (.iload 7, 2) := by decide +kernel
theorem dX12_isInBy_20 : decode cX12_isInBy 20 = .ok (.iload_n 3, 1) := by decide +kernel
theorem dX12_isInBy_21 : decode cX12_isInBy 21 = .ok (.if_icmp .eq 30, 3) := by decide +kernel
theorem dX12_isInBy_24 : decode cX12_isInBy 24 = .ok (.iload 7, 2) := by decide +kernel
theorem dX12_isInBy_26 : decode cX12_isInBy 26 = .ok (.iload 4, 2) := by decide +kernel
theorem dX12_isInBy_28 : decode cX12_isInBy 28 = .ok (.if_icmp .eq 23, 3) := by decide +kernel
theorem dX12_isInBy_31 : decode cX12_isInBy 31 = .ok (.aload_n 0, 1) := by decide +kernel
theorem dX12_isInBy_32 : decode cX12_isInBy 32 = .ok (.getfield 22, 3) := by decide +kernel
theorem dX12_isInBy_35 : decode cX12_isInBy 35 = .ok (.bipush 6, 2) := by decide +kernel
theorem dX12_isInBy_37 : decode cX12_isInBy 37 = .ok (.iload 7, 2) := by decide +kernel
theorem dX12_isInBy_39 : decode cX12_isInBy 39 = .ok (.imul, 1) := by decide +kernel
theorem dX12_isInBy_40 : decode cX12_isInBy 40 = .ok (.iload_n 2, 1) := by decide +kernel
theorem dX12_isInBy_41 : decode cX12_isInBy 41 = .ok (.iadd, 1) := by decide +kernel
theorem dX12_isInBy_42 : decode cX12_isInBy 42 = .ok (.iaload, 1) := by decide +kernel
theorem dX12_isInBy_43 : decode cX12_isInBy 43 = .ok (.iconst 5, 1) := by decide +kernel
theorem dX12_isInBy_44 : decode cX12_isInBy 44 = .ok (.if_icmp .lt 7, 3) := by decide +kernel
theorem dX12_isInBy_47 : decode cX12_isInBy 47 = .ok (.iconst 1, 1) := by decide +kernel
theorem dX12_isInBy_48 : decode cX12_isInBy 48 = .ok (.goto 4, 3) := by decide +kernel
theorem dX12_isInBy_51 : decode cX12_isInBy 51 = .ok (.iconst 0, 1) := by decide +kernel
theorem dX12_isInBy_52 : decode cX12_isInBy 52 = .ok (.iadd, 1) := by decide +kernel
theorem dX12_isInBy_53 : decode cX12_isInBy 53 = .ok (.istore 6, 2) := by decide +kernel
theorem dX12_isInBy_55 : decode cX12_isInBy 55 = .ok (.iinc 7 1, 3) := by decide +kernel
theorem dX12_isInBy_58 : decode cX12_isInBy 58 = .ok (.goto (-51), 3) := by decide +kernel
theorem dX12_isInBy_61 : decode cX12_isInBy 61 = .ok (.aload_n 0, 1) := by decide +kernel
theorem dX12_isInBy_62 : decode cX12_isInBy 62 = .ok (.getfield 119, 3) := by decide +kernel
theorem dX12_isInBy_65 : decode cX12_isInBy 65 = .ok (.aload_n 0, 1) := by decide +kernel
theorem dX12_isInBy_66 : decode cX12_isInBy 66 = .ok (.getfield 31, 3) := by decide +kernel
theorem dX12_isInBy_69 : decode cX12_isInBy 69 = .ok (.iload_n 1, 1) := by decide +kernel
theorem dX12_isInBy_70 : decode cX12_isInBy 70 = .ok (.iaload, 1) := by decide +kernel
theorem dX12_isInBy_71 : decode cX12_isInBy 71 = .ok (.if_icmp .lt 21, 3) := by decide +kernel
theorem dX12_isInBy_74 : decode cX12_isInBy 74 = .ok (.aload_n 0, 1) := by decide +kernel
theorem dX12_isInBy_75 : decode cX12_isInBy 75 = .ok (.iload_n 1, 1) := by decide +kernel
theorem dX12_isInBy_76 : decode cX12_isInBy 76 = .ok (.iload 6, 2) := by decide +kernel
theorem dX12_isInBy_78 : decode cX12_isInBy 78 = .ok (.aload_n 0, 1) := by decide +kernel
theorem dX12_isInBy_79 : decode cX12_isInBy 79 = .ok (.getfield 119, 3) := by decide +kernel
theorem dX12_isInBy_82 : decode cX12_isInBy 82 = .ok (.invokevirtual 161, 3) := by decide +kernel
theorem dX12_isInBy_85 : decode cX12_isInBy 85 = .ok (.ifCond .ne 7, 3) := by decide +kernel
theorem dX12_isInBy_88 : decode cX12_isInBy 88 = .ok (.iconst 1, 1) := by decide +kernel
theorem dX12_isInBy_89 : decode cX12_isInBy 89 = .ok (.goto 4, 3) := by decide +kernel
theorem dX12_isInBy_92 : decode cX12_isInBy 92 = .ok (.iconst 0, 1) := by decide +kernel
theorem dX12_isInBy_93 : decode cX12_isInBy 93 = .ok (.ireturn, 1) := by decide +kernel
theorem dX12_gain_0 : decode cX12_gain 0 = .ok (.aload_n 0, 1) := by decide +kernel
theorem dX12_gain_1 : decode cX12_gain 1 = .ok (.iload_n 1, 1) := by decide +kernel
theorem dX12_gain_2 : decode cX12_gain 2 = .ok (.aload_n 0, 1) := by decide +kernel
theorem dX12_gain_3 : decode cX12_gain 3 = .ok (.getfield 227, 3) := by decide +kernel
theorem dX12_gain_6 : decode cX12_gain 6 = .ok (.aload_n 0, 1) := by decide +kernel
theorem dX12_gain_7 : decode cX12_gain 7 = .ok (.getfield 230, 3) := by decide +kernel
theorem dX12_gain_10 : decode cX12_gain 10 = .ok (.aload_n 0, 1) := by decide +kernel
theorem dX12_gain_11 : decode cX12_gain 11 = .ok (.getfield 233, 3) := by decide +kernel
theorem dX12_gain_14 : decode cX12_gain 14 = .ok (.iload_n 3, 1) := by decide +kernel
theorem dX12_gain_15 : decode cX12_gain 15 = .ok (.iconst 1, 1) := by decide +kernel
theorem dX12_gain_16 : decode cX12_gain 16 = .ok (.ishr, 1) := by decide +kernel
theorem dX12_gain_17 : decode cX12_gain 17 = .ok (.iconst 1, 1) := by decide +kernel
theorem dX12_gain_18 : decode cX12_gain 18 = .ok (.iand, 1) := by decide +kernel
theorem dX12_gain_19 : decode cX12_gain 19 = .ok (.invokevirtual 236, 3) := by decide +kernel
theorem dX12_gain_22 : decode cX12_gain 22 = .ok (.istore 4, 2) := by decide +kernel
theorem dX12_gain_24 : decode cX12_gain 24 = .ok (.aload_n 0, 1) := by decide +kernel
theorem dX12_gain_25 : decode cX12_gain 25 = .ok (.iload_n 1, 1) := by decide +kernel
theorem dX12_gain_26 : decode cX12_gain 26 = .ok (.aload_n 0, 1) := by decide +kernel
theorem dX12_gain_27 : decode cX12_gain 27 = .ok (.getfield 240, 3) := by decide +kernel
theorem dX12_gain_30 : decode cX12_gain 30 = .ok (.aload_n 0, 1) := by decide +kernel
theorem dX12_gain_31 : decode cX12_gain 31 = .ok (.getfield 230, 3) := by decide +kernel
theorem dX12_gain_34 : decode cX12_gain 34 = .ok (.aload_n 0, 1) := by decide +kernel
theorem dX12_gain_35 : decode cX12_gain 35 = .ok (.getfield 233, 3) := by decide +kernel
theorem dX12_gain_38 : decode cX12_gain 38 = .ok (.iload_n 3, 1) := by decide +kernel
theorem dX12_gain_39 : decode cX12_gain 39 = .ok (.iconst 1, 1) := by decide +kernel
theorem dX12_gain_40 : decode cX12_gain 40 = .ok (.iand, 1) := by decide +kernel
theorem dX12_gain_41 : decode cX12_gain 41 = .ok (.invokevirtual 236, 3) := by decide +kernel
theorem dX12_gain_44 : decode cX12_gain 44 = .ok (.istore 5, 2) := by decide +kernel
theorem dX12_gain_46 : decode cX12_gain 46 = .ok (.iload 4, 2) := by decide +kernel
theorem dX12_gain_48 : decode cX12_gain 48 = .ok (.ifCond .eq 22, 3) := by decide +kernel
theorem dX12_gain_51 : decode cX12_gain 51 = .ok (.iconst 5, 1) := by decide +kernel
theorem dX12_gain_52 : decode cX12_gain 52 = .ok (.aload_n 0, 1) := by decide +kernel
theorem dX12_gain_53 : decode cX12_gain 53 = .ok (.getfield 22, 3) := by decide +kernel
theorem dX12_gain_56 : decode cX12_gain 56 = .ok (.bipush 6, 2) := by decide +kernel
theorem dX12_gain_58 : decode cX12_gain 58 = .ok (.iload_n 2, 1) := by decide +kernel
theorem dX12_gain_59 : decode cX12_gain 59 = .ok (.imul, 1) := by decide +kernel
theorem dX12_gain_60 : decode cX12_gain 60 = .ok (.aload_n 0, 1) := by decide +kernel
theorem dX12_gain_61 : decode cX12_gain 61 = .ok (.getfield 227, 3) := by decide +kernel
theorem dX12_gain_64 : decode cX12_gain 64 = .ok (.iadd, 1) := by decide +kernel
theorem dX12_gain_65 : decode cX12_gain 65 = .ok (.iaload, 1) := by decide +kernel
theorem dX12_gain_66 : decode cX12_gain 66 = .ok (.isub, 1) := by decide +kernel
theorem dX12_gain_67 : decode cX12_gain 67 = .ok (.goto 4, 3) := by decide +kernel
theorem dX12_gain_70 : decode cX12_gain 70 = .ok (.iconst 0, 1) := by decide +kernel
theorem dX12_gain_71 : decode cX12_gain 71 = .ok (.iload 5, 2) := by decide +kernel
theorem dX12_gain_73 : decode cX12_gain 73 = .ok (.ifCond .eq 22, 3) := by decide +kernel
theorem dX12_gain_76 : decode cX12_gain 76 = .ok (.iconst 5, 1) := by decide +kernel
theorem dX12_gain_77 : decode cX12_gain 77 = .ok (.aload_n 0, 1) := by decide +kernel
theorem dX12_gain_78 : decode cX12_gain 78 = .ok (.getfield 22, 3) := by decide +kernel
theorem dX12_gain_81 : decode cX12_gain 81 = .ok (.bipush 6, 2) := by decide +kernel
theorem dX12_gain_83 : decode cX12_gain 83 = .ok (.iload_n 2, 1) := by decide +kernel
theorem dX12_gain_84 : decode cX12_gain 84 = .ok (.imul, 1) := by decide +kernel
theorem dX12_gain_85 : decode cX12_gain 85 = .ok (.aload_n 0, 1) := by decide +kernel
theorem dX12_gain_86 : decode cX12_gain 86 = .ok (.getfield 240, 3) := by decide +kernel
theorem dX12_gain_89 : decode cX12_gain 89 = .ok (.iadd, 1) := by decide +kernel
theorem dX12_gain_90 : decode cX12_gain 90 = .ok (.iaload, 1) := by decide +kernel
theorem dX12_gain_91 : decode cX12_gain 91 = .ok (.isub, 1) := by decide +kernel
theorem dX12_gain_92 : decode cX12_gain 92 = .ok (.goto 4, 3) := by decide +kernel
theorem dX12_gain_95 : decode cX12_gain 95 = .ok (.iconst 0, 1) := by decide +kernel
theorem dX12_gain_96 : decode cX12_gain 96 = .ok (.iadd, 1) := by decide +kernel
theorem dX12_gain_97 : decode cX12_gain 97 = .ok (.ireturn, 1) := by decide +kernel
theorem dX12_trade_0 : decode cX12_trade 0 = .ok (.aload_n 0, 1) := by decide +kernel
theorem dX12_trade_1 : decode cX12_trade 1 = .ok (.iload_n 1, 1) := by decide +kernel
theorem dX12_trade_2 : decode cX12_trade 2 = .ok (.invokevirtual 113, 3) := by decide +kernel
theorem dX12_trade_5 : decode cX12_trade 5 = .ok (.ifCond .eq 49, 3) := by decide +kernel
theorem dX12_trade_8 : decode cX12_trade 8 = .ok (.aload_n 0, 1) := by decide +kernel
theorem dX12_trade_9 : decode cX12_trade 9 = .ok (.iload_n 2, 1) := by decide +kernel
theorem dX12_trade_10 : decode cX12_trade 10 = .ok (.invokevirtual 125, 3) := by decide +kernel
theorem dX12_trade_13 : decode cX12_trade 13 = .ok (.ifCond .eq 41, 3) := by decide +kernel
theorem dX12_trade_16 : decode cX12_trade 16 = .ok (.aload_n 0, 1) := by decide +kernel
theorem dX12_trade_17 : decode cX12_trade 17 = .ok (.iload_n 3, 1) := by decide +kernel
theorem dX12_trade_18 : decode cX12_trade 18 = .ok (.invokevirtual 125, 3) := by decide +kernel
theorem dX12_trade_21 : decode cX12_trade 21 = .ok (.ifCond .eq 33, 3) := by decide +kernel
theorem dX12_trade_24 : decode cX12_trade 24 = .ok (.iload_n 2, 1) := by decide +kernel
theorem dX12_trade_25 : decode cX12_trade 25 = .ok (.iload_n 3, 1) := by decide +kernel
theorem dX12_trade_26 : decode cX12_trade 26 = .ok (.if_icmp .eq 28, 3) := by decide +kernel
theorem dX12_trade_29 : decode cX12_trade 29 = .ok (.aload_n 0, 1) := by decide +kernel
theorem dX12_trade_30 : decode cX12_trade 30 = .ok (.iload 4, 2) := by decide +kernel
theorem dX12_trade_32 : decode cX12_trade 32 = .ok (.invokevirtual 131, 3) := by decide +kernel
theorem dX12_trade_35 : decode cX12_trade 35 = .ok (.ifCond .eq 19, 3) := by decide +kernel
theorem dX12_trade_38 : decode cX12_trade 38 = .ok (.aload_n 0, 1) := by decide +kernel
theorem dX12_trade_39 : decode cX12_trade 39 = .ok (.iload 5, 2) := by decide +kernel
theorem dX12_trade_41 : decode cX12_trade 41 = .ok (.invokevirtual 131, 3) := by decide +kernel
theorem dX12_trade_44 : decode cX12_trade 44 = .ok (.ifCond .eq 10, 3) := by decide +kernel
theorem dX12_trade_47 : decode cX12_trade 47 = .ok (.iload 4, 2) := by decide +kernel
theorem dX12_trade_49 : decode cX12_trade 49 = .ok (.iload 5, 2) := by decide +kernel
theorem dX12_trade_51 : decode cX12_trade 51 = .ok (.if_icmp .ne 6, 3) := by decide +kernel
theorem dX12_trade_54 : decode cX12_trade 54 = .ok (.bipush (-101), 2) := by decide +kernel
theorem dX12_trade_56 : decode cX12_trade 56 = .ok (.ireturn, 1) := by decide +kernel
theorem dX12_trade_57 : decode cX12_trade 57 = .ok (.aload_n 0, 1) := by decide +kernel
theorem dX12_trade_58 : decode cX12_trade 58 = .ok (.iload_n 2, 1) := by decide +kernel
theorem dX12_trade_59 : decode cX12_trade 59 = .ok (.putfield 230, 3) := by decide +kernel
theorem dX12_trade_62 : decode cX12_trade 62 = .ok (.aload_n 0, 1) := by decide +kernel
theorem dX12_trade_63 : decode cX12_trade 63 = .ok (.iload_n 3, 1) := by decide +kernel
theorem dX12_trade_64 : decode cX12_trade 64 = .ok (.putfield 233, 3) := by decide +kernel
theorem dX12_trade_67 : decode cX12_trade 67 = .ok (.aload_n 0, 1) := by decide +kernel
theorem dX12_trade_68 : decode cX12_trade 68 = .ok (.iload 4, 2) := by decide +kernel
theorem dX12_trade_70 : decode cX12_trade 70 = .ok (.putfield 227, 3) := by decide +kernel
theorem dX12_trade_73 : decode cX12_trade 73 = .ok (.aload_n 0, 1) := by decide +kernel
theorem dX12_trade_74 : decode cX12_trade 74 = .ok (.iload 5, 2) := by decide +kernel
theorem dX12_trade_76 : decode cX12_trade 76 = .ok (.putfield 240, 3) := by decide +kernel
theorem dX12_trade_79 : decode cX12_trade 79 = .ok (.iconst 0, 1) := by decide +kernel
theorem dX12_trade_80 : decode cX12_trade 80 = .ok (.istore 6, 2) := by decide +kernel
theorem dX12_trade_82 : decode cX12_trade 82 = .ok (.iconst 0, 1) := by decide +kernel
theorem dX12_trade_83 : decode cX12_trade 83 = .ok (.istore 7, 2) := by decide +kernel
theorem dX12_trade_85 : decode cX12_trade 85 = .ok (.iload 7, 2) := by decide +kernel
theorem dX12_trade_87 : decode cX12_trade 87 = .ok (.iconst 4, 1) := by decide +kernel
theorem dX12_trade_88 : decode cX12_trade 88 = .ok (.if_icmp .ge 76, 3) := by decide +kernel
theorem dX12_trade_91 : decode cX12_trade 91 = .ok (.aload_n 0, 1) := by decide +kernel
theorem dX12_trade_92 : decode cX12_trade 92 = .ok (.iload_n 1, 1) := by decide +kernel
theorem dX12_trade_93 : decode cX12_trade 93 = .ok (.iload_n 2, 1) := by decide +kernel
theorem dX12_trade_94 : decode cX12_trade 94 = .ok (.iload 7, 2) := by decide +kernel
theorem dX12_trade_96 : decode cX12_trade 96 = .ok (.invokevirtual 243, 3) := by decide +kernel
theorem dX12_trade_99 : decode cX12_trade 99 = .ok (.aload_n 0, 1) := by decide +kernel
theorem dX12_trade_100 : decode cX12_trade 100 = .ok (.iload_n 1, 1) := by decide +kernel
theorem dX12_trade_101 : decode cX12_trade 101 = .ok (.iload_n 2, 1) := by decide +kernel
theorem dX12_trade_102 : decode cX12_trade 102 = .ok (.iload 7, 2) := by decide +kernel
theorem dX12_trade_104 : decode cX12_trade 104 = .ok (.iconst 1, 1) := by decide +kernel
theorem dX12_trade_105 : decode cX12_trade 105 = .ok (.ixor, 1) := by decide +kernel
theorem dX12_trade_106 : decode cX12_trade 106 = .ok (.invokevirtual 243, 3) := by decide +kernel
theorem dX12_trade_109 : decode cX12_trade 109 = .ok (.if_icmp .lt 28, 3) := by decide +kernel
theorem dX12_trade_112 : decode cX12_trade 112 = .ok (.aload_n 0, 1) := by decide +kernel
theorem dX12_trade_113 : decode cX12_trade 113 = .ok (.iload_n 1, 1) := by decide +kernel
theorem dX12_trade_114 : decode cX12_trade 114 = .ok (.iload_n 3, 1) := by decide +kernel
theorem dX12_trade_115 : decode cX12_trade 115 = .ok (.iload 7, 2) := by decide +kernel
theorem dX12_trade_117 : decode cX12_trade 117 = .ok (.invokevirtual 243, 3) := by decide +kernel
theorem dX12_trade_120 : decode cX12_trade 120 = .ok (.aload_n 0, 1) := by decide +kernel
theorem dX12_trade_121 : decode cX12_trade 121 = .ok (.iload_n 1, 1) := by decide +kernel
theorem dX12_trade_122 : decode cX12_trade 122 = .ok (.iload_n 3, 1) := by decide +kernel
theorem dX12_trade_123 : decode cX12_trade 123 = .ok (.iload 7, 2) := by decide +kernel
theorem dX12_trade_125 : decode cX12_trade 125 = .ok (.iconst 2, 1) := by decide +kernel
theorem dX12_trade_126 : decode cX12_trade 126 = .ok (.ixor, 1) := by decide +kernel
theorem dX12_trade_127 : decode cX12_trade 127 = .ok (.invokevirtual 243, 3) := by decide +kernel
theorem dX12_trade_130 : decode cX12_trade 130 = .ok (.if_icmp .lt 7, 3) := by decide +kernel
theorem dX12_trade_133 : decode cX12_trade 133 = .ok (.iconst 1, 1) := by decide +kernel
theorem dX12_trade_134 : decode cX12_trade 134 = .ok (.goto 4, 3) := by decide +kernel
theorem dX12_trade_137 : decode cX12_trade 137 = .ok (.iconst 0, 1) := by decide +kernel
theorem dX12_trade_138 : decode cX12_trade 138 = .ok (.istore 8, 2) := by decide +kernel
theorem dX12_trade_140 : decode cX12_trade 140 = .ok (.iload 6, 2) := by decide +kernel
theorem dX12_trade_142 : decode cX12_trade 142 = .ok (.iload 8, 2) := by decide +kernel
theorem dX12_trade_144 : decode cX12_trade 144 = .ok (.ifCond .eq 10, 3) := by decide +kernel
theorem dX12_trade_147 : decode cX12_trade 147 = .ok (.iconst 1, 1) := by decide +kernel
theorem dX12_trade_148 : decode cX12_trade 148 = .ok (.iload 7, 2) := by decide +kernel
theorem dX12_trade_150 : decode cX12_trade 150 = .ok (.ishl, 1) := by decide +kernel
theorem dX12_trade_151 : decode cX12_trade 151 = .ok (.goto 4, 3) := by decide +kernel
theorem dX12_trade_154 : decode cX12_trade 154 = .ok (.iconst 0, 1) := by decide +kernel
theorem dX12_trade_155 : decode cX12_trade 155 = .ok (.ior, 1) := by decide +kernel
theorem dX12_trade_156 : decode cX12_trade 156 = .ok (.istore 6, 2) := by decide +kernel
theorem dX12_trade_158 : decode cX12_trade 158 = .ok (.iinc 7 1, 3) := by decide +kernel
theorem dX12_trade_161 : decode cX12_trade 161 = .ok (.goto (-76), 3) := by decide +kernel
theorem dX12_trade_164 : decode cX12_trade 164 = .ok (.iload 6, 2) := by decide +kernel
theorem dX12_trade_166 : decode cX12_trade 166 = .ok (.ireturn, 1) := by decide +kernel
theorem dX12_elevens_0 : decode cX12_elevens 0 = .ok (.lconst 1, 1) := by decide +kernel
theorem dX12_elevens_1 : decode cX12_elevens 1 = .ok (.lstore_n 1, 1) := by decide +kernel
theorem dX12_elevens_2 : decode cX12_elevens 2 = .ok (.iconst 0, 1) := by decide +kernel
theorem dX12_elevens_3 : decode cX12_elevens 3 = .ok (.istore_n 3, 1) := by decide +kernel
theorem dX12_elevens_4 : decode cX12_elevens 4 = .ok (.iload_n 3, 1) := by decide +kernel
theorem dX12_elevens_5 : decode cX12_elevens 5 = .ok (.iload_n 0, 1) := by decide +kernel
theorem dX12_elevens_6 : decode cX12_elevens 6 = .ok (.if_icmp .ge 15, 3) := by decide +kernel
theorem dX12_elevens_9 : decode cX12_elevens 9 = .ok (.lload_n 1, 1) := by decide +kernel
theorem dX12_elevens_10 : decode cX12_elevens 10 = .ok (.ldc2_w 246, 3) := by decide +kernel
theorem dX12_elevens_13 : decode cX12_elevens 13 = .ok (.lmul, 1) := by decide +kernel
theorem dX12_elevens_14 : decode cX12_elevens 14 = .ok (.lstore_n 1, 1) := by decide +kernel
theorem dX12_elevens_15 : decode cX12_elevens 15 = .ok (.iinc 3 1, 3) := by decide +kernel
theorem dX12_elevens_18 : decode cX12_elevens 18 = .ok (.goto (-14), 3) := by decide +kernel
theorem dX12_elevens_21 : decode cX12_elevens 21 = .ok (.lload_n 1, 1) := by decide +kernel
theorem dX12_elevens_22 : decode cX12_elevens 22 = .ok (.lreturn, 1) := by decide +kernel
theorem dX12_isUsed_0 : decode cX12_isUsed 0 = .ok (.iload_n 2, 1) := by decide +kernel
theorem dX12_isUsed_1 : decode cX12_isUsed 1 = .ok (.ifCond .le 47, 3) := by decide +kernel
theorem dX12_isUsed_4 : decode cX12_isUsed 4 = .ok (.iload_n 3, 1) := by decide +kernel
theorem dX12_isUsed_5 : decode cX12_isUsed 5 = .ok (.i2l, 1) := by decide +kernel
theorem dX12_isUsed_6 : decode cX12_isUsed 6 = .ok (.iload_n 1, 1) := by decide +kernel
theorem dX12_isUsed_7 : decode cX12_isUsed 7 = .ok (.iconst 1, 1) := by decide +kernel
theorem dX12_isUsed_8 : decode cX12_isUsed 8 = .ok (.isub, 1) := by decide +kernel
theorem dX12_isUsed_9 : decode cX12_isUsed 9 = .ok (.invokestatic 248, 3) := by decide +kernel
theorem dX12_isUsed_12 : decode cX12_isUsed 12 = .ok (.lmul, 1) := by decide +kernel
theorem dX12_isUsed_13 : decode cX12_isUsed 13 = .ok (.aload_n 0, 1) := by decide +kernel
theorem dX12_isUsed_14 : decode cX12_isUsed 14 = .ok (.getfield 55, 3) := by decide +kernel
theorem dX12_isUsed_17 : decode cX12_isUsed 17 = .ok (.iconst 4, 1) := by decide +kernel
theorem dX12_isUsed_18 : decode cX12_isUsed 18 = .ok (.iload_n 1, 1) := by decide +kernel
theorem dX12_isUsed_19 : decode cX12_isUsed 19 = .ok (.iconst 1, 1) := by decide +kernel
theorem dX12_isUsed_20 : decode cX12_isUsed 20 = .ok (.isub, 1) := by decide +kernel
theorem dX12_isUsed_21 : decode cX12_isUsed 21 = .ok (.imul, 1) := by decide +kernel
theorem dX12_isUsed_22 : decode cX12_isUsed 22 = .ok (.iload_n 2, 1) := by decide +kernel
theorem dX12_isUsed_23 : decode cX12_isUsed 23 = .ok (.iadd, 1) := by decide +kernel
theorem dX12_isUsed_24 : decode cX12_isUsed 24 = .ok (.iconst 1, 1) := by decide +kernel
theorem dX12_isUsed_25 : decode cX12_isUsed 25 = .ok (.isub, 1) := by decide +kernel
theorem dX12_isUsed_26 : decode cX12_isUsed 26 = .ok (.laload, 1) := by decide +kernel
theorem dX12_isUsed_27 : decode cX12_isUsed 27 = .ok (.ladd, 1) := by decide +kernel
theorem dX12_isUsed_28 : decode cX12_isUsed 28 = .ok (.aload_n 0, 1) := by decide +kernel
theorem dX12_isUsed_29 : decode cX12_isUsed 29 = .ok (.getfield 55, 3) := by decide +kernel
theorem dX12_isUsed_32 : decode cX12_isUsed 32 = .ok (.iconst 4, 1) := by decide +kernel
theorem dX12_isUsed_33 : decode cX12_isUsed 33 = .ok (.iload_n 1, 1) := by decide +kernel
theorem dX12_isUsed_34 : decode cX12_isUsed 34 = .ok (.iconst 1, 1) := by decide +kernel
theorem dX12_isUsed_35 : decode cX12_isUsed 35 = .ok (.isub, 1) := by decide +kernel
theorem dX12_isUsed_36 : decode cX12_isUsed 36 = .ok (.imul, 1) := by decide +kernel
theorem dX12_isUsed_37 : decode cX12_isUsed 37 = .ok (.iload_n 2, 1) := by decide +kernel
theorem dX12_isUsed_38 : decode cX12_isUsed 38 = .ok (.iadd, 1) := by decide +kernel
theorem dX12_isUsed_39 : decode cX12_isUsed 39 = .ok (.laload, 1) := by decide +kernel
theorem dX12_isUsed_40 : decode cX12_isUsed 40 = .ok (.lcmp, 1) := by decide +kernel
theorem dX12_isUsed_41 : decode cX12_isUsed 41 = .ok (.ifCond .le 7, 3) := by decide +kernel
theorem dX12_isUsed_44 : decode cX12_isUsed 44 = .ok (.iconst 1, 1) := by decide +kernel
theorem dX12_isUsed_45 : decode cX12_isUsed 45 = .ok (.goto 4, 3) := by decide +kernel
theorem dX12_isUsed_48 : decode cX12_isUsed 48 = .ok (.iconst 0, 1) := by decide +kernel
theorem dX12_isUsed_49 : decode cX12_isUsed 49 = .ok (.ireturn, 1) := by decide +kernel
theorem dX12_layVetoes_0 : decode cX12_layVetoes 0 = .ok (.iconst 0, 1) := by decide +kernel
theorem dX12_layVetoes_1 : decode cX12_layVetoes 1 = .ok (.istore_n 2, 1) := by decide +kernel
theorem dX12_layVetoes_2 : decode cX12_layVetoes 2 = .ok (.iload_n 2, 1) := by decide +kernel
theorem dX12_layVetoes_3 : decode cX12_layVetoes 3 = .ok (.iconst 4, 1) := by decide +kernel
theorem dX12_layVetoes_4 : decode cX12_layVetoes 4 = .ok (.if_icmp .ge 16, 3) := by decide +kernel
theorem dX12_layVetoes_7 : decode cX12_layVetoes 7 = .ok (.aload_n 0, 1) := by decide +kernel
theorem dX12_layVetoes_8 : decode cX12_layVetoes 8 = .ok (.getfield 55, 3) := by decide +kernel
theorem dX12_layVetoes_11 : decode cX12_layVetoes 11 = .ok (.iload_n 2, 1) := by decide +kernel
theorem dX12_layVetoes_12 : decode cX12_layVetoes 12 = .ok (.lconst 0, 1) := by decide +kernel
theorem dX12_layVetoes_13 : decode cX12_layVetoes 13 = .ok (.lastore, 1) := by decide +kernel
theorem dX12_layVetoes_14 : decode cX12_layVetoes 14 = .ok (.iinc 2 1, 3) := by decide +kernel
theorem dX12_layVetoes_17 : decode cX12_layVetoes 17 = .ok (.goto (-15), 3) := by decide +kernel
theorem dX12_layVetoes_20 : decode cX12_layVetoes 20 = .ok (.iconst 1, 1) := by decide +kernel
theorem dX12_layVetoes_21 : decode cX12_layVetoes 21 = .ok (.istore_n 2, 1) := by decide +kernel
theorem dX12_layVetoes_22 : decode cX12_layVetoes 22 = .ok (.iload_n 2, 1) := by decide +kernel
theorem dX12_layVetoes_23 : decode cX12_layVetoes 23 = .ok (.iload_n 1, 1) := by decide +kernel
theorem dX12_layVetoes_24 : decode cX12_layVetoes 24 = .ok (.if_icmp .gt 109, 3) := by decide +kernel
theorem dX12_layVetoes_27 : decode cX12_layVetoes 27 = .ok (.iconst 0, 1) := by decide +kernel
theorem dX12_layVetoes_28 : decode cX12_layVetoes 28 = .ok (.istore_n 3, 1) := by decide +kernel
theorem dX12_layVetoes_29 : decode cX12_layVetoes 29 = .ok (.iload_n 3, 1) := by decide +kernel
theorem dX12_layVetoes_30 : decode cX12_layVetoes 30 = .ok (.iconst 4, 1) := by decide +kernel
theorem dX12_layVetoes_31 : decode cX12_layVetoes 31 = .ok (.if_icmp .ge 96, 3) := by decide +kernel
theorem dX12_layVetoes_34 : decode cX12_layVetoes 34 = .ok (.lconst 0, 1) := by decide +kernel
theorem dX12_layVetoes_35 : decode cX12_layVetoes 35 = .ok (.lstore 4, 2) := by decide +kernel
theorem dX12_layVetoes_37 : decode cX12_layVetoes 37 = .ok (.iconst 0, 1) := by decide +kernel
theorem dX12_layVetoes_38 : decode cX12_layVetoes 38 = .ok (.istore 6, 2) := by decide +kernel
theorem dX12_layVetoes_40 : decode cX12_layVetoes 40 = .ok (.iload 6, 2) := by decide +kernel
theorem dX12_layVetoes_42 : decode cX12_layVetoes 42 = .ok (.bipush 11, 2) := by decide +kernel
theorem dX12_layVetoes_44 : decode cX12_layVetoes 44 = .ok (.if_icmp .ge 65, 3) := by decide +kernel
theorem dX12_layVetoes_47 : decode cX12_layVetoes 47 = .ok (.lload 4, 2) := by decide +kernel
theorem dX12_layVetoes_49 : decode cX12_layVetoes 49 = .ok (.aload_n 0, 1) := by decide +kernel
theorem dX12_layVetoes_50 : decode cX12_layVetoes 50 = .ok (.iload_n 2, 1) := by decide +kernel
theorem dX12_layVetoes_51 : decode cX12_layVetoes 51 = .ok (.iload_n 3, 1) := by decide +kernel
theorem dX12_layVetoes_52 : decode cX12_layVetoes 52 = .ok (.iload 6, 2) := by decide +kernel
theorem dX12_layVetoes_54 : decode cX12_layVetoes 54 = .ok (.invokevirtual 251, 3) := by decide +kernel
theorem dX12_layVetoes_57 : decode cX12_layVetoes 57 = .ok (.ifCond .eq 31, 3) := by decide +kernel
theorem dX12_layVetoes_60 : decode cX12_layVetoes 60 = .ok (.iload 6, 2) := by decide +kernel
theorem dX12_layVetoes_62 : decode cX12_layVetoes 62 = .ok (.i2l, 1) := by decide +kernel
theorem dX12_layVetoes_63 : decode cX12_layVetoes 63 = .ok (.iload_n 2, 1) := by decide +kernel
theorem dX12_layVetoes_64 : decode cX12_layVetoes 64 = .ok (.iconst 1, 1) := by decide +kernel
theorem dX12_layVetoes_65 : decode cX12_layVetoes 65 = .ok (.isub, 1) := by decide +kernel
theorem dX12_layVetoes_66 : decode cX12_layVetoes 66 = .ok (.invokestatic 248, 3) := by decide +kernel
theorem dX12_layVetoes_69 : decode cX12_layVetoes 69 = .ok (.lmul, 1) := by decide +kernel
theorem dX12_layVetoes_70 : decode cX12_layVetoes 70 = .ok (.aload_n 0, 1) := by decide +kernel
theorem dX12_layVetoes_71 : decode cX12_layVetoes 71 = .ok (.getfield 55, 3) := by decide +kernel
theorem dX12_layVetoes_74 : decode cX12_layVetoes 74 = .ok (.iconst 4, 1) := by decide +kernel
theorem dX12_layVetoes_75 : decode cX12_layVetoes 75 = .ok (.iload_n 2, 1) := by decide +kernel
theorem dX12_layVetoes_76 : decode cX12_layVetoes 76 = .ok (.iconst 1, 1) := by decide +kernel
theorem dX12_layVetoes_77 : decode cX12_layVetoes 77 = .ok (.isub, 1) := by decide +kernel
theorem dX12_layVetoes_78 : decode cX12_layVetoes 78 = .ok (.imul, 1) := by decide +kernel
theorem dX12_layVetoes_79 : decode cX12_layVetoes 79 = .ok (.iload_n 3, 1) := by decide +kernel
theorem dX12_layVetoes_80 : decode cX12_layVetoes 80 = .ok (.iadd, 1) := by decide +kernel
theorem dX12_layVetoes_81 : decode cX12_layVetoes 81 = .ok (.iconst 1, 1) := by decide +kernel
theorem dX12_layVetoes_82 : decode cX12_layVetoes 82 = .ok (.isub, 1) := by decide +kernel
theorem dX12_layVetoes_83 : decode cX12_layVetoes 83 = .ok (.laload, 1) := by decide +kernel
theorem dX12_layVetoes_84 : decode cX12_layVetoes 84 = .ok (.ladd, 1) := by decide +kernel
theorem dX12_layVetoes_85 : decode cX12_layVetoes 85 = .ok (.goto 15, 3) := by decide +kernel
theorem dX12_layVetoes_88 : decode cX12_layVetoes 88 = .ok (.aload_n 0, 1) := by decide +kernel
theorem dX12_layVetoes_89 : decode cX12_layVetoes 89 = .ok (.getfield 55, 3) := by decide +kernel
theorem dX12_layVetoes_92 : decode cX12_layVetoes 92 = .ok (.iconst 4, 1) := by decide +kernel
theorem dX12_layVetoes_93 : decode cX12_layVetoes 93 = .ok (.iload_n 2, 1) := by decide +kernel
theorem dX12_layVetoes_94 : decode cX12_layVetoes 94 = .ok (.iconst 1, 1) := by decide +kernel
theorem dX12_layVetoes_95 : decode cX12_layVetoes 95 = .ok (.isub, 1) := by decide +kernel
theorem dX12_layVetoes_96 : decode cX12_layVetoes 96 = .ok (.imul, 1) := by decide +kernel
theorem dX12_layVetoes_97 : decode cX12_layVetoes 97 = .ok (.iload_n 3, 1) := by decide +kernel
theorem dX12_layVetoes_98 : decode cX12_layVetoes 98 = .ok (.iadd, 1) := by decide +kernel
theorem dX12_layVetoes_99 : decode cX12_layVetoes 99 = .ok (.laload, 1) := by decide +kernel
theorem dX12_layVetoes_100 : decode cX12_layVetoes 100 = .ok (.ladd, 1) := by decide +kernel
theorem dX12_layVetoes_101 : decode cX12_layVetoes 101 = .ok (.lstore 4, 2) := by decide +kernel
theorem dX12_layVetoes_103 : decode cX12_layVetoes 103 = .ok (.iinc 6 1, 3) := by decide +kernel
theorem dX12_layVetoes_106 : decode cX12_layVetoes 106 = .ok (.goto (-66), 3) := by decide +kernel
theorem dX12_layVetoes_109 : decode cX12_layVetoes 109 = .ok (.aload_n 0, 1) := by decide +kernel
theorem dX12_layVetoes_110 : decode cX12_layVetoes 110 = .ok (.getfield 55, 3) := by decide +kernel
theorem dX12_layVetoes_113 : decode cX12_layVetoes 113 = .ok (.iconst 4, 1) := by decide +kernel
theorem dX12_layVetoes_114 : decode cX12_layVetoes 114 = .ok (.iload_n 2, 1) := by decide +kernel
theorem dX12_layVetoes_115 : decode cX12_layVetoes 115 = .ok (.imul, 1) := by decide +kernel
theorem dX12_layVetoes_116 : decode cX12_layVetoes 116 = .ok (.iload_n 3, 1) := by decide +kernel
theorem dX12_layVetoes_117 : decode cX12_layVetoes 117 = .ok (.iadd, 1) := by decide +kernel
theorem dX12_layVetoes_118 : decode cX12_layVetoes 118 = .ok (.lload 4, 2) := by decide +kernel
theorem dX12_layVetoes_120 : decode cX12_layVetoes 120 = .ok (.lastore, 1) := by decide +kernel
theorem dX12_layVetoes_121 : decode cX12_layVetoes 121 = .ok (.iinc 3 1, 3) := by decide +kernel
theorem dX12_layVetoes_124 : decode cX12_layVetoes 124 = .ok (.goto (-95), 3) := by decide +kernel
theorem dX12_layVetoes_127 : decode cX12_layVetoes 127 = .ok (.iinc 2 1, 3) := by decide +kernel
theorem dX12_layVetoes_130 : decode cX12_layVetoes 130 = .ok (.goto (-108), 3) := by decide +kernel
theorem dX12_layVetoes_133 : decode cX12_layVetoes 133 = .ok (.return_, 1) := by decide +kernel
theorem dX12_veto_0 : decode cX12_veto 0 = .ok (.iload_n 1, 1) := by decide +kernel
theorem dX12_veto_1 : decode cX12_veto 1 = .ok (.iconst 1, 1) := by decide +kernel
theorem dX12_veto_2 : decode cX12_veto 2 = .ok (.bipush 8, 2) := by decide +kernel
theorem dX12_veto_4 : decode cX12_veto 4 = .ok (.invokestatic 61, 3) := by decide +kernel
theorem dX12_veto_7 : decode cX12_veto 7 = .ok (.ifCond .eq 22, 3) := by decide +kernel
theorem dX12_veto_10 : decode cX12_veto 10 = .ok (.iload_n 2, 1) := by decide +kernel
theorem dX12_veto_11 : decode cX12_veto 11 = .ok (.iconst 0, 1) := by decide +kernel
theorem dX12_veto_12 : decode cX12_veto 12 = .ok (.iconst 3, 1) := by decide +kernel
theorem dX12_veto_13 : decode cX12_veto 13 = .ok (.invokestatic 61, 3) := by decide +kernel
theorem dX12_veto_16 : decode cX12_veto 16 = .ok (.ifCond .eq 13, 3) := by decide +kernel
theorem dX12_veto_19 : decode cX12_veto 19 = .ok (.iload_n 3, 1) := by decide +kernel
theorem dX12_veto_20 : decode cX12_veto 20 = .ok (.iconst 0, 1) := by decide +kernel
theorem dX12_veto_21 : decode cX12_veto 21 = .ok (.bipush 10, 2) := by decide +kernel
theorem dX12_veto_23 : decode cX12_veto 23 = .ok (.invokestatic 61, 3) := by decide +kernel
theorem dX12_veto_26 : decode cX12_veto 26 = .ok (.ifCond .ne 6, 3) := by decide +kernel
theorem dX12_veto_29 : decode cX12_veto 29 = .ok (.bipush (-102), 2) := by decide +kernel
theorem dX12_veto_31 : decode cX12_veto 31 = .ok (.ireturn, 1) := by decide +kernel
theorem dX12_veto_32 : decode cX12_veto 32 = .ok (.aload_n 0, 1) := by decide +kernel
theorem dX12_veto_33 : decode cX12_veto 33 = .ok (.iload_n 1, 1) := by decide +kernel
theorem dX12_veto_34 : decode cX12_veto 34 = .ok (.invokevirtual 254, 3) := by decide +kernel
theorem dX12_veto_37 : decode cX12_veto 37 = .ok (.aload_n 0, 1) := by decide +kernel
theorem dX12_veto_38 : decode cX12_veto 38 = .ok (.iload_n 1, 1) := by decide +kernel
theorem dX12_veto_39 : decode cX12_veto 39 = .ok (.iload_n 2, 1) := by decide +kernel
theorem dX12_veto_40 : decode cX12_veto 40 = .ok (.iload_n 3, 1) := by decide +kernel
theorem dX12_veto_41 : decode cX12_veto 41 = .ok (.invokevirtual 251, 3) := by decide +kernel
theorem dX12_veto_44 : decode cX12_veto 44 = .ok (.ifCond .eq 7, 3) := by decide +kernel
theorem dX12_veto_47 : decode cX12_veto 47 = .ok (.iconst 1, 1) := by decide +kernel
theorem dX12_veto_48 : decode cX12_veto 48 = .ok (.goto 4, 3) := by decide +kernel
theorem dX12_veto_51 : decode cX12_veto 51 = .ok (.iconst 0, 1) := by decide +kernel
theorem dX12_veto_52 : decode cX12_veto 52 = .ok (.ireturn, 1) := by decide +kernel
theorem dX12_worth_0 : decode cX12_worth 0 = .ok (.iload_n 1, 1) := by decide +kernel
theorem dX12_worth_1 : decode cX12_worth 1 = .ok (.iconst 1, 1) := by decide +kernel
theorem dX12_worth_2 : decode cX12_worth 2 = .ok (.bipush 8, 2) := by decide +kernel
theorem dX12_worth_4 : decode cX12_worth 4 = .ok (.invokestatic 61, 3) := by decide +kernel
theorem dX12_worth_7 : decode cX12_worth 7 = .ok (.ifCond .eq 19, 3) := by decide +kernel
theorem dX12_worth_10 : decode cX12_worth 10 = .ok (.iload_n 2, 1) := by decide +kernel
theorem dX12_worth_11 : decode cX12_worth 11 = .ok (.iconst 0, 1) := by decide +kernel
theorem dX12_worth_12 : decode cX12_worth 12 = .ok (.iconst 3, 1) := by decide +kernel
theorem dX12_worth_13 : decode cX12_worth 13 = .ok (.invokestatic 61, 3) := by decide +kernel
theorem dX12_worth_16 : decode cX12_worth 16 = .ok (.ifCond .eq 10, 3) := by decide +kernel
theorem dX12_worth_19 : decode cX12_worth 19 = .ok (.iload_n 3, 1) := by decide +kernel
theorem dX12_worth_20 : decode cX12_worth 20 = .ok (.invokestatic 175, 3) := by decide +kernel
theorem dX12_worth_23 : decode cX12_worth 23 = .ok (.ifCond .ne 7, 3) := by decide +kernel
theorem dX12_worth_26 : decode cX12_worth 26 = .ok (.ldc2_w 184, 3) := by decide +kernel
theorem dX12_worth_29 : decode cX12_worth 29 = .ok (.lreturn, 1) := by decide +kernel
theorem dX12_worth_30 : decode cX12_worth 30 = .ok (.aload_n 0, 1) := by decide +kernel
theorem dX12_worth_31 : decode cX12_worth 31 = .ok (.iload_n 1, 1) := by decide +kernel
theorem dX12_worth_32 : decode cX12_worth 32 = .ok (.invokevirtual 254, 3) := by decide +kernel
theorem dX12_worth_35 : decode cX12_worth 35 = .ok (.aload_n 0, 1) := by decide +kernel
theorem dX12_worth_36 : decode cX12_worth 36 = .ok (.getfield 55, 3) := by decide +kernel
theorem dX12_worth_39 : decode cX12_worth 39 = .ok (.iconst 4, 1) := by decide +kernel
theorem dX12_worth_40 : decode cX12_worth 40 = .ok (.iload_n 1, 1) := by decide +kernel
theorem dX12_worth_41 : decode cX12_worth 41 = .ok (.imul, 1) := by decide +kernel
theorem dX12_worth_42 : decode cX12_worth 42 = .ok (.iload_n 2, 1) := by decide +kernel
theorem dX12_worth_43 : decode cX12_worth 43 = .ok (.iadd, 1) := by decide +kernel
theorem dX12_worth_44 : decode cX12_worth 44 = .ok (.laload, 1) := by decide +kernel
theorem dX12_worth_45 : decode cX12_worth 45 = .ok (.iload_n 1, 1) := by decide +kernel
theorem dX12_worth_46 : decode cX12_worth 46 = .ok (.invokestatic 248, 3) := by decide +kernel
theorem dX12_worth_49 : decode cX12_worth 49 = .ok (.iload_n 3, 1) := by decide +kernel
theorem dX12_worth_50 : decode cX12_worth 50 = .ok (.invokestatic 178, 3) := by decide +kernel
theorem dX12_worth_53 : decode cX12_worth 53 = .ok (.lreturn, 1) := by decide +kernel
theorem dX12_clubRound_0 : decode cX12_clubRound 0 = .ok (.iconst 0, 1) := by decide +kernel
theorem dX12_clubRound_1 : decode cX12_clubRound 1 = .ok (.istore_n 2, 1) := by decide +kernel
theorem dX12_clubRound_2 : decode cX12_clubRound 2 = .ok (.iconst 0, 1) := by decide +kernel
theorem dX12_clubRound_3 : decode cX12_clubRound 3 = .ok (.istore_n 3, 1) := by decide +kernel
theorem dX12_clubRound_4 : decode cX12_clubRound 4 = .ok (.iload_n 3, 1) := by decide +kernel
theorem dX12_clubRound_5 : decode cX12_clubRound 5 = .ok (.aload_n 0, 1) := by decide +kernel
theorem dX12_clubRound_6 : decode cX12_clubRound 6 = .ok (.getfield 258, 3) := by decide +kernel
theorem dX12_clubRound_9 : decode cX12_clubRound 9 = .ok (.if_icmp .ge 61, 3) := by decide +kernel
theorem dX12_clubRound_12 : decode cX12_clubRound 12 = .ok (.aload_n 0, 1) := by decide +kernel
theorem dX12_clubRound_13 : decode cX12_clubRound 13 = .ok (.getfield 58, 3) := by decide +kernel
theorem dX12_clubRound_16 : decode cX12_clubRound 16 = .ok (.iload_n 3, 1) := by decide +kernel
theorem dX12_clubRound_17 : decode cX12_clubRound 17 = .ok (.iaload, 1) := by decide +kernel
theorem dX12_clubRound_18 : decode cX12_clubRound 18 = .ok (.iload_n 1, 1) := by decide +kernel
theorem dX12_clubRound_19 : decode cX12_clubRound 19 = .ok (.if_icmp .ge 14, 3) := by decide +kernel
theorem dX12_clubRound_22 : decode cX12_clubRound 22 = .ok (.iload_n 1, 1) := by decide +kernel
theorem dX12_clubRound_23 : decode cX12_clubRound 23 = .ok (.aload_n 0, 1) := by decide +kernel
theorem dX12_clubRound_24 : decode cX12_clubRound 24 = .ok (.getfield 58, 3) := by decide +kernel
theorem dX12_clubRound_27 : decode cX12_clubRound 27 = .ok (.iload_n 3, 1) := by decide +kernel
theorem dX12_clubRound_28 : decode cX12_clubRound 28 = .ok (.iaload, 1) := by decide +kernel
theorem dX12_clubRound_29 : decode cX12_clubRound 29 = .ok (.isub, 1) := by decide +kernel
theorem dX12_clubRound_30 : decode cX12_clubRound 30 = .ok (.goto 11, 3) := by decide +kernel
theorem dX12_clubRound_33 : decode cX12_clubRound 33 = .ok (.aload_n 0, 1) := by decide +kernel
theorem dX12_clubRound_34 : decode cX12_clubRound 34 = .ok (.getfield 58, 3) := by decide +kernel
theorem dX12_clubRound_37 : decode cX12_clubRound 37 = .ok (.iload_n 3, 1) := by decide +kernel
theorem dX12_clubRound_38 : decode cX12_clubRound 38 = .ok (.iaload, 1) := by decide +kernel
theorem dX12_clubRound_39 : decode cX12_clubRound 39 = .ok (.iload_n 1, 1) := by decide +kernel
theorem dX12_clubRound_40 : decode cX12_clubRound 40 = .ok (.isub, 1) := by decide +kernel
theorem dX12_clubRound_41 : decode cX12_clubRound 41 = .ok (.istore 4, 2) := by decide +kernel
theorem dX12_clubRound_43 : decode cX12_clubRound 43 = .ok (.iload_n 2, 1) := by decide +kernel
theorem dX12_clubRound_44 : decode cX12_clubRound 44 = .ok (.aload_n 0, 1) := by decide +kernel
theorem dX12_clubRound_45 : decode cX12_clubRound 45 = .ok (.bipush 10, 2) := by decide +kernel
theorem dX12_clubRound_47 : decode cX12_clubRound 47 = .ok (.invokevirtual 220, 3) := by decide +kernel
theorem dX12_clubRound_50 : decode cX12_clubRound 50 = .ok (.iconst 2, 1) := by decide +kernel
theorem dX12_clubRound_51 : decode cX12_clubRound 51 = .ok (.iload 4, 2) := by decide +kernel
theorem dX12_clubRound_53 : decode cX12_clubRound 53 = .ok (.imul, 1) := by decide +kernel
theorem dX12_clubRound_54 : decode cX12_clubRound 54 = .ok (.if_icmp .ge 7, 3) := by decide +kernel
theorem dX12_clubRound_57 : decode cX12_clubRound 57 = .ok (.iconst 1, 1) := by decide +kernel
theorem dX12_clubRound_58 : decode cX12_clubRound 58 = .ok (.goto 4, 3) := by decide +kernel
theorem dX12_clubRound_61 : decode cX12_clubRound 61 = .ok (.iconst 0, 1) := by decide +kernel
theorem dX12_clubRound_62 : decode cX12_clubRound 62 = .ok (.iadd, 1) := by decide +kernel
theorem dX12_clubRound_63 : decode cX12_clubRound 63 = .ok (.istore_n 2, 1) := by decide +kernel
theorem dX12_clubRound_64 : decode cX12_clubRound 64 = .ok (.iinc 3 1, 3) := by decide +kernel
theorem dX12_clubRound_67 : decode cX12_clubRound 67 = .ok (.goto (-63), 3) := by decide +kernel
theorem dX12_clubRound_70 : decode cX12_clubRound 70 = .ok (.iload_n 2, 1) := by decide +kernel
theorem dX12_clubRound_71 : decode cX12_clubRound 71 = .ok (.ireturn, 1) := by decide +kernel
theorem dX12_isLetIn_0 : decode cX12_isLetIn 0 = .ok (.aload_n 0, 1) := by decide +kernel
theorem dX12_isLetIn_1 : decode cX12_isLetIn 1 = .ok (.getfield 258, 3) := by decide +kernel
theorem dX12_isLetIn_4 : decode cX12_isLetIn 4 = .ok (.ifCond .eq 16, 3) := by decide +kernel
theorem dX12_isLetIn_7 : decode cX12_isLetIn 7 = .ok (.aload_n 0, 1) := by decide +kernel
theorem dX12_isLetIn_8 : decode cX12_isLetIn 8 = .ok (.getfield 258, 3) := by decide +kernel
theorem dX12_isLetIn_11 : decode cX12_isLetIn 11 = .ok (.aload_n 0, 1) := by decide +kernel
theorem dX12_isLetIn_12 : decode cX12_isLetIn 12 = .ok (.getfield 31, 3) := by decide +kernel
theorem dX12_isLetIn_15 : decode cX12_isLetIn 15 = .ok (.iload_n 1, 1) := by decide +kernel
theorem dX12_isLetIn_16 : decode cX12_isLetIn 16 = .ok (.iaload, 1) := by decide +kernel
theorem dX12_isLetIn_17 : decode cX12_isLetIn 17 = .ok (.if_icmp .ge 5, 3) := by decide +kernel
theorem dX12_isLetIn_20 : decode cX12_isLetIn 20 = .ok (.iconst 0, 1) := by decide +kernel
theorem dX12_isLetIn_21 : decode cX12_isLetIn 21 = .ok (.ireturn, 1) := by decide +kernel
theorem dX12_isLetIn_22 : decode cX12_isLetIn 22 = .ok (.aload_n 0, 1) := by decide +kernel
theorem dX12_isLetIn_23 : decode cX12_isLetIn 23 = .ok (.iload_n 1, 1) := by decide +kernel
theorem dX12_isLetIn_24 : decode cX12_isLetIn 24 = .ok (.aload_n 0, 1) := by decide +kernel
theorem dX12_isLetIn_25 : decode cX12_isLetIn 25 = .ok (.iload_n 2, 1) := by decide +kernel
theorem dX12_isLetIn_26 : decode cX12_isLetIn 26 = .ok (.invokevirtual 261, 3) := by decide +kernel
theorem dX12_isLetIn_29 : decode cX12_isLetIn 29 = .ok (.aload_n 0, 1) := by decide +kernel
theorem dX12_isLetIn_30 : decode cX12_isLetIn 30 = .ok (.getfield 258, 3) := by decide +kernel
theorem dX12_isLetIn_33 : decode cX12_isLetIn 33 = .ok (.invokevirtual 161, 3) := by decide +kernel
theorem dX12_isLetIn_36 : decode cX12_isLetIn 36 = .ok (.ifCond .ne 7, 3) := by decide +kernel
theorem dX12_isLetIn_39 : decode cX12_isLetIn 39 = .ok (.iconst 1, 1) := by decide +kernel
theorem dX12_isLetIn_40 : decode cX12_isLetIn 40 = .ok (.goto 4, 3) := by decide +kernel
theorem dX12_isLetIn_43 : decode cX12_isLetIn 43 = .ok (.iconst 0, 1) := by decide +kernel
theorem dX12_isLetIn_44 : decode cX12_isLetIn 44 = .ok (.istore_n 3, 1) := by decide +kernel
theorem dX12_isLetIn_45 : decode cX12_isLetIn 45 = .ok (.iload_n 3, 1) := by decide +kernel
theorem dX12_isLetIn_46 : decode cX12_isLetIn 46 = .ok (.ifCond .ne 29, 3) := by decide +kernel
theorem dX12_isLetIn_49 : decode cX12_isLetIn 49 = .ok (.aload_n 0, 1) := by decide +kernel
theorem dX12_isLetIn_50 : decode cX12_isLetIn 50 = .ok (.getfield 34, 3) := by decide +kernel
theorem dX12_isLetIn_53 : decode cX12_isLetIn 53 = .ok (.iload_n 1, 1) := by decide +kernel
theorem dX12_isLetIn_54 : decode cX12_isLetIn 54 = .ok (.baload, 1) := by decide +kernel
theorem dX12_isLetIn_55 : decode cX12_isLetIn 55 = .ok (.ifCond .eq 24, 3) := by decide +kernel
theorem dX12_isLetIn_58 : decode cX12_isLetIn 58 = .ok (.aload_n 0, 1) := by decide +kernel
theorem dX12_isLetIn_59 : decode cX12_isLetIn 59 = .ok (.iload_n 1, 1) := by decide +kernel
theorem dX12_isLetIn_60 : decode cX12_isLetIn 60 = .ok (.aload_n 0, 1) := by decide +kernel
theorem dX12_isLetIn_61 : decode cX12_isLetIn 61 = .ok (.iload_n 2, 1) := by decide +kernel
theorem dX12_isLetIn_62 : decode cX12_isLetIn 62 = .ok (.invokevirtual 261, 3) := by decide +kernel
theorem dX12_isLetIn_65 : decode cX12_isLetIn 65 = .ok (.aload_n 0, 1) := by decide +kernel
theorem dX12_isLetIn_66 : decode cX12_isLetIn 66 = .ok (.getfield 258, 3) := by decide +kernel
theorem dX12_isLetIn_69 : decode cX12_isLetIn 69 = .ok (.invokevirtual 161, 3) := by decide +kernel
theorem dX12_isLetIn_72 : decode cX12_isLetIn 72 = .ok (.ifCond .ne 7, 3) := by decide +kernel
theorem dX12_isLetIn_75 : decode cX12_isLetIn 75 = .ok (.iconst 1, 1) := by decide +kernel
theorem dX12_isLetIn_76 : decode cX12_isLetIn 76 = .ok (.goto 4, 3) := by decide +kernel
theorem dX12_isLetIn_79 : decode cX12_isLetIn 79 = .ok (.iconst 0, 1) := by decide +kernel
theorem dX12_isLetIn_80 : decode cX12_isLetIn 80 = .ok (.ireturn, 1) := by decide +kernel
theorem dX12_unlike_0 : decode cX12_unlike 0 = .ok (.iconst 0, 1) := by decide +kernel
theorem dX12_unlike_1 : decode cX12_unlike 1 = .ok (.istore_n 1, 1) := by decide +kernel
theorem dX12_unlike_2 : decode cX12_unlike 2 = .ok (.iconst 0, 1) := by decide +kernel
theorem dX12_unlike_3 : decode cX12_unlike 3 = .ok (.istore_n 2, 1) := by decide +kernel
theorem dX12_unlike_4 : decode cX12_unlike 4 = .ok (.iload_n 2, 1) := by decide +kernel
theorem dX12_unlike_5 : decode cX12_unlike 5 = .ok (.aload_n 0, 1) := by decide +kernel
theorem dX12_unlike_6 : decode cX12_unlike 6 = .ok (.getfield 258, 3) := by decide +kernel
theorem dX12_unlike_9 : decode cX12_unlike 9 = .ok (.if_icmp .ge 20, 3) := by decide +kernel
theorem dX12_unlike_12 : decode cX12_unlike 12 = .ok (.iload_n 1, 1) := by decide +kernel
theorem dX12_unlike_13 : decode cX12_unlike 13 = .ok (.iconst 1, 1) := by decide +kernel
theorem dX12_unlike_14 : decode cX12_unlike 14 = .ok (.aload_n 0, 1) := by decide +kernel
theorem dX12_unlike_15 : decode cX12_unlike 15 = .ok (.getfield 58, 3) := by decide +kernel
theorem dX12_unlike_18 : decode cX12_unlike 18 = .ok (.iload_n 2, 1) := by decide +kernel
theorem dX12_unlike_19 : decode cX12_unlike 19 = .ok (.iaload, 1) := by decide +kernel
theorem dX12_unlike_20 : decode cX12_unlike 20 = .ok (.ishl, 1) := by decide +kernel
theorem dX12_unlike_21 : decode cX12_unlike 21 = .ok (.ior, 1) := by decide +kernel
theorem dX12_unlike_22 : decode cX12_unlike 22 = .ok (.istore_n 1, 1) := by decide +kernel
theorem dX12_unlike_23 : decode cX12_unlike 23 = .ok (.iinc 2 1, 3) := by decide +kernel
theorem dX12_unlike_26 : decode cX12_unlike 26 = .ok (.goto (-22), 3) := by decide +kernel
theorem dX12_unlike_29 : decode cX12_unlike 29 = .ok (.iload_n 1, 1) := by decide +kernel
theorem dX12_unlike_30 : decode cX12_unlike 30 = .ok (.invokestatic 150, 3) := by decide +kernel
theorem dX12_unlike_33 : decode cX12_unlike 33 = .ok (.ireturn, 1) := by decide +kernel
theorem dX12_years_0 : decode cX12_years 0 = .ok (.aload_n 0, 1) := by decide +kernel
theorem dX12_years_1 : decode cX12_years 1 = .ok (.iload_n 1, 1) := by decide +kernel
theorem dX12_years_2 : decode cX12_years 2 = .ok (.invokevirtual 113, 3) := by decide +kernel
theorem dX12_years_5 : decode cX12_years 5 = .ok (.ifCond .ne 6, 3) := by decide +kernel
theorem dX12_years_8 : decode cX12_years 8 = .ok (.bipush (-101), 2) := by decide +kernel
theorem dX12_years_10 : decode cX12_years 10 = .ok (.ireturn, 1) := by decide +kernel
theorem dX12_years_11 : decode cX12_years 11 = .ok (.iload_n 2, 1) := by decide +kernel
theorem dX12_years_12 : decode cX12_years 12 = .ok (.iconst 0, 1) := by decide +kernel
theorem dX12_years_13 : decode cX12_years 13 = .ok (.bipush 60, 2) := by decide +kernel
theorem dX12_years_15 : decode cX12_years 15 = .ok (.invokestatic 61, 3) := by decide +kernel
theorem dX12_years_18 : decode cX12_years 18 = .ok (.ifCond .eq 17, 3) := by decide +kernel
theorem dX12_years_21 : decode cX12_years 21 = .ok (.iload_n 3, 1) := by decide +kernel
theorem dX12_years_22 : decode cX12_years 22 = .ok (.ifCond .lt 13, 3) := by decide +kernel
theorem dX12_years_25 : decode cX12_years 25 = .ok (.iload 4, 2) := by decide +kernel
theorem dX12_years_27 : decode cX12_years 27 = .ok (.iconst 0, 1) := by decide +kernel
theorem dX12_years_28 : decode cX12_years 28 = .ok (.iconst 3, 1) := by decide +kernel
theorem dX12_years_29 : decode cX12_years 29 = .ok (.invokestatic 61, 3) := by decide +kernel
theorem dX12_years_32 : decode cX12_years 32 = .ok (.ifCond .ne 6, 3) := by decide +kernel
theorem dX12_years_35 : decode cX12_years 35 = .ok (.bipush (-102), 2) := by decide +kernel
theorem dX12_years_37 : decode cX12_years 37 = .ok (.ireturn, 1) := by decide +kernel
theorem dX12_years_38 : decode cX12_years 38 = .ok (.aload_n 0, 1) := by decide +kernel
theorem dX12_years_39 : decode cX12_years 39 = .ok (.iload_n 3, 1) := by decide +kernel
theorem dX12_years_40 : decode cX12_years 40 = .ok (.i2l, 1) := by decide +kernel
theorem dX12_years_41 : decode cX12_years 41 = .ok (.putfield 210, 3) := by decide +kernel
theorem dX12_years_44 : decode cX12_years 44 = .ok (.aload_n 0, 1) := by decide +kernel
theorem dX12_years_45 : decode cX12_years 45 = .ok (.bipush 8, 2) := by decide +kernel
theorem dX12_years_47 : decode cX12_years 47 = .ok (.putfield 258, 3) := by decide +kernel
theorem dX12_years_50 : decode cX12_years 50 = .ok (.iconst 0, 1) := by decide +kernel
theorem dX12_years_51 : decode cX12_years 51 = .ok (.istore 5, 2) := by decide +kernel
theorem dX12_years_53 : decode cX12_years 53 = .ok (.iload 5, 2) := by decide +kernel
theorem dX12_years_55 : decode cX12_years 55 = .ok (.bipush 8, 2) := by decide +kernel
theorem dX12_years_57 : decode cX12_years 57 = .ok (.if_icmp .ge 22, 3) := by decide +kernel
theorem dX12_years_60 : decode cX12_years 60 = .ok (.aload_n 0, 1) := by decide +kernel
theorem dX12_years_61 : decode cX12_years 61 = .ok (.getfield 58, 3) := by decide +kernel
theorem dX12_years_64 : decode cX12_years 64 = .ok (.iload 5, 2) := by decide +kernel
theorem dX12_years_66 : decode cX12_years 66 = .ok (.aload_n 0, 1) := by decide +kernel
theorem dX12_years_67 : decode cX12_years 67 = .ok (.bipush 10, 2) := by decide +kernel
theorem dX12_years_69 : decode cX12_years 69 = .ok (.invokevirtual 220, 3) := by decide +kernel
theorem dX12_years_72 : decode cX12_years 72 = .ok (.iastore, 1) := by decide +kernel
theorem dX12_years_73 : decode cX12_years 73 = .ok (.iinc 5 1, 3) := by decide +kernel
theorem dX12_years_76 : decode cX12_years 76 = .ok (.goto (-23), 3) := by decide +kernel
theorem dX12_years_79 : decode cX12_years 79 = .ok (.iconst 0, 1) := by decide +kernel
theorem dX12_years_80 : decode cX12_years 80 = .ok (.istore 5, 2) := by decide +kernel
theorem dX12_years_82 : decode cX12_years 82 = .ok (.iconst 0, 1) := by decide +kernel
theorem dX12_years_83 : decode cX12_years 83 = .ok (.istore 6, 2) := by decide +kernel
theorem dX12_years_85 : decode cX12_years 85 = .ok (.iload 6, 2) := by decide +kernel
theorem dX12_years_87 : decode cX12_years 87 = .ok (.iload_n 2, 1) := by decide +kernel
theorem dX12_years_88 : decode cX12_years 88 = .ok (.if_icmp .ge 106, 3) := by decide +kernel
theorem dX12_years_91 : decode cX12_years 91 = .ok (.iconst 1, 1) := by decide +kernel
theorem dX12_years_92 : decode cX12_years 92 = .ok (.istore 7, 2) := by decide +kernel
theorem dX12_years_94 : decode cX12_years 94 = .ok (.iload 7, 2) := by decide +kernel
theorem dX12_years_96 : decode cX12_years 96 = .ok (.aload_n 0, 1) := by decide +kernel
theorem dX12_years_97 : decode cX12_years 97 = .ok (.getfield 258, 3) := by decide +kernel
theorem dX12_years_100 : decode cX12_years 100 = .ok (.if_icmp .ge 25, 3) := by decide +kernel
theorem dX12_years_103 : decode cX12_years 103 = .ok (.aload_n 0, 1) := by decide +kernel
theorem dX12_years_104 : decode cX12_years 104 = .ok (.getfield 58, 3) := by decide +kernel
theorem dX12_years_107 : decode cX12_years 107 = .ok (.iload 7, 2) := by decide +kernel
theorem dX12_years_109 : decode cX12_years 109 = .ok (.iconst 1, 1) := by decide +kernel
theorem dX12_years_110 : decode cX12_years 110 = .ok (.isub, 1) := by decide +kernel
theorem dX12_years_111 : decode cX12_years 111 = .ok (.aload_n 0, 1) := by decide +kernel
theorem dX12_years_112 : decode cX12_years 112 = .ok (.getfield 58, 3) := by decide +kernel
theorem dX12_years_115 : decode cX12_years 115 = .ok (.iload 7, 2) := by decide +kernel
theorem dX12_years_117 : decode cX12_years 117 = .ok (.iaload, 1) := by decide +kernel
theorem dX12_years_118 : decode cX12_years 118 = .ok (.iastore, 1) := by decide +kernel
theorem dX12_years_119 : decode cX12_years 119 = .ok (.iinc 7 1, 3) := by decide +kernel
theorem dX12_years_122 : decode cX12_years 122 = .ok (.goto (-28), 3) := by decide +kernel
theorem dX12_years_125 : decode cX12_years 125 = .ok (.aload_n 0, 1) := by decide +kernel
theorem dX12_years_126 : decode cX12_years 126 = .ok (.dup, 1) := by decide +kernel
theorem dX12_years_127 : decode cX12_years 127 = .ok (.getfield 258, 3) := by decide +kernel
theorem dX12_years_130 : decode cX12_years 130 = .ok (.aload_n 0, 1) := by decide +kernel
theorem dX12_years_131 : decode cX12_years 131 = .ok (.getfield 258, 3) := by decide +kernel
theorem dX12_years_134 : decode cX12_years 134 = .ok (.ifCond .le 7, 3) := by decide +kernel
theorem dX12_years_137 : decode cX12_years 137 = .ok (.iconst 1, 1) := by decide +kernel
theorem dX12_years_138 : decode cX12_years 138 = .ok (.goto 4, 3) := by decide +kernel
theorem dX12_years_141 : decode cX12_years 141 = .ok (.iconst 0, 1) := by decide +kernel
theorem dX12_years_142 : decode cX12_years 142 = .ok (.isub, 1) := by decide +kernel
theorem dX12_years_143 : decode cX12_years 143 = .ok (.putfield 258, 3) := by decide +kernel
theorem dX12_years_146 : decode cX12_years 146 = .ok (.aload_n 0, 1) := by decide +kernel
theorem dX12_years_147 : decode cX12_years 147 = .ok (.bipush 10, 2) := by decide +kernel
theorem dX12_years_149 : decode cX12_years 149 = .ok (.invokevirtual 220, 3) := by decide +kernel
theorem dX12_years_152 : decode cX12_years 152 = .ok (.istore 7, 2) := by decide +kernel
theorem dX12_years_154 : decode cX12_years 154 = .ok (.aload_n 0, 1) := by decide +kernel
theorem dX12_years_155 : decode cX12_years 155 = .ok (.iload_n 1, 1) := by decide +kernel
theorem dX12_years_156 : decode cX12_years 156 = .ok (.iload 7, 2) := by decide +kernel
theorem dX12_years_158 : decode cX12_years 158 = .ok (.invokevirtual 264, 3) := by decide +kernel
theorem dX12_years_161 : decode cX12_years 161 = .ok (.ifCond .eq 27, 3) := by decide +kernel
theorem dX12_years_164 : decode cX12_years 164 = .ok (.aload_n 0, 1) := by decide +kernel
theorem dX12_years_165 : decode cX12_years 165 = .ok (.getfield 58, 3) := by decide +kernel
theorem dX12_years_168 : decode cX12_years 168 = .ok (.aload_n 0, 1) := by decide +kernel
theorem dX12_years_169 : decode cX12_years 169 = .ok (.getfield 258, 3) := by decide +kernel
theorem dX12_years_172 : decode cX12_years 172 = .ok (.iload 7, 2) := by decide +kernel
theorem dX12_years_174 : decode cX12_years 174 = .ok (.iastore, 1) := by decide +kernel
theorem dX12_years_175 : decode cX12_years 175 = .ok (.aload_n 0, 1) := by decide +kernel
theorem dX12_years_176 : decode cX12_years 176 = .ok (.dup, 1) := by decide +kernel
theorem dX12_years_177 : decode cX12_years 177 = .ok (.getfield 258, 3) := by decide +kernel
theorem dX12_years_180 : decode cX12_years 180 = .ok (.iconst 1, 1) := by decide +kernel
theorem dX12_years_181 : decode cX12_years 181 = .ok (.iadd, 1) := by decide +kernel
theorem dX12_years_182 : decode cX12_years 182 = .ok (.putfield 258, 3) := by decide +kernel
theorem dX12_years_185 : decode cX12_years 185 = .ok (.iinc 5 1, 3) := by decide +kernel
theorem dX12_years_188 : decode cX12_years 188 = .ok (.iinc 6 1, 3) := by decide +kernel
theorem dX12_years_191 : decode cX12_years 191 = .ok (.goto (-106), 3) := by decide +kernel
theorem dX12_years_194 : decode cX12_years 194 = .ok (.iload 4, 2) := by decide +kernel
theorem dX12_years_196 : decode cX12_years 196 = .ok (.ifCond .ne 10, 3) := by decide +kernel
theorem dX12_years_199 : decode cX12_years 199 = .ok (.aload_n 0, 1) := by decide +kernel
theorem dX12_years_200 : decode cX12_years 200 = .ok (.getfield 258, 3) := by decide +kernel
theorem dX12_years_203 : decode cX12_years 203 = .ok (.goto 32, 3) := by decide +kernel
theorem dX12_years_206 : decode cX12_years 206 = .ok (.iload 4, 2) := by decide +kernel
theorem dX12_years_208 : decode cX12_years 208 = .ok (.iconst 1, 1) := by decide +kernel
theorem dX12_years_209 : decode cX12_years 209 = .ok (.if_icmp .ne 10, 3) := by decide +kernel
theorem dX12_years_212 : decode cX12_years 212 = .ok (.aload_n 0, 1) := by decide +kernel
theorem dX12_years_213 : decode cX12_years 213 = .ok (.invokevirtual 267, 3) := by decide +kernel
theorem dX12_years_216 : decode cX12_years 216 = .ok (.goto 19, 3) := by decide +kernel
theorem dX12_years_219 : decode cX12_years 219 = .ok (.iload 4, 2) := by decide +kernel
theorem dX12_years_221 : decode cX12_years 221 = .ok (.iconst 2, 1) := by decide +kernel
theorem dX12_years_222 : decode cX12_years 222 = .ok (.if_icmp .ne 8, 3) := by decide +kernel
theorem dX12_years_225 : decode cX12_years 225 = .ok (.iload 5, 2) := by decide +kernel
theorem dX12_years_227 : decode cX12_years 227 = .ok (.goto 8, 3) := by decide +kernel
theorem dX12_years_230 : decode cX12_years 230 = .ok (.aload_n 0, 1) := by decide +kernel
theorem dX12_years_231 : decode cX12_years 231 = .ok (.getfield 210, 3) := by decide +kernel
theorem dX12_years_234 : decode cX12_years 234 = .ok (.l2i, 1) := by decide +kernel
theorem dX12_years_235 : decode cX12_years 235 = .ok (.ireturn, 1) := by decide +kernel
theorem dX12_mindedMany_0 : decode cX12_mindedMany 0 = .ok (.iconst 0, 1) := by decide +kernel
theorem dX12_mindedMany_1 : decode cX12_mindedMany 1 = .ok (.istore_n 1, 1) := by decide +kernel
theorem dX12_mindedMany_2 : decode cX12_mindedMany 2 = .ok (.iconst 0, 1) := by decide +kernel
theorem dX12_mindedMany_3 : decode cX12_mindedMany 3 = .ok (.istore_n 2, 1) := by decide +kernel
theorem dX12_mindedMany_4 : decode cX12_mindedMany 4 = .ok (.iload_n 2, 1) := by decide +kernel
theorem dX12_mindedMany_5 : decode cX12_mindedMany 5 = .ok (.aload_n 0, 1) := by decide +kernel
theorem dX12_mindedMany_6 : decode cX12_mindedMany 6 = .ok (.getfield 122, 3) := by decide +kernel
theorem dX12_mindedMany_9 : decode cX12_mindedMany 9 = .ok (.if_icmp .ge 25, 3) := by decide +kernel
theorem dX12_mindedMany_12 : decode cX12_mindedMany 12 = .ok (.iload_n 1, 1) := by decide +kernel
theorem dX12_mindedMany_13 : decode cX12_mindedMany 13 = .ok (.aload_n 0, 1) := by decide +kernel
theorem dX12_mindedMany_14 : decode cX12_mindedMany 14 = .ok (.iload_n 2, 1) := by decide +kernel
theorem dX12_mindedMany_15 : decode cX12_mindedMany 15 = .ok (.invokevirtual 137, 3) := by decide +kernel
theorem dX12_mindedMany_18 : decode cX12_mindedMany 18 = .ok (.ifCond .eq 7, 3) := by decide +kernel
theorem dX12_mindedMany_21 : decode cX12_mindedMany 21 = .ok (.iconst 1, 1) := by decide +kernel
theorem dX12_mindedMany_22 : decode cX12_mindedMany 22 = .ok (.goto 4, 3) := by decide +kernel
theorem dX12_mindedMany_25 : decode cX12_mindedMany 25 = .ok (.iconst 0, 1) := by decide +kernel
theorem dX12_mindedMany_26 : decode cX12_mindedMany 26 = .ok (.iadd, 1) := by decide +kernel
theorem dX12_mindedMany_27 : decode cX12_mindedMany 27 = .ok (.istore_n 1, 1) := by decide +kernel
theorem dX12_mindedMany_28 : decode cX12_mindedMany 28 = .ok (.iinc 2 1, 3) := by decide +kernel
theorem dX12_mindedMany_31 : decode cX12_mindedMany 31 = .ok (.goto (-27), 3) := by decide +kernel
theorem dX12_mindedMany_34 : decode cX12_mindedMany 34 = .ok (.iload_n 1, 1) := by decide +kernel
end
section
theorem dX12_mindedMany_35 : decode cX12_mindedMany 35 = .ok (.ireturn, 1) := by decide +kernel
theorem dX12_lot_0 : decode cX12_lot 0 = .ok (.aload_n 0, 1) := by decide +kernel
theorem dX12_lot_1 : decode cX12_lot 1 = .ok (.iload_n 1, 1) := by decide +kernel
theorem dX12_lot_2 : decode cX12_lot 2 = .ok (.invokevirtual 131, 3) := by decide +kernel
theorem dX12_lot_5 : decode cX12_lot 5 = .ok (.ifCond .ne 6, 3) := by decide +kernel
theorem dX12_lot_8 : decode cX12_lot 8 = .ok (.bipush (-101), 2) := by decide +kernel
theorem dX12_lot_10 : decode cX12_lot 10 = .ok (.ireturn, 1) := by decide +kernel
theorem dX12_lot_11 : decode cX12_lot 11 = .ok (.iload_n 2, 1) := by decide +kernel
theorem dX12_lot_12 : decode cX12_lot 12 = .ok (.invokestatic 175, 3) := by decide +kernel
theorem dX12_lot_15 : decode cX12_lot 15 = .ok (.ifCond .ne 6, 3) := by decide +kernel
theorem dX12_lot_18 : decode cX12_lot 18 = .ok (.bipush (-102), 2) := by decide +kernel
theorem dX12_lot_20 : decode cX12_lot 20 = .ok (.ireturn, 1) := by decide +kernel
theorem dX12_lot_21 : decode cX12_lot 21 = .ok (.aload_n 0, 1) := by decide +kernel
theorem dX12_lot_22 : decode cX12_lot 22 = .ok (.iload_n 1, 1) := by decide +kernel
theorem dX12_lot_23 : decode cX12_lot 23 = .ok (.invokevirtual 137, 3) := by decide +kernel
theorem dX12_lot_26 : decode cX12_lot 26 = .ok (.ifCond .eq 7, 3) := by decide +kernel
theorem dX12_lot_29 : decode cX12_lot 29 = .ok (.iload_n 2, 1) := by decide +kernel
theorem dX12_lot_30 : decode cX12_lot 30 = .ok (.goto 20, 3) := by decide +kernel
theorem dX12_lot_33 : decode cX12_lot 33 = .ok (.iload_n 2, 1) := by decide +kernel
theorem dX12_lot_34 : decode cX12_lot 34 = .ok (.ifCond .ne 7, 3) := by decide +kernel
theorem dX12_lot_37 : decode cX12_lot 37 = .ok (.iconst 1, 1) := by decide +kernel
theorem dX12_lot_38 : decode cX12_lot 38 = .ok (.goto 12, 3) := by decide +kernel
theorem dX12_lot_41 : decode cX12_lot 41 = .ok (.aload_n 0, 1) := by decide +kernel
theorem dX12_lot_42 : decode cX12_lot 42 = .ok (.getfield 122, 3) := by decide +kernel
theorem dX12_lot_45 : decode cX12_lot 45 = .ok (.aload_n 0, 1) := by decide +kernel
theorem dX12_lot_46 : decode cX12_lot 46 = .ok (.invokevirtual 271, 3) := by decide +kernel
theorem dX12_lot_49 : decode cX12_lot 49 = .ok (.isub, 1) := by decide +kernel
theorem dX12_lot_50 : decode cX12_lot 50 = .ok (.ireturn, 1) := by decide +kernel
theorem dX12_image_0 : decode cX12_image 0 = .ok (.aload_n 0, 1) := by decide +kernel
theorem dX12_image_1 : decode cX12_image 1 = .ok (.iconst 1, 1) := by decide +kernel
theorem dX12_image_2 : decode cX12_image 2 = .ok (.putfield 274, 3) := by decide +kernel
theorem dX12_image_5 : decode cX12_image 5 = .ok (.aload_n 0, 1) := by decide +kernel
theorem dX12_image_6 : decode cX12_image 6 = .ok (.aload_n 0, 1) := by decide +kernel
theorem dX12_image_7 : decode cX12_image 7 = .ok (.getfield 119, 3) := by decide +kernel
theorem dX12_image_10 : decode cX12_image 10 = .ok (.putfield 277, 3) := by decide +kernel
theorem dX12_image_13 : decode cX12_image 13 = .ok (.aload_n 0, 1) := by decide +kernel
theorem dX12_image_14 : decode cX12_image 14 = .ok (.aload_n 0, 1) := by decide +kernel
theorem dX12_image_15 : decode cX12_image 15 = .ok (.getfield 122, 3) := by decide +kernel
theorem dX12_image_18 : decode cX12_image 18 = .ok (.putfield 280, 3) := by decide +kernel
theorem dX12_image_21 : decode cX12_image 21 = .ok (.iconst 0, 1) := by decide +kernel
theorem dX12_image_22 : decode cX12_image 22 = .ok (.istore_n 1, 1) := by decide +kernel
theorem dX12_image_23 : decode cX12_image 23 = .ok (.iload_n 1, 1) := by decide +kernel
theorem dX12_image_24 : decode cX12_image 24 = .ok (.aload_n 0, 1) := by decide +kernel
theorem dX12_image_25 : decode cX12_image 25 = .ok (.getfield 119, 3) := by decide +kernel
theorem dX12_image_28 : decode cX12_image 28 = .ok (.if_icmp .ge 21, 3) := by decide +kernel
theorem dX12_image_31 : decode cX12_image 31 = .ok (.aload_n 0, 1) := by decide +kernel
theorem dX12_image_32 : decode cX12_image 32 = .ok (.getfield 45, 3) := by decide +kernel
theorem dX12_image_35 : decode cX12_image 35 = .ok (.iload_n 1, 1) := by decide +kernel
theorem dX12_image_36 : decode cX12_image 36 = .ok (.aload_n 0, 1) := by decide +kernel
theorem dX12_image_37 : decode cX12_image 37 = .ok (.getfield 16, 3) := by decide +kernel
theorem dX12_image_40 : decode cX12_image 40 = .ok (.iload_n 1, 1) := by decide +kernel
theorem dX12_image_41 : decode cX12_image 41 = .ok (.iaload, 1) := by decide +kernel
theorem dX12_image_42 : decode cX12_image 42 = .ok (.iastore, 1) := by decide +kernel
theorem dX12_image_43 : decode cX12_image 43 = .ok (.iinc 1 1, 3) := by decide +kernel
theorem dX12_image_46 : decode cX12_image 46 = .ok (.goto (-23), 3) := by decide +kernel
theorem dX12_image_49 : decode cX12_image 49 = .ok (.iconst 0, 1) := by decide +kernel
theorem dX12_image_50 : decode cX12_image 50 = .ok (.istore_n 1, 1) := by decide +kernel
theorem dX12_image_51 : decode cX12_image 51 = .ok (.iload_n 1, 1) := by decide +kernel
theorem dX12_image_52 : decode cX12_image 52 = .ok (.bipush 48, 2) := by decide +kernel
theorem dX12_image_54 : decode cX12_image 54 = .ok (.if_icmp .ge 21, 3) := by decide +kernel
theorem dX12_image_57 : decode cX12_image 57 = .ok (.aload_n 0, 1) := by decide +kernel
theorem dX12_image_58 : decode cX12_image 58 = .ok (.getfield 48, 3) := by decide +kernel
theorem dX12_image_61 : decode cX12_image 61 = .ok (.iload_n 1, 1) := by decide +kernel
theorem dX12_image_62 : decode cX12_image 62 = .ok (.aload_n 0, 1) := by decide +kernel
theorem dX12_image_63 : decode cX12_image 63 = .ok (.getfield 22, 3) := by decide +kernel
theorem dX12_image_66 : decode cX12_image 66 = .ok (.iload_n 1, 1) := by decide +kernel
theorem dX12_image_67 : decode cX12_image 67 = .ok (.iaload, 1) := by decide +kernel
theorem dX12_image_68 : decode cX12_image 68 = .ok (.iastore, 1) := by decide +kernel
theorem dX12_image_69 : decode cX12_image 69 = .ok (.iinc 1 1, 3) := by decide +kernel
theorem dX12_image_72 : decode cX12_image 72 = .ok (.goto (-21), 3) := by decide +kernel
theorem dX12_image_75 : decode cX12_image 75 = .ok (.aload_n 0, 1) := by decide +kernel
theorem dX12_image_76 : decode cX12_image 76 = .ok (.getfield 119, 3) := by decide +kernel
theorem dX12_image_79 : decode cX12_image 79 = .ok (.ireturn, 1) := by decide +kernel
theorem dX12_restore_0 : decode cX12_restore 0 = .ok (.aload_n 0, 1) := by decide +kernel
theorem dX12_restore_1 : decode cX12_restore 1 = .ok (.getfield 274, 3) := by decide +kernel
theorem dX12_restore_4 : decode cX12_restore 4 = .ok (.ifCond .ne 6, 3) := by decide +kernel
theorem dX12_restore_7 : decode cX12_restore 7 = .ok (.bipush (-103), 2) := by decide +kernel
theorem dX12_restore_9 : decode cX12_restore 9 = .ok (.ireturn, 1) := by decide +kernel
theorem dX12_restore_10 : decode cX12_restore 10 = .ok (.iconst 0, 1) := by decide +kernel
theorem dX12_restore_11 : decode cX12_restore 11 = .ok (.istore_n 1, 1) := by decide +kernel
theorem dX12_restore_12 : decode cX12_restore 12 = .ok (.iload_n 1, 1) := by decide +kernel
theorem dX12_restore_13 : decode cX12_restore 13 = .ok (.aload_n 0, 1) := by decide +kernel
theorem dX12_restore_14 : decode cX12_restore 14 = .ok (.getfield 277, 3) := by decide +kernel
theorem dX12_restore_17 : decode cX12_restore 17 = .ok (.if_icmp .ge 59, 3) := by decide +kernel
theorem dX12_restore_20 : decode cX12_restore 20 = .ok (.aload_n 0, 1) := by decide +kernel
theorem dX12_restore_21 : decode cX12_restore 21 = .ok (.getfield 16, 3) := by decide +kernel
theorem dX12_restore_24 : decode cX12_restore 24 = .ok (.iload_n 1, 1) := by decide +kernel
theorem dX12_restore_25 : decode cX12_restore 25 = .ok (.aload_n 0, 1) := by decide +kernel
theorem dX12_restore_26 : decode cX12_restore 26 = .ok (.getfield 45, 3) := by decide +kernel
theorem dX12_restore_29 : decode cX12_restore 29 = .ok (.iload_n 1, 1) := by decide +kernel
theorem dX12_restore_30 : decode cX12_restore 30 = .ok (.iaload, 1) := by decide +kernel
theorem dX12_restore_31 : decode cX12_restore 31 = .ok (.iastore, 1) := by decide +kernel
theorem dX12_restore_32 : decode cX12_restore 32 = .ok (.iconst 0, 1) := by decide +kernel
theorem dX12_restore_33 : decode cX12_restore 33 = .ok (.istore_n 2, 1) := by decide +kernel
theorem dX12_restore_34 : decode cX12_restore 34 = .ok (.iload_n 2, 1) := by decide +kernel
theorem dX12_restore_35 : decode cX12_restore 35 = .ok (.aload_n 0, 1) := by decide +kernel
theorem dX12_restore_36 : decode cX12_restore 36 = .ok (.getfield 280, 3) := by decide +kernel
theorem dX12_restore_39 : decode cX12_restore 39 = .ok (.if_icmp .ge 31, 3) := by decide +kernel
theorem dX12_restore_42 : decode cX12_restore 42 = .ok (.aload_n 0, 1) := by decide +kernel
theorem dX12_restore_43 : decode cX12_restore 43 = .ok (.getfield 22, 3) := by decide +kernel
theorem dX12_restore_46 : decode cX12_restore 46 = .ok (.bipush 6, 2) := by decide +kernel
theorem dX12_restore_48 : decode cX12_restore 48 = .ok (.iload_n 1, 1) := by decide +kernel
theorem dX12_restore_49 : decode cX12_restore 49 = .ok (.imul, 1) := by decide +kernel
theorem dX12_restore_50 : decode cX12_restore 50 = .ok (.iload_n 2, 1) := by decide +kernel
theorem dX12_restore_51 : decode cX12_restore 51 = .ok (.iadd, 1) := by decide +kernel
theorem dX12_restore_52 : decode cX12_restore 52 = .ok (.aload_n 0, 1) := by decide +kernel
theorem dX12_restore_53 : decode cX12_restore 53 = .ok (.getfield 48, 3) := by decide +kernel
theorem dX12_restore_56 : decode cX12_restore 56 = .ok (.bipush 6, 2) := by decide +kernel
theorem dX12_restore_58 : decode cX12_restore 58 = .ok (.iload_n 1, 1) := by decide +kernel
theorem dX12_restore_59 : decode cX12_restore 59 = .ok (.imul, 1) := by decide +kernel
theorem dX12_restore_60 : decode cX12_restore 60 = .ok (.iload_n 2, 1) := by decide +kernel
theorem dX12_restore_61 : decode cX12_restore 61 = .ok (.iadd, 1) := by decide +kernel
theorem dX12_restore_62 : decode cX12_restore 62 = .ok (.iaload, 1) := by decide +kernel
theorem dX12_restore_63 : decode cX12_restore 63 = .ok (.iastore, 1) := by decide +kernel
theorem dX12_restore_64 : decode cX12_restore 64 = .ok (.iinc 2 1, 3) := by decide +kernel
theorem dX12_restore_67 : decode cX12_restore 67 = .ok (.goto (-33), 3) := by decide +kernel
theorem dX12_restore_70 : decode cX12_restore 70 = .ok (.iinc 1 1, 3) := by decide +kernel
theorem dX12_restore_73 : decode cX12_restore 73 = .ok (.goto (-61), 3) := by decide +kernel
theorem dX12_restore_76 : decode cX12_restore 76 = .ok (.aload_n 0, 1) := by decide +kernel
theorem dX12_restore_77 : decode cX12_restore 77 = .ok (.getfield 119, 3) := by decide +kernel
theorem dX12_restore_80 : decode cX12_restore 80 = .ok (.ireturn, 1) := by decide +kernel
theorem dX12_howMany_0 : decode cX12_howMany 0 = .ok (.iload_n 1, 1) := by decide +kernel
theorem dX12_howMany_1 : decode cX12_howMany 1 = .ok (.tableswitch 60 0 4 #[35, 40, 45, 50, 55], 35) := by decide +kernel
theorem dX12_howMany_36 : decode cX12_howMany 36 = .ok (.aload_n 0, 1) := by decide +kernel
theorem dX12_howMany_37 : decode cX12_howMany 37 = .ok (.getfield 119, 3) := by decide +kernel
theorem dX12_howMany_40 : decode cX12_howMany 40 = .ok (.ireturn, 1) := by decide +kernel
theorem dX12_howMany_41 : decode cX12_howMany 41 = .ok (.aload_n 0, 1) := by decide +kernel
theorem dX12_howMany_42 : decode cX12_howMany 42 = .ok (.getfield 122, 3) := by decide +kernel
theorem dX12_howMany_45 : decode cX12_howMany 45 = .ok (.ireturn, 1) := by decide +kernel
theorem dX12_howMany_46 : decode cX12_howMany 46 = .ok (.aload_n 0, 1) := by decide +kernel
theorem dX12_howMany_47 : decode cX12_howMany 47 = .ok (.getfield 110, 3) := by decide +kernel
theorem dX12_howMany_50 : decode cX12_howMany 50 = .ok (.ireturn, 1) := by decide +kernel
theorem dX12_howMany_51 : decode cX12_howMany 51 = .ok (.aload_n 0, 1) := by decide +kernel
theorem dX12_howMany_52 : decode cX12_howMany 52 = .ok (.getfield 69, 3) := by decide +kernel
theorem dX12_howMany_55 : decode cX12_howMany 55 = .ok (.ireturn, 1) := by decide +kernel
theorem dX12_howMany_56 : decode cX12_howMany 56 = .ok (.aload_n 0, 1) := by decide +kernel
theorem dX12_howMany_57 : decode cX12_howMany 57 = .ok (.invokevirtual 271, 3) := by decide +kernel
theorem dX12_howMany_60 : decode cX12_howMany 60 = .ok (.ireturn, 1) := by decide +kernel
theorem dX12_howMany_61 : decode cX12_howMany 61 = .ok (.bipush (-102), 2) := by decide +kernel
theorem dX12_howMany_63 : decode cX12_howMany 63 = .ok (.ireturn, 1) := by decide +kernel
theorem dX12_count_0 : decode cX12_count 0 = .ok (.aload_n 0, 1) := by decide +kernel
theorem dX12_count_1 : decode cX12_count 1 = .ok (.iload_n 1, 1) := by decide +kernel
theorem dX12_count_2 : decode cX12_count 2 = .ok (.invokevirtual 283, 3) := by decide +kernel
theorem dX12_count_5 : decode cX12_count 5 = .ok (.ireturn, 1) := by decide +kernel
theorem dX12_mix_0 : decode cX12_mix 0 = .ok (.aload_n 0, 1) := by decide +kernel
theorem dX12_mix_1 : decode cX12_mix 1 = .ok (.ldc2_w 286, 3) := by decide +kernel
theorem dX12_mix_4 : decode cX12_mix 4 = .ok (.aload_n 0, 1) := by decide +kernel
theorem dX12_mix_5 : decode cX12_mix 5 = .ok (.getfield 288, 3) := by decide +kernel
theorem dX12_mix_8 : decode cX12_mix 8 = .ok (.lmul, 1) := by decide +kernel
theorem dX12_mix_9 : decode cX12_mix 9 = .ok (.lload_n 1, 1) := by decide +kernel
theorem dX12_mix_10 : decode cX12_mix 10 = .ok (.ladd, 1) := by decide +kernel
theorem dX12_mix_11 : decode cX12_mix 11 = .ok (.putfield 288, 3) := by decide +kernel
theorem dX12_mix_14 : decode cX12_mix 14 = .ok (.return_, 1) := by decide +kernel
theorem dX12_mixIns_0 : decode cX12_mixIns 0 = .ok (.iconst 1, 1) := by decide +kernel
theorem dX12_mixIns_1 : decode cX12_mixIns 1 = .ok (.aload_n 0, 1) := by decide +kernel
theorem dX12_mixIns_2 : decode cX12_mixIns 2 = .ok (.getfield 119, 3) := by decide +kernel
theorem dX12_mixIns_5 : decode cX12_mixIns 5 = .ok (.ishl, 1) := by decide +kernel
theorem dX12_mixIns_6 : decode cX12_mixIns 6 = .ok (.iconst 1, 1) := by decide +kernel
theorem dX12_mixIns_7 : decode cX12_mixIns 7 = .ok (.isub, 1) := by decide +kernel
theorem dX12_mixIns_8 : decode cX12_mixIns 8 = .ok (.istore_n 1, 1) := by decide +kernel
theorem dX12_mixIns_9 : decode cX12_mixIns 9 = .ok (.iconst 0, 1) := by decide +kernel
theorem dX12_mixIns_10 : decode cX12_mixIns 10 = .ok (.istore_n 2, 1) := by decide +kernel
theorem dX12_mixIns_11 : decode cX12_mixIns 11 = .ok (.iload_n 2, 1) := by decide +kernel
theorem dX12_mixIns_12 : decode cX12_mixIns 12 = .ok (.aload_n 0, 1) := by decide +kernel
theorem dX12_mixIns_13 : decode cX12_mixIns 13 = .ok (.getfield 110, 3) := by decide +kernel
theorem dX12_mixIns_16 : decode cX12_mixIns 16 = .ok (.if_icmp .ge 72, 3) := by decide +kernel
theorem dX12_mixIns_19 : decode cX12_mixIns 19 = .ok (.iconst 0, 1) := by decide +kernel
theorem dX12_mixIns_20 : decode cX12_mixIns 20 = .ok (.istore_n 3, 1) := by decide +kernel
theorem dX12_mixIns_21 : decode cX12_mixIns 21 = .ok (.iload_n 3, 1) := by decide +kernel
theorem dX12_mixIns_22 : decode cX12_mixIns 22 = .ok (.aload_n 0, 1) := by decide +kernel
theorem dX12_mixIns_23 : decode cX12_mixIns 23 = .ok (.getfield 122, 3) := by decide +kernel
theorem dX12_mixIns_26 : decode cX12_mixIns 26 = .ok (.if_icmp .ge 56, 3) := by decide +kernel
theorem dX12_mixIns_29 : decode cX12_mixIns 29 = .ok (.aload_n 0, 1) := by decide +kernel
theorem dX12_mixIns_30 : decode cX12_mixIns 30 = .ok (.iload_n 2, 1) := by decide +kernel
theorem dX12_mixIns_31 : decode cX12_mixIns 31 = .ok (.iload_n 3, 1) := by decide +kernel
theorem dX12_mixIns_32 : decode cX12_mixIns 32 = .ok (.iload_n 1, 1) := by decide +kernel
theorem dX12_mixIns_33 : decode cX12_mixIns 33 = .ok (.invokevirtual 186, 3) := by decide +kernel
theorem dX12_mixIns_36 : decode cX12_mixIns 36 = .ok (.lstore 4, 2) := by decide +kernel
theorem dX12_mixIns_38 : decode cX12_mixIns 38 = .ok (.aload_n 0, 1) := by decide +kernel
theorem dX12_mixIns_39 : decode cX12_mixIns 39 = .ok (.lload 4, 2) := by decide +kernel
theorem dX12_mixIns_41 : decode cX12_mixIns 41 = .ok (.iconst 2, 1) := by decide +kernel
theorem dX12_mixIns_42 : decode cX12_mixIns 42 = .ok (.aload_n 0, 1) := by decide +kernel
theorem dX12_mixIns_43 : decode cX12_mixIns 43 = .ok (.getfield 119, 3) := by decide +kernel
theorem dX12_mixIns_46 : decode cX12_mixIns 46 = .ok (.imul, 1) := by decide +kernel
theorem dX12_mixIns_47 : decode cX12_mixIns 47 = .ok (.invokestatic 168, 3) := by decide +kernel
theorem dX12_mixIns_50 : decode cX12_mixIns 50 = .ok (.iconst 0, 1) := by decide +kernel
theorem dX12_mixIns_51 : decode cX12_mixIns 51 = .ok (.invokestatic 178, 3) := by decide +kernel
theorem dX12_mixIns_54 : decode cX12_mixIns 54 = .ok (.invokevirtual 291, 3) := by decide +kernel
theorem dX12_mixIns_57 : decode cX12_mixIns 57 = .ok (.aload_n 0, 1) := by decide +kernel
theorem dX12_mixIns_58 : decode cX12_mixIns 58 = .ok (.lload 4, 2) := by decide +kernel
theorem dX12_mixIns_60 : decode cX12_mixIns 60 = .ok (.iconst 2, 1) := by decide +kernel
theorem dX12_mixIns_61 : decode cX12_mixIns 61 = .ok (.aload_n 0, 1) := by decide +kernel
theorem dX12_mixIns_62 : decode cX12_mixIns 62 = .ok (.getfield 119, 3) := by decide +kernel
theorem dX12_mixIns_65 : decode cX12_mixIns 65 = .ok (.imul, 1) := by decide +kernel
theorem dX12_mixIns_66 : decode cX12_mixIns 66 = .ok (.invokestatic 168, 3) := by decide +kernel
theorem dX12_mixIns_69 : decode cX12_mixIns 69 = .ok (.iconst 1, 1) := by decide +kernel
theorem dX12_mixIns_70 : decode cX12_mixIns 70 = .ok (.invokestatic 178, 3) := by decide +kernel
theorem dX12_mixIns_73 : decode cX12_mixIns 73 = .ok (.invokevirtual 291, 3) := by decide +kernel
theorem dX12_mixIns_76 : decode cX12_mixIns 76 = .ok (.iinc 3 1, 3) := by decide +kernel
theorem dX12_mixIns_79 : decode cX12_mixIns 79 = .ok (.goto (-58), 3) := by decide +kernel
theorem dX12_mixIns_82 : decode cX12_mixIns 82 = .ok (.iinc 2 1, 3) := by decide +kernel
theorem dX12_mixIns_85 : decode cX12_mixIns 85 = .ok (.goto (-74), 3) := by decide +kernel
theorem dX12_mixIns_88 : decode cX12_mixIns 88 = .ok (.return_, 1) := by decide +kernel
theorem dX12_digest_0 : decode cX12_digest 0 = .ok (.aload_n 0, 1) := by decide +kernel
theorem dX12_digest_1 : decode cX12_digest 1 = .ok (.ldc2_w 295, 3) := by decide +kernel
theorem dX12_digest_4 : decode cX12_digest 4 = .ok (.putfield 288, 3) := by decide +kernel
theorem dX12_digest_7 : decode cX12_digest 7 = .ok (.iconst 0, 1) := by decide +kernel
theorem dX12_digest_8 : decode cX12_digest 8 = .ok (.istore_n 1, 1) := by decide +kernel
theorem dX12_digest_9 : decode cX12_digest 9 = .ok (.iload_n 1, 1) := by decide +kernel
theorem dX12_digest_10 : decode cX12_digest 10 = .ok (.aload_n 0, 1) := by decide +kernel
theorem dX12_digest_11 : decode cX12_digest 11 = .ok (.getfield 110, 3) := by decide +kernel
theorem dX12_digest_14 : decode cX12_digest 14 = .ok (.if_icmp .ge 33, 3) := by decide +kernel
theorem dX12_digest_17 : decode cX12_digest 17 = .ok (.iconst 0, 1) := by decide +kernel
theorem dX12_digest_18 : decode cX12_digest 18 = .ok (.istore_n 2, 1) := by decide +kernel
theorem dX12_digest_19 : decode cX12_digest 19 = .ok (.iload_n 2, 1) := by decide +kernel
theorem dX12_digest_20 : decode cX12_digest 20 = .ok (.iconst 5, 1) := by decide +kernel
theorem dX12_digest_21 : decode cX12_digest 21 = .ok (.if_icmp .ge 20, 3) := by decide +kernel
theorem dX12_digest_24 : decode cX12_digest 24 = .ok (.aload_n 0, 1) := by decide +kernel
theorem dX12_digest_25 : decode cX12_digest 25 = .ok (.aload_n 0, 1) := by decide +kernel
theorem dX12_digest_26 : decode cX12_digest 26 = .ok (.iload_n 1, 1) := by decide +kernel
theorem dX12_digest_27 : decode cX12_digest 27 = .ok (.iload_n 2, 1) := by decide +kernel
theorem dX12_digest_28 : decode cX12_digest 28 = .ok (.invokevirtual 116, 3) := by decide +kernel
theorem dX12_digest_31 : decode cX12_digest 31 = .ok (.i2l, 1) := by decide +kernel
theorem dX12_digest_32 : decode cX12_digest 32 = .ok (.invokevirtual 291, 3) := by decide +kernel
theorem dX12_digest_35 : decode cX12_digest 35 = .ok (.iinc 2 1, 3) := by decide +kernel
theorem dX12_digest_38 : decode cX12_digest 38 = .ok (.goto (-19), 3) := by decide +kernel
theorem dX12_digest_41 : decode cX12_digest 41 = .ok (.iinc 1 1, 3) := by decide +kernel
theorem dX12_digest_44 : decode cX12_digest 44 = .ok (.goto (-35), 3) := by decide +kernel
theorem dX12_digest_47 : decode cX12_digest 47 = .ok (.iconst 0, 1) := by decide +kernel
theorem dX12_digest_48 : decode cX12_digest 48 = .ok (.istore_n 1, 1) := by decide +kernel
theorem dX12_digest_49 : decode cX12_digest 49 = .ok (.iload_n 1, 1) := by decide +kernel
theorem dX12_digest_50 : decode cX12_digest 50 = .ok (.aload_n 0, 1) := by decide +kernel
theorem dX12_digest_51 : decode cX12_digest 51 = .ok (.getfield 119, 3) := by decide +kernel
theorem dX12_digest_54 : decode cX12_digest 54 = .ok (.if_icmp .ge 65, 3) := by decide +kernel
theorem dX12_digest_57 : decode cX12_digest 57 = .ok (.iconst 0, 1) := by decide +kernel
theorem dX12_digest_58 : decode cX12_digest 58 = .ok (.istore_n 2, 1) := by decide +kernel
theorem dX12_digest_59 : decode cX12_digest 59 = .ok (.iload_n 2, 1) := by decide +kernel
theorem dX12_digest_60 : decode cX12_digest 60 = .ok (.iconst 3, 1) := by decide +kernel
theorem dX12_digest_61 : decode cX12_digest 61 = .ok (.if_icmp .ge 20, 3) := by decide +kernel
theorem dX12_digest_64 : decode cX12_digest 64 = .ok (.aload_n 0, 1) := by decide +kernel
theorem dX12_digest_65 : decode cX12_digest 65 = .ok (.aload_n 0, 1) := by decide +kernel
theorem dX12_digest_66 : decode cX12_digest 66 = .ok (.iload_n 1, 1) := by decide +kernel
theorem dX12_digest_67 : decode cX12_digest 67 = .ok (.iload_n 2, 1) := by decide +kernel
theorem dX12_digest_68 : decode cX12_digest 68 = .ok (.invokevirtual 128, 3) := by decide +kernel
theorem dX12_digest_71 : decode cX12_digest 71 = .ok (.i2l, 1) := by decide +kernel
theorem dX12_digest_72 : decode cX12_digest 72 = .ok (.invokevirtual 291, 3) := by decide +kernel
theorem dX12_digest_75 : decode cX12_digest 75 = .ok (.iinc 2 1, 3) := by decide +kernel
theorem dX12_digest_78 : decode cX12_digest 78 = .ok (.goto (-19), 3) := by decide +kernel
theorem dX12_digest_81 : decode cX12_digest 81 = .ok (.iconst 0, 1) := by decide +kernel
theorem dX12_digest_82 : decode cX12_digest 82 = .ok (.istore_n 2, 1) := by decide +kernel
theorem dX12_digest_83 : decode cX12_digest 83 = .ok (.iload_n 2, 1) := by decide +kernel
theorem dX12_digest_84 : decode cX12_digest 84 = .ok (.aload_n 0, 1) := by decide +kernel
theorem dX12_digest_85 : decode cX12_digest 85 = .ok (.getfield 122, 3) := by decide +kernel
theorem dX12_digest_88 : decode cX12_digest 88 = .ok (.if_icmp .ge 25, 3) := by decide +kernel
theorem dX12_digest_91 : decode cX12_digest 91 = .ok (.aload_n 0, 1) := by decide +kernel
theorem dX12_digest_92 : decode cX12_digest 92 = .ok (.aload_n 0, 1) := by decide +kernel
theorem dX12_digest_93 : decode cX12_digest 93 = .ok (.getfield 22, 3) := by decide +kernel
theorem dX12_digest_96 : decode cX12_digest 96 = .ok (.bipush 6, 2) := by decide +kernel
theorem dX12_digest_98 : decode cX12_digest 98 = .ok (.iload_n 1, 1) := by decide +kernel
theorem dX12_digest_99 : decode cX12_digest 99 = .ok (.imul, 1) := by decide +kernel
theorem dX12_digest_100 : decode cX12_digest 100 = .ok (.iload_n 2, 1) := by decide +kernel
theorem dX12_digest_101 : decode cX12_digest 101 = .ok (.iadd, 1) := by decide +kernel
theorem dX12_digest_102 : decode cX12_digest 102 = .ok (.iaload, 1) := by decide +kernel
theorem dX12_digest_103 : decode cX12_digest 103 = .ok (.i2l, 1) := by decide +kernel
theorem dX12_digest_104 : decode cX12_digest 104 = .ok (.invokevirtual 291, 3) := by decide +kernel
theorem dX12_digest_107 : decode cX12_digest 107 = .ok (.iinc 2 1, 3) := by decide +kernel
theorem dX12_digest_110 : decode cX12_digest 110 = .ok (.goto (-27), 3) := by decide +kernel
theorem dX12_digest_113 : decode cX12_digest 113 = .ok (.iinc 1 1, 3) := by decide +kernel
theorem dX12_digest_116 : decode cX12_digest 116 = .ok (.goto (-67), 3) := by decide +kernel
theorem dX12_digest_119 : decode cX12_digest 119 = .ok (.iconst 0, 1) := by decide +kernel
theorem dX12_digest_120 : decode cX12_digest 120 = .ok (.istore_n 1, 1) := by decide +kernel
theorem dX12_digest_121 : decode cX12_digest 121 = .ok (.iload_n 1, 1) := by decide +kernel
theorem dX12_digest_122 : decode cX12_digest 122 = .ok (.aload_n 0, 1) := by decide +kernel
theorem dX12_digest_123 : decode cX12_digest 123 = .ok (.getfield 122, 3) := by decide +kernel
theorem dX12_digest_126 : decode cX12_digest 126 = .ok (.if_icmp .ge 33, 3) := by decide +kernel
theorem dX12_digest_129 : decode cX12_digest 129 = .ok (.iconst 0, 1) := by decide +kernel
theorem dX12_digest_130 : decode cX12_digest 130 = .ok (.istore_n 2, 1) := by decide +kernel
theorem dX12_digest_131 : decode cX12_digest 131 = .ok (.iload_n 2, 1) := by decide +kernel
theorem dX12_digest_132 : decode cX12_digest 132 = .ok (.iconst 3, 1) := by decide +kernel
theorem dX12_digest_133 : decode cX12_digest 133 = .ok (.if_icmp .ge 20, 3) := by decide +kernel
theorem dX12_digest_136 : decode cX12_digest 136 = .ok (.aload_n 0, 1) := by decide +kernel
theorem dX12_digest_137 : decode cX12_digest 137 = .ok (.aload_n 0, 1) := by decide +kernel
theorem dX12_digest_138 : decode cX12_digest 138 = .ok (.iload_n 1, 1) := by decide +kernel
theorem dX12_digest_139 : decode cX12_digest 139 = .ok (.iload_n 2, 1) := by decide +kernel
theorem dX12_digest_140 : decode cX12_digest 140 = .ok (.invokevirtual 140, 3) := by decide +kernel
theorem dX12_digest_143 : decode cX12_digest 143 = .ok (.i2l, 1) := by decide +kernel
theorem dX12_digest_144 : decode cX12_digest 144 = .ok (.invokevirtual 291, 3) := by decide +kernel
theorem dX12_digest_147 : decode cX12_digest 147 = .ok (.iinc 2 1, 3) := by decide +kernel
theorem dX12_digest_150 : decode cX12_digest 150 = .ok (.goto (-19), 3) := by decide +kernel
theorem dX12_digest_153 : decode cX12_digest 153 = .ok (.iinc 1 1, 3) := by decide +kernel
theorem dX12_digest_156 : decode cX12_digest 156 = .ok (.goto (-35), 3) := by decide +kernel
theorem dX12_digest_159 : decode cX12_digest 159 = .ok (.aload_n 0, 1) := by decide +kernel
theorem dX12_digest_160 : decode cX12_digest 160 = .ok (.getfield 119, 3) := by decide +kernel
theorem dX12_digest_163 : decode cX12_digest 163 = .ok (.ifCond .le 7, 3) := by decide +kernel
theorem dX12_digest_166 : decode cX12_digest 166 = .ok (.aload_n 0, 1) := by decide +kernel
theorem dX12_digest_167 : decode cX12_digest 167 = .ok (.invokevirtual 297, 3) := by decide +kernel
theorem dX12_digest_170 : decode cX12_digest 170 = .ok (.iconst 0, 1) := by decide +kernel
theorem dX12_digest_171 : decode cX12_digest 171 = .ok (.istore_n 1, 1) := by decide +kernel
theorem dX12_digest_172 : decode cX12_digest 172 = .ok (.iload_n 1, 1) := by decide +kernel
theorem dX12_digest_173 : decode cX12_digest 173 = .ok (.aload_n 0, 1) := by decide +kernel
theorem dX12_digest_174 : decode cX12_digest 174 = .ok (.getfield 69, 3) := by decide +kernel
theorem dX12_digest_177 : decode cX12_digest 177 = .ok (.if_icmp .ge 20, 3) := by decide +kernel
theorem dX12_digest_180 : decode cX12_digest 180 = .ok (.aload_n 0, 1) := by decide +kernel
theorem dX12_digest_181 : decode cX12_digest 181 = .ok (.aload_n 0, 1) := by decide +kernel
theorem dX12_digest_182 : decode cX12_digest 182 = .ok (.getfield 41, 3) := by decide +kernel
theorem dX12_digest_185 : decode cX12_digest 185 = .ok (.iload_n 1, 1) := by decide +kernel
theorem dX12_digest_186 : decode cX12_digest 186 = .ok (.baload, 1) := by decide +kernel
theorem dX12_digest_187 : decode cX12_digest 187 = .ok (.i2l, 1) := by decide +kernel
theorem dX12_digest_188 : decode cX12_digest 188 = .ok (.invokevirtual 291, 3) := by decide +kernel
theorem dX12_digest_191 : decode cX12_digest 191 = .ok (.iinc 1 1, 3) := by decide +kernel
theorem dX12_digest_194 : decode cX12_digest 194 = .ok (.goto (-22), 3) := by decide +kernel
theorem dX12_digest_197 : decode cX12_digest 197 = .ok (.iconst 0, 1) := by decide +kernel
theorem dX12_digest_198 : decode cX12_digest 198 = .ok (.istore_n 1, 1) := by decide +kernel
theorem dX12_digest_199 : decode cX12_digest 199 = .ok (.iload_n 1, 1) := by decide +kernel
theorem dX12_digest_200 : decode cX12_digest 200 = .ok (.iconst 5, 1) := by decide +kernel
theorem dX12_digest_201 : decode cX12_digest 201 = .ok (.if_icmp .ge 19, 3) := by decide +kernel
theorem dX12_digest_204 : decode cX12_digest 204 = .ok (.aload_n 0, 1) := by decide +kernel
theorem dX12_digest_205 : decode cX12_digest 205 = .ok (.aload_n 0, 1) := by decide +kernel
theorem dX12_digest_206 : decode cX12_digest 206 = .ok (.iload_n 1, 1) := by decide +kernel
theorem dX12_digest_207 : decode cX12_digest 207 = .ok (.invokevirtual 283, 3) := by decide +kernel
theorem dX12_digest_210 : decode cX12_digest 210 = .ok (.i2l, 1) := by decide +kernel
theorem dX12_digest_211 : decode cX12_digest 211 = .ok (.invokevirtual 291, 3) := by decide +kernel
theorem dX12_digest_214 : decode cX12_digest 214 = .ok (.iinc 1 1, 3) := by decide +kernel
theorem dX12_digest_217 : decode cX12_digest 217 = .ok (.goto (-18), 3) := by decide +kernel
theorem dX12_digest_220 : decode cX12_digest 220 = .ok (.aload_n 0, 1) := by decide +kernel
theorem dX12_digest_221 : decode cX12_digest 221 = .ok (.getfield 288, 3) := by decide +kernel
theorem dX12_digest_224 : decode cX12_digest 224 = .ok (.lreturn, 1) := by decide +kernel
theorem dJ6_bitCount_0f7a4_0 : decode cJ6_bitCount_0f7a4 0 = .ok (.iload_n 0, 1) := by decide +kernel
theorem dJ6_bitCount_0f7a4_1 : decode cJ6_bitCount_0f7a4 1 = .ok (.iload_n 0, 1) := by decide +kernel
theorem dJ6_bitCount_0f7a4_2 : decode cJ6_bitCount_0f7a4 2 = .ok (.iconst 1, 1) := by decide +kernel
theorem dJ6_bitCount_0f7a4_3 : decode cJ6_bitCount_0f7a4 3 = .ok (.iushr, 1) := by decide +kernel
theorem dJ6_bitCount_0f7a4_4 : decode cJ6_bitCount_0f7a4 4 = .ok (.ldc_w 265, 3) := by decide +kernel
theorem dJ6_bitCount_0f7a4_7 : decode cJ6_bitCount_0f7a4 7 = .ok (.iand, 1) := by decide +kernel
theorem dJ6_bitCount_0f7a4_8 : decode cJ6_bitCount_0f7a4 8 = .ok (.isub, 1) := by decide +kernel
theorem dJ6_bitCount_0f7a4_9 : decode cJ6_bitCount_0f7a4 9 = .ok (.istore_n 0, 1) := by decide +kernel
theorem dJ6_bitCount_0f7a4_10 : decode cJ6_bitCount_0f7a4 10 = .ok (.iload_n 0, 1) := by decide +kernel
theorem dJ6_bitCount_0f7a4_11 : decode cJ6_bitCount_0f7a4 11 = .ok (.ldc_w 266, 3) := by decide +kernel
theorem dJ6_bitCount_0f7a4_14 : decode cJ6_bitCount_0f7a4 14 = .ok (.iand, 1) := by decide +kernel
theorem dJ6_bitCount_0f7a4_15 : decode cJ6_bitCount_0f7a4 15 = .ok (.iload_n 0, 1) := by decide +kernel
theorem dJ6_bitCount_0f7a4_16 : decode cJ6_bitCount_0f7a4 16 = .ok (.iconst 2, 1) := by decide +kernel
theorem dJ6_bitCount_0f7a4_17 : decode cJ6_bitCount_0f7a4 17 = .ok (.iushr, 1) := by decide +kernel
theorem dJ6_bitCount_0f7a4_18 : decode cJ6_bitCount_0f7a4 18 = .ok (.ldc_w 266, 3) := by decide +kernel
theorem dJ6_bitCount_0f7a4_21 : decode cJ6_bitCount_0f7a4 21 = .ok (.iand, 1) := by decide +kernel
theorem dJ6_bitCount_0f7a4_22 : decode cJ6_bitCount_0f7a4 22 = .ok (.iadd, 1) := by decide +kernel
theorem dJ6_bitCount_0f7a4_23 : decode cJ6_bitCount_0f7a4 23 = .ok (.istore_n 0, 1) := by decide +kernel
theorem dJ6_bitCount_0f7a4_24 : decode cJ6_bitCount_0f7a4 24 = .ok (.iload_n 0, 1) := by decide +kernel
theorem dJ6_bitCount_0f7a4_25 : decode cJ6_bitCount_0f7a4 25 = .ok (.iload_n 0, 1) := by decide +kernel
theorem dJ6_bitCount_0f7a4_26 : decode cJ6_bitCount_0f7a4 26 = .ok (.iconst 4, 1) := by decide +kernel
theorem dJ6_bitCount_0f7a4_27 : decode cJ6_bitCount_0f7a4 27 = .ok (.iushr, 1) := by decide +kernel
theorem dJ6_bitCount_0f7a4_28 : decode cJ6_bitCount_0f7a4 28 = .ok (.iadd, 1) := by decide +kernel
theorem dJ6_bitCount_0f7a4_29 : decode cJ6_bitCount_0f7a4 29 = .ok (.ldc_w 267, 3) := by decide +kernel
theorem dJ6_bitCount_0f7a4_32 : decode cJ6_bitCount_0f7a4 32 = .ok (.iand, 1) := by decide +kernel
theorem dJ6_bitCount_0f7a4_33 : decode cJ6_bitCount_0f7a4 33 = .ok (.istore_n 0, 1) := by decide +kernel
theorem dJ6_bitCount_0f7a4_34 : decode cJ6_bitCount_0f7a4 34 = .ok (.iload_n 0, 1) := by decide +kernel
theorem dJ6_bitCount_0f7a4_35 : decode cJ6_bitCount_0f7a4 35 = .ok (.iload_n 0, 1) := by decide +kernel
theorem dJ6_bitCount_0f7a4_36 : decode cJ6_bitCount_0f7a4 36 = .ok (.bipush 8, 2) := by decide +kernel
theorem dJ6_bitCount_0f7a4_38 : decode cJ6_bitCount_0f7a4 38 = .ok (.iushr, 1) := by decide +kernel
theorem dJ6_bitCount_0f7a4_39 : decode cJ6_bitCount_0f7a4 39 = .ok (.iadd, 1) := by decide +kernel
theorem dJ6_bitCount_0f7a4_40 : decode cJ6_bitCount_0f7a4 40 = .ok (.istore_n 0, 1) := by decide +kernel
theorem dJ6_bitCount_0f7a4_41 : decode cJ6_bitCount_0f7a4 41 = .ok (.iload_n 0, 1) := by decide +kernel
theorem dJ6_bitCount_0f7a4_42 : decode cJ6_bitCount_0f7a4 42 = .ok (.iload_n 0, 1) := by decide +kernel
theorem dJ6_bitCount_0f7a4_43 : decode cJ6_bitCount_0f7a4 43 = .ok (.bipush 16, 2) := by decide +kernel
theorem dJ6_bitCount_0f7a4_45 : decode cJ6_bitCount_0f7a4 45 = .ok (.iushr, 1) := by decide +kernel
theorem dJ6_bitCount_0f7a4_46 : decode cJ6_bitCount_0f7a4 46 = .ok (.iadd, 1) := by decide +kernel
theorem dJ6_bitCount_0f7a4_47 : decode cJ6_bitCount_0f7a4 47 = .ok (.istore_n 0, 1) := by decide +kernel
theorem dJ6_bitCount_0f7a4_48 : decode cJ6_bitCount_0f7a4 48 = .ok (.iload_n 0, 1) := by decide +kernel
theorem dJ6_bitCount_0f7a4_49 : decode cJ6_bitCount_0f7a4 49 = .ok (.bipush 63, 2) := by decide +kernel
theorem dJ6_bitCount_0f7a4_51 : decode cJ6_bitCount_0f7a4 51 = .ok (.iand, 1) := by decide +kernel
theorem dJ6_bitCount_0f7a4_52 : decode cJ6_bitCount_0f7a4 52 = .ok (.ireturn, 1) := by decide +kernel
theorem dJ9_abs_0f7a4_0 : decode cJ9_abs_0f7a4 0 = .ok (.iload_n 0, 1) := by decide +kernel
theorem dJ9_abs_0f7a4_1 : decode cJ9_abs_0f7a4 1 = .ok (.ifCond .ge 8, 3) := by decide +kernel
theorem dJ9_abs_0f7a4_4 : decode cJ9_abs_0f7a4 4 = .ok (.iload_n 0, 1) := by decide +kernel
theorem dJ9_abs_0f7a4_5 : decode cJ9_abs_0f7a4 5 = .ok (.ineg, 1) := by decide +kernel
theorem dJ9_abs_0f7a4_6 : decode cJ9_abs_0f7a4 6 = .ok (.goto 4, 3) := by decide +kernel
theorem dJ9_abs_0f7a4_9 : decode cJ9_abs_0f7a4 9 = .ok (.iload_n 0, 1) := by decide +kernel
theorem dJ9_abs_0f7a4_10 : decode cJ9_abs_0f7a4 10 = .ok (.ireturn, 1) := by decide +kernel
theorem dJ9_abs_067f4_0 : decode cJ9_abs_067f4 0 = .ok (.lload_n 0, 1) := by decide +kernel
theorem dJ9_abs_067f4_1 : decode cJ9_abs_067f4 1 = .ok (.lconst 0, 1) := by decide +kernel
theorem dJ9_abs_067f4_2 : decode cJ9_abs_067f4 2 = .ok (.lcmp, 1) := by decide +kernel
theorem dJ9_abs_067f4_3 : decode cJ9_abs_067f4 3 = .ok (.ifCond .ge 8, 3) := by decide +kernel
theorem dJ9_abs_067f4_6 : decode cJ9_abs_067f4 6 = .ok (.lload_n 0, 1) := by decide +kernel
theorem dJ9_abs_067f4_7 : decode cJ9_abs_067f4 7 = .ok (.lneg, 1) := by decide +kernel
theorem dJ9_abs_067f4_8 : decode cJ9_abs_067f4 8 = .ok (.goto 4, 3) := by decide +kernel
theorem dJ9_abs_067f4_11 : decode cJ9_abs_067f4 11 = .ok (.lload_n 0, 1) := by decide +kernel
theorem dJ9_abs_067f4_12 : decode cJ9_abs_067f4 12 = .ok (.lreturn, 1) := by decide +kernel
theorem dJ9_max_f86c9_0 : decode cJ9_max_f86c9 0 = .ok (.lload_n 0, 1) := by decide +kernel
theorem dJ9_max_f86c9_1 : decode cJ9_max_f86c9 1 = .ok (.lload_n 2, 1) := by decide +kernel
theorem dJ9_max_f86c9_2 : decode cJ9_max_f86c9 2 = .ok (.lcmp, 1) := by decide +kernel
theorem dJ9_max_f86c9_3 : decode cJ9_max_f86c9 3 = .ok (.ifCond .lt 7, 3) := by decide +kernel
theorem dJ9_max_f86c9_6 : decode cJ9_max_f86c9 6 = .ok (.lload_n 0, 1) := by decide +kernel
theorem dJ9_max_f86c9_7 : decode cJ9_max_f86c9 7 = .ok (.goto 4, 3) := by decide +kernel
theorem dJ9_max_f86c9_10 : decode cJ9_max_f86c9 10 = .ok (.lload_n 2, 1) := by decide +kernel
theorem dJ9_max_f86c9_11 : decode cJ9_max_f86c9 11 = .ok (.lreturn, 1) := by decide +kernel
theorem dJ9_min_7cf53_0 : decode cJ9_min_7cf53 0 = .ok (.iload_n 0, 1) := by decide +kernel
theorem dJ9_min_7cf53_1 : decode cJ9_min_7cf53 1 = .ok (.iload_n 1, 1) := by decide +kernel
theorem dJ9_min_7cf53_2 : decode cJ9_min_7cf53 2 = .ok (.if_icmp .gt 7, 3) := by decide +kernel
theorem dJ9_min_7cf53_5 : decode cJ9_min_7cf53 5 = .ok (.iload_n 0, 1) := by decide +kernel
theorem dJ9_min_7cf53_6 : decode cJ9_min_7cf53 6 = .ok (.goto 4, 3) := by decide +kernel
theorem dJ9_min_7cf53_9 : decode cJ9_min_7cf53 9 = .ok (.iload_n 1, 1) := by decide +kernel
theorem dJ9_min_7cf53_10 : decode cJ9_min_7cf53 10 = .ok (.ireturn, 1) := by decide +kernel
theorem dJ7_fill_d0a16_0 : decode cJ7_fill_d0a16 0 = .ok (.iconst 0, 1) := by decide +kernel
theorem dJ7_fill_d0a16_1 : decode cJ7_fill_d0a16 1 = .ok (.istore_n 3, 1) := by decide +kernel
theorem dJ7_fill_d0a16_2 : decode cJ7_fill_d0a16 2 = .ok (.aload_n 0, 1) := by decide +kernel
theorem dJ7_fill_d0a16_3 : decode cJ7_fill_d0a16 3 = .ok (.arraylength, 1) := by decide +kernel
theorem dJ7_fill_d0a16_4 : decode cJ7_fill_d0a16 4 = .ok (.istore 4, 2) := by decide +kernel
theorem dJ7_fill_d0a16_6 : decode cJ7_fill_d0a16 6 = .ok (.iload_n 3, 1) := by decide +kernel
theorem dJ7_fill_d0a16_7 : decode cJ7_fill_d0a16 7 = .ok (.iload 4, 2) := by decide +kernel
theorem dJ7_fill_d0a16_9 : decode cJ7_fill_d0a16 9 = .ok (.if_icmp .ge 13, 3) := by decide +kernel
theorem dJ7_fill_d0a16_12 : decode cJ7_fill_d0a16 12 = .ok (.aload_n 0, 1) := by decide +kernel
theorem dJ7_fill_d0a16_13 : decode cJ7_fill_d0a16 13 = .ok (.iload_n 3, 1) := by decide +kernel
theorem dJ7_fill_d0a16_14 : decode cJ7_fill_d0a16 14 = .ok (.lload_n 1, 1) := by decide +kernel
theorem dJ7_fill_d0a16_15 : decode cJ7_fill_d0a16 15 = .ok (.lastore, 1) := by decide +kernel
theorem dJ7_fill_d0a16_16 : decode cJ7_fill_d0a16 16 = .ok (.iinc 3 1, 3) := by decide +kernel
theorem dJ7_fill_d0a16_19 : decode cJ7_fill_d0a16 19 = .ok (.goto (-13), 3) := by decide +kernel
theorem dJ7_fill_d0a16_22 : decode cJ7_fill_d0a16 22 = .ok (.return_, 1) := by decide +kernel
theorem dL_law_0 : decode cL_law 0 = .ok (.new 7, 3) := by decide +kernel
theorem dL_law_3 : decode cL_law 3 = .ok (.dup, 1) := by decide +kernel
theorem dL_law_4 : decode cL_law 4 = .ok (.invokespecial 9, 3) := by decide +kernel
theorem dL_law_7 : decode cL_law 7 = .ok (.astore_n 1, 1) := by decide +kernel
theorem dL_law_8 : decode cL_law 8 = .ok (.new 10, 3) := by decide +kernel
theorem dL_law_11 : decode cL_law 11 = .ok (.dup, 1) := by decide +kernel
theorem dL_law_12 : decode cL_law 12 = .ok (.invokespecial 12, 3) := by decide +kernel
theorem dL_law_15 : decode cL_law 15 = .ok (.astore_n 2, 1) := by decide +kernel
theorem dL_law_16 : decode cL_law 16 = .ok (.iconst 0, 1) := by decide +kernel
theorem dL_law_17 : decode cL_law 17 = .ok (.istore_n 3, 1) := by decide +kernel
theorem dL_law_18 : decode cL_law 18 = .ok (.iload_n 3, 1) := by decide +kernel
theorem dL_law_19 : decode cL_law 19 = .ok (.aload_n 0, 1) := by decide +kernel
theorem dL_law_20 : decode cL_law 20 = .ok (.arraylength, 1) := by decide +kernel
theorem dL_law_21 : decode cL_law 21 = .ok (.bipush 8, 2) := by decide +kernel
theorem dL_law_23 : decode cL_law 23 = .ok (.isub, 1) := by decide +kernel
theorem dL_law_24 : decode cL_law 24 = .ok (.if_icmp .gt 1479, 3) := by decide +kernel
theorem dL_law_27 : decode cL_law 27 = .ok (.aload_n 0, 1) := by decide +kernel
theorem dL_law_28 : decode cL_law 28 = .ok (.iload_n 3, 1) := by decide +kernel
theorem dL_law_29 : decode cL_law 29 = .ok (.iaload, 1) := by decide +kernel
theorem dL_law_30 : decode cL_law 30 = .ok (.bipush 63, 2) := by decide +kernel
theorem dL_law_32 : decode cL_law 32 = .ok (.iand, 1) := by decide +kernel
theorem dL_law_33 : decode cL_law 33 = .ok (.tableswitch 1464 0 32 #[147, 200, 213, 226, 239, 272, 315, 348, 381, 414, 437, 480, 513, 566, 629, 683, 727, 761, 784, 859, 962, 1005, 1048, 1102, 1165, 1228, 1271, 1315, 1368, 1401, 1414, 1427, 1450], 147) := by decide +kernel
theorem dL_law_180 : decode cL_law 180 = .ok (.aload_n 1, 1) := by decide +kernel
theorem dL_law_181 : decode cL_law 181 = .ok (.aload_n 0, 1) := by decide +kernel
theorem dL_law_182 : decode cL_law 182 = .ok (.iload_n 3, 1) := by decide +kernel
theorem dL_law_183 : decode cL_law 183 = .ok (.iconst 1, 1) := by decide +kernel
theorem dL_law_184 : decode cL_law 184 = .ok (.iadd, 1) := by decide +kernel
theorem dL_law_185 : decode cL_law 185 = .ok (.iaload, 1) := by decide +kernel
theorem dL_law_186 : decode cL_law 186 = .ok (.i2l, 1) := by decide +kernel
theorem dL_law_187 : decode cL_law 187 = .ok (.bipush 32, 2) := by decide +kernel
theorem dL_law_189 : decode cL_law 189 = .ok (.lshl, 1) := by decide +kernel
theorem dL_law_190 : decode cL_law 190 = .ok (.aload_n 0, 1) := by decide +kernel
theorem dL_law_191 : decode cL_law 191 = .ok (.iload_n 3, 1) := by decide +kernel
theorem dL_law_192 : decode cL_law 192 = .ok (.iconst 2, 1) := by decide +kernel
theorem dL_law_193 : decode cL_law 193 = .ok (.iadd, 1) := by decide +kernel
theorem dL_law_194 : decode cL_law 194 = .ok (.iaload, 1) := by decide +kernel
theorem dL_law_195 : decode cL_law 195 = .ok (.i2l, 1) := by decide +kernel
theorem dL_law_196 : decode cL_law 196 = .ok (.ldc2_w 13, 3) := by decide +kernel
theorem dL_law_199 : decode cL_law 199 = .ok (.land, 1) := by decide +kernel
theorem dL_law_200 : decode cL_law 200 = .ok (.lor, 1) := by decide +kernel
theorem dL_law_201 : decode cL_law 201 = .ok (.invokevirtual 15, 3) := by decide +kernel
theorem dL_law_204 : decode cL_law 204 = .ok (.aload_n 2, 1) := by decide +kernel
theorem dL_law_205 : decode cL_law 205 = .ok (.aload_n 0, 1) := by decide +kernel
theorem dL_law_206 : decode cL_law 206 = .ok (.iload_n 3, 1) := by decide +kernel
theorem dL_law_207 : decode cL_law 207 = .ok (.iconst 1, 1) := by decide +kernel
theorem dL_law_208 : decode cL_law 208 = .ok (.iadd, 1) := by decide +kernel
theorem dL_law_209 : decode cL_law 209 = .ok (.iaload, 1) := by decide +kernel
theorem dL_law_210 : decode cL_law 210 = .ok (.i2l, 1) := by decide +kernel
theorem dL_law_211 : decode cL_law 211 = .ok (.bipush 32, 2) := by decide +kernel
theorem dL_law_213 : decode cL_law 213 = .ok (.lshl, 1) := by decide +kernel
theorem dL_law_214 : decode cL_law 214 = .ok (.aload_n 0, 1) := by decide +kernel
theorem dL_law_215 : decode cL_law 215 = .ok (.iload_n 3, 1) := by decide +kernel
theorem dL_law_216 : decode cL_law 216 = .ok (.iconst 2, 1) := by decide +kernel
theorem dL_law_217 : decode cL_law 217 = .ok (.iadd, 1) := by decide +kernel
theorem dL_law_218 : decode cL_law 218 = .ok (.iaload, 1) := by decide +kernel
theorem dL_law_219 : decode cL_law 219 = .ok (.i2l, 1) := by decide +kernel
theorem dL_law_220 : decode cL_law 220 = .ok (.ldc2_w 13, 3) := by decide +kernel
theorem dL_law_223 : decode cL_law 223 = .ok (.land, 1) := by decide +kernel
theorem dL_law_224 : decode cL_law 224 = .ok (.lor, 1) := by decide +kernel
theorem dL_law_225 : decode cL_law 225 = .ok (.invokevirtual 19, 3) := by decide +kernel
theorem dL_law_228 : decode cL_law 228 = .ok (.if_icmp .eq 1269, 3) := by decide +kernel
theorem dL_law_231 : decode cL_law 231 = .ok (.iconst 0, 1) := by decide +kernel
theorem dL_law_232 : decode cL_law 232 = .ok (.ireturn, 1) := by decide +kernel
theorem dL_law_233 : decode cL_law 233 = .ok (.aload_n 1, 1) := by decide +kernel
theorem dL_law_234 : decode cL_law 234 = .ok (.invokevirtual 20, 3) := by decide +kernel
theorem dL_law_237 : decode cL_law 237 = .ok (.aload_n 2, 1) := by decide +kernel
theorem dL_law_238 : decode cL_law 238 = .ok (.invokevirtual 24, 3) := by decide +kernel
theorem dL_law_241 : decode cL_law 241 = .ok (.if_icmp .eq 1256, 3) := by decide +kernel
theorem dL_law_244 : decode cL_law 244 = .ok (.iconst 0, 1) := by decide +kernel
theorem dL_law_245 : decode cL_law 245 = .ok (.ireturn, 1) := by decide +kernel
theorem dL_law_246 : decode cL_law 246 = .ok (.aload_n 1, 1) := by decide +kernel
theorem dL_law_247 : decode cL_law 247 = .ok (.invokevirtual 25, 3) := by decide +kernel
theorem dL_law_250 : decode cL_law 250 = .ok (.aload_n 2, 1) := by decide +kernel
theorem dL_law_251 : decode cL_law 251 = .ok (.invokevirtual 28, 3) := by decide +kernel
theorem dL_law_254 : decode cL_law 254 = .ok (.if_icmp .eq 1243, 3) := by decide +kernel
theorem dL_law_257 : decode cL_law 257 = .ok (.iconst 0, 1) := by decide +kernel
theorem dL_law_258 : decode cL_law 258 = .ok (.ireturn, 1) := by decide +kernel
theorem dL_law_259 : decode cL_law 259 = .ok (.aload_n 1, 1) := by decide +kernel
theorem dL_law_260 : decode cL_law 260 = .ok (.invokevirtual 29, 3) := by decide +kernel
theorem dL_law_263 : decode cL_law 263 = .ok (.aload_n 2, 1) := by decide +kernel
theorem dL_law_264 : decode cL_law 264 = .ok (.invokevirtual 32, 3) := by decide +kernel
theorem dL_law_267 : decode cL_law 267 = .ok (.if_icmp .eq 1230, 3) := by decide +kernel
theorem dL_law_270 : decode cL_law 270 = .ok (.iconst 0, 1) := by decide +kernel
theorem dL_law_271 : decode cL_law 271 = .ok (.ireturn, 1) := by decide +kernel
theorem dL_law_272 : decode cL_law 272 = .ok (.aload_n 1, 1) := by decide +kernel
theorem dL_law_273 : decode cL_law 273 = .ok (.aload_n 0, 1) := by decide +kernel
theorem dL_law_274 : decode cL_law 274 = .ok (.iload_n 3, 1) := by decide +kernel
theorem dL_law_275 : decode cL_law 275 = .ok (.iconst 1, 1) := by decide +kernel
theorem dL_law_276 : decode cL_law 276 = .ok (.iadd, 1) := by decide +kernel
theorem dL_law_277 : decode cL_law 277 = .ok (.iaload, 1) := by decide +kernel
theorem dL_law_278 : decode cL_law 278 = .ok (.aload_n 0, 1) := by decide +kernel
theorem dL_law_279 : decode cL_law 279 = .ok (.iload_n 3, 1) := by decide +kernel
theorem dL_law_280 : decode cL_law 280 = .ok (.iconst 2, 1) := by decide +kernel
theorem dL_law_281 : decode cL_law 281 = .ok (.iadd, 1) := by decide +kernel
theorem dL_law_282 : decode cL_law 282 = .ok (.iaload, 1) := by decide +kernel
theorem dL_law_283 : decode cL_law 283 = .ok (.invokevirtual 33, 3) := by decide +kernel
theorem dL_law_286 : decode cL_law 286 = .ok (.aload_n 2, 1) := by decide +kernel
theorem dL_law_287 : decode cL_law 287 = .ok (.aload_n 0, 1) := by decide +kernel
theorem dL_law_288 : decode cL_law 288 = .ok (.iload_n 3, 1) := by decide +kernel
theorem dL_law_289 : decode cL_law 289 = .ok (.iconst 1, 1) := by decide +kernel
theorem dL_law_290 : decode cL_law 290 = .ok (.iadd, 1) := by decide +kernel
theorem dL_law_291 : decode cL_law 291 = .ok (.iaload, 1) := by decide +kernel
theorem dL_law_292 : decode cL_law 292 = .ok (.aload_n 0, 1) := by decide +kernel
theorem dL_law_293 : decode cL_law 293 = .ok (.iload_n 3, 1) := by decide +kernel
theorem dL_law_294 : decode cL_law 294 = .ok (.iconst 2, 1) := by decide +kernel
theorem dL_law_295 : decode cL_law 295 = .ok (.iadd, 1) := by decide +kernel
theorem dL_law_296 : decode cL_law 296 = .ok (.iaload, 1) := by decide +kernel
theorem dL_law_297 : decode cL_law 297 = .ok (.invokevirtual 37, 3) := by decide +kernel
theorem dL_law_300 : decode cL_law 300 = .ok (.if_icmp .eq 1197, 3) := by decide +kernel
theorem dL_law_303 : decode cL_law 303 = .ok (.iconst 0, 1) := by decide +kernel
theorem dL_law_304 : decode cL_law 304 = .ok (.ireturn, 1) := by decide +kernel
theorem dL_law_305 : decode cL_law 305 = .ok (.aload_n 1, 1) := by decide +kernel
theorem dL_law_306 : decode cL_law 306 = .ok (.aload_n 0, 1) := by decide +kernel
theorem dL_law_307 : decode cL_law 307 = .ok (.iload_n 3, 1) := by decide +kernel
theorem dL_law_308 : decode cL_law 308 = .ok (.iconst 1, 1) := by decide +kernel
theorem dL_law_309 : decode cL_law 309 = .ok (.iadd, 1) := by decide +kernel
theorem dL_law_310 : decode cL_law 310 = .ok (.iaload, 1) := by decide +kernel
theorem dL_law_311 : decode cL_law 311 = .ok (.aload_n 0, 1) := by decide +kernel
theorem dL_law_312 : decode cL_law 312 = .ok (.iload_n 3, 1) := by decide +kernel
theorem dL_law_313 : decode cL_law 313 = .ok (.iconst 2, 1) := by decide +kernel
theorem dL_law_314 : decode cL_law 314 = .ok (.iadd, 1) := by decide +kernel
theorem dL_law_315 : decode cL_law 315 = .ok (.iaload, 1) := by decide +kernel
theorem dL_law_316 : decode cL_law 316 = .ok (.aload_n 0, 1) := by decide +kernel
theorem dL_law_317 : decode cL_law 317 = .ok (.iload_n 3, 1) := by decide +kernel
theorem dL_law_318 : decode cL_law 318 = .ok (.iconst 3, 1) := by decide +kernel
theorem dL_law_319 : decode cL_law 319 = .ok (.iadd, 1) := by decide +kernel
theorem dL_law_320 : decode cL_law 320 = .ok (.iaload, 1) := by decide +kernel
theorem dL_law_321 : decode cL_law 321 = .ok (.invokevirtual 38, 3) := by decide +kernel
theorem dL_law_324 : decode cL_law 324 = .ok (.aload_n 2, 1) := by decide +kernel
theorem dL_law_325 : decode cL_law 325 = .ok (.aload_n 0, 1) := by decide +kernel
theorem dL_law_326 : decode cL_law 326 = .ok (.iload_n 3, 1) := by decide +kernel
theorem dL_law_327 : decode cL_law 327 = .ok (.iconst 1, 1) := by decide +kernel
theorem dL_law_328 : decode cL_law 328 = .ok (.iadd, 1) := by decide +kernel
theorem dL_law_329 : decode cL_law 329 = .ok (.iaload, 1) := by decide +kernel
theorem dL_law_330 : decode cL_law 330 = .ok (.aload_n 0, 1) := by decide +kernel
theorem dL_law_331 : decode cL_law 331 = .ok (.iload_n 3, 1) := by decide +kernel
theorem dL_law_332 : decode cL_law 332 = .ok (.iconst 2, 1) := by decide +kernel
theorem dL_law_333 : decode cL_law 333 = .ok (.iadd, 1) := by decide +kernel
theorem dL_law_334 : decode cL_law 334 = .ok (.iaload, 1) := by decide +kernel
theorem dL_law_335 : decode cL_law 335 = .ok (.aload_n 0, 1) := by decide +kernel
theorem dL_law_336 : decode cL_law 336 = .ok (.iload_n 3, 1) := by decide +kernel
theorem dL_law_337 : decode cL_law 337 = .ok (.iconst 3, 1) := by decide +kernel
theorem dL_law_338 : decode cL_law 338 = .ok (.iadd, 1) := by decide +kernel
theorem dL_law_339 : decode cL_law 339 = .ok (.iaload, 1) := by decide +kernel
theorem dL_law_340 : decode cL_law 340 = .ok (.invokevirtual 42, 3) := by decide +kernel
theorem dL_law_343 : decode cL_law 343 = .ok (.if_icmp .eq 1154, 3) := by decide +kernel
theorem dL_law_346 : decode cL_law 346 = .ok (.iconst 0, 1) := by decide +kernel
theorem dL_law_347 : decode cL_law 347 = .ok (.ireturn, 1) := by decide +kernel
theorem dL_law_348 : decode cL_law 348 = .ok (.aload_n 1, 1) := by decide +kernel
theorem dL_law_349 : decode cL_law 349 = .ok (.aload_n 0, 1) := by decide +kernel
theorem dL_law_350 : decode cL_law 350 = .ok (.iload_n 3, 1) := by decide +kernel
theorem dL_law_351 : decode cL_law 351 = .ok (.iconst 1, 1) := by decide +kernel
theorem dL_law_352 : decode cL_law 352 = .ok (.iadd, 1) := by decide +kernel
theorem dL_law_353 : decode cL_law 353 = .ok (.iaload, 1) := by decide +kernel
theorem dL_law_354 : decode cL_law 354 = .ok (.aload_n 0, 1) := by decide +kernel
theorem dL_law_355 : decode cL_law 355 = .ok (.iload_n 3, 1) := by decide +kernel
theorem dL_law_356 : decode cL_law 356 = .ok (.iconst 2, 1) := by decide +kernel
theorem dL_law_357 : decode cL_law 357 = .ok (.iadd, 1) := by decide +kernel
theorem dL_law_358 : decode cL_law 358 = .ok (.iaload, 1) := by decide +kernel
theorem dL_law_359 : decode cL_law 359 = .ok (.invokevirtual 43, 3) := by decide +kernel
theorem dL_law_362 : decode cL_law 362 = .ok (.aload_n 2, 1) := by decide +kernel
theorem dL_law_363 : decode cL_law 363 = .ok (.aload_n 0, 1) := by decide +kernel
theorem dL_law_364 : decode cL_law 364 = .ok (.iload_n 3, 1) := by decide +kernel
theorem dL_law_365 : decode cL_law 365 = .ok (.iconst 1, 1) := by decide +kernel
theorem dL_law_366 : decode cL_law 366 = .ok (.iadd, 1) := by decide +kernel
theorem dL_law_367 : decode cL_law 367 = .ok (.iaload, 1) := by decide +kernel
theorem dL_law_368 : decode cL_law 368 = .ok (.aload_n 0, 1) := by decide +kernel
theorem dL_law_369 : decode cL_law 369 = .ok (.iload_n 3, 1) := by decide +kernel
theorem dL_law_370 : decode cL_law 370 = .ok (.iconst 2, 1) := by decide +kernel
theorem dL_law_371 : decode cL_law 371 = .ok (.iadd, 1) := by decide +kernel
theorem dL_law_372 : decode cL_law 372 = .ok (.iaload, 1) := by decide +kernel
theorem dL_law_373 : decode cL_law 373 = .ok (.invokevirtual 46, 3) := by decide +kernel
theorem dL_law_376 : decode cL_law 376 = .ok (.if_icmp .eq 1121, 3) := by decide +kernel
theorem dL_law_379 : decode cL_law 379 = .ok (.iconst 0, 1) := by decide +kernel
theorem dL_law_380 : decode cL_law 380 = .ok (.ireturn, 1) := by decide +kernel
theorem dL_law_381 : decode cL_law 381 = .ok (.aload_n 1, 1) := by decide +kernel
theorem dL_law_382 : decode cL_law 382 = .ok (.aload_n 0, 1) := by decide +kernel
theorem dL_law_383 : decode cL_law 383 = .ok (.iload_n 3, 1) := by decide +kernel
theorem dL_law_384 : decode cL_law 384 = .ok (.iconst 1, 1) := by decide +kernel
theorem dL_law_385 : decode cL_law 385 = .ok (.iadd, 1) := by decide +kernel
theorem dL_law_386 : decode cL_law 386 = .ok (.iaload, 1) := by decide +kernel
theorem dL_law_387 : decode cL_law 387 = .ok (.aload_n 0, 1) := by decide +kernel
theorem dL_law_388 : decode cL_law 388 = .ok (.iload_n 3, 1) := by decide +kernel
theorem dL_law_389 : decode cL_law 389 = .ok (.iconst 2, 1) := by decide +kernel
theorem dL_law_390 : decode cL_law 390 = .ok (.iadd, 1) := by decide +kernel
theorem dL_law_391 : decode cL_law 391 = .ok (.iaload, 1) := by decide +kernel
theorem dL_law_392 : decode cL_law 392 = .ok (.invokevirtual 47, 3) := by decide +kernel
theorem dL_law_395 : decode cL_law 395 = .ok (.aload_n 2, 1) := by decide +kernel
theorem dL_law_396 : decode cL_law 396 = .ok (.aload_n 0, 1) := by decide +kernel
theorem dL_law_397 : decode cL_law 397 = .ok (.iload_n 3, 1) := by decide +kernel
theorem dL_law_398 : decode cL_law 398 = .ok (.iconst 1, 1) := by decide +kernel
theorem dL_law_399 : decode cL_law 399 = .ok (.iadd, 1) := by decide +kernel
theorem dL_law_400 : decode cL_law 400 = .ok (.iaload, 1) := by decide +kernel
theorem dL_law_401 : decode cL_law 401 = .ok (.aload_n 0, 1) := by decide +kernel
theorem dL_law_402 : decode cL_law 402 = .ok (.iload_n 3, 1) := by decide +kernel
theorem dL_law_403 : decode cL_law 403 = .ok (.iconst 2, 1) := by decide +kernel
theorem dL_law_404 : decode cL_law 404 = .ok (.iadd, 1) := by decide +kernel
theorem dL_law_405 : decode cL_law 405 = .ok (.iaload, 1) := by decide +kernel
theorem dL_law_406 : decode cL_law 406 = .ok (.invokevirtual 50, 3) := by decide +kernel
theorem dL_law_409 : decode cL_law 409 = .ok (.if_icmp .eq 1088, 3) := by decide +kernel
theorem dL_law_412 : decode cL_law 412 = .ok (.iconst 0, 1) := by decide +kernel
theorem dL_law_413 : decode cL_law 413 = .ok (.ireturn, 1) := by decide +kernel
theorem dL_law_414 : decode cL_law 414 = .ok (.aload_n 1, 1) := by decide +kernel
theorem dL_law_415 : decode cL_law 415 = .ok (.aload_n 0, 1) := by decide +kernel
theorem dL_law_416 : decode cL_law 416 = .ok (.iload_n 3, 1) := by decide +kernel
theorem dL_law_417 : decode cL_law 417 = .ok (.iconst 1, 1) := by decide +kernel
theorem dL_law_418 : decode cL_law 418 = .ok (.iadd, 1) := by decide +kernel
theorem dL_law_419 : decode cL_law 419 = .ok (.iaload, 1) := by decide +kernel
theorem dL_law_420 : decode cL_law 420 = .ok (.aload_n 0, 1) := by decide +kernel
theorem dL_law_421 : decode cL_law 421 = .ok (.iload_n 3, 1) := by decide +kernel
theorem dL_law_422 : decode cL_law 422 = .ok (.iconst 2, 1) := by decide +kernel
theorem dL_law_423 : decode cL_law 423 = .ok (.iadd, 1) := by decide +kernel
theorem dL_law_424 : decode cL_law 424 = .ok (.iaload, 1) := by decide +kernel
theorem dL_law_425 : decode cL_law 425 = .ok (.invokevirtual 51, 3) := by decide +kernel
theorem dL_law_428 : decode cL_law 428 = .ok (.aload_n 2, 1) := by decide +kernel
theorem dL_law_429 : decode cL_law 429 = .ok (.aload_n 0, 1) := by decide +kernel
theorem dL_law_430 : decode cL_law 430 = .ok (.iload_n 3, 1) := by decide +kernel
theorem dL_law_431 : decode cL_law 431 = .ok (.iconst 1, 1) := by decide +kernel
theorem dL_law_432 : decode cL_law 432 = .ok (.iadd, 1) := by decide +kernel
theorem dL_law_433 : decode cL_law 433 = .ok (.iaload, 1) := by decide +kernel
theorem dL_law_434 : decode cL_law 434 = .ok (.aload_n 0, 1) := by decide +kernel
theorem dL_law_435 : decode cL_law 435 = .ok (.iload_n 3, 1) := by decide +kernel
theorem dL_law_436 : decode cL_law 436 = .ok (.iconst 2, 1) := by decide +kernel
theorem dL_law_437 : decode cL_law 437 = .ok (.iadd, 1) := by decide +kernel
theorem dL_law_438 : decode cL_law 438 = .ok (.iaload, 1) := by decide +kernel
theorem dL_law_439 : decode cL_law 439 = .ok (.invokevirtual 54, 3) := by decide +kernel
theorem dL_law_442 : decode cL_law 442 = .ok (.if_icmp .eq 1055, 3) := by decide +kernel
theorem dL_law_445 : decode cL_law 445 = .ok (.iconst 0, 1) := by decide +kernel
theorem dL_law_446 : decode cL_law 446 = .ok (.ireturn, 1) := by decide +kernel
theorem dL_law_447 : decode cL_law 447 = .ok (.aload_n 1, 1) := by decide +kernel
theorem dL_law_448 : decode cL_law 448 = .ok (.aload_n 0, 1) := by decide +kernel
theorem dL_law_449 : decode cL_law 449 = .ok (.iload_n 3, 1) := by decide +kernel
theorem dL_law_450 : decode cL_law 450 = .ok (.iconst 1, 1) := by decide +kernel
theorem dL_law_451 : decode cL_law 451 = .ok (.iadd, 1) := by decide +kernel
theorem dL_law_452 : decode cL_law 452 = .ok (.iaload, 1) := by decide +kernel
theorem dL_law_453 : decode cL_law 453 = .ok (.invokevirtual 55, 3) := by decide +kernel
theorem dL_law_456 : decode cL_law 456 = .ok (.aload_n 2, 1) := by decide +kernel
theorem dL_law_457 : decode cL_law 457 = .ok (.aload_n 0, 1) := by decide +kernel
theorem dL_law_458 : decode cL_law 458 = .ok (.iload_n 3, 1) := by decide +kernel
theorem dL_law_459 : decode cL_law 459 = .ok (.iconst 1, 1) := by decide +kernel
theorem dL_law_460 : decode cL_law 460 = .ok (.iadd, 1) := by decide +kernel
theorem dL_law_461 : decode cL_law 461 = .ok (.iaload, 1) := by decide +kernel
theorem dL_law_462 : decode cL_law 462 = .ok (.invokevirtual 59, 3) := by decide +kernel
theorem dL_law_465 : decode cL_law 465 = .ok (.if_icmp .eq 1032, 3) := by decide +kernel
theorem dL_law_468 : decode cL_law 468 = .ok (.iconst 0, 1) := by decide +kernel
theorem dL_law_469 : decode cL_law 469 = .ok (.ireturn, 1) := by decide +kernel
theorem dL_law_470 : decode cL_law 470 = .ok (.aload_n 1, 1) := by decide +kernel
theorem dL_law_471 : decode cL_law 471 = .ok (.aload_n 0, 1) := by decide +kernel
theorem dL_law_472 : decode cL_law 472 = .ok (.iload_n 3, 1) := by decide +kernel
theorem dL_law_473 : decode cL_law 473 = .ok (.iconst 1, 1) := by decide +kernel
theorem dL_law_474 : decode cL_law 474 = .ok (.iadd, 1) := by decide +kernel
theorem dL_law_475 : decode cL_law 475 = .ok (.iaload, 1) := by decide +kernel
theorem dL_law_476 : decode cL_law 476 = .ok (.aload_n 0, 1) := by decide +kernel
theorem dL_law_477 : decode cL_law 477 = .ok (.iload_n 3, 1) := by decide +kernel
theorem dL_law_478 : decode cL_law 478 = .ok (.iconst 2, 1) := by decide +kernel
theorem dL_law_479 : decode cL_law 479 = .ok (.iadd, 1) := by decide +kernel
theorem dL_law_480 : decode cL_law 480 = .ok (.iaload, 1) := by decide +kernel
theorem dL_law_481 : decode cL_law 481 = .ok (.aload_n 0, 1) := by decide +kernel
theorem dL_law_482 : decode cL_law 482 = .ok (.iload_n 3, 1) := by decide +kernel
theorem dL_law_483 : decode cL_law 483 = .ok (.iconst 3, 1) := by decide +kernel
theorem dL_law_484 : decode cL_law 484 = .ok (.iadd, 1) := by decide +kernel
theorem dL_law_485 : decode cL_law 485 = .ok (.iaload, 1) := by decide +kernel
theorem dL_law_486 : decode cL_law 486 = .ok (.invokevirtual 60, 3) := by decide +kernel
theorem dL_law_489 : decode cL_law 489 = .ok (.aload_n 2, 1) := by decide +kernel
theorem dL_law_490 : decode cL_law 490 = .ok (.aload_n 0, 1) := by decide +kernel
theorem dL_law_491 : decode cL_law 491 = .ok (.iload_n 3, 1) := by decide +kernel
theorem dL_law_492 : decode cL_law 492 = .ok (.iconst 1, 1) := by decide +kernel
theorem dL_law_493 : decode cL_law 493 = .ok (.iadd, 1) := by decide +kernel
theorem dL_law_494 : decode cL_law 494 = .ok (.iaload, 1) := by decide +kernel
theorem dL_law_495 : decode cL_law 495 = .ok (.aload_n 0, 1) := by decide +kernel
theorem dL_law_496 : decode cL_law 496 = .ok (.iload_n 3, 1) := by decide +kernel
theorem dL_law_497 : decode cL_law 497 = .ok (.iconst 2, 1) := by decide +kernel
theorem dL_law_498 : decode cL_law 498 = .ok (.iadd, 1) := by decide +kernel
theorem dL_law_499 : decode cL_law 499 = .ok (.iaload, 1) := by decide +kernel
theorem dL_law_500 : decode cL_law 500 = .ok (.aload_n 0, 1) := by decide +kernel
theorem dL_law_501 : decode cL_law 501 = .ok (.iload_n 3, 1) := by decide +kernel
theorem dL_law_502 : decode cL_law 502 = .ok (.iconst 3, 1) := by decide +kernel
theorem dL_law_503 : decode cL_law 503 = .ok (.iadd, 1) := by decide +kernel
theorem dL_law_504 : decode cL_law 504 = .ok (.iaload, 1) := by decide +kernel
theorem dL_law_505 : decode cL_law 505 = .ok (.invokevirtual 63, 3) := by decide +kernel
theorem dL_law_508 : decode cL_law 508 = .ok (.if_icmp .eq 989, 3) := by decide +kernel
theorem dL_law_511 : decode cL_law 511 = .ok (.iconst 0, 1) := by decide +kernel
theorem dL_law_512 : decode cL_law 512 = .ok (.ireturn, 1) := by decide +kernel
theorem dL_law_513 : decode cL_law 513 = .ok (.aload_n 1, 1) := by decide +kernel
theorem dL_law_514 : decode cL_law 514 = .ok (.aload_n 0, 1) := by decide +kernel
theorem dL_law_515 : decode cL_law 515 = .ok (.iload_n 3, 1) := by decide +kernel
theorem dL_law_516 : decode cL_law 516 = .ok (.iconst 1, 1) := by decide +kernel
theorem dL_law_517 : decode cL_law 517 = .ok (.iadd, 1) := by decide +kernel
theorem dL_law_518 : decode cL_law 518 = .ok (.iaload, 1) := by decide +kernel
theorem dL_law_519 : decode cL_law 519 = .ok (.aload_n 0, 1) := by decide +kernel
theorem dL_law_520 : decode cL_law 520 = .ok (.iload_n 3, 1) := by decide +kernel
theorem dL_law_521 : decode cL_law 521 = .ok (.iconst 2, 1) := by decide +kernel
theorem dL_law_522 : decode cL_law 522 = .ok (.iadd, 1) := by decide +kernel
theorem dL_law_523 : decode cL_law 523 = .ok (.iaload, 1) := by decide +kernel
theorem dL_law_524 : decode cL_law 524 = .ok (.invokevirtual 64, 3) := by decide +kernel
theorem dL_law_527 : decode cL_law 527 = .ok (.aload_n 2, 1) := by decide +kernel
theorem dL_law_528 : decode cL_law 528 = .ok (.aload_n 0, 1) := by decide +kernel
theorem dL_law_529 : decode cL_law 529 = .ok (.iload_n 3, 1) := by decide +kernel
theorem dL_law_530 : decode cL_law 530 = .ok (.iconst 1, 1) := by decide +kernel
theorem dL_law_531 : decode cL_law 531 = .ok (.iadd, 1) := by decide +kernel
theorem dL_law_532 : decode cL_law 532 = .ok (.iaload, 1) := by decide +kernel
theorem dL_law_533 : decode cL_law 533 = .ok (.aload_n 0, 1) := by decide +kernel
theorem dL_law_534 : decode cL_law 534 = .ok (.iload_n 3, 1) := by decide +kernel
theorem dL_law_535 : decode cL_law 535 = .ok (.iconst 2, 1) := by decide +kernel
theorem dL_law_536 : decode cL_law 536 = .ok (.iadd, 1) := by decide +kernel
theorem dL_law_537 : decode cL_law 537 = .ok (.iaload, 1) := by decide +kernel
theorem dL_law_538 : decode cL_law 538 = .ok (.invokevirtual 67, 3) := by decide +kernel
theorem dL_law_541 : decode cL_law 541 = .ok (.if_icmp .eq 956, 3) := by decide +kernel
theorem dL_law_544 : decode cL_law 544 = .ok (.iconst 0, 1) := by decide +kernel
theorem dL_law_545 : decode cL_law 545 = .ok (.ireturn, 1) := by decide +kernel
theorem dL_law_546 : decode cL_law 546 = .ok (.aload_n 1, 1) := by decide +kernel
theorem dL_law_547 : decode cL_law 547 = .ok (.aload_n 0, 1) := by decide +kernel
theorem dL_law_548 : decode cL_law 548 = .ok (.iload_n 3, 1) := by decide +kernel
theorem dL_law_549 : decode cL_law 549 = .ok (.iconst 1, 1) := by decide +kernel
theorem dL_law_550 : decode cL_law 550 = .ok (.iadd, 1) := by decide +kernel
theorem dL_law_551 : decode cL_law 551 = .ok (.iaload, 1) := by decide +kernel
theorem dL_law_552 : decode cL_law 552 = .ok (.aload_n 0, 1) := by decide +kernel
theorem dL_law_553 : decode cL_law 553 = .ok (.iload_n 3, 1) := by decide +kernel
theorem dL_law_554 : decode cL_law 554 = .ok (.iconst 2, 1) := by decide +kernel
theorem dL_law_555 : decode cL_law 555 = .ok (.iadd, 1) := by decide +kernel
theorem dL_law_556 : decode cL_law 556 = .ok (.iaload, 1) := by decide +kernel
theorem dL_law_557 : decode cL_law 557 = .ok (.aload_n 0, 1) := by decide +kernel
theorem dL_law_558 : decode cL_law 558 = .ok (.iload_n 3, 1) := by decide +kernel
theorem dL_law_559 : decode cL_law 559 = .ok (.iconst 3, 1) := by decide +kernel
theorem dL_law_560 : decode cL_law 560 = .ok (.iadd, 1) := by decide +kernel
theorem dL_law_561 : decode cL_law 561 = .ok (.iaload, 1) := by decide +kernel
theorem dL_law_562 : decode cL_law 562 = .ok (.aload_n 0, 1) := by decide +kernel
theorem dL_law_563 : decode cL_law 563 = .ok (.iload_n 3, 1) := by decide +kernel
theorem dL_law_564 : decode cL_law 564 = .ok (.iconst 4, 1) := by decide +kernel
theorem dL_law_565 : decode cL_law 565 = .ok (.iadd, 1) := by decide +kernel
theorem dL_law_566 : decode cL_law 566 = .ok (.iaload, 1) := by decide +kernel
theorem dL_law_567 : decode cL_law 567 = .ok (.invokevirtual 68, 3) := by decide +kernel
theorem dL_law_570 : decode cL_law 570 = .ok (.aload_n 2, 1) := by decide +kernel
theorem dL_law_571 : decode cL_law 571 = .ok (.aload_n 0, 1) := by decide +kernel
theorem dL_law_572 : decode cL_law 572 = .ok (.iload_n 3, 1) := by decide +kernel
theorem dL_law_573 : decode cL_law 573 = .ok (.iconst 1, 1) := by decide +kernel
theorem dL_law_574 : decode cL_law 574 = .ok (.iadd, 1) := by decide +kernel
theorem dL_law_575 : decode cL_law 575 = .ok (.iaload, 1) := by decide +kernel
theorem dL_law_576 : decode cL_law 576 = .ok (.aload_n 0, 1) := by decide +kernel
theorem dL_law_577 : decode cL_law 577 = .ok (.iload_n 3, 1) := by decide +kernel
theorem dL_law_578 : decode cL_law 578 = .ok (.iconst 2, 1) := by decide +kernel
theorem dL_law_579 : decode cL_law 579 = .ok (.iadd, 1) := by decide +kernel
theorem dL_law_580 : decode cL_law 580 = .ok (.iaload, 1) := by decide +kernel
theorem dL_law_581 : decode cL_law 581 = .ok (.aload_n 0, 1) := by decide +kernel
theorem dL_law_582 : decode cL_law 582 = .ok (.iload_n 3, 1) := by decide +kernel
theorem dL_law_583 : decode cL_law 583 = .ok (.iconst 3, 1) := by decide +kernel
theorem dL_law_584 : decode cL_law 584 = .ok (.iadd, 1) := by decide +kernel
theorem dL_law_585 : decode cL_law 585 = .ok (.iaload, 1) := by decide +kernel
theorem dL_law_586 : decode cL_law 586 = .ok (.aload_n 0, 1) := by decide +kernel
theorem dL_law_587 : decode cL_law 587 = .ok (.iload_n 3, 1) := by decide +kernel
theorem dL_law_588 : decode cL_law 588 = .ok (.iconst 4, 1) := by decide +kernel
theorem dL_law_589 : decode cL_law 589 = .ok (.iadd, 1) := by decide +kernel
theorem dL_law_590 : decode cL_law 590 = .ok (.iaload, 1) := by decide +kernel
theorem dL_law_591 : decode cL_law 591 = .ok (.invokevirtual 72, 3) := by decide +kernel
theorem dL_law_594 : decode cL_law 594 = .ok (.if_icmp .eq 903, 3) := by decide +kernel
theorem dL_law_597 : decode cL_law 597 = .ok (.iconst 0, 1) := by decide +kernel
theorem dL_law_598 : decode cL_law 598 = .ok (.ireturn, 1) := by decide +kernel
theorem dL_law_599 : decode cL_law 599 = .ok (.aload_n 1, 1) := by decide +kernel
theorem dL_law_600 : decode cL_law 600 = .ok (.aload_n 0, 1) := by decide +kernel
theorem dL_law_601 : decode cL_law 601 = .ok (.iload_n 3, 1) := by decide +kernel
theorem dL_law_602 : decode cL_law 602 = .ok (.iconst 1, 1) := by decide +kernel
theorem dL_law_603 : decode cL_law 603 = .ok (.iadd, 1) := by decide +kernel
theorem dL_law_604 : decode cL_law 604 = .ok (.iaload, 1) := by decide +kernel
theorem dL_law_605 : decode cL_law 605 = .ok (.aload_n 0, 1) := by decide +kernel
theorem dL_law_606 : decode cL_law 606 = .ok (.iload_n 3, 1) := by decide +kernel
theorem dL_law_607 : decode cL_law 607 = .ok (.iconst 2, 1) := by decide +kernel
theorem dL_law_608 : decode cL_law 608 = .ok (.iadd, 1) := by decide +kernel
theorem dL_law_609 : decode cL_law 609 = .ok (.iaload, 1) := by decide +kernel
theorem dL_law_610 : decode cL_law 610 = .ok (.aload_n 0, 1) := by decide +kernel
theorem dL_law_611 : decode cL_law 611 = .ok (.iload_n 3, 1) := by decide +kernel
theorem dL_law_612 : decode cL_law 612 = .ok (.iconst 3, 1) := by decide +kernel
theorem dL_law_613 : decode cL_law 613 = .ok (.iadd, 1) := by decide +kernel
theorem dL_law_614 : decode cL_law 614 = .ok (.iaload, 1) := by decide +kernel
theorem dL_law_615 : decode cL_law 615 = .ok (.aload_n 0, 1) := by decide +kernel
theorem dL_law_616 : decode cL_law 616 = .ok (.iload_n 3, 1) := by decide +kernel
theorem dL_law_617 : decode cL_law 617 = .ok (.iconst 4, 1) := by decide +kernel
theorem dL_law_618 : decode cL_law 618 = .ok (.iadd, 1) := by decide +kernel
theorem dL_law_619 : decode cL_law 619 = .ok (.iaload, 1) := by decide +kernel
theorem dL_law_620 : decode cL_law 620 = .ok (.aload_n 0, 1) := by decide +kernel
theorem dL_law_621 : decode cL_law 621 = .ok (.iload_n 3, 1) := by decide +kernel
theorem dL_law_622 : decode cL_law 622 = .ok (.iconst 5, 1) := by decide +kernel
theorem dL_law_623 : decode cL_law 623 = .ok (.iadd, 1) := by decide +kernel
theorem dL_law_624 : decode cL_law 624 = .ok (.iaload, 1) := by decide +kernel
theorem dL_law_625 : decode cL_law 625 = .ok (.invokevirtual 73, 3) := by decide +kernel
theorem dL_law_628 : decode cL_law 628 = .ok (.aload_n 2, 1) := by decide +kernel
theorem dL_law_629 : decode cL_law 629 = .ok (.aload_n 0, 1) := by decide +kernel
theorem dL_law_630 : decode cL_law 630 = .ok (.iload_n 3, 1) := by decide +kernel
theorem dL_law_631 : decode cL_law 631 = .ok (.iconst 1, 1) := by decide +kernel
theorem dL_law_632 : decode cL_law 632 = .ok (.iadd, 1) := by decide +kernel
theorem dL_law_633 : decode cL_law 633 = .ok (.iaload, 1) := by decide +kernel
theorem dL_law_634 : decode cL_law 634 = .ok (.aload_n 0, 1) := by decide +kernel
theorem dL_law_635 : decode cL_law 635 = .ok (.iload_n 3, 1) := by decide +kernel
theorem dL_law_636 : decode cL_law 636 = .ok (.iconst 2, 1) := by decide +kernel
theorem dL_law_637 : decode cL_law 637 = .ok (.iadd, 1) := by decide +kernel
theorem dL_law_638 : decode cL_law 638 = .ok (.iaload, 1) := by decide +kernel
theorem dL_law_639 : decode cL_law 639 = .ok (.aload_n 0, 1) := by decide +kernel
theorem dL_law_640 : decode cL_law 640 = .ok (.iload_n 3, 1) := by decide +kernel
theorem dL_law_641 : decode cL_law 641 = .ok (.iconst 3, 1) := by decide +kernel
theorem dL_law_642 : decode cL_law 642 = .ok (.iadd, 1) := by decide +kernel
theorem dL_law_643 : decode cL_law 643 = .ok (.iaload, 1) := by decide +kernel
theorem dL_law_644 : decode cL_law 644 = .ok (.aload_n 0, 1) := by decide +kernel
theorem dL_law_645 : decode cL_law 645 = .ok (.iload_n 3, 1) := by decide +kernel
theorem dL_law_646 : decode cL_law 646 = .ok (.iconst 4, 1) := by decide +kernel
theorem dL_law_647 : decode cL_law 647 = .ok (.iadd, 1) := by decide +kernel
theorem dL_law_648 : decode cL_law 648 = .ok (.iaload, 1) := by decide +kernel
theorem dL_law_649 : decode cL_law 649 = .ok (.aload_n 0, 1) := by decide +kernel
theorem dL_law_650 : decode cL_law 650 = .ok (.iload_n 3, 1) := by decide +kernel
theorem dL_law_651 : decode cL_law 651 = .ok (.iconst 5, 1) := by decide +kernel
theorem dL_law_652 : decode cL_law 652 = .ok (.iadd, 1) := by decide +kernel
theorem dL_law_653 : decode cL_law 653 = .ok (.iaload, 1) := by decide +kernel
theorem dL_law_654 : decode cL_law 654 = .ok (.invokevirtual 77, 3) := by decide +kernel
theorem dL_law_657 : decode cL_law 657 = .ok (.if_icmp .eq 840, 3) := by decide +kernel
theorem dL_law_660 : decode cL_law 660 = .ok (.iconst 0, 1) := by decide +kernel
theorem dL_law_661 : decode cL_law 661 = .ok (.ireturn, 1) := by decide +kernel
theorem dL_law_662 : decode cL_law 662 = .ok (.aload_n 1, 1) := by decide +kernel
theorem dL_law_663 : decode cL_law 663 = .ok (.aload_n 0, 1) := by decide +kernel
theorem dL_law_664 : decode cL_law 664 = .ok (.iload_n 3, 1) := by decide +kernel
theorem dL_law_665 : decode cL_law 665 = .ok (.iconst 1, 1) := by decide +kernel
theorem dL_law_666 : decode cL_law 666 = .ok (.iadd, 1) := by decide +kernel
theorem dL_law_667 : decode cL_law 667 = .ok (.iaload, 1) := by decide +kernel
theorem dL_law_668 : decode cL_law 668 = .ok (.aload_n 0, 1) := by decide +kernel
theorem dL_law_669 : decode cL_law 669 = .ok (.iload_n 3, 1) := by decide +kernel
theorem dL_law_670 : decode cL_law 670 = .ok (.iconst 2, 1) := by decide +kernel
theorem dL_law_671 : decode cL_law 671 = .ok (.iadd, 1) := by decide +kernel
theorem dL_law_672 : decode cL_law 672 = .ok (.iaload, 1) := by decide +kernel
theorem dL_law_673 : decode cL_law 673 = .ok (.aload_n 0, 1) := by decide +kernel
theorem dL_law_674 : decode cL_law 674 = .ok (.iload_n 3, 1) := by decide +kernel
theorem dL_law_675 : decode cL_law 675 = .ok (.iconst 3, 1) := by decide +kernel
theorem dL_law_676 : decode cL_law 676 = .ok (.iadd, 1) := by decide +kernel
theorem dL_law_677 : decode cL_law 677 = .ok (.iaload, 1) := by decide +kernel
theorem dL_law_678 : decode cL_law 678 = .ok (.aload_n 0, 1) := by decide +kernel
theorem dL_law_679 : decode cL_law 679 = .ok (.iload_n 3, 1) := by decide +kernel
theorem dL_law_680 : decode cL_law 680 = .ok (.iconst 4, 1) := by decide +kernel
theorem dL_law_681 : decode cL_law 681 = .ok (.iadd, 1) := by decide +kernel
theorem dL_law_682 : decode cL_law 682 = .ok (.iaload, 1) := by decide +kernel
theorem dL_law_683 : decode cL_law 683 = .ok (.invokevirtual 78, 3) := by decide +kernel
theorem dL_law_686 : decode cL_law 686 = .ok (.aload_n 2, 1) := by decide +kernel
theorem dL_law_687 : decode cL_law 687 = .ok (.aload_n 0, 1) := by decide +kernel
theorem dL_law_688 : decode cL_law 688 = .ok (.iload_n 3, 1) := by decide +kernel
theorem dL_law_689 : decode cL_law 689 = .ok (.iconst 1, 1) := by decide +kernel
theorem dL_law_690 : decode cL_law 690 = .ok (.iadd, 1) := by decide +kernel
theorem dL_law_691 : decode cL_law 691 = .ok (.iaload, 1) := by decide +kernel
theorem dL_law_692 : decode cL_law 692 = .ok (.aload_n 0, 1) := by decide +kernel
theorem dL_law_693 : decode cL_law 693 = .ok (.iload_n 3, 1) := by decide +kernel
theorem dL_law_694 : decode cL_law 694 = .ok (.iconst 2, 1) := by decide +kernel
theorem dL_law_695 : decode cL_law 695 = .ok (.iadd, 1) := by decide +kernel
theorem dL_law_696 : decode cL_law 696 = .ok (.iaload, 1) := by decide +kernel
theorem dL_law_697 : decode cL_law 697 = .ok (.aload_n 0, 1) := by decide +kernel
theorem dL_law_698 : decode cL_law 698 = .ok (.iload_n 3, 1) := by decide +kernel
theorem dL_law_699 : decode cL_law 699 = .ok (.iconst 3, 1) := by decide +kernel
theorem dL_law_700 : decode cL_law 700 = .ok (.iadd, 1) := by decide +kernel
theorem dL_law_701 : decode cL_law 701 = .ok (.iaload, 1) := by decide +kernel
theorem dL_law_702 : decode cL_law 702 = .ok (.aload_n 0, 1) := by decide +kernel
theorem dL_law_703 : decode cL_law 703 = .ok (.iload_n 3, 1) := by decide +kernel
theorem dL_law_704 : decode cL_law 704 = .ok (.iconst 4, 1) := by decide +kernel
theorem dL_law_705 : decode cL_law 705 = .ok (.iadd, 1) := by decide +kernel
theorem dL_law_706 : decode cL_law 706 = .ok (.iaload, 1) := by decide +kernel
theorem dL_law_707 : decode cL_law 707 = .ok (.invokevirtual 82, 3) := by decide +kernel
theorem dL_law_710 : decode cL_law 710 = .ok (.lcmp, 1) := by decide +kernel
theorem dL_law_711 : decode cL_law 711 = .ok (.ifCond .eq 786, 3) := by decide +kernel
theorem dL_law_714 : decode cL_law 714 = .ok (.iconst 0, 1) := by decide +kernel
theorem dL_law_715 : decode cL_law 715 = .ok (.ireturn, 1) := by decide +kernel
theorem dL_law_716 : decode cL_law 716 = .ok (.aload_n 1, 1) := by decide +kernel
theorem dL_law_717 : decode cL_law 717 = .ok (.aload_n 0, 1) := by decide +kernel
theorem dL_law_718 : decode cL_law 718 = .ok (.iload_n 3, 1) := by decide +kernel
theorem dL_law_719 : decode cL_law 719 = .ok (.iconst 1, 1) := by decide +kernel
theorem dL_law_720 : decode cL_law 720 = .ok (.iadd, 1) := by decide +kernel
theorem dL_law_721 : decode cL_law 721 = .ok (.iaload, 1) := by decide +kernel
theorem dL_law_722 : decode cL_law 722 = .ok (.aload_n 0, 1) := by decide +kernel
theorem dL_law_723 : decode cL_law 723 = .ok (.iload_n 3, 1) := by decide +kernel
theorem dL_law_724 : decode cL_law 724 = .ok (.iconst 2, 1) := by decide +kernel
theorem dL_law_725 : decode cL_law 725 = .ok (.iadd, 1) := by decide +kernel
theorem dL_law_726 : decode cL_law 726 = .ok (.iaload, 1) := by decide +kernel
theorem dL_law_727 : decode cL_law 727 = .ok (.aload_n 0, 1) := by decide +kernel
theorem dL_law_728 : decode cL_law 728 = .ok (.iload_n 3, 1) := by decide +kernel
theorem dL_law_729 : decode cL_law 729 = .ok (.iconst 3, 1) := by decide +kernel
theorem dL_law_730 : decode cL_law 730 = .ok (.iadd, 1) := by decide +kernel
theorem dL_law_731 : decode cL_law 731 = .ok (.iaload, 1) := by decide +kernel
theorem dL_law_732 : decode cL_law 732 = .ok (.invokevirtual 83, 3) := by decide +kernel
theorem dL_law_735 : decode cL_law 735 = .ok (.aload_n 2, 1) := by decide +kernel
theorem dL_law_736 : decode cL_law 736 = .ok (.aload_n 0, 1) := by decide +kernel
theorem dL_law_737 : decode cL_law 737 = .ok (.iload_n 3, 1) := by decide +kernel
theorem dL_law_738 : decode cL_law 738 = .ok (.iconst 1, 1) := by decide +kernel
theorem dL_law_739 : decode cL_law 739 = .ok (.iadd, 1) := by decide +kernel
theorem dL_law_740 : decode cL_law 740 = .ok (.iaload, 1) := by decide +kernel
theorem dL_law_741 : decode cL_law 741 = .ok (.aload_n 0, 1) := by decide +kernel
theorem dL_law_742 : decode cL_law 742 = .ok (.iload_n 3, 1) := by decide +kernel
theorem dL_law_743 : decode cL_law 743 = .ok (.iconst 2, 1) := by decide +kernel
theorem dL_law_744 : decode cL_law 744 = .ok (.iadd, 1) := by decide +kernel
theorem dL_law_745 : decode cL_law 745 = .ok (.iaload, 1) := by decide +kernel
theorem dL_law_746 : decode cL_law 746 = .ok (.aload_n 0, 1) := by decide +kernel
theorem dL_law_747 : decode cL_law 747 = .ok (.iload_n 3, 1) := by decide +kernel
theorem dL_law_748 : decode cL_law 748 = .ok (.iconst 3, 1) := by decide +kernel
theorem dL_law_749 : decode cL_law 749 = .ok (.iadd, 1) := by decide +kernel
theorem dL_law_750 : decode cL_law 750 = .ok (.iaload, 1) := by decide +kernel
theorem dL_law_751 : decode cL_law 751 = .ok (.invokevirtual 87, 3) := by decide +kernel
theorem dL_law_754 : decode cL_law 754 = .ok (.lcmp, 1) := by decide +kernel
theorem dL_law_755 : decode cL_law 755 = .ok (.ifCond .eq 742, 3) := by decide +kernel
theorem dL_law_758 : decode cL_law 758 = .ok (.iconst 0, 1) := by decide +kernel
theorem dL_law_759 : decode cL_law 759 = .ok (.ireturn, 1) := by decide +kernel
theorem dL_law_760 : decode cL_law 760 = .ok (.aload_n 1, 1) := by decide +kernel
theorem dL_law_761 : decode cL_law 761 = .ok (.aload_n 0, 1) := by decide +kernel
theorem dL_law_762 : decode cL_law 762 = .ok (.iload_n 3, 1) := by decide +kernel
theorem dL_law_763 : decode cL_law 763 = .ok (.iconst 1, 1) := by decide +kernel
theorem dL_law_764 : decode cL_law 764 = .ok (.iadd, 1) := by decide +kernel
theorem dL_law_765 : decode cL_law 765 = .ok (.iaload, 1) := by decide +kernel
theorem dL_law_766 : decode cL_law 766 = .ok (.aload_n 0, 1) := by decide +kernel
theorem dL_law_767 : decode cL_law 767 = .ok (.iload_n 3, 1) := by decide +kernel
theorem dL_law_768 : decode cL_law 768 = .ok (.iconst 2, 1) := by decide +kernel
theorem dL_law_769 : decode cL_law 769 = .ok (.iadd, 1) := by decide +kernel
theorem dL_law_770 : decode cL_law 770 = .ok (.iaload, 1) := by decide +kernel
theorem dL_law_771 : decode cL_law 771 = .ok (.invokevirtual 88, 3) := by decide +kernel
theorem dL_law_774 : decode cL_law 774 = .ok (.aload_n 2, 1) := by decide +kernel
theorem dL_law_775 : decode cL_law 775 = .ok (.aload_n 0, 1) := by decide +kernel
theorem dL_law_776 : decode cL_law 776 = .ok (.iload_n 3, 1) := by decide +kernel
theorem dL_law_777 : decode cL_law 777 = .ok (.iconst 1, 1) := by decide +kernel
theorem dL_law_778 : decode cL_law 778 = .ok (.iadd, 1) := by decide +kernel
theorem dL_law_779 : decode cL_law 779 = .ok (.iaload, 1) := by decide +kernel
theorem dL_law_780 : decode cL_law 780 = .ok (.aload_n 0, 1) := by decide +kernel
theorem dL_law_781 : decode cL_law 781 = .ok (.iload_n 3, 1) := by decide +kernel
theorem dL_law_782 : decode cL_law 782 = .ok (.iconst 2, 1) := by decide +kernel
theorem dL_law_783 : decode cL_law 783 = .ok (.iadd, 1) := by decide +kernel
theorem dL_law_784 : decode cL_law 784 = .ok (.iaload, 1) := by decide +kernel
theorem dL_law_785 : decode cL_law 785 = .ok (.invokevirtual 92, 3) := by decide +kernel
theorem dL_law_788 : decode cL_law 788 = .ok (.lcmp, 1) := by decide +kernel
theorem dL_law_789 : decode cL_law 789 = .ok (.ifCond .eq 708, 3) := by decide +kernel
theorem dL_law_792 : decode cL_law 792 = .ok (.iconst 0, 1) := by decide +kernel
theorem dL_law_793 : decode cL_law 793 = .ok (.ireturn, 1) := by decide +kernel
theorem dL_law_794 : decode cL_law 794 = .ok (.aload_n 1, 1) := by decide +kernel
theorem dL_law_795 : decode cL_law 795 = .ok (.aload_n 0, 1) := by decide +kernel
theorem dL_law_796 : decode cL_law 796 = .ok (.iload_n 3, 1) := by decide +kernel
theorem dL_law_797 : decode cL_law 797 = .ok (.iconst 1, 1) := by decide +kernel
theorem dL_law_798 : decode cL_law 798 = .ok (.iadd, 1) := by decide +kernel
theorem dL_law_799 : decode cL_law 799 = .ok (.iaload, 1) := by decide +kernel
theorem dL_law_800 : decode cL_law 800 = .ok (.invokevirtual 93, 3) := by decide +kernel
theorem dL_law_803 : decode cL_law 803 = .ok (.aload_n 2, 1) := by decide +kernel
theorem dL_law_804 : decode cL_law 804 = .ok (.aload_n 0, 1) := by decide +kernel
theorem dL_law_805 : decode cL_law 805 = .ok (.iload_n 3, 1) := by decide +kernel
theorem dL_law_806 : decode cL_law 806 = .ok (.iconst 1, 1) := by decide +kernel
theorem dL_law_807 : decode cL_law 807 = .ok (.iadd, 1) := by decide +kernel
theorem dL_law_808 : decode cL_law 808 = .ok (.iaload, 1) := by decide +kernel
theorem dL_law_809 : decode cL_law 809 = .ok (.invokevirtual 96, 3) := by decide +kernel
theorem dL_law_812 : decode cL_law 812 = .ok (.if_icmp .eq 685, 3) := by decide +kernel
theorem dL_law_815 : decode cL_law 815 = .ok (.iconst 0, 1) := by decide +kernel
theorem dL_law_816 : decode cL_law 816 = .ok (.ireturn, 1) := by decide +kernel
theorem dL_law_817 : decode cL_law 817 = .ok (.aload_n 1, 1) := by decide +kernel
theorem dL_law_818 : decode cL_law 818 = .ok (.aload_n 0, 1) := by decide +kernel
theorem dL_law_819 : decode cL_law 819 = .ok (.iload_n 3, 1) := by decide +kernel
theorem dL_law_820 : decode cL_law 820 = .ok (.iconst 1, 1) := by decide +kernel
theorem dL_law_821 : decode cL_law 821 = .ok (.iadd, 1) := by decide +kernel
theorem dL_law_822 : decode cL_law 822 = .ok (.iaload, 1) := by decide +kernel
theorem dL_law_823 : decode cL_law 823 = .ok (.aload_n 0, 1) := by decide +kernel
theorem dL_law_824 : decode cL_law 824 = .ok (.iload_n 3, 1) := by decide +kernel
theorem dL_law_825 : decode cL_law 825 = .ok (.iconst 2, 1) := by decide +kernel
theorem dL_law_826 : decode cL_law 826 = .ok (.iadd, 1) := by decide +kernel
theorem dL_law_827 : decode cL_law 827 = .ok (.iaload, 1) := by decide +kernel
theorem dL_law_828 : decode cL_law 828 = .ok (.aload_n 0, 1) := by decide +kernel
theorem dL_law_829 : decode cL_law 829 = .ok (.iload_n 3, 1) := by decide +kernel
theorem dL_law_830 : decode cL_law 830 = .ok (.iconst 3, 1) := by decide +kernel
theorem dL_law_831 : decode cL_law 831 = .ok (.iadd, 1) := by decide +kernel
theorem dL_law_832 : decode cL_law 832 = .ok (.iaload, 1) := by decide +kernel
theorem dL_law_833 : decode cL_law 833 = .ok (.aload_n 0, 1) := by decide +kernel
theorem dL_law_834 : decode cL_law 834 = .ok (.iload_n 3, 1) := by decide +kernel
theorem dL_law_835 : decode cL_law 835 = .ok (.iconst 4, 1) := by decide +kernel
theorem dL_law_836 : decode cL_law 836 = .ok (.iadd, 1) := by decide +kernel
theorem dL_law_837 : decode cL_law 837 = .ok (.iaload, 1) := by decide +kernel
theorem dL_law_838 : decode cL_law 838 = .ok (.aload_n 0, 1) := by decide +kernel
theorem dL_law_839 : decode cL_law 839 = .ok (.iload_n 3, 1) := by decide +kernel
theorem dL_law_840 : decode cL_law 840 = .ok (.iconst 5, 1) := by decide +kernel
theorem dL_law_841 : decode cL_law 841 = .ok (.iadd, 1) := by decide +kernel
theorem dL_law_842 : decode cL_law 842 = .ok (.iaload, 1) := by decide +kernel
theorem dL_law_843 : decode cL_law 843 = .ok (.aload_n 0, 1) := by decide +kernel
theorem dL_law_844 : decode cL_law 844 = .ok (.iload_n 3, 1) := by decide +kernel
theorem dL_law_845 : decode cL_law 845 = .ok (.bipush 6, 2) := by decide +kernel
theorem dL_law_847 : decode cL_law 847 = .ok (.iadd, 1) := by decide +kernel
theorem dL_law_848 : decode cL_law 848 = .ok (.iaload, 1) := by decide +kernel
theorem dL_law_849 : decode cL_law 849 = .ok (.invokevirtual 97, 3) := by decide +kernel
theorem dL_law_852 : decode cL_law 852 = .ok (.aload_n 2, 1) := by decide +kernel
theorem dL_law_853 : decode cL_law 853 = .ok (.aload_n 0, 1) := by decide +kernel
theorem dL_law_854 : decode cL_law 854 = .ok (.iload_n 3, 1) := by decide +kernel
theorem dL_law_855 : decode cL_law 855 = .ok (.iconst 1, 1) := by decide +kernel
theorem dL_law_856 : decode cL_law 856 = .ok (.iadd, 1) := by decide +kernel
theorem dL_law_857 : decode cL_law 857 = .ok (.iaload, 1) := by decide +kernel
theorem dL_law_858 : decode cL_law 858 = .ok (.aload_n 0, 1) := by decide +kernel
theorem dL_law_859 : decode cL_law 859 = .ok (.iload_n 3, 1) := by decide +kernel
theorem dL_law_860 : decode cL_law 860 = .ok (.iconst 2, 1) := by decide +kernel
theorem dL_law_861 : decode cL_law 861 = .ok (.iadd, 1) := by decide +kernel
theorem dL_law_862 : decode cL_law 862 = .ok (.iaload, 1) := by decide +kernel
theorem dL_law_863 : decode cL_law 863 = .ok (.aload_n 0, 1) := by decide +kernel
theorem dL_law_864 : decode cL_law 864 = .ok (.iload_n 3, 1) := by decide +kernel
theorem dL_law_865 : decode cL_law 865 = .ok (.iconst 3, 1) := by decide +kernel
theorem dL_law_866 : decode cL_law 866 = .ok (.iadd, 1) := by decide +kernel
theorem dL_law_867 : decode cL_law 867 = .ok (.iaload, 1) := by decide +kernel
theorem dL_law_868 : decode cL_law 868 = .ok (.aload_n 0, 1) := by decide +kernel
theorem dL_law_869 : decode cL_law 869 = .ok (.iload_n 3, 1) := by decide +kernel
theorem dL_law_870 : decode cL_law 870 = .ok (.iconst 4, 1) := by decide +kernel
theorem dL_law_871 : decode cL_law 871 = .ok (.iadd, 1) := by decide +kernel
theorem dL_law_872 : decode cL_law 872 = .ok (.iaload, 1) := by decide +kernel
theorem dL_law_873 : decode cL_law 873 = .ok (.aload_n 0, 1) := by decide +kernel
theorem dL_law_874 : decode cL_law 874 = .ok (.iload_n 3, 1) := by decide +kernel
theorem dL_law_875 : decode cL_law 875 = .ok (.iconst 5, 1) := by decide +kernel
theorem dL_law_876 : decode cL_law 876 = .ok (.iadd, 1) := by decide +kernel
theorem dL_law_877 : decode cL_law 877 = .ok (.iaload, 1) := by decide +kernel
theorem dL_law_878 : decode cL_law 878 = .ok (.aload_n 0, 1) := by decide +kernel
theorem dL_law_879 : decode cL_law 879 = .ok (.iload_n 3, 1) := by decide +kernel
theorem dL_law_880 : decode cL_law 880 = .ok (.bipush 6, 2) := by decide +kernel
theorem dL_law_882 : decode cL_law 882 = .ok (.iadd, 1) := by decide +kernel
theorem dL_law_883 : decode cL_law 883 = .ok (.iaload, 1) := by decide +kernel
theorem dL_law_884 : decode cL_law 884 = .ok (.invokevirtual 101, 3) := by decide +kernel
theorem dL_law_887 : decode cL_law 887 = .ok (.if_icmp .eq 610, 3) := by decide +kernel
theorem dL_law_890 : decode cL_law 890 = .ok (.iconst 0, 1) := by decide +kernel
theorem dL_law_891 : decode cL_law 891 = .ok (.ireturn, 1) := by decide +kernel
theorem dL_law_892 : decode cL_law 892 = .ok (.aload_n 1, 1) := by decide +kernel
theorem dL_law_893 : decode cL_law 893 = .ok (.aload_n 0, 1) := by decide +kernel
theorem dL_law_894 : decode cL_law 894 = .ok (.iload_n 3, 1) := by decide +kernel
theorem dL_law_895 : decode cL_law 895 = .ok (.iconst 1, 1) := by decide +kernel
theorem dL_law_896 : decode cL_law 896 = .ok (.iadd, 1) := by decide +kernel
theorem dL_law_897 : decode cL_law 897 = .ok (.iaload, 1) := by decide +kernel
theorem dL_law_898 : decode cL_law 898 = .ok (.aload_n 0, 1) := by decide +kernel
theorem dL_law_899 : decode cL_law 899 = .ok (.iload_n 3, 1) := by decide +kernel
theorem dL_law_900 : decode cL_law 900 = .ok (.iconst 2, 1) := by decide +kernel
theorem dL_law_901 : decode cL_law 901 = .ok (.iadd, 1) := by decide +kernel
theorem dL_law_902 : decode cL_law 902 = .ok (.iaload, 1) := by decide +kernel
theorem dL_law_903 : decode cL_law 903 = .ok (.aload_n 0, 1) := by decide +kernel
theorem dL_law_904 : decode cL_law 904 = .ok (.iload_n 3, 1) := by decide +kernel
theorem dL_law_905 : decode cL_law 905 = .ok (.iconst 3, 1) := by decide +kernel
theorem dL_law_906 : decode cL_law 906 = .ok (.iadd, 1) := by decide +kernel
theorem dL_law_907 : decode cL_law 907 = .ok (.iaload, 1) := by decide +kernel
theorem dL_law_908 : decode cL_law 908 = .ok (.aload_n 0, 1) := by decide +kernel
theorem dL_law_909 : decode cL_law 909 = .ok (.iload_n 3, 1) := by decide +kernel
theorem dL_law_910 : decode cL_law 910 = .ok (.iconst 4, 1) := by decide +kernel
theorem dL_law_911 : decode cL_law 911 = .ok (.iadd, 1) := by decide +kernel
theorem dL_law_912 : decode cL_law 912 = .ok (.iaload, 1) := by decide +kernel
theorem dL_law_913 : decode cL_law 913 = .ok (.aload_n 0, 1) := by decide +kernel
theorem dL_law_914 : decode cL_law 914 = .ok (.iload_n 3, 1) := by decide +kernel
theorem dL_law_915 : decode cL_law 915 = .ok (.iconst 5, 1) := by decide +kernel
theorem dL_law_916 : decode cL_law 916 = .ok (.iadd, 1) := by decide +kernel
theorem dL_law_917 : decode cL_law 917 = .ok (.iaload, 1) := by decide +kernel
theorem dL_law_918 : decode cL_law 918 = .ok (.aload_n 0, 1) := by decide +kernel
theorem dL_law_919 : decode cL_law 919 = .ok (.iload_n 3, 1) := by decide +kernel
theorem dL_law_920 : decode cL_law 920 = .ok (.bipush 6, 2) := by decide +kernel
theorem dL_law_922 : decode cL_law 922 = .ok (.iadd, 1) := by decide +kernel
theorem dL_law_923 : decode cL_law 923 = .ok (.iaload, 1) := by decide +kernel
theorem dL_law_924 : decode cL_law 924 = .ok (.ifCond .eq 7, 3) := by decide +kernel
theorem dL_law_927 : decode cL_law 927 = .ok (.iconst 1, 1) := by decide +kernel
theorem dL_law_928 : decode cL_law 928 = .ok (.goto 4, 3) := by decide +kernel
theorem dL_law_931 : decode cL_law 931 = .ok (.iconst 0, 1) := by decide +kernel
theorem dL_law_932 : decode cL_law 932 = .ok (.aload_n 0, 1) := by decide +kernel
theorem dL_law_933 : decode cL_law 933 = .ok (.iload_n 3, 1) := by decide +kernel
theorem dL_law_934 : decode cL_law 934 = .ok (.bipush 7, 2) := by decide +kernel
theorem dL_law_936 : decode cL_law 936 = .ok (.iadd, 1) := by decide +kernel
theorem dL_law_937 : decode cL_law 937 = .ok (.iaload, 1) := by decide +kernel
theorem dL_law_938 : decode cL_law 938 = .ok (.invokevirtual 102, 3) := by decide +kernel
theorem dL_law_941 : decode cL_law 941 = .ok (.aload_n 2, 1) := by decide +kernel
theorem dL_law_942 : decode cL_law 942 = .ok (.aload_n 0, 1) := by decide +kernel
theorem dL_law_943 : decode cL_law 943 = .ok (.iload_n 3, 1) := by decide +kernel
theorem dL_law_944 : decode cL_law 944 = .ok (.iconst 1, 1) := by decide +kernel
theorem dL_law_945 : decode cL_law 945 = .ok (.iadd, 1) := by decide +kernel
theorem dL_law_946 : decode cL_law 946 = .ok (.iaload, 1) := by decide +kernel
theorem dL_law_947 : decode cL_law 947 = .ok (.aload_n 0, 1) := by decide +kernel
theorem dL_law_948 : decode cL_law 948 = .ok (.iload_n 3, 1) := by decide +kernel
theorem dL_law_949 : decode cL_law 949 = .ok (.iconst 2, 1) := by decide +kernel
theorem dL_law_950 : decode cL_law 950 = .ok (.iadd, 1) := by decide +kernel
theorem dL_law_951 : decode cL_law 951 = .ok (.iaload, 1) := by decide +kernel
theorem dL_law_952 : decode cL_law 952 = .ok (.aload_n 0, 1) := by decide +kernel
theorem dL_law_953 : decode cL_law 953 = .ok (.iload_n 3, 1) := by decide +kernel
theorem dL_law_954 : decode cL_law 954 = .ok (.iconst 3, 1) := by decide +kernel
theorem dL_law_955 : decode cL_law 955 = .ok (.iadd, 1) := by decide +kernel
theorem dL_law_956 : decode cL_law 956 = .ok (.iaload, 1) := by decide +kernel
theorem dL_law_957 : decode cL_law 957 = .ok (.aload_n 0, 1) := by decide +kernel
theorem dL_law_958 : decode cL_law 958 = .ok (.iload_n 3, 1) := by decide +kernel
theorem dL_law_959 : decode cL_law 959 = .ok (.iconst 4, 1) := by decide +kernel
theorem dL_law_960 : decode cL_law 960 = .ok (.iadd, 1) := by decide +kernel
theorem dL_law_961 : decode cL_law 961 = .ok (.iaload, 1) := by decide +kernel
theorem dL_law_962 : decode cL_law 962 = .ok (.aload_n 0, 1) := by decide +kernel
theorem dL_law_963 : decode cL_law 963 = .ok (.iload_n 3, 1) := by decide +kernel
theorem dL_law_964 : decode cL_law 964 = .ok (.iconst 5, 1) := by decide +kernel
theorem dL_law_965 : decode cL_law 965 = .ok (.iadd, 1) := by decide +kernel
theorem dL_law_966 : decode cL_law 966 = .ok (.iaload, 1) := by decide +kernel
theorem dL_law_967 : decode cL_law 967 = .ok (.aload_n 0, 1) := by decide +kernel
theorem dL_law_968 : decode cL_law 968 = .ok (.iload_n 3, 1) := by decide +kernel
theorem dL_law_969 : decode cL_law 969 = .ok (.bipush 6, 2) := by decide +kernel
theorem dL_law_971 : decode cL_law 971 = .ok (.iadd, 1) := by decide +kernel
theorem dL_law_972 : decode cL_law 972 = .ok (.iaload, 1) := by decide +kernel
theorem dL_law_973 : decode cL_law 973 = .ok (.ifCond .eq 7, 3) := by decide +kernel
theorem dL_law_976 : decode cL_law 976 = .ok (.iconst 1, 1) := by decide +kernel
theorem dL_law_977 : decode cL_law 977 = .ok (.goto 4, 3) := by decide +kernel
theorem dL_law_980 : decode cL_law 980 = .ok (.iconst 0, 1) := by decide +kernel
theorem dL_law_981 : decode cL_law 981 = .ok (.aload_n 0, 1) := by decide +kernel
theorem dL_law_982 : decode cL_law 982 = .ok (.iload_n 3, 1) := by decide +kernel
theorem dL_law_983 : decode cL_law 983 = .ok (.bipush 7, 2) := by decide +kernel
theorem dL_law_985 : decode cL_law 985 = .ok (.iadd, 1) := by decide +kernel
theorem dL_law_986 : decode cL_law 986 = .ok (.iaload, 1) := by decide +kernel
theorem dL_law_987 : decode cL_law 987 = .ok (.invokevirtual 106, 3) := by decide +kernel
theorem dL_law_990 : decode cL_law 990 = .ok (.if_icmp .eq 507, 3) := by decide +kernel
theorem dL_law_993 : decode cL_law 993 = .ok (.iconst 0, 1) := by decide +kernel
theorem dL_law_994 : decode cL_law 994 = .ok (.ireturn, 1) := by decide +kernel
theorem dL_law_995 : decode cL_law 995 = .ok (.aload_n 1, 1) := by decide +kernel
theorem dL_law_996 : decode cL_law 996 = .ok (.aload_n 0, 1) := by decide +kernel
theorem dL_law_997 : decode cL_law 997 = .ok (.iload_n 3, 1) := by decide +kernel
theorem dL_law_998 : decode cL_law 998 = .ok (.iconst 1, 1) := by decide +kernel
theorem dL_law_999 : decode cL_law 999 = .ok (.iadd, 1) := by decide +kernel
theorem dL_law_1000 : decode cL_law 1000 = .ok (.iaload, 1) := by decide +kernel
theorem dL_law_1001 : decode cL_law 1001 = .ok (.aload_n 0, 1) := by decide +kernel
theorem dL_law_1002 : decode cL_law 1002 = .ok (.iload_n 3, 1) := by decide +kernel
theorem dL_law_1003 : decode cL_law 1003 = .ok (.iconst 2, 1) := by decide +kernel
theorem dL_law_1004 : decode cL_law 1004 = .ok (.iadd, 1) := by decide +kernel
theorem dL_law_1005 : decode cL_law 1005 = .ok (.iaload, 1) := by decide +kernel
theorem dL_law_1006 : decode cL_law 1006 = .ok (.aload_n 0, 1) := by decide +kernel
theorem dL_law_1007 : decode cL_law 1007 = .ok (.iload_n 3, 1) := by decide +kernel
theorem dL_law_1008 : decode cL_law 1008 = .ok (.iconst 3, 1) := by decide +kernel
theorem dL_law_1009 : decode cL_law 1009 = .ok (.iadd, 1) := by decide +kernel
theorem dL_law_1010 : decode cL_law 1010 = .ok (.iaload, 1) := by decide +kernel
theorem dL_law_1011 : decode cL_law 1011 = .ok (.invokevirtual 107, 3) := by decide +kernel
theorem dL_law_1014 : decode cL_law 1014 = .ok (.aload_n 2, 1) := by decide +kernel
theorem dL_law_1015 : decode cL_law 1015 = .ok (.aload_n 0, 1) := by decide +kernel
theorem dL_law_1016 : decode cL_law 1016 = .ok (.iload_n 3, 1) := by decide +kernel
theorem dL_law_1017 : decode cL_law 1017 = .ok (.iconst 1, 1) := by decide +kernel
theorem dL_law_1018 : decode cL_law 1018 = .ok (.iadd, 1) := by decide +kernel
theorem dL_law_1019 : decode cL_law 1019 = .ok (.iaload, 1) := by decide +kernel
theorem dL_law_1020 : decode cL_law 1020 = .ok (.aload_n 0, 1) := by decide +kernel
theorem dL_law_1021 : decode cL_law 1021 = .ok (.iload_n 3, 1) := by decide +kernel
theorem dL_law_1022 : decode cL_law 1022 = .ok (.iconst 2, 1) := by decide +kernel
theorem dL_law_1023 : decode cL_law 1023 = .ok (.iadd, 1) := by decide +kernel
theorem dL_law_1024 : decode cL_law 1024 = .ok (.iaload, 1) := by decide +kernel
theorem dL_law_1025 : decode cL_law 1025 = .ok (.aload_n 0, 1) := by decide +kernel
theorem dL_law_1026 : decode cL_law 1026 = .ok (.iload_n 3, 1) := by decide +kernel
theorem dL_law_1027 : decode cL_law 1027 = .ok (.iconst 3, 1) := by decide +kernel
theorem dL_law_1028 : decode cL_law 1028 = .ok (.iadd, 1) := by decide +kernel
theorem dL_law_1029 : decode cL_law 1029 = .ok (.iaload, 1) := by decide +kernel
theorem dL_law_1030 : decode cL_law 1030 = .ok (.invokevirtual 110, 3) := by decide +kernel
theorem dL_law_1033 : decode cL_law 1033 = .ok (.if_icmp .eq 464, 3) := by decide +kernel
theorem dL_law_1036 : decode cL_law 1036 = .ok (.iconst 0, 1) := by decide +kernel
theorem dL_law_1037 : decode cL_law 1037 = .ok (.ireturn, 1) := by decide +kernel
theorem dL_law_1038 : decode cL_law 1038 = .ok (.aload_n 1, 1) := by decide +kernel
theorem dL_law_1039 : decode cL_law 1039 = .ok (.aload_n 0, 1) := by decide +kernel
theorem dL_law_1040 : decode cL_law 1040 = .ok (.iload_n 3, 1) := by decide +kernel
theorem dL_law_1041 : decode cL_law 1041 = .ok (.iconst 1, 1) := by decide +kernel
theorem dL_law_1042 : decode cL_law 1042 = .ok (.iadd, 1) := by decide +kernel
theorem dL_law_1043 : decode cL_law 1043 = .ok (.iaload, 1) := by decide +kernel
theorem dL_law_1044 : decode cL_law 1044 = .ok (.aload_n 0, 1) := by decide +kernel
theorem dL_law_1045 : decode cL_law 1045 = .ok (.iload_n 3, 1) := by decide +kernel
theorem dL_law_1046 : decode cL_law 1046 = .ok (.iconst 2, 1) := by decide +kernel
theorem dL_law_1047 : decode cL_law 1047 = .ok (.iadd, 1) := by decide +kernel
theorem dL_law_1048 : decode cL_law 1048 = .ok (.iaload, 1) := by decide +kernel
theorem dL_law_1049 : decode cL_law 1049 = .ok (.aload_n 0, 1) := by decide +kernel
theorem dL_law_1050 : decode cL_law 1050 = .ok (.iload_n 3, 1) := by decide +kernel
theorem dL_law_1051 : decode cL_law 1051 = .ok (.iconst 3, 1) := by decide +kernel
theorem dL_law_1052 : decode cL_law 1052 = .ok (.iadd, 1) := by decide +kernel
theorem dL_law_1053 : decode cL_law 1053 = .ok (.iaload, 1) := by decide +kernel
theorem dL_law_1054 : decode cL_law 1054 = .ok (.invokevirtual 111, 3) := by decide +kernel
theorem dL_law_1057 : decode cL_law 1057 = .ok (.aload_n 2, 1) := by decide +kernel
theorem dL_law_1058 : decode cL_law 1058 = .ok (.aload_n 0, 1) := by decide +kernel
theorem dL_law_1059 : decode cL_law 1059 = .ok (.iload_n 3, 1) := by decide +kernel
theorem dL_law_1060 : decode cL_law 1060 = .ok (.iconst 1, 1) := by decide +kernel
theorem dL_law_1061 : decode cL_law 1061 = .ok (.iadd, 1) := by decide +kernel
theorem dL_law_1062 : decode cL_law 1062 = .ok (.iaload, 1) := by decide +kernel
theorem dL_law_1063 : decode cL_law 1063 = .ok (.aload_n 0, 1) := by decide +kernel
theorem dL_law_1064 : decode cL_law 1064 = .ok (.iload_n 3, 1) := by decide +kernel
theorem dL_law_1065 : decode cL_law 1065 = .ok (.iconst 2, 1) := by decide +kernel
theorem dL_law_1066 : decode cL_law 1066 = .ok (.iadd, 1) := by decide +kernel
theorem dL_law_1067 : decode cL_law 1067 = .ok (.iaload, 1) := by decide +kernel
theorem dL_law_1068 : decode cL_law 1068 = .ok (.aload_n 0, 1) := by decide +kernel
theorem dL_law_1069 : decode cL_law 1069 = .ok (.iload_n 3, 1) := by decide +kernel
theorem dL_law_1070 : decode cL_law 1070 = .ok (.iconst 3, 1) := by decide +kernel
theorem dL_law_1071 : decode cL_law 1071 = .ok (.iadd, 1) := by decide +kernel
theorem dL_law_1072 : decode cL_law 1072 = .ok (.iaload, 1) := by decide +kernel
theorem dL_law_1073 : decode cL_law 1073 = .ok (.invokevirtual 114, 3) := by decide +kernel
theorem dL_law_1076 : decode cL_law 1076 = .ok (.if_icmp .eq 421, 3) := by decide +kernel
theorem dL_law_1079 : decode cL_law 1079 = .ok (.iconst 0, 1) := by decide +kernel
theorem dL_law_1080 : decode cL_law 1080 = .ok (.ireturn, 1) := by decide +kernel
theorem dL_law_1081 : decode cL_law 1081 = .ok (.aload_n 1, 1) := by decide +kernel
theorem dL_law_1082 : decode cL_law 1082 = .ok (.aload_n 0, 1) := by decide +kernel
theorem dL_law_1083 : decode cL_law 1083 = .ok (.iload_n 3, 1) := by decide +kernel
theorem dL_law_1084 : decode cL_law 1084 = .ok (.iconst 1, 1) := by decide +kernel
theorem dL_law_1085 : decode cL_law 1085 = .ok (.iadd, 1) := by decide +kernel
theorem dL_law_1086 : decode cL_law 1086 = .ok (.iaload, 1) := by decide +kernel
theorem dL_law_1087 : decode cL_law 1087 = .ok (.aload_n 0, 1) := by decide +kernel
theorem dL_law_1088 : decode cL_law 1088 = .ok (.iload_n 3, 1) := by decide +kernel
theorem dL_law_1089 : decode cL_law 1089 = .ok (.iconst 2, 1) := by decide +kernel
theorem dL_law_1090 : decode cL_law 1090 = .ok (.iadd, 1) := by decide +kernel
theorem dL_law_1091 : decode cL_law 1091 = .ok (.iaload, 1) := by decide +kernel
theorem dL_law_1092 : decode cL_law 1092 = .ok (.aload_n 0, 1) := by decide +kernel
theorem dL_law_1093 : decode cL_law 1093 = .ok (.iload_n 3, 1) := by decide +kernel
theorem dL_law_1094 : decode cL_law 1094 = .ok (.iconst 3, 1) := by decide +kernel
theorem dL_law_1095 : decode cL_law 1095 = .ok (.iadd, 1) := by decide +kernel
theorem dL_law_1096 : decode cL_law 1096 = .ok (.iaload, 1) := by decide +kernel
theorem dL_law_1097 : decode cL_law 1097 = .ok (.aload_n 0, 1) := by decide +kernel
theorem dL_law_1098 : decode cL_law 1098 = .ok (.iload_n 3, 1) := by decide +kernel
theorem dL_law_1099 : decode cL_law 1099 = .ok (.iconst 4, 1) := by decide +kernel
theorem dL_law_1100 : decode cL_law 1100 = .ok (.iadd, 1) := by decide +kernel
theorem dL_law_1101 : decode cL_law 1101 = .ok (.iaload, 1) := by decide +kernel
theorem dL_law_1102 : decode cL_law 1102 = .ok (.invokevirtual 115, 3) := by decide +kernel
theorem dL_law_1105 : decode cL_law 1105 = .ok (.aload_n 2, 1) := by decide +kernel
theorem dL_law_1106 : decode cL_law 1106 = .ok (.aload_n 0, 1) := by decide +kernel
theorem dL_law_1107 : decode cL_law 1107 = .ok (.iload_n 3, 1) := by decide +kernel
theorem dL_law_1108 : decode cL_law 1108 = .ok (.iconst 1, 1) := by decide +kernel
theorem dL_law_1109 : decode cL_law 1109 = .ok (.iadd, 1) := by decide +kernel
theorem dL_law_1110 : decode cL_law 1110 = .ok (.iaload, 1) := by decide +kernel
theorem dL_law_1111 : decode cL_law 1111 = .ok (.aload_n 0, 1) := by decide +kernel
theorem dL_law_1112 : decode cL_law 1112 = .ok (.iload_n 3, 1) := by decide +kernel
theorem dL_law_1113 : decode cL_law 1113 = .ok (.iconst 2, 1) := by decide +kernel
theorem dL_law_1114 : decode cL_law 1114 = .ok (.iadd, 1) := by decide +kernel
theorem dL_law_1115 : decode cL_law 1115 = .ok (.iaload, 1) := by decide +kernel
theorem dL_law_1116 : decode cL_law 1116 = .ok (.aload_n 0, 1) := by decide +kernel
theorem dL_law_1117 : decode cL_law 1117 = .ok (.iload_n 3, 1) := by decide +kernel
theorem dL_law_1118 : decode cL_law 1118 = .ok (.iconst 3, 1) := by decide +kernel
theorem dL_law_1119 : decode cL_law 1119 = .ok (.iadd, 1) := by decide +kernel
theorem dL_law_1120 : decode cL_law 1120 = .ok (.iaload, 1) := by decide +kernel
theorem dL_law_1121 : decode cL_law 1121 = .ok (.aload_n 0, 1) := by decide +kernel
theorem dL_law_1122 : decode cL_law 1122 = .ok (.iload_n 3, 1) := by decide +kernel
theorem dL_law_1123 : decode cL_law 1123 = .ok (.iconst 4, 1) := by decide +kernel
theorem dL_law_1124 : decode cL_law 1124 = .ok (.iadd, 1) := by decide +kernel
theorem dL_law_1125 : decode cL_law 1125 = .ok (.iaload, 1) := by decide +kernel
theorem dL_law_1126 : decode cL_law 1126 = .ok (.invokevirtual 118, 3) := by decide +kernel
theorem dL_law_1129 : decode cL_law 1129 = .ok (.lcmp, 1) := by decide +kernel
theorem dL_law_1130 : decode cL_law 1130 = .ok (.ifCond .eq 367, 3) := by decide +kernel
theorem dL_law_1133 : decode cL_law 1133 = .ok (.iconst 0, 1) := by decide +kernel
theorem dL_law_1134 : decode cL_law 1134 = .ok (.ireturn, 1) := by decide +kernel
theorem dL_law_1135 : decode cL_law 1135 = .ok (.aload_n 1, 1) := by decide +kernel
theorem dL_law_1136 : decode cL_law 1136 = .ok (.aload_n 0, 1) := by decide +kernel
theorem dL_law_1137 : decode cL_law 1137 = .ok (.iload_n 3, 1) := by decide +kernel
theorem dL_law_1138 : decode cL_law 1138 = .ok (.iconst 1, 1) := by decide +kernel
theorem dL_law_1139 : decode cL_law 1139 = .ok (.iadd, 1) := by decide +kernel
theorem dL_law_1140 : decode cL_law 1140 = .ok (.iaload, 1) := by decide +kernel
theorem dL_law_1141 : decode cL_law 1141 = .ok (.aload_n 0, 1) := by decide +kernel
theorem dL_law_1142 : decode cL_law 1142 = .ok (.iload_n 3, 1) := by decide +kernel
theorem dL_law_1143 : decode cL_law 1143 = .ok (.iconst 2, 1) := by decide +kernel
theorem dL_law_1144 : decode cL_law 1144 = .ok (.iadd, 1) := by decide +kernel
theorem dL_law_1145 : decode cL_law 1145 = .ok (.iaload, 1) := by decide +kernel
theorem dL_law_1146 : decode cL_law 1146 = .ok (.aload_n 0, 1) := by decide +kernel
theorem dL_law_1147 : decode cL_law 1147 = .ok (.iload_n 3, 1) := by decide +kernel
theorem dL_law_1148 : decode cL_law 1148 = .ok (.iconst 3, 1) := by decide +kernel
theorem dL_law_1149 : decode cL_law 1149 = .ok (.iadd, 1) := by decide +kernel
theorem dL_law_1150 : decode cL_law 1150 = .ok (.iaload, 1) := by decide +kernel
theorem dL_law_1151 : decode cL_law 1151 = .ok (.aload_n 0, 1) := by decide +kernel
theorem dL_law_1152 : decode cL_law 1152 = .ok (.iload_n 3, 1) := by decide +kernel
theorem dL_law_1153 : decode cL_law 1153 = .ok (.iconst 4, 1) := by decide +kernel
theorem dL_law_1154 : decode cL_law 1154 = .ok (.iadd, 1) := by decide +kernel
theorem dL_law_1155 : decode cL_law 1155 = .ok (.iaload, 1) := by decide +kernel
theorem dL_law_1156 : decode cL_law 1156 = .ok (.aload_n 0, 1) := by decide +kernel
theorem dL_law_1157 : decode cL_law 1157 = .ok (.iload_n 3, 1) := by decide +kernel
theorem dL_law_1158 : decode cL_law 1158 = .ok (.iconst 5, 1) := by decide +kernel
theorem dL_law_1159 : decode cL_law 1159 = .ok (.iadd, 1) := by decide +kernel
theorem dL_law_1160 : decode cL_law 1160 = .ok (.iaload, 1) := by decide +kernel
theorem dL_law_1161 : decode cL_law 1161 = .ok (.invokevirtual 119, 3) := by decide +kernel
theorem dL_law_1164 : decode cL_law 1164 = .ok (.aload_n 2, 1) := by decide +kernel
theorem dL_law_1165 : decode cL_law 1165 = .ok (.aload_n 0, 1) := by decide +kernel
theorem dL_law_1166 : decode cL_law 1166 = .ok (.iload_n 3, 1) := by decide +kernel
theorem dL_law_1167 : decode cL_law 1167 = .ok (.iconst 1, 1) := by decide +kernel
theorem dL_law_1168 : decode cL_law 1168 = .ok (.iadd, 1) := by decide +kernel
theorem dL_law_1169 : decode cL_law 1169 = .ok (.iaload, 1) := by decide +kernel
theorem dL_law_1170 : decode cL_law 1170 = .ok (.aload_n 0, 1) := by decide +kernel
theorem dL_law_1171 : decode cL_law 1171 = .ok (.iload_n 3, 1) := by decide +kernel
theorem dL_law_1172 : decode cL_law 1172 = .ok (.iconst 2, 1) := by decide +kernel
theorem dL_law_1173 : decode cL_law 1173 = .ok (.iadd, 1) := by decide +kernel
theorem dL_law_1174 : decode cL_law 1174 = .ok (.iaload, 1) := by decide +kernel
theorem dL_law_1175 : decode cL_law 1175 = .ok (.aload_n 0, 1) := by decide +kernel
theorem dL_law_1176 : decode cL_law 1176 = .ok (.iload_n 3, 1) := by decide +kernel
theorem dL_law_1177 : decode cL_law 1177 = .ok (.iconst 3, 1) := by decide +kernel
theorem dL_law_1178 : decode cL_law 1178 = .ok (.iadd, 1) := by decide +kernel
theorem dL_law_1179 : decode cL_law 1179 = .ok (.iaload, 1) := by decide +kernel
theorem dL_law_1180 : decode cL_law 1180 = .ok (.aload_n 0, 1) := by decide +kernel
theorem dL_law_1181 : decode cL_law 1181 = .ok (.iload_n 3, 1) := by decide +kernel
theorem dL_law_1182 : decode cL_law 1182 = .ok (.iconst 4, 1) := by decide +kernel
theorem dL_law_1183 : decode cL_law 1183 = .ok (.iadd, 1) := by decide +kernel
theorem dL_law_1184 : decode cL_law 1184 = .ok (.iaload, 1) := by decide +kernel
theorem dL_law_1185 : decode cL_law 1185 = .ok (.aload_n 0, 1) := by decide +kernel
theorem dL_law_1186 : decode cL_law 1186 = .ok (.iload_n 3, 1) := by decide +kernel
theorem dL_law_1187 : decode cL_law 1187 = .ok (.iconst 5, 1) := by decide +kernel
theorem dL_law_1188 : decode cL_law 1188 = .ok (.iadd, 1) := by decide +kernel
theorem dL_law_1189 : decode cL_law 1189 = .ok (.iaload, 1) := by decide +kernel
theorem dL_law_1190 : decode cL_law 1190 = .ok (.invokevirtual 122, 3) := by decide +kernel
theorem dL_law_1193 : decode cL_law 1193 = .ok (.if_icmp .eq 304, 3) := by decide +kernel
theorem dL_law_1196 : decode cL_law 1196 = .ok (.iconst 0, 1) := by decide +kernel
theorem dL_law_1197 : decode cL_law 1197 = .ok (.ireturn, 1) := by decide +kernel
theorem dL_law_1198 : decode cL_law 1198 = .ok (.aload_n 1, 1) := by decide +kernel
theorem dL_law_1199 : decode cL_law 1199 = .ok (.aload_n 0, 1) := by decide +kernel
theorem dL_law_1200 : decode cL_law 1200 = .ok (.iload_n 3, 1) := by decide +kernel
theorem dL_law_1201 : decode cL_law 1201 = .ok (.iconst 1, 1) := by decide +kernel
theorem dL_law_1202 : decode cL_law 1202 = .ok (.iadd, 1) := by decide +kernel
theorem dL_law_1203 : decode cL_law 1203 = .ok (.iaload, 1) := by decide +kernel
theorem dL_law_1204 : decode cL_law 1204 = .ok (.aload_n 0, 1) := by decide +kernel
theorem dL_law_1205 : decode cL_law 1205 = .ok (.iload_n 3, 1) := by decide +kernel
theorem dL_law_1206 : decode cL_law 1206 = .ok (.iconst 2, 1) := by decide +kernel
theorem dL_law_1207 : decode cL_law 1207 = .ok (.iadd, 1) := by decide +kernel
theorem dL_law_1208 : decode cL_law 1208 = .ok (.iaload, 1) := by decide +kernel
theorem dL_law_1209 : decode cL_law 1209 = .ok (.aload_n 0, 1) := by decide +kernel
theorem dL_law_1210 : decode cL_law 1210 = .ok (.iload_n 3, 1) := by decide +kernel
theorem dL_law_1211 : decode cL_law 1211 = .ok (.iconst 3, 1) := by decide +kernel
theorem dL_law_1212 : decode cL_law 1212 = .ok (.iadd, 1) := by decide +kernel
theorem dL_law_1213 : decode cL_law 1213 = .ok (.iaload, 1) := by decide +kernel
theorem dL_law_1214 : decode cL_law 1214 = .ok (.aload_n 0, 1) := by decide +kernel
theorem dL_law_1215 : decode cL_law 1215 = .ok (.iload_n 3, 1) := by decide +kernel
theorem dL_law_1216 : decode cL_law 1216 = .ok (.iconst 4, 1) := by decide +kernel
theorem dL_law_1217 : decode cL_law 1217 = .ok (.iadd, 1) := by decide +kernel
theorem dL_law_1218 : decode cL_law 1218 = .ok (.iaload, 1) := by decide +kernel
theorem dL_law_1219 : decode cL_law 1219 = .ok (.aload_n 0, 1) := by decide +kernel
theorem dL_law_1220 : decode cL_law 1220 = .ok (.iload_n 3, 1) := by decide +kernel
theorem dL_law_1221 : decode cL_law 1221 = .ok (.iconst 5, 1) := by decide +kernel
theorem dL_law_1222 : decode cL_law 1222 = .ok (.iadd, 1) := by decide +kernel
theorem dL_law_1223 : decode cL_law 1223 = .ok (.iaload, 1) := by decide +kernel
theorem dL_law_1224 : decode cL_law 1224 = .ok (.invokevirtual 123, 3) := by decide +kernel
theorem dL_law_1227 : decode cL_law 1227 = .ok (.aload_n 2, 1) := by decide +kernel
theorem dL_law_1228 : decode cL_law 1228 = .ok (.aload_n 0, 1) := by decide +kernel
theorem dL_law_1229 : decode cL_law 1229 = .ok (.iload_n 3, 1) := by decide +kernel
theorem dL_law_1230 : decode cL_law 1230 = .ok (.iconst 1, 1) := by decide +kernel
theorem dL_law_1231 : decode cL_law 1231 = .ok (.iadd, 1) := by decide +kernel
theorem dL_law_1232 : decode cL_law 1232 = .ok (.iaload, 1) := by decide +kernel
theorem dL_law_1233 : decode cL_law 1233 = .ok (.aload_n 0, 1) := by decide +kernel
theorem dL_law_1234 : decode cL_law 1234 = .ok (.iload_n 3, 1) := by decide +kernel
theorem dL_law_1235 : decode cL_law 1235 = .ok (.iconst 2, 1) := by decide +kernel
theorem dL_law_1236 : decode cL_law 1236 = .ok (.iadd, 1) := by decide +kernel
theorem dL_law_1237 : decode cL_law 1237 = .ok (.iaload, 1) := by decide +kernel
theorem dL_law_1238 : decode cL_law 1238 = .ok (.aload_n 0, 1) := by decide +kernel
theorem dL_law_1239 : decode cL_law 1239 = .ok (.iload_n 3, 1) := by decide +kernel
theorem dL_law_1240 : decode cL_law 1240 = .ok (.iconst 3, 1) := by decide +kernel
theorem dL_law_1241 : decode cL_law 1241 = .ok (.iadd, 1) := by decide +kernel
theorem dL_law_1242 : decode cL_law 1242 = .ok (.iaload, 1) := by decide +kernel
theorem dL_law_1243 : decode cL_law 1243 = .ok (.aload_n 0, 1) := by decide +kernel
theorem dL_law_1244 : decode cL_law 1244 = .ok (.iload_n 3, 1) := by decide +kernel
theorem dL_law_1245 : decode cL_law 1245 = .ok (.iconst 4, 1) := by decide +kernel
theorem dL_law_1246 : decode cL_law 1246 = .ok (.iadd, 1) := by decide +kernel
theorem dL_law_1247 : decode cL_law 1247 = .ok (.iaload, 1) := by decide +kernel
theorem dL_law_1248 : decode cL_law 1248 = .ok (.aload_n 0, 1) := by decide +kernel
theorem dL_law_1249 : decode cL_law 1249 = .ok (.iload_n 3, 1) := by decide +kernel
theorem dL_law_1250 : decode cL_law 1250 = .ok (.iconst 5, 1) := by decide +kernel
theorem dL_law_1251 : decode cL_law 1251 = .ok (.iadd, 1) := by decide +kernel
theorem dL_law_1252 : decode cL_law 1252 = .ok (.iaload, 1) := by decide +kernel
theorem dL_law_1253 : decode cL_law 1253 = .ok (.invokevirtual 126, 3) := by decide +kernel
theorem dL_law_1256 : decode cL_law 1256 = .ok (.if_icmp .eq 241, 3) := by decide +kernel
theorem dL_law_1259 : decode cL_law 1259 = .ok (.iconst 0, 1) := by decide +kernel
theorem dL_law_1260 : decode cL_law 1260 = .ok (.ireturn, 1) := by decide +kernel
theorem dL_law_1261 : decode cL_law 1261 = .ok (.aload_n 1, 1) := by decide +kernel
theorem dL_law_1262 : decode cL_law 1262 = .ok (.aload_n 0, 1) := by decide +kernel
theorem dL_law_1263 : decode cL_law 1263 = .ok (.iload_n 3, 1) := by decide +kernel
theorem dL_law_1264 : decode cL_law 1264 = .ok (.iconst 1, 1) := by decide +kernel
theorem dL_law_1265 : decode cL_law 1265 = .ok (.iadd, 1) := by decide +kernel
theorem dL_law_1266 : decode cL_law 1266 = .ok (.iaload, 1) := by decide +kernel
theorem dL_law_1267 : decode cL_law 1267 = .ok (.aload_n 0, 1) := by decide +kernel
theorem dL_law_1268 : decode cL_law 1268 = .ok (.iload_n 3, 1) := by decide +kernel
theorem dL_law_1269 : decode cL_law 1269 = .ok (.iconst 2, 1) := by decide +kernel
theorem dL_law_1270 : decode cL_law 1270 = .ok (.iadd, 1) := by decide +kernel
theorem dL_law_1271 : decode cL_law 1271 = .ok (.iaload, 1) := by decide +kernel
theorem dL_law_1272 : decode cL_law 1272 = .ok (.aload_n 0, 1) := by decide +kernel
theorem dL_law_1273 : decode cL_law 1273 = .ok (.iload_n 3, 1) := by decide +kernel
theorem dL_law_1274 : decode cL_law 1274 = .ok (.iconst 3, 1) := by decide +kernel
theorem dL_law_1275 : decode cL_law 1275 = .ok (.iadd, 1) := by decide +kernel
theorem dL_law_1276 : decode cL_law 1276 = .ok (.iaload, 1) := by decide +kernel
theorem dL_law_1277 : decode cL_law 1277 = .ok (.invokevirtual 127, 3) := by decide +kernel
theorem dL_law_1280 : decode cL_law 1280 = .ok (.aload_n 2, 1) := by decide +kernel
theorem dL_law_1281 : decode cL_law 1281 = .ok (.aload_n 0, 1) := by decide +kernel
theorem dL_law_1282 : decode cL_law 1282 = .ok (.iload_n 3, 1) := by decide +kernel
theorem dL_law_1283 : decode cL_law 1283 = .ok (.iconst 1, 1) := by decide +kernel
theorem dL_law_1284 : decode cL_law 1284 = .ok (.iadd, 1) := by decide +kernel
theorem dL_law_1285 : decode cL_law 1285 = .ok (.iaload, 1) := by decide +kernel
theorem dL_law_1286 : decode cL_law 1286 = .ok (.aload_n 0, 1) := by decide +kernel
theorem dL_law_1287 : decode cL_law 1287 = .ok (.iload_n 3, 1) := by decide +kernel
theorem dL_law_1288 : decode cL_law 1288 = .ok (.iconst 2, 1) := by decide +kernel
theorem dL_law_1289 : decode cL_law 1289 = .ok (.iadd, 1) := by decide +kernel
theorem dL_law_1290 : decode cL_law 1290 = .ok (.iaload, 1) := by decide +kernel
theorem dL_law_1291 : decode cL_law 1291 = .ok (.aload_n 0, 1) := by decide +kernel
theorem dL_law_1292 : decode cL_law 1292 = .ok (.iload_n 3, 1) := by decide +kernel
theorem dL_law_1293 : decode cL_law 1293 = .ok (.iconst 3, 1) := by decide +kernel
theorem dL_law_1294 : decode cL_law 1294 = .ok (.iadd, 1) := by decide +kernel
theorem dL_law_1295 : decode cL_law 1295 = .ok (.iaload, 1) := by decide +kernel
theorem dL_law_1296 : decode cL_law 1296 = .ok (.invokevirtual 130, 3) := by decide +kernel
theorem dL_law_1299 : decode cL_law 1299 = .ok (.if_icmp .eq 198, 3) := by decide +kernel
theorem dL_law_1302 : decode cL_law 1302 = .ok (.iconst 0, 1) := by decide +kernel
theorem dL_law_1303 : decode cL_law 1303 = .ok (.ireturn, 1) := by decide +kernel
theorem dL_law_1304 : decode cL_law 1304 = .ok (.aload_n 1, 1) := by decide +kernel
theorem dL_law_1305 : decode cL_law 1305 = .ok (.aload_n 0, 1) := by decide +kernel
theorem dL_law_1306 : decode cL_law 1306 = .ok (.iload_n 3, 1) := by decide +kernel
theorem dL_law_1307 : decode cL_law 1307 = .ok (.iconst 1, 1) := by decide +kernel
theorem dL_law_1308 : decode cL_law 1308 = .ok (.iadd, 1) := by decide +kernel
theorem dL_law_1309 : decode cL_law 1309 = .ok (.iaload, 1) := by decide +kernel
theorem dL_law_1310 : decode cL_law 1310 = .ok (.aload_n 0, 1) := by decide +kernel
theorem dL_law_1311 : decode cL_law 1311 = .ok (.iload_n 3, 1) := by decide +kernel
theorem dL_law_1312 : decode cL_law 1312 = .ok (.iconst 2, 1) := by decide +kernel
theorem dL_law_1313 : decode cL_law 1313 = .ok (.iadd, 1) := by decide +kernel
theorem dL_law_1314 : decode cL_law 1314 = .ok (.iaload, 1) := by decide +kernel
theorem dL_law_1315 : decode cL_law 1315 = .ok (.aload_n 0, 1) := by decide +kernel
theorem dL_law_1316 : decode cL_law 1316 = .ok (.iload_n 3, 1) := by decide +kernel
theorem dL_law_1317 : decode cL_law 1317 = .ok (.iconst 3, 1) := by decide +kernel
theorem dL_law_1318 : decode cL_law 1318 = .ok (.iadd, 1) := by decide +kernel
theorem dL_law_1319 : decode cL_law 1319 = .ok (.iaload, 1) := by decide +kernel
theorem dL_law_1320 : decode cL_law 1320 = .ok (.invokevirtual 131, 3) := by decide +kernel
theorem dL_law_1323 : decode cL_law 1323 = .ok (.aload_n 2, 1) := by decide +kernel
theorem dL_law_1324 : decode cL_law 1324 = .ok (.aload_n 0, 1) := by decide +kernel
theorem dL_law_1325 : decode cL_law 1325 = .ok (.iload_n 3, 1) := by decide +kernel
theorem dL_law_1326 : decode cL_law 1326 = .ok (.iconst 1, 1) := by decide +kernel
theorem dL_law_1327 : decode cL_law 1327 = .ok (.iadd, 1) := by decide +kernel
theorem dL_law_1328 : decode cL_law 1328 = .ok (.iaload, 1) := by decide +kernel
theorem dL_law_1329 : decode cL_law 1329 = .ok (.aload_n 0, 1) := by decide +kernel
theorem dL_law_1330 : decode cL_law 1330 = .ok (.iload_n 3, 1) := by decide +kernel
theorem dL_law_1331 : decode cL_law 1331 = .ok (.iconst 2, 1) := by decide +kernel
theorem dL_law_1332 : decode cL_law 1332 = .ok (.iadd, 1) := by decide +kernel
theorem dL_law_1333 : decode cL_law 1333 = .ok (.iaload, 1) := by decide +kernel
theorem dL_law_1334 : decode cL_law 1334 = .ok (.aload_n 0, 1) := by decide +kernel
theorem dL_law_1335 : decode cL_law 1335 = .ok (.iload_n 3, 1) := by decide +kernel
theorem dL_law_1336 : decode cL_law 1336 = .ok (.iconst 3, 1) := by decide +kernel
theorem dL_law_1337 : decode cL_law 1337 = .ok (.iadd, 1) := by decide +kernel
theorem dL_law_1338 : decode cL_law 1338 = .ok (.iaload, 1) := by decide +kernel
theorem dL_law_1339 : decode cL_law 1339 = .ok (.invokevirtual 134, 3) := by decide +kernel
theorem dL_law_1342 : decode cL_law 1342 = .ok (.lcmp, 1) := by decide +kernel
theorem dL_law_1343 : decode cL_law 1343 = .ok (.ifCond .eq 154, 3) := by decide +kernel
theorem dL_law_1346 : decode cL_law 1346 = .ok (.iconst 0, 1) := by decide +kernel
theorem dL_law_1347 : decode cL_law 1347 = .ok (.ireturn, 1) := by decide +kernel
theorem dL_law_1348 : decode cL_law 1348 = .ok (.aload_n 1, 1) := by decide +kernel
theorem dL_law_1349 : decode cL_law 1349 = .ok (.aload_n 0, 1) := by decide +kernel
theorem dL_law_1350 : decode cL_law 1350 = .ok (.iload_n 3, 1) := by decide +kernel
theorem dL_law_1351 : decode cL_law 1351 = .ok (.iconst 1, 1) := by decide +kernel
theorem dL_law_1352 : decode cL_law 1352 = .ok (.iadd, 1) := by decide +kernel
theorem dL_law_1353 : decode cL_law 1353 = .ok (.iaload, 1) := by decide +kernel
theorem dL_law_1354 : decode cL_law 1354 = .ok (.aload_n 0, 1) := by decide +kernel
theorem dL_law_1355 : decode cL_law 1355 = .ok (.iload_n 3, 1) := by decide +kernel
theorem dL_law_1356 : decode cL_law 1356 = .ok (.iconst 2, 1) := by decide +kernel
theorem dL_law_1357 : decode cL_law 1357 = .ok (.iadd, 1) := by decide +kernel
theorem dL_law_1358 : decode cL_law 1358 = .ok (.iaload, 1) := by decide +kernel
theorem dL_law_1359 : decode cL_law 1359 = .ok (.aload_n 0, 1) := by decide +kernel
theorem dL_law_1360 : decode cL_law 1360 = .ok (.iload_n 3, 1) := by decide +kernel
theorem dL_law_1361 : decode cL_law 1361 = .ok (.iconst 3, 1) := by decide +kernel
theorem dL_law_1362 : decode cL_law 1362 = .ok (.iadd, 1) := by decide +kernel
theorem dL_law_1363 : decode cL_law 1363 = .ok (.iaload, 1) := by decide +kernel
theorem dL_law_1364 : decode cL_law 1364 = .ok (.aload_n 0, 1) := by decide +kernel
theorem dL_law_1365 : decode cL_law 1365 = .ok (.iload_n 3, 1) := by decide +kernel
theorem dL_law_1366 : decode cL_law 1366 = .ok (.iconst 4, 1) := by decide +kernel
theorem dL_law_1367 : decode cL_law 1367 = .ok (.iadd, 1) := by decide +kernel
theorem dL_law_1368 : decode cL_law 1368 = .ok (.iaload, 1) := by decide +kernel
theorem dL_law_1369 : decode cL_law 1369 = .ok (.invokevirtual 135, 3) := by decide +kernel
theorem dL_law_1372 : decode cL_law 1372 = .ok (.aload_n 2, 1) := by decide +kernel
theorem dL_law_1373 : decode cL_law 1373 = .ok (.aload_n 0, 1) := by decide +kernel
theorem dL_law_1374 : decode cL_law 1374 = .ok (.iload_n 3, 1) := by decide +kernel
theorem dL_law_1375 : decode cL_law 1375 = .ok (.iconst 1, 1) := by decide +kernel
theorem dL_law_1376 : decode cL_law 1376 = .ok (.iadd, 1) := by decide +kernel
theorem dL_law_1377 : decode cL_law 1377 = .ok (.iaload, 1) := by decide +kernel
theorem dL_law_1378 : decode cL_law 1378 = .ok (.aload_n 0, 1) := by decide +kernel
theorem dL_law_1379 : decode cL_law 1379 = .ok (.iload_n 3, 1) := by decide +kernel
theorem dL_law_1380 : decode cL_law 1380 = .ok (.iconst 2, 1) := by decide +kernel
theorem dL_law_1381 : decode cL_law 1381 = .ok (.iadd, 1) := by decide +kernel
theorem dL_law_1382 : decode cL_law 1382 = .ok (.iaload, 1) := by decide +kernel
theorem dL_law_1383 : decode cL_law 1383 = .ok (.aload_n 0, 1) := by decide +kernel
theorem dL_law_1384 : decode cL_law 1384 = .ok (.iload_n 3, 1) := by decide +kernel
theorem dL_law_1385 : decode cL_law 1385 = .ok (.iconst 3, 1) := by decide +kernel
theorem dL_law_1386 : decode cL_law 1386 = .ok (.iadd, 1) := by decide +kernel
theorem dL_law_1387 : decode cL_law 1387 = .ok (.iaload, 1) := by decide +kernel
theorem dL_law_1388 : decode cL_law 1388 = .ok (.aload_n 0, 1) := by decide +kernel
theorem dL_law_1389 : decode cL_law 1389 = .ok (.iload_n 3, 1) := by decide +kernel
theorem dL_law_1390 : decode cL_law 1390 = .ok (.iconst 4, 1) := by decide +kernel
theorem dL_law_1391 : decode cL_law 1391 = .ok (.iadd, 1) := by decide +kernel
theorem dL_law_1392 : decode cL_law 1392 = .ok (.iaload, 1) := by decide +kernel
theorem dL_law_1393 : decode cL_law 1393 = .ok (.invokevirtual 138, 3) := by decide +kernel
theorem dL_law_1396 : decode cL_law 1396 = .ok (.if_icmp .eq 101, 3) := by decide +kernel
theorem dL_law_1399 : decode cL_law 1399 = .ok (.iconst 0, 1) := by decide +kernel
theorem dL_law_1400 : decode cL_law 1400 = .ok (.ireturn, 1) := by decide +kernel
theorem dL_law_1401 : decode cL_law 1401 = .ok (.aload_n 1, 1) := by decide +kernel
theorem dL_law_1402 : decode cL_law 1402 = .ok (.aload_n 0, 1) := by decide +kernel
theorem dL_law_1403 : decode cL_law 1403 = .ok (.iload_n 3, 1) := by decide +kernel
theorem dL_law_1404 : decode cL_law 1404 = .ok (.iconst 1, 1) := by decide +kernel
theorem dL_law_1405 : decode cL_law 1405 = .ok (.iadd, 1) := by decide +kernel
theorem dL_law_1406 : decode cL_law 1406 = .ok (.iaload, 1) := by decide +kernel
theorem dL_law_1407 : decode cL_law 1407 = .ok (.aload_n 0, 1) := by decide +kernel
theorem dL_law_1408 : decode cL_law 1408 = .ok (.iload_n 3, 1) := by decide +kernel
theorem dL_law_1409 : decode cL_law 1409 = .ok (.iconst 2, 1) := by decide +kernel
theorem dL_law_1410 : decode cL_law 1410 = .ok (.iadd, 1) := by decide +kernel
theorem dL_law_1411 : decode cL_law 1411 = .ok (.iaload, 1) := by decide +kernel
theorem dL_law_1412 : decode cL_law 1412 = .ok (.invokevirtual 139, 3) := by decide +kernel
theorem dL_law_1415 : decode cL_law 1415 = .ok (.aload_n 2, 1) := by decide +kernel
theorem dL_law_1416 : decode cL_law 1416 = .ok (.aload_n 0, 1) := by decide +kernel
theorem dL_law_1417 : decode cL_law 1417 = .ok (.iload_n 3, 1) := by decide +kernel
theorem dL_law_1418 : decode cL_law 1418 = .ok (.iconst 1, 1) := by decide +kernel
theorem dL_law_1419 : decode cL_law 1419 = .ok (.iadd, 1) := by decide +kernel
theorem dL_law_1420 : decode cL_law 1420 = .ok (.iaload, 1) := by decide +kernel
theorem dL_law_1421 : decode cL_law 1421 = .ok (.aload_n 0, 1) := by decide +kernel
theorem dL_law_1422 : decode cL_law 1422 = .ok (.iload_n 3, 1) := by decide +kernel
theorem dL_law_1423 : decode cL_law 1423 = .ok (.iconst 2, 1) := by decide +kernel
theorem dL_law_1424 : decode cL_law 1424 = .ok (.iadd, 1) := by decide +kernel
theorem dL_law_1425 : decode cL_law 1425 = .ok (.iaload, 1) := by decide +kernel
theorem dL_law_1426 : decode cL_law 1426 = .ok (.invokevirtual 142, 3) := by decide +kernel
theorem dL_law_1429 : decode cL_law 1429 = .ok (.if_icmp .eq 68, 3) := by decide +kernel
theorem dL_law_1432 : decode cL_law 1432 = .ok (.iconst 0, 1) := by decide +kernel
theorem dL_law_1433 : decode cL_law 1433 = .ok (.ireturn, 1) := by decide +kernel
theorem dL_law_1434 : decode cL_law 1434 = .ok (.aload_n 1, 1) := by decide +kernel
theorem dL_law_1435 : decode cL_law 1435 = .ok (.invokevirtual 143, 3) := by decide +kernel
theorem dL_law_1438 : decode cL_law 1438 = .ok (.aload_n 2, 1) := by decide +kernel
end
section
theorem dL_law_1439 : decode cL_law 1439 = .ok (.invokevirtual 146, 3) := by decide +kernel
theorem dL_law_1442 : decode cL_law 1442 = .ok (.if_icmp .eq 55, 3) := by decide +kernel
theorem dL_law_1445 : decode cL_law 1445 = .ok (.iconst 0, 1) := by decide +kernel
theorem dL_law_1446 : decode cL_law 1446 = .ok (.ireturn, 1) := by decide +kernel
theorem dL_law_1447 : decode cL_law 1447 = .ok (.aload_n 1, 1) := by decide +kernel
theorem dL_law_1448 : decode cL_law 1448 = .ok (.invokevirtual 147, 3) := by decide +kernel
theorem dL_law_1451 : decode cL_law 1451 = .ok (.aload_n 2, 1) := by decide +kernel
theorem dL_law_1452 : decode cL_law 1452 = .ok (.invokevirtual 150, 3) := by decide +kernel
theorem dL_law_1455 : decode cL_law 1455 = .ok (.if_icmp .eq 42, 3) := by decide +kernel
theorem dL_law_1458 : decode cL_law 1458 = .ok (.iconst 0, 1) := by decide +kernel
theorem dL_law_1459 : decode cL_law 1459 = .ok (.ireturn, 1) := by decide +kernel
theorem dL_law_1460 : decode cL_law 1460 = .ok (.aload_n 1, 1) := by decide +kernel
theorem dL_law_1461 : decode cL_law 1461 = .ok (.aload_n 0, 1) := by decide +kernel
theorem dL_law_1462 : decode cL_law 1462 = .ok (.iload_n 3, 1) := by decide +kernel
theorem dL_law_1463 : decode cL_law 1463 = .ok (.iconst 1, 1) := by decide +kernel
theorem dL_law_1464 : decode cL_law 1464 = .ok (.iadd, 1) := by decide +kernel
theorem dL_law_1465 : decode cL_law 1465 = .ok (.iaload, 1) := by decide +kernel
theorem dL_law_1466 : decode cL_law 1466 = .ok (.invokevirtual 151, 3) := by decide +kernel
theorem dL_law_1469 : decode cL_law 1469 = .ok (.aload_n 2, 1) := by decide +kernel
theorem dL_law_1470 : decode cL_law 1470 = .ok (.aload_n 0, 1) := by decide +kernel
theorem dL_law_1471 : decode cL_law 1471 = .ok (.iload_n 3, 1) := by decide +kernel
theorem dL_law_1472 : decode cL_law 1472 = .ok (.iconst 1, 1) := by decide +kernel
theorem dL_law_1473 : decode cL_law 1473 = .ok (.iadd, 1) := by decide +kernel
theorem dL_law_1474 : decode cL_law 1474 = .ok (.iaload, 1) := by decide +kernel
theorem dL_law_1475 : decode cL_law 1475 = .ok (.invokevirtual 154, 3) := by decide +kernel
theorem dL_law_1478 : decode cL_law 1478 = .ok (.if_icmp .eq 19, 3) := by decide +kernel
theorem dL_law_1481 : decode cL_law 1481 = .ok (.iconst 0, 1) := by decide +kernel
theorem dL_law_1482 : decode cL_law 1482 = .ok (.ireturn, 1) := by decide +kernel
theorem dL_law_1483 : decode cL_law 1483 = .ok (.aload_n 1, 1) := by decide +kernel
theorem dL_law_1484 : decode cL_law 1484 = .ok (.invokevirtual 155, 3) := by decide +kernel
theorem dL_law_1487 : decode cL_law 1487 = .ok (.aload_n 2, 1) := by decide +kernel
theorem dL_law_1488 : decode cL_law 1488 = .ok (.invokevirtual 159, 3) := by decide +kernel
theorem dL_law_1491 : decode cL_law 1491 = .ok (.lcmp, 1) := by decide +kernel
theorem dL_law_1492 : decode cL_law 1492 = .ok (.ifCond .eq 5, 3) := by decide +kernel
theorem dL_law_1495 : decode cL_law 1495 = .ok (.iconst 0, 1) := by decide +kernel
theorem dL_law_1496 : decode cL_law 1496 = .ok (.ireturn, 1) := by decide +kernel
theorem dL_law_1497 : decode cL_law 1497 = .ok (.iinc 3 8, 3) := by decide +kernel
theorem dL_law_1500 : decode cL_law 1500 = .ok (.goto (-1482), 3) := by decide +kernel
theorem dL_law_1503 : decode cL_law 1503 = .ok (.iconst 1, 1) := by decide +kernel
theorem dL_law_1504 : decode cL_law 1504 = .ok (.ireturn, 1) := by decide +kernel
end
section
def lwt : List Cond := lw_tbl.filter goodWord
theorem tblG {w : Cond} (h : w ∈ lwt) : (w.onTables && w.keeps) = true ∨ ∃ ty, w = .arrayClass ty := good_of_word (List.mem_filter.mp h).2
theorem tw0 : (Cond.initialized RL) ∈ lwt := List.mem_filter.mpr ⟨List.mem_append_right _ (List.mem_of_getElem? (i := 0) (by decide +kernel)), rfl⟩
theorem tw1 : (Cond.initialized RX11) ∈ lwt := List.mem_filter.mpr ⟨List.mem_append_right _ (List.mem_of_getElem? (i := 1) (by decide +kernel)), rfl⟩
theorem tw2 : (Cond.initialized RX4) ∈ lwt := List.mem_filter.mpr ⟨List.mem_append_right _ (List.mem_of_getElem? (i := 2) (by decide +kernel)), rfl⟩
theorem tw3 : (Cond.initialized RX7) ∈ lwt := List.mem_filter.mpr ⟨List.mem_append_right _ (List.mem_of_getElem? (i := 3) (by decide +kernel)), rfl⟩
theorem tw4 : (Cond.initialized RX9) ∈ lwt := List.mem_filter.mpr ⟨List.mem_append_right _ (List.mem_of_getElem? (i := 4) (by decide +kernel)), rfl⟩
theorem tw5 : (Cond.initialized RX0) ∈ lwt := List.mem_filter.mpr ⟨List.mem_append_right _ (List.mem_of_getElem? (i := 5) (by decide +kernel)), rfl⟩
theorem tw6 : (Cond.initialized RX1) ∈ lwt := List.mem_filter.mpr ⟨List.mem_append_right _ (List.mem_of_getElem? (i := 6) (by decide +kernel)), rfl⟩
theorem tw7 : (Cond.initialized RX12) ∈ lwt := List.mem_filter.mpr ⟨List.mem_append_right _ (List.mem_of_getElem? (i := 7) (by decide +kernel)), rfl⟩
theorem tw8 : (Cond.initialized RX6) ∈ lwt := List.mem_filter.mpr ⟨List.mem_append_right _ (List.mem_of_getElem? (i := 8) (by decide +kernel)), rfl⟩
theorem tw9 : (Cond.initialized RX5) ∈ lwt := List.mem_filter.mpr ⟨List.mem_append_right _ (List.mem_of_getElem? (i := 9) (by decide +kernel)), rfl⟩
theorem tw10 : (Cond.initialized RX2) ∈ lwt := List.mem_filter.mpr ⟨List.mem_append_right _ (List.mem_of_getElem? (i := 10) (by decide +kernel)), rfl⟩
theorem tw11 : (Cond.initialized RX3) ∈ lwt := List.mem_filter.mpr ⟨List.mem_append_right _ (List.mem_of_getElem? (i := 11) (by decide +kernel)), rfl⟩
theorem tw12 : (Cond.initialized RX10) ∈ lwt := List.mem_filter.mpr ⟨List.mem_append_right _ (List.mem_of_getElem? (i := 12) (by decide +kernel)), rfl⟩
theorem tw13 : (Cond.initialized RX8) ∈ lwt := List.mem_filter.mpr ⟨List.mem_append_right _ (List.mem_of_getElem? (i := 13) (by decide +kernel)), rfl⟩
theorem tw14 : (Cond.initialized RJ6) ∈ lwt := List.mem_filter.mpr ⟨List.mem_append_right _ (List.mem_of_getElem? (i := 14) (by decide +kernel)), rfl⟩
theorem tw15 : (Cond.initialized RJ7) ∈ lwt := List.mem_filter.mpr ⟨List.mem_append_right _ (List.mem_of_getElem? (i := 15) (by decide +kernel)), rfl⟩
theorem tw16 : (Cond.initialized RJ9) ∈ lwt := List.mem_filter.mpr ⟨List.mem_append_right _ (List.mem_of_getElem? (i := 16) (by decide +kernel)), rfl⟩
theorem tw17 : (Cond.initialized RJ10) ∈ lwt := List.mem_filter.mpr ⟨List.mem_append_right _ (List.mem_of_getElem? (i := 17) (by decide +kernel)), rfl⟩
theorem tw18 : (Cond.classLink RL 7 RX11) ∈ lwt := List.mem_filter.mpr ⟨List.mem_append_right _ (List.mem_of_getElem? (i := 18) (by decide +kernel)), rfl⟩
theorem tw19 : (Cond.instantiable RX11 13) ∈ lwt := List.mem_filter.mpr ⟨List.mem_append_right _ (List.mem_of_getElem? (i := 19) (by decide +kernel)), rfl⟩
theorem tw20 : (Cond.methodLink RL 9 yX11_init) ∈ lwt := List.mem_filter.mpr ⟨List.mem_append_right _ (List.mem_of_getElem? (i := 20) (by decide +kernel)), rfl⟩
theorem tw21 : (Cond.instanceMethod yX11_init) ∈ lwt := List.mem_filter.mpr ⟨List.mem_append_right _ (List.mem_of_getElem? (i := 21) (by decide +kernel)), rfl⟩
theorem tw22 : (Cond.code yX11_init cX11_init 1 (Option.none : Option FieldType)) ∈ lwt := List.mem_filter.mpr ⟨List.mem_append_right _ (List.mem_of_getElem? (i := 22) (by decide +kernel)), rfl⟩
theorem tw23 : (Cond.methodLink RX11 3 objectInit) ∈ lwt := List.mem_filter.mpr ⟨List.mem_append_right _ (List.mem_of_getElem? (i := 23) (by decide +kernel)), rfl⟩
theorem tw24 : (Cond.instanceMethod objectInit) ∈ lwt := List.mem_filter.mpr ⟨List.mem_append_right _ (List.mem_of_getElem? (i := 24) (by decide +kernel)), rfl⟩
theorem tw25 : (Cond.code objectInit object_method_1_code 1 (Option.none : Option Jvm.ClassFile.FieldType)) ∈ lwt := List.mem_filter.mpr ⟨List.mem_append_right _ (List.mem_of_getElem? (i := 25) (by decide +kernel)), rfl⟩
theorem tw26 : (Cond.classLink RX11 9 RX4) ∈ lwt := List.mem_filter.mpr ⟨List.mem_append_right _ (List.mem_of_getElem? (i := 26) (by decide +kernel)), rfl⟩
theorem tw27 : (Cond.instantiable RX4 2) ∈ lwt := List.mem_filter.mpr ⟨List.mem_append_right _ (List.mem_of_getElem? (i := 27) (by decide +kernel)), rfl⟩
theorem tn28 : (Cond.methodLinkNest RX11 11 yX4_init RX11) ∈ lw_tbl := List.mem_append_right _ (List.mem_of_getElem? (i := 28) (by decide +kernel))
theorem tw29 : (Cond.instanceMethod yX4_init) ∈ lwt := List.mem_filter.mpr ⟨List.mem_append_right _ (List.mem_of_getElem? (i := 29) (by decide +kernel)), rfl⟩
theorem tw30 : (Cond.code yX4_init cX4_init 1 (Option.none : Option FieldType)) ∈ lwt := List.mem_filter.mpr ⟨List.mem_append_right _ (List.mem_of_getElem? (i := 30) (by decide +kernel)), rfl⟩
theorem tw31 : (Cond.methodLink RX4 3 objectInit) ∈ lwt := List.mem_filter.mpr ⟨List.mem_append_right _ (List.mem_of_getElem? (i := 31) (by decide +kernel)), rfl⟩
theorem tw32 : (Cond.fieldLink RX4 11 RX4 "codes" "[I") ∈ lwt := List.mem_filter.mpr ⟨List.mem_append_right _ (List.mem_of_getElem? (i := 32) (by decide +kernel)), rfl⟩
theorem tw33 : (Cond.fieldLink RX4 19 RX4 "length" "I") ∈ lwt := List.mem_filter.mpr ⟨List.mem_append_right _ (List.mem_of_getElem? (i := 33) (by decide +kernel)), rfl⟩
theorem tn34 : (Cond.fieldLinkNest RX11 297 RX4 "length" "I" RX11) ∈ lw_tbl := List.mem_append_right _ (List.mem_of_getElem? (i := 34) (by decide +kernel))
theorem tw35 : (Cond.laysFinal RX4 RX4 "codes" "[I") ∈ lwt := List.mem_filter.mpr ⟨List.mem_append_right _ (List.mem_of_getElem? (i := 35) (by decide +kernel)), rfl⟩
theorem tw37 : (Cond.lays RX4 RX4 "length" "I") ∈ lwt := List.mem_filter.mpr ⟨List.mem_append_right _ (List.mem_of_getElem? (i := 37) (by decide +kernel)), rfl⟩
theorem tw40 : (Cond.arrayClass FieldType.int) ∈ lwt := List.mem_filter.mpr ⟨List.mem_append_right _ (List.mem_of_getElem? (i := 40) (by decide +kernel)), rfl⟩
theorem tw41 : (Cond.classLink RX11 16 RX6) ∈ lwt := List.mem_filter.mpr ⟨List.mem_append_right _ (List.mem_of_getElem? (i := 41) (by decide +kernel)), rfl⟩
theorem tn42 : (Cond.arrayOver (FieldType.object "BlackBalls$Rule")) ∈ lw_tbl := List.mem_append_right _ (List.mem_of_getElem? (i := 42) (by decide +kernel))
theorem tw43 : (Cond.classLink RX11 22 RX5) ∈ lwt := List.mem_filter.mpr ⟨List.mem_append_right _ (List.mem_of_getElem? (i := 43) (by decide +kernel)), rfl⟩
theorem tn44 : (Cond.arrayOver (FieldType.object "BlackBalls$Person")) ∈ lw_tbl := List.mem_append_right _ (List.mem_of_getElem? (i := 44) (by decide +kernel))
theorem tw45 : (Cond.classLink RX11 32 RX7) ∈ lwt := List.mem_filter.mpr ⟨List.mem_append_right _ (List.mem_of_getElem? (i := 45) (by decide +kernel)), rfl⟩
theorem tw46 : (Cond.instantiable RX7 3) ∈ lwt := List.mem_filter.mpr ⟨List.mem_append_right _ (List.mem_of_getElem? (i := 46) (by decide +kernel)), rfl⟩
theorem tn47 : (Cond.methodLinkNest RX11 34 yX7_init RX11) ∈ lw_tbl := List.mem_append_right _ (List.mem_of_getElem? (i := 47) (by decide +kernel))
theorem tw48 : (Cond.instanceMethod yX7_init) ∈ lwt := List.mem_filter.mpr ⟨List.mem_append_right _ (List.mem_of_getElem? (i := 48) (by decide +kernel)), rfl⟩
theorem tw49 : (Cond.code yX7_init cX7_init 1 (Option.none : Option FieldType)) ∈ lwt := List.mem_filter.mpr ⟨List.mem_append_right _ (List.mem_of_getElem? (i := 49) (by decide +kernel)), rfl⟩
theorem tw50 : (Cond.methodLink RX7 3 objectInit) ∈ lwt := List.mem_filter.mpr ⟨List.mem_append_right _ (List.mem_of_getElem? (i := 50) (by decide +kernel)), rfl⟩
theorem tw51 : (Cond.fieldLink RX7 9 RX7 "ways" "[J") ∈ lwt := List.mem_filter.mpr ⟨List.mem_append_right _ (List.mem_of_getElem? (i := 51) (by decide +kernel)), rfl⟩
theorem tw52 : (Cond.fieldLink RX7 15 RX7 "balls" "I") ∈ lwt := List.mem_filter.mpr ⟨List.mem_append_right _ (List.mem_of_getElem? (i := 52) (by decide +kernel)), rfl⟩
theorem tw53 : (Cond.fieldLink RX7 19 RX7 "all" "J") ∈ lwt := List.mem_filter.mpr ⟨List.mem_append_right _ (List.mem_of_getElem? (i := 53) (by decide +kernel)), rfl⟩
theorem tw54 : (Cond.laysFinal RX7 RX7 "ways" "[J") ∈ lwt := List.mem_filter.mpr ⟨List.mem_append_right _ (List.mem_of_getElem? (i := 54) (by decide +kernel)), rfl⟩
theorem tw56 : (Cond.lays RX7 RX7 "balls" "I") ∈ lwt := List.mem_filter.mpr ⟨List.mem_append_right _ (List.mem_of_getElem? (i := 56) (by decide +kernel)), rfl⟩
theorem tw58 : (Cond.lays RX7 RX7 "all" "J") ∈ lwt := List.mem_filter.mpr ⟨List.mem_append_right _ (List.mem_of_getElem? (i := 58) (by decide +kernel)), rfl⟩
theorem tw61 : (Cond.arrayClass FieldType.long) ∈ lwt := List.mem_filter.mpr ⟨List.mem_append_right _ (List.mem_of_getElem? (i := 61) (by decide +kernel)), rfl⟩
theorem tw62 : (Cond.classLink RX11 39 RX9) ∈ lwt := List.mem_filter.mpr ⟨List.mem_append_right _ (List.mem_of_getElem? (i := 62) (by decide +kernel)), rfl⟩
theorem tw63 : (Cond.instantiable RX9 3) ∈ lwt := List.mem_filter.mpr ⟨List.mem_append_right _ (List.mem_of_getElem? (i := 63) (by decide +kernel)), rfl⟩
theorem tn64 : (Cond.methodLinkNest RX11 41 yX9_init RX11) ∈ lw_tbl := List.mem_append_right _ (List.mem_of_getElem? (i := 64) (by decide +kernel))
theorem tw65 : (Cond.instanceMethod yX9_init) ∈ lwt := List.mem_filter.mpr ⟨List.mem_append_right _ (List.mem_of_getElem? (i := 65) (by decide +kernel)), rfl⟩
theorem tw66 : (Cond.code yX9_init cX9_init 1 (Option.none : Option FieldType)) ∈ lwt := List.mem_filter.mpr ⟨List.mem_append_right _ (List.mem_of_getElem? (i := 66) (by decide +kernel)), rfl⟩
theorem tw67 : (Cond.methodLink RX9 3 objectInit) ∈ lwt := List.mem_filter.mpr ⟨List.mem_append_right _ (List.mem_of_getElem? (i := 67) (by decide +kernel)), rfl⟩
theorem tw68 : (Cond.fieldLink RX9 11 RX9 "ways" "[J") ∈ lwt := List.mem_filter.mpr ⟨List.mem_append_right _ (List.mem_of_getElem? (i := 68) (by decide +kernel)), rfl⟩
theorem tw69 : (Cond.fieldLink RX9 21 RX9 "asked" "I") ∈ lwt := List.mem_filter.mpr ⟨List.mem_append_right _ (List.mem_of_getElem? (i := 69) (by decide +kernel)), rfl⟩
theorem tw70 : (Cond.fieldLink RX9 25 RX9 "all" "J") ∈ lwt := List.mem_filter.mpr ⟨List.mem_append_right _ (List.mem_of_getElem? (i := 70) (by decide +kernel)), rfl⟩
theorem tw71 : (Cond.laysFinal RX9 RX9 "ways" "[J") ∈ lwt := List.mem_filter.mpr ⟨List.mem_append_right _ (List.mem_of_getElem? (i := 71) (by decide +kernel)), rfl⟩
theorem tw73 : (Cond.lays RX9 RX9 "asked" "I") ∈ lwt := List.mem_filter.mpr ⟨List.mem_append_right _ (List.mem_of_getElem? (i := 73) (by decide +kernel)), rfl⟩
theorem tw75 : (Cond.lays RX9 RX9 "all" "J") ∈ lwt := List.mem_filter.mpr ⟨List.mem_append_right _ (List.mem_of_getElem? (i := 75) (by decide +kernel)), rfl⟩
theorem tw78 : (Cond.classLink RX11 46 RX0) ∈ lwt := List.mem_filter.mpr ⟨List.mem_append_right _ (List.mem_of_getElem? (i := 78) (by decide +kernel)), rfl⟩
theorem tw79 : (Cond.instantiable RX0 5) ∈ lwt := List.mem_filter.mpr ⟨List.mem_append_right _ (List.mem_of_getElem? (i := 79) (by decide +kernel)), rfl⟩
theorem tn80 : (Cond.methodLinkNest RX11 48 yX0_init RX11) ∈ lw_tbl := List.mem_append_right _ (List.mem_of_getElem? (i := 80) (by decide +kernel))
theorem tw81 : (Cond.instanceMethod yX0_init) ∈ lwt := List.mem_filter.mpr ⟨List.mem_append_right _ (List.mem_of_getElem? (i := 81) (by decide +kernel)), rfl⟩
theorem tw82 : (Cond.code yX0_init cX0_init 1 (Option.none : Option FieldType)) ∈ lwt := List.mem_filter.mpr ⟨List.mem_append_right _ (List.mem_of_getElem? (i := 82) (by decide +kernel)), rfl⟩
theorem tw83 : (Cond.methodLink RX0 3 objectInit) ∈ lwt := List.mem_filter.mpr ⟨List.mem_append_right _ (List.mem_of_getElem? (i := 83) (by decide +kernel)), rfl⟩
theorem tw84 : (Cond.fieldLink RX0 9 RX0 "blackTenths" "[I") ∈ lwt := List.mem_filter.mpr ⟨List.mem_append_right _ (List.mem_of_getElem? (i := 84) (by decide +kernel)), rfl⟩
theorem tw85 : (Cond.fieldLink RX0 15 RX0 "came" "I") ∈ lwt := List.mem_filter.mpr ⟨List.mem_append_right _ (List.mem_of_getElem? (i := 85) (by decide +kernel)), rfl⟩
theorem tn86 : (Cond.fieldLinkNest RX1 54 RX0 "seed" "I" RX11) ∈ lw_tbl := List.mem_append_right _ (List.mem_of_getElem? (i := 86) (by decide +kernel))
theorem tw87 : (Cond.fieldLink RX0 19 RX0 "seed" "I") ∈ lwt := List.mem_filter.mpr ⟨List.mem_append_right _ (List.mem_of_getElem? (i := 87) (by decide +kernel)), rfl⟩
theorem tn88 : (Cond.fieldLinkNest RX11 255 RX0 "seed" "I" RX11) ∈ lw_tbl := List.mem_append_right _ (List.mem_of_getElem? (i := 88) (by decide +kernel))
theorem tw89 : (Cond.fieldLink RX0 22 RX0 "lastBlacks" "I") ∈ lwt := List.mem_filter.mpr ⟨List.mem_append_right _ (List.mem_of_getElem? (i := 89) (by decide +kernel)), rfl⟩
theorem tn90 : (Cond.fieldLinkNest RX11 249 RX0 "lastBlacks" "I" RX11) ∈ lw_tbl := List.mem_append_right _ (List.mem_of_getElem? (i := 90) (by decide +kernel))
theorem tn91 : (Cond.fieldLinkNest RX1 55 RX0 "letIn" "Z" RX11) ∈ lw_tbl := List.mem_append_right _ (List.mem_of_getElem? (i := 91) (by decide +kernel))
theorem tw92 : (Cond.fieldLink RX0 25 RX0 "letIn" "Z") ∈ lwt := List.mem_filter.mpr ⟨List.mem_append_right _ (List.mem_of_getElem? (i := 92) (by decide +kernel)), rfl⟩
theorem tn93 : (Cond.fieldLinkNest RX11 252 RX0 "letIn" "Z" RX11) ∈ lw_tbl := List.mem_append_right _ (List.mem_of_getElem? (i := 93) (by decide +kernel))
theorem tw94 : (Cond.laysFinal RX0 RX0 "blackTenths" "[I") ∈ lwt := List.mem_filter.mpr ⟨List.mem_append_right _ (List.mem_of_getElem? (i := 94) (by decide +kernel)), rfl⟩
theorem tw96 : (Cond.lays RX0 RX0 "came" "I") ∈ lwt := List.mem_filter.mpr ⟨List.mem_append_right _ (List.mem_of_getElem? (i := 96) (by decide +kernel)), rfl⟩
theorem tw98 : (Cond.lays RX0 RX0 "seed" "I") ∈ lwt := List.mem_filter.mpr ⟨List.mem_append_right _ (List.mem_of_getElem? (i := 98) (by decide +kernel)), rfl⟩
theorem tw100 : (Cond.lays RX0 RX0 "lastBlacks" "I") ∈ lwt := List.mem_filter.mpr ⟨List.mem_append_right _ (List.mem_of_getElem? (i := 100) (by decide +kernel)), rfl⟩
theorem tw102 : (Cond.lays RX0 RX0 "letIn" "Z") ∈ lwt := List.mem_filter.mpr ⟨List.mem_append_right _ (List.mem_of_getElem? (i := 102) (by decide +kernel)), rfl⟩
theorem tw105 : (Cond.classLink RX11 53 RX1) ∈ lwt := List.mem_filter.mpr ⟨List.mem_append_right _ (List.mem_of_getElem? (i := 105) (by decide +kernel)), rfl⟩
theorem tw106 : (Cond.instantiable RX1 5) ∈ lwt := List.mem_filter.mpr ⟨List.mem_append_right _ (List.mem_of_getElem? (i := 106) (by decide +kernel)), rfl⟩
theorem tn107 : (Cond.methodLinkNest RX11 55 yX1_init RX11) ∈ lw_tbl := List.mem_append_right _ (List.mem_of_getElem? (i := 107) (by decide +kernel))
theorem tw108 : (Cond.instanceMethod yX1_init) ∈ lwt := List.mem_filter.mpr ⟨List.mem_append_right _ (List.mem_of_getElem? (i := 108) (by decide +kernel)), rfl⟩
theorem tw109 : (Cond.code yX1_init cX1_init 1 (Option.none : Option FieldType)) ∈ lwt := List.mem_filter.mpr ⟨List.mem_append_right _ (List.mem_of_getElem? (i := 109) (by decide +kernel)), rfl⟩
theorem tw110 : (Cond.methodLink RX1 1 objectInit) ∈ lwt := List.mem_filter.mpr ⟨List.mem_append_right _ (List.mem_of_getElem? (i := 110) (by decide +kernel)), rfl⟩
theorem tw111 : (Cond.classLink RX1 13 RX0) ∈ lwt := List.mem_filter.mpr ⟨List.mem_append_right _ (List.mem_of_getElem? (i := 111) (by decide +kernel)), rfl⟩
theorem tn112 : (Cond.methodLinkNest RX1 15 yX0_init RX11) ∈ lw_tbl := List.mem_append_right _ (List.mem_of_getElem? (i := 112) (by decide +kernel))
theorem tw113 : (Cond.fieldLink RX1 9 RX1 "tastes" "[I") ∈ lwt := List.mem_filter.mpr ⟨List.mem_append_right _ (List.mem_of_getElem? (i := 113) (by decide +kernel)), rfl⟩
theorem tw114 : (Cond.fieldLink RX1 16 RX1 "ballot" "LBlackBalls$Ballot;") ∈ lwt := List.mem_filter.mpr ⟨List.mem_append_right _ (List.mem_of_getElem? (i := 114) (by decide +kernel)), rfl⟩
theorem tw115 : (Cond.fieldLink RX1 27 RX1 "size" "I") ∈ lwt := List.mem_filter.mpr ⟨List.mem_append_right _ (List.mem_of_getElem? (i := 115) (by decide +kernel)), rfl⟩
theorem tn116 : (Cond.fieldLinkNest RX11 276 RX1 "size" "I" RX11) ∈ lw_tbl := List.mem_append_right _ (List.mem_of_getElem? (i := 116) (by decide +kernel))
theorem tw117 : (Cond.fieldLink RX1 24 RX1 "letIn" "I") ∈ lwt := List.mem_filter.mpr ⟨List.mem_append_right _ (List.mem_of_getElem? (i := 117) (by decide +kernel)), rfl⟩
theorem tn118 : (Cond.fieldLinkNest RX11 282 RX1 "letIn" "I" RX11) ∈ lw_tbl := List.mem_append_right _ (List.mem_of_getElem? (i := 118) (by decide +kernel))
theorem tw119 : (Cond.fieldLink RX1 20 RX1 "seed" "I") ∈ lwt := List.mem_filter.mpr ⟨List.mem_append_right _ (List.mem_of_getElem? (i := 119) (by decide +kernel)), rfl⟩
theorem tn120 : (Cond.fieldLinkNest RX11 284 RX1 "seed" "I" RX11) ∈ lw_tbl := List.mem_append_right _ (List.mem_of_getElem? (i := 120) (by decide +kernel))
theorem tw121 : (Cond.laysFinal RX1 RX1 "tastes" "[I") ∈ lwt := List.mem_filter.mpr ⟨List.mem_append_right _ (List.mem_of_getElem? (i := 121) (by decide +kernel)), rfl⟩
theorem tw123 : (Cond.laysFinal RX1 RX1 "ballot" "LBlackBalls$Ballot;") ∈ lwt := List.mem_filter.mpr ⟨List.mem_append_right _ (List.mem_of_getElem? (i := 123) (by decide +kernel)), rfl⟩
theorem tw125 : (Cond.lays RX1 RX1 "size" "I") ∈ lwt := List.mem_filter.mpr ⟨List.mem_append_right _ (List.mem_of_getElem? (i := 125) (by decide +kernel)), rfl⟩
theorem tw127 : (Cond.lays RX1 RX1 "letIn" "I") ∈ lwt := List.mem_filter.mpr ⟨List.mem_append_right _ (List.mem_of_getElem? (i := 127) (by decide +kernel)), rfl⟩
theorem tw129 : (Cond.lays RX1 RX1 "seed" "I") ∈ lwt := List.mem_filter.mpr ⟨List.mem_append_right _ (List.mem_of_getElem? (i := 129) (by decide +kernel)), rfl⟩
theorem tw132 : (Cond.fieldLink RX11 12 RX11 "page" "LBlackBalls$Page;") ∈ lwt := List.mem_filter.mpr ⟨List.mem_append_right _ (List.mem_of_getElem? (i := 132) (by decide +kernel)), rfl⟩
theorem tw133 : (Cond.fieldLink RX11 18 RX11 "rules" "[LBlackBalls$Rule;") ∈ lwt := List.mem_filter.mpr ⟨List.mem_append_right _ (List.mem_of_getElem? (i := 133) (by decide +kernel)), rfl⟩
theorem tw134 : (Cond.fieldLink RX11 24 RX11 "people" "[LBlackBalls$Person;") ∈ lwt := List.mem_filter.mpr ⟨List.mem_append_right _ (List.mem_of_getElem? (i := 134) (by decide +kernel)), rfl⟩
theorem tw135 : (Cond.fieldLink RX11 28 RX11 "friends" "[I") ∈ lwt := List.mem_filter.mpr ⟨List.mem_append_right _ (List.mem_of_getElem? (i := 135) (by decide +kernel)), rfl⟩
theorem tw136 : (Cond.fieldLink RX11 35 RX11 "tally" "LBlackBalls$Tally;") ∈ lwt := List.mem_filter.mpr ⟨List.mem_append_right _ (List.mem_of_getElem? (i := 136) (by decide +kernel)), rfl⟩
theorem tw137 : (Cond.fieldLink RX11 42 RX11 "turnout" "LBlackBalls$Turnout;") ∈ lwt := List.mem_filter.mpr ⟨List.mem_append_right _ (List.mem_of_getElem? (i := 137) (by decide +kernel)), rfl⟩
theorem tw138 : (Cond.fieldLink RX11 49 RX11 "ballot" "LBlackBalls$Ballot;") ∈ lwt := List.mem_filter.mpr ⟨List.mem_append_right _ (List.mem_of_getElem? (i := 138) (by decide +kernel)), rfl⟩
theorem tw139 : (Cond.fieldLink RX11 56 RX11 "club" "LBlackBalls$Club;") ∈ lwt := List.mem_filter.mpr ⟨List.mem_append_right _ (List.mem_of_getElem? (i := 139) (by decide +kernel)), rfl⟩
theorem tw140 : (Cond.fieldLink RX11 60 RX11 "vetoRow" "[J") ∈ lwt := List.mem_filter.mpr ⟨List.mem_append_right _ (List.mem_of_getElem? (i := 140) (by decide +kernel)), rfl⟩
theorem tw141 : (Cond.fieldLink RX11 79 RX11 "ruleCount" "I") ∈ lwt := List.mem_filter.mpr ⟨List.mem_append_right _ (List.mem_of_getElem? (i := 141) (by decide +kernel)), rfl⟩
theorem tw142 : (Cond.fieldLink RX11 103 RX11 "peopleCount" "I") ∈ lwt := List.mem_filter.mpr ⟨List.mem_append_right _ (List.mem_of_getElem? (i := 142) (by decide +kernel)), rfl⟩
theorem tw143 : (Cond.fieldLink RX11 126 RX11 "candidateCount" "I") ∈ lwt := List.mem_filter.mpr ⟨List.mem_append_right _ (List.mem_of_getElem? (i := 143) (by decide +kernel)), rfl⟩
theorem tw144 : (Cond.fieldLink RX11 291 RX11 "imageKept" "Z") ∈ lwt := List.mem_filter.mpr ⟨List.mem_append_right _ (List.mem_of_getElem? (i := 144) (by decide +kernel)), rfl⟩
theorem tw145 : (Cond.laysFinal RX11 RX11 "page" "LBlackBalls$Page;") ∈ lwt := List.mem_filter.mpr ⟨List.mem_append_right _ (List.mem_of_getElem? (i := 145) (by decide +kernel)), rfl⟩
theorem tw147 : (Cond.laysFinal RX11 RX11 "rules" "[LBlackBalls$Rule;") ∈ lwt := List.mem_filter.mpr ⟨List.mem_append_right _ (List.mem_of_getElem? (i := 147) (by decide +kernel)), rfl⟩
theorem tw149 : (Cond.laysFinal RX11 RX11 "people" "[LBlackBalls$Person;") ∈ lwt := List.mem_filter.mpr ⟨List.mem_append_right _ (List.mem_of_getElem? (i := 149) (by decide +kernel)), rfl⟩
theorem tw151 : (Cond.laysFinal RX11 RX11 "friends" "[I") ∈ lwt := List.mem_filter.mpr ⟨List.mem_append_right _ (List.mem_of_getElem? (i := 151) (by decide +kernel)), rfl⟩
theorem tw153 : (Cond.laysFinal RX11 RX11 "tally" "LBlackBalls$Tally;") ∈ lwt := List.mem_filter.mpr ⟨List.mem_append_right _ (List.mem_of_getElem? (i := 153) (by decide +kernel)), rfl⟩
theorem tw155 : (Cond.laysFinal RX11 RX11 "turnout" "LBlackBalls$Turnout;") ∈ lwt := List.mem_filter.mpr ⟨List.mem_append_right _ (List.mem_of_getElem? (i := 155) (by decide +kernel)), rfl⟩
theorem tw157 : (Cond.laysFinal RX11 RX11 "ballot" "LBlackBalls$Ballot;") ∈ lwt := List.mem_filter.mpr ⟨List.mem_append_right _ (List.mem_of_getElem? (i := 157) (by decide +kernel)), rfl⟩
theorem tw159 : (Cond.laysFinal RX11 RX11 "club" "LBlackBalls$Club;") ∈ lwt := List.mem_filter.mpr ⟨List.mem_append_right _ (List.mem_of_getElem? (i := 159) (by decide +kernel)), rfl⟩
theorem tw161 : (Cond.laysFinal RX11 RX11 "vetoRow" "[J") ∈ lwt := List.mem_filter.mpr ⟨List.mem_append_right _ (List.mem_of_getElem? (i := 161) (by decide +kernel)), rfl⟩
theorem tw163 : (Cond.lays RX11 RX11 "ruleCount" "I") ∈ lwt := List.mem_filter.mpr ⟨List.mem_append_right _ (List.mem_of_getElem? (i := 163) (by decide +kernel)), rfl⟩
theorem tw165 : (Cond.lays RX11 RX11 "peopleCount" "I") ∈ lwt := List.mem_filter.mpr ⟨List.mem_append_right _ (List.mem_of_getElem? (i := 165) (by decide +kernel)), rfl⟩
theorem tw167 : (Cond.lays RX11 RX11 "candidateCount" "I") ∈ lwt := List.mem_filter.mpr ⟨List.mem_append_right _ (List.mem_of_getElem? (i := 167) (by decide +kernel)), rfl⟩
theorem tw169 : (Cond.lays RX11 RX11 "imageKept" "Z") ∈ lwt := List.mem_filter.mpr ⟨List.mem_append_right _ (List.mem_of_getElem? (i := 169) (by decide +kernel)), rfl⟩
theorem tw172 : (Cond.methodLink RL 15 yX11_letters) ∈ lwt := List.mem_filter.mpr ⟨List.mem_append_right _ (List.mem_of_getElem? (i := 172) (by decide +kernel)), rfl⟩
theorem tw173 : (Cond.instanceMethod yX11_letters) ∈ lwt := List.mem_filter.mpr ⟨List.mem_append_right _ (List.mem_of_getElem? (i := 173) (by decide +kernel)), rfl⟩
theorem tw174 : (Cond.selects RX11 yX11_letters yX11_letters) ∈ lwt := List.mem_filter.mpr ⟨List.mem_append_right _ (List.mem_of_getElem? (i := 174) (by decide +kernel)), rfl⟩
theorem tw175 : (Cond.code yX11_letters cX11_letters 3 (Option.some FieldType.int)) ∈ lwt := List.mem_filter.mpr ⟨List.mem_append_right _ (List.mem_of_getElem? (i := 175) (by decide +kernel)), rfl⟩
theorem tw176 : (Cond.methodLink RX11 64 yX4_write) ∈ lwt := List.mem_filter.mpr ⟨List.mem_append_right _ (List.mem_of_getElem? (i := 176) (by decide +kernel)), rfl⟩
theorem tw177 : (Cond.instanceMethod yX4_write) ∈ lwt := List.mem_filter.mpr ⟨List.mem_append_right _ (List.mem_of_getElem? (i := 177) (by decide +kernel)), rfl⟩
theorem tw178 : (Cond.selects RX4 yX4_write yX4_write) ∈ lwt := List.mem_filter.mpr ⟨List.mem_append_right _ (List.mem_of_getElem? (i := 178) (by decide +kernel)), rfl⟩
theorem tw179 : (Cond.code yX4_write cX4_write 5 (Option.some FieldType.int)) ∈ lwt := List.mem_filter.mpr ⟨List.mem_append_right _ (List.mem_of_getElem? (i := 179) (by decide +kernel)), rfl⟩
theorem tw180 : (Cond.methodLink RX4 15 yX4_howManyLetters) ∈ lwt := List.mem_filter.mpr ⟨List.mem_append_right _ (List.mem_of_getElem? (i := 180) (by decide +kernel)), rfl⟩
theorem tw181 : (Cond.static yX4_howManyLetters) ∈ lwt := List.mem_filter.mpr ⟨List.mem_append_right _ (List.mem_of_getElem? (i := 181) (by decide +kernel)), rfl⟩
theorem tw182 : (Cond.code yX4_howManyLetters cX4_howManyLetters 5 (Option.some FieldType.int)) ∈ lwt := List.mem_filter.mpr ⟨List.mem_append_right _ (List.mem_of_getElem? (i := 182) (by decide +kernel)), rfl⟩
theorem tw183 : (Cond.methodLink RX4 23 yX4_codeIn) ∈ lwt := List.mem_filter.mpr ⟨List.mem_append_right _ (List.mem_of_getElem? (i := 183) (by decide +kernel)), rfl⟩
theorem tw184 : (Cond.static yX4_codeIn) ∈ lwt := List.mem_filter.mpr ⟨List.mem_append_right _ (List.mem_of_getElem? (i := 184) (by decide +kernel)), rfl⟩
theorem tw185 : (Cond.code yX4_codeIn cX4_codeIn 3 (Option.some FieldType.int)) ∈ lwt := List.mem_filter.mpr ⟨List.mem_append_right _ (List.mem_of_getElem? (i := 185) (by decide +kernel)), rfl⟩
theorem tw186 : (Cond.constantLong RX4 52 (255 : Int64)) ∈ lwt := List.mem_filter.mpr ⟨List.mem_append_right _ (List.mem_of_getElem? (i := 186) (by decide +kernel)), rfl⟩
theorem tw187 : (Cond.methodLink RL 20 yX11_blank) ∈ lwt := List.mem_filter.mpr ⟨List.mem_append_right _ (List.mem_of_getElem? (i := 187) (by decide +kernel)), rfl⟩
theorem tw188 : (Cond.instanceMethod yX11_blank) ∈ lwt := List.mem_filter.mpr ⟨List.mem_append_right _ (List.mem_of_getElem? (i := 188) (by decide +kernel)), rfl⟩
theorem tw189 : (Cond.selects RX11 yX11_blank yX11_blank) ∈ lwt := List.mem_filter.mpr ⟨List.mem_append_right _ (List.mem_of_getElem? (i := 189) (by decide +kernel)), rfl⟩
theorem tw190 : (Cond.code yX11_blank cX11_blank 1 (Option.some FieldType.int)) ∈ lwt := List.mem_filter.mpr ⟨List.mem_append_right _ (List.mem_of_getElem? (i := 190) (by decide +kernel)), rfl⟩
theorem tw191 : (Cond.methodLink RX11 68 yX4_wipe) ∈ lwt := List.mem_filter.mpr ⟨List.mem_append_right _ (List.mem_of_getElem? (i := 191) (by decide +kernel)), rfl⟩
theorem tw192 : (Cond.instanceMethod yX4_wipe) ∈ lwt := List.mem_filter.mpr ⟨List.mem_append_right _ (List.mem_of_getElem? (i := 192) (by decide +kernel)), rfl⟩
theorem tw193 : (Cond.selects RX4 yX4_wipe yX4_wipe) ∈ lwt := List.mem_filter.mpr ⟨List.mem_append_right _ (List.mem_of_getElem? (i := 193) (by decide +kernel)), rfl⟩
theorem tw194 : (Cond.code yX4_wipe cX4_wipe 2 (Option.some FieldType.int)) ∈ lwt := List.mem_filter.mpr ⟨List.mem_append_right _ (List.mem_of_getElem? (i := 194) (by decide +kernel)), rfl⟩
theorem tw195 : (Cond.methodLink RL 25 yX11_fault) ∈ lwt := List.mem_filter.mpr ⟨List.mem_append_right _ (List.mem_of_getElem? (i := 195) (by decide +kernel)), rfl⟩
theorem tw196 : (Cond.instanceMethod yX11_fault) ∈ lwt := List.mem_filter.mpr ⟨List.mem_append_right _ (List.mem_of_getElem? (i := 196) (by decide +kernel)), rfl⟩
theorem tw197 : (Cond.selects RX11 yX11_fault yX11_fault) ∈ lwt := List.mem_filter.mpr ⟨List.mem_append_right _ (List.mem_of_getElem? (i := 197) (by decide +kernel)), rfl⟩
theorem tw198 : (Cond.code yX11_fault cX11_fault 1 (Option.some FieldType.int)) ∈ lwt := List.mem_filter.mpr ⟨List.mem_append_right _ (List.mem_of_getElem? (i := 198) (by decide +kernel)), rfl⟩
theorem tw199 : (Cond.methodLink RX11 72 yX4_firstFault) ∈ lwt := List.mem_filter.mpr ⟨List.mem_append_right _ (List.mem_of_getElem? (i := 199) (by decide +kernel)), rfl⟩
theorem tw200 : (Cond.instanceMethod yX4_firstFault) ∈ lwt := List.mem_filter.mpr ⟨List.mem_append_right _ (List.mem_of_getElem? (i := 200) (by decide +kernel)), rfl⟩
theorem tw201 : (Cond.selects RX4 yX4_firstFault yX4_firstFault) ∈ lwt := List.mem_filter.mpr ⟨List.mem_append_right _ (List.mem_of_getElem? (i := 201) (by decide +kernel)), rfl⟩
theorem tw202 : (Cond.code yX4_firstFault cX4_firstFault 3 (Option.some FieldType.int)) ∈ lwt := List.mem_filter.mpr ⟨List.mem_append_right _ (List.mem_of_getElem? (i := 202) (by decide +kernel)), rfl⟩
theorem tw203 : (Cond.methodLink RX4 27 yX4_dueBehind) ∈ lwt := List.mem_filter.mpr ⟨List.mem_append_right _ (List.mem_of_getElem? (i := 203) (by decide +kernel)), rfl⟩
theorem tw204 : (Cond.static yX4_dueBehind) ∈ lwt := List.mem_filter.mpr ⟨List.mem_append_right _ (List.mem_of_getElem? (i := 204) (by decide +kernel)), rfl⟩
theorem tw205 : (Cond.code yX4_dueBehind cX4_dueBehind 2 (Option.some FieldType.int)) ∈ lwt := List.mem_filter.mpr ⟨List.mem_append_right _ (List.mem_of_getElem? (i := 205) (by decide +kernel)), rfl⟩
theorem tn206 : (Cond.methodLinkNest RX4 54 yX11_within RX11) ∈ lw_tbl := List.mem_append_right _ (List.mem_of_getElem? (i := 206) (by decide +kernel))
theorem tw207 : (Cond.static yX11_within) ∈ lwt := List.mem_filter.mpr ⟨List.mem_append_right _ (List.mem_of_getElem? (i := 207) (by decide +kernel)), rfl⟩
theorem tw208 : (Cond.code yX11_within cX11_within 3 (Option.some FieldType.boolean)) ∈ lwt := List.mem_filter.mpr ⟨List.mem_append_right _ (List.mem_of_getElem? (i := 208) (by decide +kernel)), rfl⟩
theorem tw209 : (Cond.methodLink RX4 31 yX4_isCount) ∈ lwt := List.mem_filter.mpr ⟨List.mem_append_right _ (List.mem_of_getElem? (i := 209) (by decide +kernel)), rfl⟩
theorem tw210 : (Cond.static yX4_isCount) ∈ lwt := List.mem_filter.mpr ⟨List.mem_append_right _ (List.mem_of_getElem? (i := 210) (by decide +kernel)), rfl⟩
theorem tw211 : (Cond.code yX4_isCount cX4_isCount 1 (Option.some FieldType.boolean)) ∈ lwt := List.mem_filter.mpr ⟨List.mem_append_right _ (List.mem_of_getElem? (i := 211) (by decide +kernel)), rfl⟩
theorem tw212 : (Cond.methodLink RL 29 yX11_rule) ∈ lwt := List.mem_filter.mpr ⟨List.mem_append_right _ (List.mem_of_getElem? (i := 212) (by decide +kernel)), rfl⟩
theorem tw213 : (Cond.instanceMethod yX11_rule) ∈ lwt := List.mem_filter.mpr ⟨List.mem_append_right _ (List.mem_of_getElem? (i := 213) (by decide +kernel)), rfl⟩
theorem tw214 : (Cond.selects RX11 yX11_rule yX11_rule) ∈ lwt := List.mem_filter.mpr ⟨List.mem_append_right _ (List.mem_of_getElem? (i := 214) (by decide +kernel)), rfl⟩
theorem tw215 : (Cond.code yX11_rule cX11_rule 1 (Option.some FieldType.int)) ∈ lwt := List.mem_filter.mpr ⟨List.mem_append_right _ (List.mem_of_getElem? (i := 215) (by decide +kernel)), rfl⟩
theorem tw216 : (Cond.methodLink RX11 75 yX4_isRule) ∈ lwt := List.mem_filter.mpr ⟨List.mem_append_right _ (List.mem_of_getElem? (i := 216) (by decide +kernel)), rfl⟩
theorem tw217 : (Cond.instanceMethod yX4_isRule) ∈ lwt := List.mem_filter.mpr ⟨List.mem_append_right _ (List.mem_of_getElem? (i := 217) (by decide +kernel)), rfl⟩
theorem tw218 : (Cond.selects RX4 yX4_isRule yX4_isRule) ∈ lwt := List.mem_filter.mpr ⟨List.mem_append_right _ (List.mem_of_getElem? (i := 218) (by decide +kernel)), rfl⟩
theorem tw219 : (Cond.code yX4_isRule cX4_isRule 1 (Option.some FieldType.boolean)) ∈ lwt := List.mem_filter.mpr ⟨List.mem_append_right _ (List.mem_of_getElem? (i := 219) (by decide +kernel)), rfl⟩
theorem tw220 : (Cond.methodLink RX4 35 yX4_firstFault) ∈ lwt := List.mem_filter.mpr ⟨List.mem_append_right _ (List.mem_of_getElem? (i := 220) (by decide +kernel)), rfl⟩
theorem tw221 : (Cond.methodLink RX11 83 yX4_toRule) ∈ lwt := List.mem_filter.mpr ⟨List.mem_append_right _ (List.mem_of_getElem? (i := 221) (by decide +kernel)), rfl⟩
theorem tw222 : (Cond.instanceMethod yX4_toRule) ∈ lwt := List.mem_filter.mpr ⟨List.mem_append_right _ (List.mem_of_getElem? (i := 222) (by decide +kernel)), rfl⟩
theorem tw223 : (Cond.selects RX4 yX4_toRule yX4_toRule) ∈ lwt := List.mem_filter.mpr ⟨List.mem_append_right _ (List.mem_of_getElem? (i := 223) (by decide +kernel)), rfl⟩
theorem tw224 : (Cond.code yX4_toRule cX4_toRule 7 (Option.some (FieldType.object "BlackBalls$Rule"))) ∈ lwt := List.mem_filter.mpr ⟨List.mem_append_right _ (List.mem_of_getElem? (i := 224) (by decide +kernel)), rfl⟩
theorem tw225 : (Cond.methodLink RX4 39 yX4_codeAt) ∈ lwt := List.mem_filter.mpr ⟨List.mem_append_right _ (List.mem_of_getElem? (i := 225) (by decide +kernel)), rfl⟩
theorem tw227 : (Cond.instanceMethod yX4_codeAt) ∈ lwt := List.mem_filter.mpr ⟨List.mem_append_right _ (List.mem_of_getElem? (i := 227) (by decide +kernel)), rfl⟩
theorem tw228 : (Cond.code yX4_codeAt cX4_codeAt 2 (Option.some FieldType.int)) ∈ lwt := List.mem_filter.mpr ⟨List.mem_append_right _ (List.mem_of_getElem? (i := 228) (by decide +kernel)), rfl⟩
theorem tw229 : (Cond.classLink RX4 43 RX6) ∈ lwt := List.mem_filter.mpr ⟨List.mem_append_right _ (List.mem_of_getElem? (i := 229) (by decide +kernel)), rfl⟩
theorem tw230 : (Cond.instantiable RX6 5) ∈ lwt := List.mem_filter.mpr ⟨List.mem_append_right _ (List.mem_of_getElem? (i := 230) (by decide +kernel)), rfl⟩
theorem tw231 : (Cond.methodLink RX4 45 yX6_init) ∈ lwt := List.mem_filter.mpr ⟨List.mem_append_right _ (List.mem_of_getElem? (i := 231) (by decide +kernel)), rfl⟩
theorem tw232 : (Cond.instanceMethod yX6_init) ∈ lwt := List.mem_filter.mpr ⟨List.mem_append_right _ (List.mem_of_getElem? (i := 232) (by decide +kernel)), rfl⟩
theorem tw233 : (Cond.code yX6_init cX6_init 6 (Option.none : Option FieldType)) ∈ lwt := List.mem_filter.mpr ⟨List.mem_append_right _ (List.mem_of_getElem? (i := 233) (by decide +kernel)), rfl⟩
theorem tw234 : (Cond.methodLink RX6 1 objectInit) ∈ lwt := List.mem_filter.mpr ⟨List.mem_append_right _ (List.mem_of_getElem? (i := 234) (by decide +kernel)), rfl⟩
theorem tw235 : (Cond.fieldLink RX6 7 RX6 "blacks" "I") ∈ lwt := List.mem_filter.mpr ⟨List.mem_append_right _ (List.mem_of_getElem? (i := 235) (by decide +kernel)), rfl⟩
theorem tw236 : (Cond.fieldLink RX6 13 RX6 "ratio" "I") ∈ lwt := List.mem_filter.mpr ⟨List.mem_append_right _ (List.mem_of_getElem? (i := 236) (by decide +kernel)), rfl⟩
theorem tw237 : (Cond.fieldLink RX6 16 RX6 "quorum" "I") ∈ lwt := List.mem_filter.mpr ⟨List.mem_append_right _ (List.mem_of_getElem? (i := 237) (by decide +kernel)), rfl⟩
theorem tw238 : (Cond.fieldLink RX6 19 RX6 "twice" "Z") ∈ lwt := List.mem_filter.mpr ⟨List.mem_append_right _ (List.mem_of_getElem? (i := 238) (by decide +kernel)), rfl⟩
theorem tn239 : (Cond.fieldLinkNest RX0 38 RX6 "twice" "Z" RX11) ∈ lw_tbl := List.mem_append_right _ (List.mem_of_getElem? (i := 239) (by decide +kernel))
theorem tn240 : (Cond.fieldLinkNest RX11 194 RX6 "twice" "Z" RX11) ∈ lw_tbl := List.mem_append_right _ (List.mem_of_getElem? (i := 240) (by decide +kernel))
theorem tw241 : (Cond.fieldLink RX6 23 RX6 "countTold" "Z") ∈ lwt := List.mem_filter.mpr ⟨List.mem_append_right _ (List.mem_of_getElem? (i := 241) (by decide +kernel)), rfl⟩
theorem tn242 : (Cond.fieldLinkNest RX11 343 RX6 "countTold" "Z" RX11) ∈ lw_tbl := List.mem_append_right _ (List.mem_of_getElem? (i := 242) (by decide +kernel))
theorem tw243 : (Cond.laysFinal RX6 RX6 "blacks" "I") ∈ lwt := List.mem_filter.mpr ⟨List.mem_append_right _ (List.mem_of_getElem? (i := 243) (by decide +kernel)), rfl⟩
theorem tw245 : (Cond.laysFinal RX6 RX6 "ratio" "I") ∈ lwt := List.mem_filter.mpr ⟨List.mem_append_right _ (List.mem_of_getElem? (i := 245) (by decide +kernel)), rfl⟩
theorem tw247 : (Cond.laysFinal RX6 RX6 "quorum" "I") ∈ lwt := List.mem_filter.mpr ⟨List.mem_append_right _ (List.mem_of_getElem? (i := 247) (by decide +kernel)), rfl⟩
theorem tw249 : (Cond.laysFinal RX6 RX6 "twice" "Z") ∈ lwt := List.mem_filter.mpr ⟨List.mem_append_right _ (List.mem_of_getElem? (i := 249) (by decide +kernel)), rfl⟩
theorem tw251 : (Cond.laysFinal RX6 RX6 "countTold" "Z") ∈ lwt := List.mem_filter.mpr ⟨List.mem_append_right _ (List.mem_of_getElem? (i := 251) (by decide +kernel)), rfl⟩
theorem tw254 : (Cond.methodLink RL 33 yX11_ruleTold) ∈ lwt := List.mem_filter.mpr ⟨List.mem_append_right _ (List.mem_of_getElem? (i := 254) (by decide +kernel)), rfl⟩
theorem tw255 : (Cond.instanceMethod yX11_ruleTold) ∈ lwt := List.mem_filter.mpr ⟨List.mem_append_right _ (List.mem_of_getElem? (i := 255) (by decide +kernel)), rfl⟩
theorem tw256 : (Cond.selects RX11 yX11_ruleTold yX11_ruleTold) ∈ lwt := List.mem_filter.mpr ⟨List.mem_append_right _ (List.mem_of_getElem? (i := 256) (by decide +kernel)), rfl⟩
theorem tw257 : (Cond.code yX11_ruleTold cX11_ruleTold 4 (Option.some FieldType.int)) ∈ lwt := List.mem_filter.mpr ⟨List.mem_append_right _ (List.mem_of_getElem? (i := 257) (by decide +kernel)), rfl⟩
theorem tw258 : (Cond.methodLink RX11 87 yX11_ruleAt) ∈ lwt := List.mem_filter.mpr ⟨List.mem_append_right _ (List.mem_of_getElem? (i := 258) (by decide +kernel)), rfl⟩
theorem tw260 : (Cond.instanceMethod yX11_ruleAt) ∈ lwt := List.mem_filter.mpr ⟨List.mem_append_right _ (List.mem_of_getElem? (i := 260) (by decide +kernel)), rfl⟩
theorem tw261 : (Cond.code yX11_ruleAt cX11_ruleAt 2 (Option.some (FieldType.object "BlackBalls$Rule"))) ∈ lwt := List.mem_filter.mpr ⟨List.mem_append_right _ (List.mem_of_getElem? (i := 261) (by decide +kernel)), rfl⟩
theorem tw262 : (Cond.methodLink RX11 91 yX11_within) ∈ lwt := List.mem_filter.mpr ⟨List.mem_append_right _ (List.mem_of_getElem? (i := 262) (by decide +kernel)), rfl⟩
theorem tw263 : (Cond.methodLink RX11 95 yX6_told) ∈ lwt := List.mem_filter.mpr ⟨List.mem_append_right _ (List.mem_of_getElem? (i := 263) (by decide +kernel)), rfl⟩
theorem tw264 : (Cond.instanceMethod yX6_told) ∈ lwt := List.mem_filter.mpr ⟨List.mem_append_right _ (List.mem_of_getElem? (i := 264) (by decide +kernel)), rfl⟩
theorem tw265 : (Cond.selects RX6 yX6_told yX6_told) ∈ lwt := List.mem_filter.mpr ⟨List.mem_append_right _ (List.mem_of_getElem? (i := 265) (by decide +kernel)), rfl⟩
theorem tw266 : (Cond.code yX6_told cX6_told 2 (Option.some FieldType.int)) ∈ lwt := List.mem_filter.mpr ⟨List.mem_append_right _ (List.mem_of_getElem? (i := 266) (by decide +kernel)), rfl⟩
theorem tw267 : (Cond.methodLink RL 38 yX11_member) ∈ lwt := List.mem_filter.mpr ⟨List.mem_append_right _ (List.mem_of_getElem? (i := 267) (by decide +kernel)), rfl⟩
theorem tw268 : (Cond.instanceMethod yX11_member) ∈ lwt := List.mem_filter.mpr ⟨List.mem_append_right _ (List.mem_of_getElem? (i := 268) (by decide +kernel)), rfl⟩
theorem tw269 : (Cond.selects RX11 yX11_member yX11_member) ∈ lwt := List.mem_filter.mpr ⟨List.mem_append_right _ (List.mem_of_getElem? (i := 269) (by decide +kernel)), rfl⟩
theorem tw270 : (Cond.code yX11_member cX11_member 4 (Option.some FieldType.int)) ∈ lwt := List.mem_filter.mpr ⟨List.mem_append_right _ (List.mem_of_getElem? (i := 270) (by decide +kernel)), rfl⟩
theorem tw271 : (Cond.methodLink RX11 99 yX11_personAt) ∈ lwt := List.mem_filter.mpr ⟨List.mem_append_right _ (List.mem_of_getElem? (i := 271) (by decide +kernel)), rfl⟩
theorem tw273 : (Cond.instanceMethod yX11_personAt) ∈ lwt := List.mem_filter.mpr ⟨List.mem_append_right _ (List.mem_of_getElem? (i := 273) (by decide +kernel)), rfl⟩
theorem tw274 : (Cond.code yX11_personAt cX11_personAt 2 (Option.some (FieldType.object "BlackBalls$Person"))) ∈ lwt := List.mem_filter.mpr ⟨List.mem_append_right _ (List.mem_of_getElem? (i := 274) (by decide +kernel)), rfl⟩
theorem tw275 : (Cond.methodLink RX11 106 yX11_newPerson) ∈ lwt := List.mem_filter.mpr ⟨List.mem_append_right _ (List.mem_of_getElem? (i := 275) (by decide +kernel)), rfl⟩
theorem tw277 : (Cond.instanceMethod yX11_newPerson) ∈ lwt := List.mem_filter.mpr ⟨List.mem_append_right _ (List.mem_of_getElem? (i := 277) (by decide +kernel)), rfl⟩
theorem tw278 : (Cond.code yX11_newPerson cX11_newPerson 4 (Option.some (FieldType.object "BlackBalls$Person"))) ∈ lwt := List.mem_filter.mpr ⟨List.mem_append_right _ (List.mem_of_getElem? (i := 278) (by decide +kernel)), rfl⟩
theorem tw279 : (Cond.classLink RX11 324 RX2) ∈ lwt := List.mem_filter.mpr ⟨List.mem_append_right _ (List.mem_of_getElem? (i := 279) (by decide +kernel)), rfl⟩
theorem tw280 : (Cond.instantiable RX2 6) ∈ lwt := List.mem_filter.mpr ⟨List.mem_append_right _ (List.mem_of_getElem? (i := 280) (by decide +kernel)), rfl⟩
theorem tw281 : (Cond.methodLink RX11 326 yX2_init) ∈ lwt := List.mem_filter.mpr ⟨List.mem_append_right _ (List.mem_of_getElem? (i := 281) (by decide +kernel)), rfl⟩
theorem tw282 : (Cond.instanceMethod yX2_init) ∈ lwt := List.mem_filter.mpr ⟨List.mem_append_right _ (List.mem_of_getElem? (i := 282) (by decide +kernel)), rfl⟩
theorem tw283 : (Cond.code yX2_init cX2_init 3 (Option.none : Option FieldType)) ∈ lwt := List.mem_filter.mpr ⟨List.mem_append_right _ (List.mem_of_getElem? (i := 283) (by decide +kernel)), rfl⟩
theorem tw284 : (Cond.methodLink RX2 3 yX5_init) ∈ lwt := List.mem_filter.mpr ⟨List.mem_append_right _ (List.mem_of_getElem? (i := 284) (by decide +kernel)), rfl⟩
theorem tw285 : (Cond.instanceMethod yX5_init) ∈ lwt := List.mem_filter.mpr ⟨List.mem_append_right _ (List.mem_of_getElem? (i := 285) (by decide +kernel)), rfl⟩
theorem tw286 : (Cond.code yX5_init cX5_init 3 (Option.none : Option FieldType)) ∈ lwt := List.mem_filter.mpr ⟨List.mem_append_right _ (List.mem_of_getElem? (i := 286) (by decide +kernel)), rfl⟩
theorem tw287 : (Cond.methodLink RX5 3 objectInit) ∈ lwt := List.mem_filter.mpr ⟨List.mem_append_right _ (List.mem_of_getElem? (i := 287) (by decide +kernel)), rfl⟩
theorem tw288 : (Cond.fieldLink RX5 22 RX5 "number" "I") ∈ lwt := List.mem_filter.mpr ⟨List.mem_append_right _ (List.mem_of_getElem? (i := 288) (by decide +kernel)), rfl⟩
theorem tn289 : (Cond.fieldLinkNest RX11 114 RX5 "number" "I" RX11) ∈ lw_tbl := List.mem_append_right _ (List.mem_of_getElem? (i := 289) (by decide +kernel))
theorem tw290 : (Cond.fieldLink RX5 9 RX5 "mindsEach" "[I") ∈ lwt := List.mem_filter.mpr ⟨List.mem_append_right _ (List.mem_of_getElem? (i := 290) (by decide +kernel)), rfl⟩
theorem tw291 : (Cond.fieldLink RX5 15 RX5 "keptMinds" "[I") ∈ lwt := List.mem_filter.mpr ⟨List.mem_append_right _ (List.mem_of_getElem? (i := 291) (by decide +kernel)), rfl⟩
theorem tw292 : (Cond.fieldLink RX5 25 RX5 "comesTenths" "I") ∈ lwt := List.mem_filter.mpr ⟨List.mem_append_right _ (List.mem_of_getElem? (i := 292) (by decide +kernel)), rfl⟩
theorem tn293 : (Cond.fieldLinkNest RX11 123 RX5 "comesTenths" "I" RX11) ∈ lw_tbl := List.mem_append_right _ (List.mem_of_getElem? (i := 293) (by decide +kernel))
theorem tw294 : (Cond.fieldLink RX5 18 RX5 "keptComes" "I") ∈ lwt := List.mem_filter.mpr ⟨List.mem_append_right _ (List.mem_of_getElem? (i := 294) (by decide +kernel)), rfl⟩
theorem tw295 : (Cond.fieldLink RX5 42 RX5 "keptCandidates" "I") ∈ lwt := List.mem_filter.mpr ⟨List.mem_append_right _ (List.mem_of_getElem? (i := 295) (by decide +kernel)), rfl⟩
theorem tw296 : (Cond.laysFinal RX2 RX5 "number" "I") ∈ lwt := List.mem_filter.mpr ⟨List.mem_append_right _ (List.mem_of_getElem? (i := 296) (by decide +kernel)), rfl⟩
theorem tw298 : (Cond.laysFinal RX2 RX5 "mindsEach" "[I") ∈ lwt := List.mem_filter.mpr ⟨List.mem_append_right _ (List.mem_of_getElem? (i := 298) (by decide +kernel)), rfl⟩
theorem tw300 : (Cond.laysFinal RX2 RX5 "keptMinds" "[I") ∈ lwt := List.mem_filter.mpr ⟨List.mem_append_right _ (List.mem_of_getElem? (i := 300) (by decide +kernel)), rfl⟩
theorem tw302 : (Cond.lays RX2 RX5 "comesTenths" "I") ∈ lwt := List.mem_filter.mpr ⟨List.mem_append_right _ (List.mem_of_getElem? (i := 302) (by decide +kernel)), rfl⟩
theorem tw304 : (Cond.lays RX2 RX5 "keptComes" "I") ∈ lwt := List.mem_filter.mpr ⟨List.mem_append_right _ (List.mem_of_getElem? (i := 304) (by decide +kernel)), rfl⟩
theorem tw306 : (Cond.lays RX2 RX5 "keptCandidates" "I") ∈ lwt := List.mem_filter.mpr ⟨List.mem_append_right _ (List.mem_of_getElem? (i := 306) (by decide +kernel)), rfl⟩
theorem tw309 : (Cond.classLink RX11 328 RX3) ∈ lwt := List.mem_filter.mpr ⟨List.mem_append_right _ (List.mem_of_getElem? (i := 309) (by decide +kernel)), rfl⟩
theorem tw310 : (Cond.instantiable RX3 7) ∈ lwt := List.mem_filter.mpr ⟨List.mem_append_right _ (List.mem_of_getElem? (i := 310) (by decide +kernel)), rfl⟩
theorem tw311 : (Cond.methodLink RX11 330 yX3_init) ∈ lwt := List.mem_filter.mpr ⟨List.mem_append_right _ (List.mem_of_getElem? (i := 311) (by decide +kernel)), rfl⟩
theorem tw312 : (Cond.instanceMethod yX3_init) ∈ lwt := List.mem_filter.mpr ⟨List.mem_append_right _ (List.mem_of_getElem? (i := 312) (by decide +kernel)), rfl⟩
theorem tw313 : (Cond.code yX3_init cX3_init 4 (Option.none : Option FieldType)) ∈ lwt := List.mem_filter.mpr ⟨List.mem_append_right _ (List.mem_of_getElem? (i := 313) (by decide +kernel)), rfl⟩
theorem tw314 : (Cond.methodLink RX3 3 yX5_init) ∈ lwt := List.mem_filter.mpr ⟨List.mem_append_right _ (List.mem_of_getElem? (i := 314) (by decide +kernel)), rfl⟩
theorem tw315 : (Cond.fieldLink RX3 9 RX3 "slips" "I") ∈ lwt := List.mem_filter.mpr ⟨List.mem_append_right _ (List.mem_of_getElem? (i := 315) (by decide +kernel)), rfl⟩
theorem tw316 : (Cond.laysFinal RX3 RX3 "slips" "I") ∈ lwt := List.mem_filter.mpr ⟨List.mem_append_right _ (List.mem_of_getElem? (i := 316) (by decide +kernel)), rfl⟩
theorem tw318 : (Cond.laysFinal RX3 RX5 "number" "I") ∈ lwt := List.mem_filter.mpr ⟨List.mem_append_right _ (List.mem_of_getElem? (i := 318) (by decide +kernel)), rfl⟩
theorem tw319 : (Cond.laysFinal RX3 RX5 "mindsEach" "[I") ∈ lwt := List.mem_filter.mpr ⟨List.mem_append_right _ (List.mem_of_getElem? (i := 319) (by decide +kernel)), rfl⟩
theorem tw320 : (Cond.laysFinal RX3 RX5 "keptMinds" "[I") ∈ lwt := List.mem_filter.mpr ⟨List.mem_append_right _ (List.mem_of_getElem? (i := 320) (by decide +kernel)), rfl⟩
theorem tw321 : (Cond.lays RX3 RX5 "comesTenths" "I") ∈ lwt := List.mem_filter.mpr ⟨List.mem_append_right _ (List.mem_of_getElem? (i := 321) (by decide +kernel)), rfl⟩
theorem tw322 : (Cond.lays RX3 RX5 "keptComes" "I") ∈ lwt := List.mem_filter.mpr ⟨List.mem_append_right _ (List.mem_of_getElem? (i := 322) (by decide +kernel)), rfl⟩
theorem tw323 : (Cond.lays RX3 RX5 "keptCandidates" "I") ∈ lwt := List.mem_filter.mpr ⟨List.mem_append_right _ (List.mem_of_getElem? (i := 323) (by decide +kernel)), rfl⟩
theorem tw325 : (Cond.classLink RX11 333 RX10) ∈ lwt := List.mem_filter.mpr ⟨List.mem_append_right _ (List.mem_of_getElem? (i := 325) (by decide +kernel)), rfl⟩
theorem tw326 : (Cond.instantiable RX10 7) ∈ lwt := List.mem_filter.mpr ⟨List.mem_append_right _ (List.mem_of_getElem? (i := 326) (by decide +kernel)), rfl⟩
theorem tw327 : (Cond.methodLink RX11 335 yX10_init) ∈ lwt := List.mem_filter.mpr ⟨List.mem_append_right _ (List.mem_of_getElem? (i := 327) (by decide +kernel)), rfl⟩
theorem tw328 : (Cond.instanceMethod yX10_init) ∈ lwt := List.mem_filter.mpr ⟨List.mem_append_right _ (List.mem_of_getElem? (i := 328) (by decide +kernel)), rfl⟩
theorem tw329 : (Cond.code yX10_init cX10_init 4 (Option.none : Option FieldType)) ∈ lwt := List.mem_filter.mpr ⟨List.mem_append_right _ (List.mem_of_getElem? (i := 329) (by decide +kernel)), rfl⟩
theorem tw330 : (Cond.methodLink RX10 3 yX5_init) ∈ lwt := List.mem_filter.mpr ⟨List.mem_append_right _ (List.mem_of_getElem? (i := 330) (by decide +kernel)), rfl⟩
theorem tw331 : (Cond.fieldLink RX10 9 RX10 "other" "I") ∈ lwt := List.mem_filter.mpr ⟨List.mem_append_right _ (List.mem_of_getElem? (i := 331) (by decide +kernel)), rfl⟩
theorem tw332 : (Cond.laysFinal RX10 RX10 "other" "I") ∈ lwt := List.mem_filter.mpr ⟨List.mem_append_right _ (List.mem_of_getElem? (i := 332) (by decide +kernel)), rfl⟩
theorem tw334 : (Cond.laysFinal RX10 RX5 "number" "I") ∈ lwt := List.mem_filter.mpr ⟨List.mem_append_right _ (List.mem_of_getElem? (i := 334) (by decide +kernel)), rfl⟩
theorem tw335 : (Cond.laysFinal RX10 RX5 "mindsEach" "[I") ∈ lwt := List.mem_filter.mpr ⟨List.mem_append_right _ (List.mem_of_getElem? (i := 335) (by decide +kernel)), rfl⟩
theorem tw336 : (Cond.laysFinal RX10 RX5 "keptMinds" "[I") ∈ lwt := List.mem_filter.mpr ⟨List.mem_append_right _ (List.mem_of_getElem? (i := 336) (by decide +kernel)), rfl⟩
theorem tw337 : (Cond.lays RX10 RX5 "comesTenths" "I") ∈ lwt := List.mem_filter.mpr ⟨List.mem_append_right _ (List.mem_of_getElem? (i := 337) (by decide +kernel)), rfl⟩
theorem tw338 : (Cond.lays RX10 RX5 "keptComes" "I") ∈ lwt := List.mem_filter.mpr ⟨List.mem_append_right _ (List.mem_of_getElem? (i := 338) (by decide +kernel)), rfl⟩
theorem tw339 : (Cond.lays RX10 RX5 "keptCandidates" "I") ∈ lwt := List.mem_filter.mpr ⟨List.mem_append_right _ (List.mem_of_getElem? (i := 339) (by decide +kernel)), rfl⟩
theorem tw341 : (Cond.classLink RX11 336 RX8) ∈ lwt := List.mem_filter.mpr ⟨List.mem_append_right _ (List.mem_of_getElem? (i := 341) (by decide +kernel)), rfl⟩
theorem tw342 : (Cond.instantiable RX8 7) ∈ lwt := List.mem_filter.mpr ⟨List.mem_append_right _ (List.mem_of_getElem? (i := 342) (by decide +kernel)), rfl⟩
theorem tw343 : (Cond.methodLink RX11 338 yX8_init) ∈ lwt := List.mem_filter.mpr ⟨List.mem_append_right _ (List.mem_of_getElem? (i := 343) (by decide +kernel)), rfl⟩
theorem tw344 : (Cond.instanceMethod yX8_init) ∈ lwt := List.mem_filter.mpr ⟨List.mem_append_right _ (List.mem_of_getElem? (i := 344) (by decide +kernel)), rfl⟩
theorem tw345 : (Cond.code yX8_init cX8_init 4 (Option.none : Option FieldType)) ∈ lwt := List.mem_filter.mpr ⟨List.mem_append_right _ (List.mem_of_getElem? (i := 345) (by decide +kernel)), rfl⟩
theorem tw346 : (Cond.methodLink RX8 3 yX10_init) ∈ lwt := List.mem_filter.mpr ⟨List.mem_append_right _ (List.mem_of_getElem? (i := 346) (by decide +kernel)), rfl⟩
theorem tw347 : (Cond.laysFinal RX8 RX10 "other" "I") ∈ lwt := List.mem_filter.mpr ⟨List.mem_append_right _ (List.mem_of_getElem? (i := 347) (by decide +kernel)), rfl⟩
theorem tw348 : (Cond.laysFinal RX8 RX5 "number" "I") ∈ lwt := List.mem_filter.mpr ⟨List.mem_append_right _ (List.mem_of_getElem? (i := 348) (by decide +kernel)), rfl⟩
theorem tw349 : (Cond.laysFinal RX8 RX5 "mindsEach" "[I") ∈ lwt := List.mem_filter.mpr ⟨List.mem_append_right _ (List.mem_of_getElem? (i := 349) (by decide +kernel)), rfl⟩
theorem tw350 : (Cond.laysFinal RX8 RX5 "keptMinds" "[I") ∈ lwt := List.mem_filter.mpr ⟨List.mem_append_right _ (List.mem_of_getElem? (i := 350) (by decide +kernel)), rfl⟩
theorem tw351 : (Cond.lays RX8 RX5 "comesTenths" "I") ∈ lwt := List.mem_filter.mpr ⟨List.mem_append_right _ (List.mem_of_getElem? (i := 351) (by decide +kernel)), rfl⟩
theorem tw352 : (Cond.lays RX8 RX5 "keptComes" "I") ∈ lwt := List.mem_filter.mpr ⟨List.mem_append_right _ (List.mem_of_getElem? (i := 352) (by decide +kernel)), rfl⟩
theorem tw353 : (Cond.lays RX8 RX5 "keptCandidates" "I") ∈ lwt := List.mem_filter.mpr ⟨List.mem_append_right _ (List.mem_of_getElem? (i := 353) (by decide +kernel)), rfl⟩
theorem tw355 : (Cond.instantiable RX5 6) ∈ lwt := List.mem_filter.mpr ⟨List.mem_append_right _ (List.mem_of_getElem? (i := 355) (by decide +kernel)), rfl⟩
theorem tw356 : (Cond.methodLink RX11 339 yX5_init) ∈ lwt := List.mem_filter.mpr ⟨List.mem_append_right _ (List.mem_of_getElem? (i := 356) (by decide +kernel)), rfl⟩
theorem tw357 : (Cond.laysFinal RX5 RX5 "number" "I") ∈ lwt := List.mem_filter.mpr ⟨List.mem_append_right _ (List.mem_of_getElem? (i := 357) (by decide +kernel)), rfl⟩
theorem tw358 : (Cond.laysFinal RX5 RX5 "mindsEach" "[I") ∈ lwt := List.mem_filter.mpr ⟨List.mem_append_right _ (List.mem_of_getElem? (i := 358) (by decide +kernel)), rfl⟩
theorem tw359 : (Cond.laysFinal RX5 RX5 "keptMinds" "[I") ∈ lwt := List.mem_filter.mpr ⟨List.mem_append_right _ (List.mem_of_getElem? (i := 359) (by decide +kernel)), rfl⟩
theorem tw360 : (Cond.lays RX5 RX5 "comesTenths" "I") ∈ lwt := List.mem_filter.mpr ⟨List.mem_append_right _ (List.mem_of_getElem? (i := 360) (by decide +kernel)), rfl⟩
theorem tw361 : (Cond.lays RX5 RX5 "keptComes" "I") ∈ lwt := List.mem_filter.mpr ⟨List.mem_append_right _ (List.mem_of_getElem? (i := 361) (by decide +kernel)), rfl⟩
theorem tw362 : (Cond.lays RX5 RX5 "keptCandidates" "I") ∈ lwt := List.mem_filter.mpr ⟨List.mem_append_right _ (List.mem_of_getElem? (i := 362) (by decide +kernel)), rfl⟩
theorem tw364 : (Cond.methodLink RL 43 yX11_as) ∈ lwt := List.mem_filter.mpr ⟨List.mem_append_right _ (List.mem_of_getElem? (i := 364) (by decide +kernel)), rfl⟩
theorem tw365 : (Cond.instanceMethod yX11_as) ∈ lwt := List.mem_filter.mpr ⟨List.mem_append_right _ (List.mem_of_getElem? (i := 365) (by decide +kernel)), rfl⟩
theorem tw366 : (Cond.selects RX11 yX11_as yX11_as) ∈ lwt := List.mem_filter.mpr ⟨List.mem_append_right _ (List.mem_of_getElem? (i := 366) (by decide +kernel)), rfl⟩
theorem tw367 : (Cond.code yX11_as cX11_as 4 (Option.some FieldType.int)) ∈ lwt := List.mem_filter.mpr ⟨List.mem_append_right _ (List.mem_of_getElem? (i := 367) (by decide +kernel)), rfl⟩
theorem tw368 : (Cond.methodLink RX11 110 yX11_isSuch) ∈ lwt := List.mem_filter.mpr ⟨List.mem_append_right _ (List.mem_of_getElem? (i := 368) (by decide +kernel)), rfl⟩
theorem tw369 : (Cond.static yX11_isSuch) ∈ lwt := List.mem_filter.mpr ⟨List.mem_append_right _ (List.mem_of_getElem? (i := 369) (by decide +kernel)), rfl⟩
theorem tw370 : (Cond.code yX11_isSuch cX11_isSuch 2 (Option.some FieldType.boolean)) ∈ lwt := List.mem_filter.mpr ⟨List.mem_append_right _ (List.mem_of_getElem? (i := 370) (by decide +kernel)), rfl⟩
theorem tw371 : (Cond.methodLink RL 47 yX11_about) ∈ lwt := List.mem_filter.mpr ⟨List.mem_append_right _ (List.mem_of_getElem? (i := 371) (by decide +kernel)), rfl⟩
theorem tw372 : (Cond.instanceMethod yX11_about) ∈ lwt := List.mem_filter.mpr ⟨List.mem_append_right _ (List.mem_of_getElem? (i := 372) (by decide +kernel)), rfl⟩
theorem tw373 : (Cond.selects RX11 yX11_about yX11_about) ∈ lwt := List.mem_filter.mpr ⟨List.mem_append_right _ (List.mem_of_getElem? (i := 373) (by decide +kernel)), rfl⟩
theorem tw374 : (Cond.code yX11_about cX11_about 4 (Option.some FieldType.int)) ∈ lwt := List.mem_filter.mpr ⟨List.mem_append_right _ (List.mem_of_getElem? (i := 374) (by decide +kernel)), rfl⟩
theorem tw375 : (Cond.methodLink RX11 117 yX5_kind) ∈ lwt := List.mem_filter.mpr ⟨List.mem_append_right _ (List.mem_of_getElem? (i := 375) (by decide +kernel)), rfl⟩
theorem tw376 : (Cond.instanceMethod yX5_kind) ∈ lwt := List.mem_filter.mpr ⟨List.mem_append_right _ (List.mem_of_getElem? (i := 376) (by decide +kernel)), rfl⟩
theorem tw377 : (Cond.selects RX5 yX5_kind yX5_kind) ∈ lwt := List.mem_filter.mpr ⟨List.mem_append_right _ (List.mem_of_getElem? (i := 377) (by decide +kernel)), rfl⟩
theorem tw378 : (Cond.sameMethod RX5 RX5 "kind" "()I") ∈ lwt := List.mem_filter.mpr ⟨List.mem_append_right _ (List.mem_of_getElem? (i := 378) (by decide +kernel)), rfl⟩
theorem tw379 : (Cond.selects RX2 yX5_kind yX2_kind) ∈ lwt := List.mem_filter.mpr ⟨List.mem_append_right _ (List.mem_of_getElem? (i := 379) (by decide +kernel)), rfl⟩
theorem tw380 : (Cond.instanceMethod yX2_kind) ∈ lwt := List.mem_filter.mpr ⟨List.mem_append_right _ (List.mem_of_getElem? (i := 380) (by decide +kernel)), rfl⟩
theorem tw381 : (Cond.code yX2_kind cX2_kind 1 (Option.some FieldType.int)) ∈ lwt := List.mem_filter.mpr ⟨List.mem_append_right _ (List.mem_of_getElem? (i := 381) (by decide +kernel)), rfl⟩
theorem tw382 : (Cond.selects RX3 yX5_kind yX3_kind) ∈ lwt := List.mem_filter.mpr ⟨List.mem_append_right _ (List.mem_of_getElem? (i := 382) (by decide +kernel)), rfl⟩
theorem tw383 : (Cond.instanceMethod yX3_kind) ∈ lwt := List.mem_filter.mpr ⟨List.mem_append_right _ (List.mem_of_getElem? (i := 383) (by decide +kernel)), rfl⟩
theorem tw384 : (Cond.code yX3_kind cX3_kind 1 (Option.some FieldType.int)) ∈ lwt := List.mem_filter.mpr ⟨List.mem_append_right _ (List.mem_of_getElem? (i := 384) (by decide +kernel)), rfl⟩
theorem tw385 : (Cond.selects RX8 yX5_kind yX8_kind) ∈ lwt := List.mem_filter.mpr ⟨List.mem_append_right _ (List.mem_of_getElem? (i := 385) (by decide +kernel)), rfl⟩
theorem tw386 : (Cond.instanceMethod yX8_kind) ∈ lwt := List.mem_filter.mpr ⟨List.mem_append_right _ (List.mem_of_getElem? (i := 386) (by decide +kernel)), rfl⟩
theorem tw387 : (Cond.code yX8_kind cX8_kind 1 (Option.some FieldType.int)) ∈ lwt := List.mem_filter.mpr ⟨List.mem_append_right _ (List.mem_of_getElem? (i := 387) (by decide +kernel)), rfl⟩
theorem tw388 : (Cond.selects RX10 yX5_kind yX10_kind) ∈ lwt := List.mem_filter.mpr ⟨List.mem_append_right _ (List.mem_of_getElem? (i := 388) (by decide +kernel)), rfl⟩
theorem tw389 : (Cond.instanceMethod yX10_kind) ∈ lwt := List.mem_filter.mpr ⟨List.mem_append_right _ (List.mem_of_getElem? (i := 389) (by decide +kernel)), rfl⟩
theorem tw390 : (Cond.code yX10_kind cX10_kind 1 (Option.some FieldType.int)) ∈ lwt := List.mem_filter.mpr ⟨List.mem_append_right _ (List.mem_of_getElem? (i := 390) (by decide +kernel)), rfl⟩
theorem tw391 : (Cond.code yX5_kind cX5_kind 1 (Option.some FieldType.int)) ∈ lwt := List.mem_filter.mpr ⟨List.mem_append_right _ (List.mem_of_getElem? (i := 391) (by decide +kernel)), rfl⟩
theorem tw392 : (Cond.methodLink RX11 120 yX5_n) ∈ lwt := List.mem_filter.mpr ⟨List.mem_append_right _ (List.mem_of_getElem? (i := 392) (by decide +kernel)), rfl⟩
theorem tw393 : (Cond.instanceMethod yX5_n) ∈ lwt := List.mem_filter.mpr ⟨List.mem_append_right _ (List.mem_of_getElem? (i := 393) (by decide +kernel)), rfl⟩
theorem tw394 : (Cond.selects RX5 yX5_n yX5_n) ∈ lwt := List.mem_filter.mpr ⟨List.mem_append_right _ (List.mem_of_getElem? (i := 394) (by decide +kernel)), rfl⟩
theorem tw395 : (Cond.sameMethod RX5 RX5 "n" "()I") ∈ lwt := List.mem_filter.mpr ⟨List.mem_append_right _ (List.mem_of_getElem? (i := 395) (by decide +kernel)), rfl⟩
theorem tw396 : (Cond.selects RX2 yX5_n yX5_n) ∈ lwt := List.mem_filter.mpr ⟨List.mem_append_right _ (List.mem_of_getElem? (i := 396) (by decide +kernel)), rfl⟩
theorem tw397 : (Cond.selects RX3 yX5_n yX3_n) ∈ lwt := List.mem_filter.mpr ⟨List.mem_append_right _ (List.mem_of_getElem? (i := 397) (by decide +kernel)), rfl⟩
theorem tw398 : (Cond.instanceMethod yX3_n) ∈ lwt := List.mem_filter.mpr ⟨List.mem_append_right _ (List.mem_of_getElem? (i := 398) (by decide +kernel)), rfl⟩
theorem tw399 : (Cond.code yX3_n cX3_n 1 (Option.some FieldType.int)) ∈ lwt := List.mem_filter.mpr ⟨List.mem_append_right _ (List.mem_of_getElem? (i := 399) (by decide +kernel)), rfl⟩
theorem tw400 : (Cond.selects RX8 yX5_n yX10_n) ∈ lwt := List.mem_filter.mpr ⟨List.mem_append_right _ (List.mem_of_getElem? (i := 400) (by decide +kernel)), rfl⟩
theorem tw401 : (Cond.instanceMethod yX10_n) ∈ lwt := List.mem_filter.mpr ⟨List.mem_append_right _ (List.mem_of_getElem? (i := 401) (by decide +kernel)), rfl⟩
theorem tw402 : (Cond.code yX10_n cX10_n 1 (Option.some FieldType.int)) ∈ lwt := List.mem_filter.mpr ⟨List.mem_append_right _ (List.mem_of_getElem? (i := 402) (by decide +kernel)), rfl⟩
theorem tw403 : (Cond.selects RX10 yX5_n yX10_n) ∈ lwt := List.mem_filter.mpr ⟨List.mem_append_right _ (List.mem_of_getElem? (i := 403) (by decide +kernel)), rfl⟩
theorem tw404 : (Cond.code yX5_n cX5_n 1 (Option.some FieldType.int)) ∈ lwt := List.mem_filter.mpr ⟨List.mem_append_right _ (List.mem_of_getElem? (i := 404) (by decide +kernel)), rfl⟩
theorem tw405 : (Cond.methodLink RL 51 yX11_comes) ∈ lwt := List.mem_filter.mpr ⟨List.mem_append_right _ (List.mem_of_getElem? (i := 405) (by decide +kernel)), rfl⟩
theorem tw406 : (Cond.instanceMethod yX11_comes) ∈ lwt := List.mem_filter.mpr ⟨List.mem_append_right _ (List.mem_of_getElem? (i := 406) (by decide +kernel)), rfl⟩
theorem tw407 : (Cond.selects RX11 yX11_comes yX11_comes) ∈ lwt := List.mem_filter.mpr ⟨List.mem_append_right _ (List.mem_of_getElem? (i := 407) (by decide +kernel)), rfl⟩
theorem tw408 : (Cond.code yX11_comes cX11_comes 5 (Option.some FieldType.int)) ∈ lwt := List.mem_filter.mpr ⟨List.mem_append_right _ (List.mem_of_getElem? (i := 408) (by decide +kernel)), rfl⟩
theorem tw409 : (Cond.methodLink RL 55 yX11_candidate) ∈ lwt := List.mem_filter.mpr ⟨List.mem_append_right _ (List.mem_of_getElem? (i := 409) (by decide +kernel)), rfl⟩
theorem tw410 : (Cond.instanceMethod yX11_candidate) ∈ lwt := List.mem_filter.mpr ⟨List.mem_append_right _ (List.mem_of_getElem? (i := 410) (by decide +kernel)), rfl⟩
theorem tw411 : (Cond.selects RX11 yX11_candidate yX11_candidate) ∈ lwt := List.mem_filter.mpr ⟨List.mem_append_right _ (List.mem_of_getElem? (i := 411) (by decide +kernel)), rfl⟩
theorem tw412 : (Cond.code yX11_candidate cX11_candidate 2 (Option.some FieldType.int)) ∈ lwt := List.mem_filter.mpr ⟨List.mem_append_right _ (List.mem_of_getElem? (i := 412) (by decide +kernel)), rfl⟩
theorem tw413 : (Cond.methodLink RL 60 yX11_minds) ∈ lwt := List.mem_filter.mpr ⟨List.mem_append_right _ (List.mem_of_getElem? (i := 413) (by decide +kernel)), rfl⟩
theorem tw414 : (Cond.instanceMethod yX11_minds) ∈ lwt := List.mem_filter.mpr ⟨List.mem_append_right _ (List.mem_of_getElem? (i := 414) (by decide +kernel)), rfl⟩
theorem tw415 : (Cond.selects RX11 yX11_minds yX11_minds) ∈ lwt := List.mem_filter.mpr ⟨List.mem_append_right _ (List.mem_of_getElem? (i := 415) (by decide +kernel)), rfl⟩
theorem tw416 : (Cond.code yX11_minds cX11_minds 6 (Option.some FieldType.int)) ∈ lwt := List.mem_filter.mpr ⟨List.mem_append_right _ (List.mem_of_getElem? (i := 416) (by decide +kernel)), rfl⟩
theorem tw417 : (Cond.methodLink RX11 129 yX11_isCandidate) ∈ lwt := List.mem_filter.mpr ⟨List.mem_append_right _ (List.mem_of_getElem? (i := 417) (by decide +kernel)), rfl⟩
theorem tw419 : (Cond.instanceMethod yX11_isCandidate) ∈ lwt := List.mem_filter.mpr ⟨List.mem_append_right _ (List.mem_of_getElem? (i := 419) (by decide +kernel)), rfl⟩
theorem tw420 : (Cond.code yX11_isCandidate cX11_isCandidate 2 (Option.some FieldType.boolean)) ∈ lwt := List.mem_filter.mpr ⟨List.mem_append_right _ (List.mem_of_getElem? (i := 420) (by decide +kernel)), rfl⟩
theorem tw421 : (Cond.methodLink RX11 133 yX5_mindsOf) ∈ lwt := List.mem_filter.mpr ⟨List.mem_append_right _ (List.mem_of_getElem? (i := 421) (by decide +kernel)), rfl⟩
theorem tw422 : (Cond.instanceMethod yX5_mindsOf) ∈ lwt := List.mem_filter.mpr ⟨List.mem_append_right _ (List.mem_of_getElem? (i := 422) (by decide +kernel)), rfl⟩
theorem tw423 : (Cond.selects RX5 yX5_mindsOf yX5_mindsOf) ∈ lwt := List.mem_filter.mpr ⟨List.mem_append_right _ (List.mem_of_getElem? (i := 423) (by decide +kernel)), rfl⟩
theorem tw424 : (Cond.sameMethod RX5 RX5 "mindsOf" "(I)I") ∈ lwt := List.mem_filter.mpr ⟨List.mem_append_right _ (List.mem_of_getElem? (i := 424) (by decide +kernel)), rfl⟩
theorem tw425 : (Cond.selects RX2 yX5_mindsOf yX5_mindsOf) ∈ lwt := List.mem_filter.mpr ⟨List.mem_append_right _ (List.mem_of_getElem? (i := 425) (by decide +kernel)), rfl⟩
theorem tw426 : (Cond.selects RX3 yX5_mindsOf yX5_mindsOf) ∈ lwt := List.mem_filter.mpr ⟨List.mem_append_right _ (List.mem_of_getElem? (i := 426) (by decide +kernel)), rfl⟩
theorem tw427 : (Cond.selects RX8 yX5_mindsOf yX5_mindsOf) ∈ lwt := List.mem_filter.mpr ⟨List.mem_append_right _ (List.mem_of_getElem? (i := 427) (by decide +kernel)), rfl⟩
theorem tw428 : (Cond.selects RX10 yX5_mindsOf yX5_mindsOf) ∈ lwt := List.mem_filter.mpr ⟨List.mem_append_right _ (List.mem_of_getElem? (i := 428) (by decide +kernel)), rfl⟩
theorem tw429 : (Cond.code yX5_mindsOf cX5_mindsOf 2 (Option.some FieldType.int)) ∈ lwt := List.mem_filter.mpr ⟨List.mem_append_right _ (List.mem_of_getElem? (i := 429) (by decide +kernel)), rfl⟩
theorem tw430 : (Cond.methodLink RX11 136 yX5_mindFrom) ∈ lwt := List.mem_filter.mpr ⟨List.mem_append_right _ (List.mem_of_getElem? (i := 430) (by decide +kernel)), rfl⟩
theorem tw431 : (Cond.instanceMethod yX5_mindFrom) ∈ lwt := List.mem_filter.mpr ⟨List.mem_append_right _ (List.mem_of_getElem? (i := 431) (by decide +kernel)), rfl⟩
theorem tw432 : (Cond.selects RX5 yX5_mindFrom yX5_mindFrom) ∈ lwt := List.mem_filter.mpr ⟨List.mem_append_right _ (List.mem_of_getElem? (i := 432) (by decide +kernel)), rfl⟩
theorem tw433 : (Cond.sameMethod RX5 RX5 "mindFrom" "(II)V") ∈ lwt := List.mem_filter.mpr ⟨List.mem_append_right _ (List.mem_of_getElem? (i := 433) (by decide +kernel)), rfl⟩
theorem tw434 : (Cond.selects RX2 yX5_mindFrom yX5_mindFrom) ∈ lwt := List.mem_filter.mpr ⟨List.mem_append_right _ (List.mem_of_getElem? (i := 434) (by decide +kernel)), rfl⟩
theorem tw435 : (Cond.selects RX3 yX5_mindFrom yX5_mindFrom) ∈ lwt := List.mem_filter.mpr ⟨List.mem_append_right _ (List.mem_of_getElem? (i := 435) (by decide +kernel)), rfl⟩
theorem tw436 : (Cond.selects RX8 yX5_mindFrom yX5_mindFrom) ∈ lwt := List.mem_filter.mpr ⟨List.mem_append_right _ (List.mem_of_getElem? (i := 436) (by decide +kernel)), rfl⟩
theorem tw437 : (Cond.selects RX10 yX5_mindFrom yX5_mindFrom) ∈ lwt := List.mem_filter.mpr ⟨List.mem_append_right _ (List.mem_of_getElem? (i := 437) (by decide +kernel)), rfl⟩
theorem tw438 : (Cond.code yX5_mindFrom cX5_mindFrom 3 (Option.none : Option FieldType)) ∈ lwt := List.mem_filter.mpr ⟨List.mem_append_right _ (List.mem_of_getElem? (i := 438) (by decide +kernel)), rfl⟩
theorem tw439 : (Cond.methodLink RL 64 yX11_friend) ∈ lwt := List.mem_filter.mpr ⟨List.mem_append_right _ (List.mem_of_getElem? (i := 439) (by decide +kernel)), rfl⟩
theorem tw440 : (Cond.instanceMethod yX11_friend) ∈ lwt := List.mem_filter.mpr ⟨List.mem_append_right _ (List.mem_of_getElem? (i := 440) (by decide +kernel)), rfl⟩
theorem tw441 : (Cond.selects RX11 yX11_friend yX11_friend) ∈ lwt := List.mem_filter.mpr ⟨List.mem_append_right _ (List.mem_of_getElem? (i := 441) (by decide +kernel)), rfl⟩
theorem tw442 : (Cond.code yX11_friend cX11_friend 3 (Option.some FieldType.int)) ∈ lwt := List.mem_filter.mpr ⟨List.mem_append_right _ (List.mem_of_getElem? (i := 442) (by decide +kernel)), rfl⟩
theorem tw443 : (Cond.methodLink RX11 140 yX11_friendOf) ∈ lwt := List.mem_filter.mpr ⟨List.mem_append_right _ (List.mem_of_getElem? (i := 443) (by decide +kernel)), rfl⟩
theorem tw445 : (Cond.instanceMethod yX11_friendOf) ∈ lwt := List.mem_filter.mpr ⟨List.mem_append_right _ (List.mem_of_getElem? (i := 445) (by decide +kernel)), rfl⟩
theorem tw446 : (Cond.code yX11_friendOf cX11_friendOf 2 (Option.some FieldType.int)) ∈ lwt := List.mem_filter.mpr ⟨List.mem_append_right _ (List.mem_of_getElem? (i := 446) (by decide +kernel)), rfl⟩
theorem tw447 : (Cond.methodLink RX11 143 yX11_isMinded) ∈ lwt := List.mem_filter.mpr ⟨List.mem_append_right _ (List.mem_of_getElem? (i := 447) (by decide +kernel)), rfl⟩
theorem tw449 : (Cond.instanceMethod yX11_isMinded) ∈ lwt := List.mem_filter.mpr ⟨List.mem_append_right _ (List.mem_of_getElem? (i := 449) (by decide +kernel)), rfl⟩
theorem tw450 : (Cond.code yX11_isMinded cX11_isMinded 2 (Option.some FieldType.boolean)) ∈ lwt := List.mem_filter.mpr ⟨List.mem_append_right _ (List.mem_of_getElem? (i := 450) (by decide +kernel)), rfl⟩
theorem tw451 : (Cond.methodLink RX11 146 yX11_howManyMindMuch) ∈ lwt := List.mem_filter.mpr ⟨List.mem_append_right _ (List.mem_of_getElem? (i := 451) (by decide +kernel)), rfl⟩
theorem tw453 : (Cond.instanceMethod yX11_howManyMindMuch) ∈ lwt := List.mem_filter.mpr ⟨List.mem_append_right _ (List.mem_of_getElem? (i := 453) (by decide +kernel)), rfl⟩
theorem tw454 : (Cond.code yX11_howManyMindMuch cX11_howManyMindMuch 4 (Option.some FieldType.int)) ∈ lwt := List.mem_filter.mpr ⟨List.mem_append_right _ (List.mem_of_getElem? (i := 454) (by decide +kernel)), rfl⟩
theorem tw455 : (Cond.methodLink RX11 340 yX5_mindsMuch) ∈ lwt := List.mem_filter.mpr ⟨List.mem_append_right _ (List.mem_of_getElem? (i := 455) (by decide +kernel)), rfl⟩
theorem tw456 : (Cond.instanceMethod yX5_mindsMuch) ∈ lwt := List.mem_filter.mpr ⟨List.mem_append_right _ (List.mem_of_getElem? (i := 456) (by decide +kernel)), rfl⟩
theorem tw457 : (Cond.selects RX5 yX5_mindsMuch yX5_mindsMuch) ∈ lwt := List.mem_filter.mpr ⟨List.mem_append_right _ (List.mem_of_getElem? (i := 457) (by decide +kernel)), rfl⟩
theorem tw458 : (Cond.sameMethod RX5 RX5 "mindsMuch" "(I)Z") ∈ lwt := List.mem_filter.mpr ⟨List.mem_append_right _ (List.mem_of_getElem? (i := 458) (by decide +kernel)), rfl⟩
theorem tw459 : (Cond.selects RX2 yX5_mindsMuch yX5_mindsMuch) ∈ lwt := List.mem_filter.mpr ⟨List.mem_append_right _ (List.mem_of_getElem? (i := 459) (by decide +kernel)), rfl⟩
theorem tw460 : (Cond.selects RX3 yX5_mindsMuch yX5_mindsMuch) ∈ lwt := List.mem_filter.mpr ⟨List.mem_append_right _ (List.mem_of_getElem? (i := 460) (by decide +kernel)), rfl⟩
theorem tw461 : (Cond.selects RX8 yX5_mindsMuch yX5_mindsMuch) ∈ lwt := List.mem_filter.mpr ⟨List.mem_append_right _ (List.mem_of_getElem? (i := 461) (by decide +kernel)), rfl⟩
theorem tw462 : (Cond.selects RX10 yX5_mindsMuch yX5_mindsMuch) ∈ lwt := List.mem_filter.mpr ⟨List.mem_append_right _ (List.mem_of_getElem? (i := 462) (by decide +kernel)), rfl⟩
theorem tw463 : (Cond.code yX5_mindsMuch cX5_mindsMuch 2 (Option.some FieldType.boolean)) ∈ lwt := List.mem_filter.mpr ⟨List.mem_append_right _ (List.mem_of_getElem? (i := 463) (by decide +kernel)), rfl⟩
theorem tw464 : (Cond.methodLink RX5 28 yX5_mindsOf) ∈ lwt := List.mem_filter.mpr ⟨List.mem_append_right _ (List.mem_of_getElem? (i := 464) (by decide +kernel)), rfl⟩
theorem tw465 : (Cond.methodLink RL 68 yX11_black) ∈ lwt := List.mem_filter.mpr ⟨List.mem_append_right _ (List.mem_of_getElem? (i := 465) (by decide +kernel)), rfl⟩
theorem tw466 : (Cond.instanceMethod yX11_black) ∈ lwt := List.mem_filter.mpr ⟨List.mem_append_right _ (List.mem_of_getElem? (i := 466) (by decide +kernel)), rfl⟩
theorem tw467 : (Cond.selects RX11 yX11_black yX11_black) ∈ lwt := List.mem_filter.mpr ⟨List.mem_append_right _ (List.mem_of_getElem? (i := 467) (by decide +kernel)), rfl⟩
theorem tw468 : (Cond.code yX11_black cX11_black 7 (Option.some FieldType.int)) ∈ lwt := List.mem_filter.mpr ⟨List.mem_append_right _ (List.mem_of_getElem? (i := 468) (by decide +kernel)), rfl⟩
theorem tw469 : (Cond.methodLink RX11 149 yX11_areComers) ∈ lwt := List.mem_filter.mpr ⟨List.mem_append_right _ (List.mem_of_getElem? (i := 469) (by decide +kernel)), rfl⟩
theorem tw471 : (Cond.instanceMethod yX11_areComers) ∈ lwt := List.mem_filter.mpr ⟨List.mem_append_right _ (List.mem_of_getElem? (i := 471) (by decide +kernel)), rfl⟩
theorem tw472 : (Cond.code yX11_areComers cX11_areComers 2 (Option.some FieldType.boolean)) ∈ lwt := List.mem_filter.mpr ⟨List.mem_append_right _ (List.mem_of_getElem? (i := 472) (by decide +kernel)), rfl⟩
theorem tw473 : (Cond.methodLink RX11 200 yX11_everybody) ∈ lwt := List.mem_filter.mpr ⟨List.mem_append_right _ (List.mem_of_getElem? (i := 473) (by decide +kernel)), rfl⟩
theorem tw475 : (Cond.instanceMethod yX11_everybody) ∈ lwt := List.mem_filter.mpr ⟨List.mem_append_right _ (List.mem_of_getElem? (i := 475) (by decide +kernel)), rfl⟩
theorem tw476 : (Cond.code yX11_everybody cX11_everybody 1 (Option.some FieldType.int)) ∈ lwt := List.mem_filter.mpr ⟨List.mem_append_right _ (List.mem_of_getElem? (i := 476) (by decide +kernel)), rfl⟩
theorem tw477 : (Cond.methodLink RX11 152 yX11_isOneOf) ∈ lwt := List.mem_filter.mpr ⟨List.mem_append_right _ (List.mem_of_getElem? (i := 477) (by decide +kernel)), rfl⟩
theorem tw478 : (Cond.static yX11_isOneOf) ∈ lwt := List.mem_filter.mpr ⟨List.mem_append_right _ (List.mem_of_getElem? (i := 478) (by decide +kernel)), rfl⟩
theorem tw479 : (Cond.code yX11_isOneOf cX11_isOneOf 2 (Option.some FieldType.boolean)) ∈ lwt := List.mem_filter.mpr ⟨List.mem_append_right _ (List.mem_of_getElem? (i := 479) (by decide +kernel)), rfl⟩
theorem tw480 : (Cond.methodLink RX11 156 yX11_isWatched) ∈ lwt := List.mem_filter.mpr ⟨List.mem_append_right _ (List.mem_of_getElem? (i := 480) (by decide +kernel)), rfl⟩
theorem tw481 : (Cond.static yX11_isWatched) ∈ lwt := List.mem_filter.mpr ⟨List.mem_append_right _ (List.mem_of_getElem? (i := 481) (by decide +kernel)), rfl⟩
theorem tw482 : (Cond.code yX11_isWatched cX11_isWatched 2 (Option.some FieldType.boolean)) ∈ lwt := List.mem_filter.mpr ⟨List.mem_append_right _ (List.mem_of_getElem? (i := 482) (by decide +kernel)), rfl⟩
theorem tw483 : (Cond.methodLink RX11 218 yJ6_bitCount_0f7a4) ∈ lwt := List.mem_filter.mpr ⟨List.mem_append_right _ (List.mem_of_getElem? (i := 483) (by decide +kernel)), rfl⟩
theorem tw484 : (Cond.static yJ6_bitCount_0f7a4) ∈ lwt := List.mem_filter.mpr ⟨List.mem_append_right _ (List.mem_of_getElem? (i := 484) (by decide +kernel)), rfl⟩
theorem tw485 : (Cond.code yJ6_bitCount_0f7a4 cJ6_bitCount_0f7a4 1 (Option.some FieldType.int)) ∈ lwt := List.mem_filter.mpr ⟨List.mem_append_right _ (List.mem_of_getElem? (i := 485) (by decide +kernel)), rfl⟩
theorem tw486 : (Cond.constant RJ6 265 (1431655765 : Int32)) ∈ lwt := List.mem_filter.mpr ⟨List.mem_append_right _ (List.mem_of_getElem? (i := 486) (by decide +kernel)), rfl⟩
theorem tw487 : (Cond.constant RJ6 266 (858993459 : Int32)) ∈ lwt := List.mem_filter.mpr ⟨List.mem_append_right _ (List.mem_of_getElem? (i := 487) (by decide +kernel)), rfl⟩
theorem tw488 : (Cond.constant RJ6 267 (252645135 : Int32)) ∈ lwt := List.mem_filter.mpr ⟨List.mem_append_right _ (List.mem_of_getElem? (i := 488) (by decide +kernel)), rfl⟩
theorem tw489 : (Cond.methodLink RX11 160 yX11_blackOf) ∈ lwt := List.mem_filter.mpr ⟨List.mem_append_right _ (List.mem_of_getElem? (i := 489) (by decide +kernel)), rfl⟩
theorem tw491 : (Cond.instanceMethod yX11_blackOf) ∈ lwt := List.mem_filter.mpr ⟨List.mem_append_right _ (List.mem_of_getElem? (i := 491) (by decide +kernel)), rfl⟩
theorem tw492 : (Cond.code yX11_blackOf cX11_blackOf 4 (Option.some FieldType.int)) ∈ lwt := List.mem_filter.mpr ⟨List.mem_append_right _ (List.mem_of_getElem? (i := 492) (by decide +kernel)), rfl⟩
theorem tw493 : (Cond.methodLink RX11 346 yX5_blackFor) ∈ lwt := List.mem_filter.mpr ⟨List.mem_append_right _ (List.mem_of_getElem? (i := 493) (by decide +kernel)), rfl⟩
theorem tw494 : (Cond.instanceMethod yX5_blackFor) ∈ lwt := List.mem_filter.mpr ⟨List.mem_append_right _ (List.mem_of_getElem? (i := 494) (by decide +kernel)), rfl⟩
theorem tw495 : (Cond.selects RX5 yX5_blackFor yX5_blackFor) ∈ lwt := List.mem_filter.mpr ⟨List.mem_append_right _ (List.mem_of_getElem? (i := 495) (by decide +kernel)), rfl⟩
theorem tw496 : (Cond.sameMethod RX5 RX5 "blackFor" "(IIZ)I") ∈ lwt := List.mem_filter.mpr ⟨List.mem_append_right _ (List.mem_of_getElem? (i := 496) (by decide +kernel)), rfl⟩
theorem tw497 : (Cond.selects RX2 yX5_blackFor yX5_blackFor) ∈ lwt := List.mem_filter.mpr ⟨List.mem_append_right _ (List.mem_of_getElem? (i := 497) (by decide +kernel)), rfl⟩
theorem tw498 : (Cond.selects RX3 yX5_blackFor yX5_blackFor) ∈ lwt := List.mem_filter.mpr ⟨List.mem_append_right _ (List.mem_of_getElem? (i := 498) (by decide +kernel)), rfl⟩
theorem tw499 : (Cond.selects RX8 yX5_blackFor yX5_blackFor) ∈ lwt := List.mem_filter.mpr ⟨List.mem_append_right _ (List.mem_of_getElem? (i := 499) (by decide +kernel)), rfl⟩
theorem tw500 : (Cond.selects RX10 yX5_blackFor yX5_blackFor) ∈ lwt := List.mem_filter.mpr ⟨List.mem_append_right _ (List.mem_of_getElem? (i := 500) (by decide +kernel)), rfl⟩
theorem tw501 : (Cond.code yX5_blackFor cX5_blackFor 4 (Option.some FieldType.int)) ∈ lwt := List.mem_filter.mpr ⟨List.mem_append_right _ (List.mem_of_getElem? (i := 501) (by decide +kernel)), rfl⟩
theorem tw502 : (Cond.methodLink RX5 32 yX5_blackOfStranger) ∈ lwt := List.mem_filter.mpr ⟨List.mem_append_right _ (List.mem_of_getElem? (i := 502) (by decide +kernel)), rfl⟩
theorem tw503 : (Cond.instanceMethod yX5_blackOfStranger) ∈ lwt := List.mem_filter.mpr ⟨List.mem_append_right _ (List.mem_of_getElem? (i := 503) (by decide +kernel)), rfl⟩
theorem tw504 : (Cond.selects RX5 yX5_blackOfStranger yX5_blackOfStranger) ∈ lwt := List.mem_filter.mpr ⟨List.mem_append_right _ (List.mem_of_getElem? (i := 504) (by decide +kernel)), rfl⟩
theorem tw505 : (Cond.sameMethod RX5 RX5 "blackOfStranger" "(IIZ)I") ∈ lwt := List.mem_filter.mpr ⟨List.mem_append_right _ (List.mem_of_getElem? (i := 505) (by decide +kernel)), rfl⟩
theorem tw506 : (Cond.selects RX2 yX5_blackOfStranger yX2_blackOfStranger) ∈ lwt := List.mem_filter.mpr ⟨List.mem_append_right _ (List.mem_of_getElem? (i := 506) (by decide +kernel)), rfl⟩
theorem tw507 : (Cond.instanceMethod yX2_blackOfStranger) ∈ lwt := List.mem_filter.mpr ⟨List.mem_append_right _ (List.mem_of_getElem? (i := 507) (by decide +kernel)), rfl⟩
theorem tw508 : (Cond.code yX2_blackOfStranger cX2_blackOfStranger 4 (Option.some FieldType.int)) ∈ lwt := List.mem_filter.mpr ⟨List.mem_append_right _ (List.mem_of_getElem? (i := 508) (by decide +kernel)), rfl⟩
theorem tw509 : (Cond.selects RX3 yX5_blackOfStranger yX3_blackOfStranger) ∈ lwt := List.mem_filter.mpr ⟨List.mem_append_right _ (List.mem_of_getElem? (i := 509) (by decide +kernel)), rfl⟩
theorem tw510 : (Cond.instanceMethod yX3_blackOfStranger) ∈ lwt := List.mem_filter.mpr ⟨List.mem_append_right _ (List.mem_of_getElem? (i := 510) (by decide +kernel)), rfl⟩
theorem tw511 : (Cond.code yX3_blackOfStranger cX3_blackOfStranger 4 (Option.some FieldType.int)) ∈ lwt := List.mem_filter.mpr ⟨List.mem_append_right _ (List.mem_of_getElem? (i := 511) (by decide +kernel)), rfl⟩
theorem tw512 : (Cond.selects RX8 yX5_blackOfStranger yX8_blackOfStranger) ∈ lwt := List.mem_filter.mpr ⟨List.mem_append_right _ (List.mem_of_getElem? (i := 512) (by decide +kernel)), rfl⟩
theorem tw513 : (Cond.instanceMethod yX8_blackOfStranger) ∈ lwt := List.mem_filter.mpr ⟨List.mem_append_right _ (List.mem_of_getElem? (i := 513) (by decide +kernel)), rfl⟩
theorem tw514 : (Cond.code yX8_blackOfStranger cX8_blackOfStranger 4 (Option.some FieldType.int)) ∈ lwt := List.mem_filter.mpr ⟨List.mem_append_right _ (List.mem_of_getElem? (i := 514) (by decide +kernel)), rfl⟩
theorem tw515 : (Cond.methodLink RX8 9 ({ cls := RX8, name := "n", desc := "()I" } : Jvm.MethodName)) ∈ lwt := List.mem_filter.mpr ⟨List.mem_append_right _ (List.mem_of_getElem? (i := 515) (by decide +kernel)), rfl⟩
theorem tw516 : (Cond.sameMethod RX8 RX10 "n" "()I") ∈ lwt := List.mem_filter.mpr ⟨List.mem_append_right _ (List.mem_of_getElem? (i := 516) (by decide +kernel)), rfl⟩
theorem tn517 : (Cond.declares yX10_n) ∈ lw_tbl := List.mem_append_right _ (List.mem_of_getElem? (i := 517) (by decide +kernel))
theorem tw518 : (Cond.selects RX8 ({ cls := RX8, name := "n", desc := "()I" } : Jvm.MethodName) yX10_n) ∈ lwt := List.mem_filter.mpr ⟨List.mem_append_right _ (List.mem_of_getElem? (i := 518) (by decide +kernel)), rfl⟩
theorem tw519 : (Cond.selects RX10 yX5_blackOfStranger yX10_blackOfStranger) ∈ lwt := List.mem_filter.mpr ⟨List.mem_append_right _ (List.mem_of_getElem? (i := 519) (by decide +kernel)), rfl⟩
theorem tw520 : (Cond.instanceMethod yX10_blackOfStranger) ∈ lwt := List.mem_filter.mpr ⟨List.mem_append_right _ (List.mem_of_getElem? (i := 520) (by decide +kernel)), rfl⟩
theorem tw521 : (Cond.code yX10_blackOfStranger cX10_blackOfStranger 4 (Option.some FieldType.int)) ∈ lwt := List.mem_filter.mpr ⟨List.mem_append_right _ (List.mem_of_getElem? (i := 521) (by decide +kernel)), rfl⟩
theorem tw522 : (Cond.code yX5_blackOfStranger cX5_blackOfStranger 4 (Option.some FieldType.int)) ∈ lwt := List.mem_filter.mpr ⟨List.mem_append_right _ (List.mem_of_getElem? (i := 522) (by decide +kernel)), rfl⟩
theorem tw523 : (Cond.methodLink RL 73 yX11_balls) ∈ lwt := List.mem_filter.mpr ⟨List.mem_append_right _ (List.mem_of_getElem? (i := 523) (by decide +kernel)), rfl⟩
theorem tw524 : (Cond.instanceMethod yX11_balls) ∈ lwt := List.mem_filter.mpr ⟨List.mem_append_right _ (List.mem_of_getElem? (i := 524) (by decide +kernel)), rfl⟩
theorem tw525 : (Cond.selects RX11 yX11_balls yX11_balls) ∈ lwt := List.mem_filter.mpr ⟨List.mem_append_right _ (List.mem_of_getElem? (i := 525) (by decide +kernel)), rfl⟩
theorem tw526 : (Cond.code yX11_balls cX11_balls 7 (Option.some FieldType.int)) ∈ lwt := List.mem_filter.mpr ⟨List.mem_append_right _ (List.mem_of_getElem? (i := 526) (by decide +kernel)), rfl⟩
theorem tw527 : (Cond.methodLink RX11 164 yX11_isPart) ∈ lwt := List.mem_filter.mpr ⟨List.mem_append_right _ (List.mem_of_getElem? (i := 527) (by decide +kernel)), rfl⟩
theorem tw528 : (Cond.static yX11_isPart) ∈ lwt := List.mem_filter.mpr ⟨List.mem_append_right _ (List.mem_of_getElem? (i := 528) (by decide +kernel)), rfl⟩
theorem tw529 : (Cond.code yX11_isPart cX11_isPart 1 (Option.some FieldType.boolean)) ∈ lwt := List.mem_filter.mpr ⟨List.mem_append_right _ (List.mem_of_getElem? (i := 529) (by decide +kernel)), rfl⟩
theorem tw530 : (Cond.methodLink RX11 167 yX11_tallyBalls) ∈ lwt := List.mem_filter.mpr ⟨List.mem_append_right _ (List.mem_of_getElem? (i := 530) (by decide +kernel)), rfl⟩
theorem tw532 : (Cond.instanceMethod yX11_tallyBalls) ∈ lwt := List.mem_filter.mpr ⟨List.mem_append_right _ (List.mem_of_getElem? (i := 532) (by decide +kernel)), rfl⟩
theorem tw533 : (Cond.code yX11_tallyBalls cX11_tallyBalls 5 (Option.none : Option FieldType)) ∈ lwt := List.mem_filter.mpr ⟨List.mem_append_right _ (List.mem_of_getElem? (i := 533) (by decide +kernel)), rfl⟩
theorem tw534 : (Cond.methodLink RX11 350 yX7_begin) ∈ lwt := List.mem_filter.mpr ⟨List.mem_append_right _ (List.mem_of_getElem? (i := 534) (by decide +kernel)), rfl⟩
theorem tw535 : (Cond.instanceMethod yX7_begin) ∈ lwt := List.mem_filter.mpr ⟨List.mem_append_right _ (List.mem_of_getElem? (i := 535) (by decide +kernel)), rfl⟩
theorem tw536 : (Cond.selects RX7 yX7_begin yX7_begin) ∈ lwt := List.mem_filter.mpr ⟨List.mem_append_right _ (List.mem_of_getElem? (i := 536) (by decide +kernel)), rfl⟩
theorem tw537 : (Cond.code yX7_begin cX7_begin 1 (Option.none : Option FieldType)) ∈ lwt := List.mem_filter.mpr ⟨List.mem_append_right _ (List.mem_of_getElem? (i := 537) (by decide +kernel)), rfl⟩
theorem tw538 : (Cond.methodLink RX11 351 yX7_put) ∈ lwt := List.mem_filter.mpr ⟨List.mem_append_right _ (List.mem_of_getElem? (i := 538) (by decide +kernel)), rfl⟩
theorem tw539 : (Cond.instanceMethod yX7_put) ∈ lwt := List.mem_filter.mpr ⟨List.mem_append_right _ (List.mem_of_getElem? (i := 539) (by decide +kernel)), rfl⟩
theorem tw540 : (Cond.selects RX7 yX7_put yX7_put) ∈ lwt := List.mem_filter.mpr ⟨List.mem_append_right _ (List.mem_of_getElem? (i := 540) (by decide +kernel)), rfl⟩
theorem tw541 : (Cond.code yX7_put cX7_put 4 (Option.none : Option FieldType)) ∈ lwt := List.mem_filter.mpr ⟨List.mem_append_right _ (List.mem_of_getElem? (i := 541) (by decide +kernel)), rfl⟩
theorem tw542 : (Cond.constantLong RX7 23 (10 : Int64)) ∈ lwt := List.mem_filter.mpr ⟨List.mem_append_right _ (List.mem_of_getElem? (i := 542) (by decide +kernel)), rfl⟩
theorem tw543 : (Cond.methodLink RX11 171 yX7_waysTo) ∈ lwt := List.mem_filter.mpr ⟨List.mem_append_right _ (List.mem_of_getElem? (i := 543) (by decide +kernel)), rfl⟩
theorem tw544 : (Cond.instanceMethod yX7_waysTo) ∈ lwt := List.mem_filter.mpr ⟨List.mem_append_right _ (List.mem_of_getElem? (i := 544) (by decide +kernel)), rfl⟩
theorem tw545 : (Cond.selects RX7 yX7_waysTo yX7_waysTo) ∈ lwt := List.mem_filter.mpr ⟨List.mem_append_right _ (List.mem_of_getElem? (i := 545) (by decide +kernel)), rfl⟩
theorem tw546 : (Cond.code yX7_waysTo cX7_waysTo 2 (Option.some FieldType.long)) ∈ lwt := List.mem_filter.mpr ⟨List.mem_append_right _ (List.mem_of_getElem? (i := 546) (by decide +kernel)), rfl⟩
theorem tw547 : (Cond.methodLink RX11 175 yX7_all) ∈ lwt := List.mem_filter.mpr ⟨List.mem_append_right _ (List.mem_of_getElem? (i := 547) (by decide +kernel)), rfl⟩
theorem tw548 : (Cond.instanceMethod yX7_all) ∈ lwt := List.mem_filter.mpr ⟨List.mem_append_right _ (List.mem_of_getElem? (i := 548) (by decide +kernel)), rfl⟩
theorem tw549 : (Cond.selects RX7 yX7_all yX7_all) ∈ lwt := List.mem_filter.mpr ⟨List.mem_append_right _ (List.mem_of_getElem? (i := 549) (by decide +kernel)), rfl⟩
theorem tw550 : (Cond.code yX7_all cX7_all 1 (Option.some FieldType.long)) ∈ lwt := List.mem_filter.mpr ⟨List.mem_append_right _ (List.mem_of_getElem? (i := 550) (by decide +kernel)), rfl⟩
theorem tw551 : (Cond.methodLink RX11 179 yX11_lowest) ∈ lwt := List.mem_filter.mpr ⟨List.mem_append_right _ (List.mem_of_getElem? (i := 551) (by decide +kernel)), rfl⟩
theorem tw552 : (Cond.static yX11_lowest) ∈ lwt := List.mem_filter.mpr ⟨List.mem_append_right _ (List.mem_of_getElem? (i := 552) (by decide +kernel)), rfl⟩
theorem tw553 : (Cond.code yX11_lowest cX11_lowest 7 (Option.some FieldType.long)) ∈ lwt := List.mem_filter.mpr ⟨List.mem_append_right _ (List.mem_of_getElem? (i := 553) (by decide +kernel)), rfl⟩
theorem tw554 : (Cond.methodLink RX11 386 yX11_commonDivisor) ∈ lwt := List.mem_filter.mpr ⟨List.mem_append_right _ (List.mem_of_getElem? (i := 554) (by decide +kernel)), rfl⟩
theorem tw555 : (Cond.static yX11_commonDivisor) ∈ lwt := List.mem_filter.mpr ⟨List.mem_append_right _ (List.mem_of_getElem? (i := 555) (by decide +kernel)), rfl⟩
theorem tw556 : (Cond.code yX11_commonDivisor cX11_commonDivisor 11 (Option.some FieldType.long)) ∈ lwt := List.mem_filter.mpr ⟨List.mem_append_right _ (List.mem_of_getElem? (i := 556) (by decide +kernel)), rfl⟩
theorem tw557 : (Cond.constantLong RX11 226 (-1 : Int64)) ∈ lwt := List.mem_filter.mpr ⟨List.mem_append_right _ (List.mem_of_getElem? (i := 557) (by decide +kernel)), rfl⟩
theorem tw558 : (Cond.methodLink RL 78 yX11_in) ∈ lwt := List.mem_filter.mpr ⟨List.mem_append_right _ (List.mem_of_getElem? (i := 558) (by decide +kernel)), rfl⟩
theorem tw559 : (Cond.instanceMethod yX11_in) ∈ lwt := List.mem_filter.mpr ⟨List.mem_append_right _ (List.mem_of_getElem? (i := 559) (by decide +kernel)), rfl⟩
theorem tw560 : (Cond.selects RX11 yX11_in yX11_in) ∈ lwt := List.mem_filter.mpr ⟨List.mem_append_right _ (List.mem_of_getElem? (i := 560) (by decide +kernel)), rfl⟩
theorem tw561 : (Cond.code yX11_in cX11_in 6 (Option.some FieldType.long)) ∈ lwt := List.mem_filter.mpr ⟨List.mem_append_right _ (List.mem_of_getElem? (i := 561) (by decide +kernel)), rfl⟩
theorem tw562 : (Cond.constantLong RX11 183 (-101 : Int64)) ∈ lwt := List.mem_filter.mpr ⟨List.mem_append_right _ (List.mem_of_getElem? (i := 562) (by decide +kernel)), rfl⟩
theorem tw563 : (Cond.constantLong RX11 185 (-102 : Int64)) ∈ lwt := List.mem_filter.mpr ⟨List.mem_append_right _ (List.mem_of_getElem? (i := 563) (by decide +kernel)), rfl⟩
theorem tw564 : (Cond.methodLink RX11 187 yX11_inWays) ∈ lwt := List.mem_filter.mpr ⟨List.mem_append_right _ (List.mem_of_getElem? (i := 564) (by decide +kernel)), rfl⟩
theorem tw566 : (Cond.instanceMethod yX11_inWays) ∈ lwt := List.mem_filter.mpr ⟨List.mem_append_right _ (List.mem_of_getElem? (i := 566) (by decide +kernel)), rfl⟩
theorem tw567 : (Cond.code yX11_inWays cX11_inWays 10 (Option.some FieldType.long)) ∈ lwt := List.mem_filter.mpr ⟨List.mem_append_right _ (List.mem_of_getElem? (i := 567) (by decide +kernel)), rfl⟩
theorem tw568 : (Cond.methodLink RX11 354 yX6_hasQuorum) ∈ lwt := List.mem_filter.mpr ⟨List.mem_append_right _ (List.mem_of_getElem? (i := 568) (by decide +kernel)), rfl⟩
theorem tw569 : (Cond.instanceMethod yX6_hasQuorum) ∈ lwt := List.mem_filter.mpr ⟨List.mem_append_right _ (List.mem_of_getElem? (i := 569) (by decide +kernel)), rfl⟩
theorem tw570 : (Cond.selects RX6 yX6_hasQuorum yX6_hasQuorum) ∈ lwt := List.mem_filter.mpr ⟨List.mem_append_right _ (List.mem_of_getElem? (i := 570) (by decide +kernel)), rfl⟩
theorem tw571 : (Cond.code yX6_hasQuorum cX6_hasQuorum 2 (Option.some FieldType.boolean)) ∈ lwt := List.mem_filter.mpr ⟨List.mem_append_right _ (List.mem_of_getElem? (i := 571) (by decide +kernel)), rfl⟩
theorem tw572 : (Cond.methodLink RX11 223 yX6_shutsOut) ∈ lwt := List.mem_filter.mpr ⟨List.mem_append_right _ (List.mem_of_getElem? (i := 572) (by decide +kernel)), rfl⟩
theorem tw573 : (Cond.instanceMethod yX6_shutsOut) ∈ lwt := List.mem_filter.mpr ⟨List.mem_append_right _ (List.mem_of_getElem? (i := 573) (by decide +kernel)), rfl⟩
theorem tw574 : (Cond.selects RX6 yX6_shutsOut yX6_shutsOut) ∈ lwt := List.mem_filter.mpr ⟨List.mem_append_right _ (List.mem_of_getElem? (i := 574) (by decide +kernel)), rfl⟩
theorem tw575 : (Cond.code yX6_shutsOut cX6_shutsOut 3 (Option.some FieldType.boolean)) ∈ lwt := List.mem_filter.mpr ⟨List.mem_append_right _ (List.mem_of_getElem? (i := 575) (by decide +kernel)), rfl⟩
theorem tw576 : (Cond.methodLink RX11 191 yX11_squaredTens) ∈ lwt := List.mem_filter.mpr ⟨List.mem_append_right _ (List.mem_of_getElem? (i := 576) (by decide +kernel)), rfl⟩
theorem tw577 : (Cond.static yX11_squaredTens) ∈ lwt := List.mem_filter.mpr ⟨List.mem_append_right _ (List.mem_of_getElem? (i := 577) (by decide +kernel)), rfl⟩
theorem tw578 : (Cond.code yX11_squaredTens cX11_squaredTens 3 (Option.some FieldType.long)) ∈ lwt := List.mem_filter.mpr ⟨List.mem_append_right _ (List.mem_of_getElem? (i := 578) (by decide +kernel)), rfl⟩
theorem tw579 : (Cond.constantLong RX11 357 (10 : Int64)) ∈ lwt := List.mem_filter.mpr ⟨List.mem_append_right _ (List.mem_of_getElem? (i := 579) (by decide +kernel)), rfl⟩
theorem tw580 : (Cond.methodLink RX11 359 yX11_power) ∈ lwt := List.mem_filter.mpr ⟨List.mem_append_right _ (List.mem_of_getElem? (i := 580) (by decide +kernel)), rfl⟩
theorem tw581 : (Cond.static yX11_power) ∈ lwt := List.mem_filter.mpr ⟨List.mem_append_right _ (List.mem_of_getElem? (i := 581) (by decide +kernel)), rfl⟩
theorem tw582 : (Cond.code yX11_power cX11_power 6 (Option.some FieldType.long)) ∈ lwt := List.mem_filter.mpr ⟨List.mem_append_right _ (List.mem_of_getElem? (i := 582) (by decide +kernel)), rfl⟩
theorem tw583 : (Cond.methodLink RL 83 yX11_large) ∈ lwt := List.mem_filter.mpr ⟨List.mem_append_right _ (List.mem_of_getElem? (i := 583) (by decide +kernel)), rfl⟩
theorem tw584 : (Cond.instanceMethod yX11_large) ∈ lwt := List.mem_filter.mpr ⟨List.mem_append_right _ (List.mem_of_getElem? (i := 584) (by decide +kernel)), rfl⟩
theorem tw585 : (Cond.selects RX11 yX11_large yX11_large) ∈ lwt := List.mem_filter.mpr ⟨List.mem_append_right _ (List.mem_of_getElem? (i := 585) (by decide +kernel)), rfl⟩
theorem tw586 : (Cond.code yX11_large cX11_large 7 (Option.some FieldType.long)) ∈ lwt := List.mem_filter.mpr ⟨List.mem_append_right _ (List.mem_of_getElem? (i := 586) (by decide +kernel)), rfl⟩
theorem tw587 : (Cond.constantLong RX11 198 (-103 : Int64)) ∈ lwt := List.mem_filter.mpr ⟨List.mem_append_right _ (List.mem_of_getElem? (i := 587) (by decide +kernel)), rfl⟩
theorem tw588 : (Cond.methodLink RX11 203 yX9_begin) ∈ lwt := List.mem_filter.mpr ⟨List.mem_append_right _ (List.mem_of_getElem? (i := 588) (by decide +kernel)), rfl⟩
theorem tw589 : (Cond.instanceMethod yX9_begin) ∈ lwt := List.mem_filter.mpr ⟨List.mem_append_right _ (List.mem_of_getElem? (i := 589) (by decide +kernel)), rfl⟩
theorem tw590 : (Cond.selects RX9 yX9_begin yX9_begin) ∈ lwt := List.mem_filter.mpr ⟨List.mem_append_right _ (List.mem_of_getElem? (i := 590) (by decide +kernel)), rfl⟩
theorem tw591 : (Cond.code yX9_begin cX9_begin 1 (Option.none : Option FieldType)) ∈ lwt := List.mem_filter.mpr ⟨List.mem_append_right _ (List.mem_of_getElem? (i := 591) (by decide +kernel)), rfl⟩
theorem tw592 : (Cond.methodLink RX9 15 yJ7_fill_d0a16) ∈ lwt := List.mem_filter.mpr ⟨List.mem_append_right _ (List.mem_of_getElem? (i := 592) (by decide +kernel)), rfl⟩
theorem tw593 : (Cond.static yJ7_fill_d0a16) ∈ lwt := List.mem_filter.mpr ⟨List.mem_append_right _ (List.mem_of_getElem? (i := 593) (by decide +kernel)), rfl⟩
theorem tw594 : (Cond.code yJ7_fill_d0a16 cJ7_fill_d0a16 5 (Option.none : Option FieldType)) ∈ lwt := List.mem_filter.mpr ⟨List.mem_append_right _ (List.mem_of_getElem? (i := 594) (by decide +kernel)), rfl⟩
theorem tw595 : (Cond.methodLink RX11 206 yX9_mayCome) ∈ lwt := List.mem_filter.mpr ⟨List.mem_append_right _ (List.mem_of_getElem? (i := 595) (by decide +kernel)), rfl⟩
theorem tw596 : (Cond.instanceMethod yX9_mayCome) ∈ lwt := List.mem_filter.mpr ⟨List.mem_append_right _ (List.mem_of_getElem? (i := 596) (by decide +kernel)), rfl⟩
theorem tw597 : (Cond.selects RX9 yX9_mayCome yX9_mayCome) ∈ lwt := List.mem_filter.mpr ⟨List.mem_append_right _ (List.mem_of_getElem? (i := 597) (by decide +kernel)), rfl⟩
theorem tw598 : (Cond.code yX9_mayCome cX9_mayCome 11 (Option.none : Option FieldType)) ∈ lwt := List.mem_filter.mpr ⟨List.mem_append_right _ (List.mem_of_getElem? (i := 598) (by decide +kernel)), rfl⟩
theorem tw599 : (Cond.constantLong RX9 29 (100 : Int64)) ∈ lwt := List.mem_filter.mpr ⟨List.mem_append_right _ (List.mem_of_getElem? (i := 599) (by decide +kernel)), rfl⟩
theorem tw600 : (Cond.methodLink RX9 31 yX9_waysTo) ∈ lwt := List.mem_filter.mpr ⟨List.mem_append_right _ (List.mem_of_getElem? (i := 600) (by decide +kernel)), rfl⟩
theorem tw602 : (Cond.instanceMethod yX9_waysTo) ∈ lwt := List.mem_filter.mpr ⟨List.mem_append_right _ (List.mem_of_getElem? (i := 602) (by decide +kernel)), rfl⟩
theorem tw603 : (Cond.code yX9_waysTo cX9_waysTo 3 (Option.some FieldType.long)) ∈ lwt := List.mem_filter.mpr ⟨List.mem_append_right _ (List.mem_of_getElem? (i := 603) (by decide +kernel)), rfl⟩
theorem tw604 : (Cond.methodLink RX11 209 yX9_waysIn) ∈ lwt := List.mem_filter.mpr ⟨List.mem_append_right _ (List.mem_of_getElem? (i := 604) (by decide +kernel)), rfl⟩
theorem tw605 : (Cond.instanceMethod yX9_waysIn) ∈ lwt := List.mem_filter.mpr ⟨List.mem_append_right _ (List.mem_of_getElem? (i := 605) (by decide +kernel)), rfl⟩
theorem tw606 : (Cond.selects RX9 yX9_waysIn yX9_waysIn) ∈ lwt := List.mem_filter.mpr ⟨List.mem_append_right _ (List.mem_of_getElem? (i := 606) (by decide +kernel)), rfl⟩
theorem tw607 : (Cond.code yX9_waysIn cX9_waysIn 6 (Option.some FieldType.long)) ∈ lwt := List.mem_filter.mpr ⟨List.mem_append_right _ (List.mem_of_getElem? (i := 607) (by decide +kernel)), rfl⟩
theorem tw608 : (Cond.methodLink RX9 35 yX6_letsIn) ∈ lwt := List.mem_filter.mpr ⟨List.mem_append_right _ (List.mem_of_getElem? (i := 608) (by decide +kernel)), rfl⟩
theorem tw609 : (Cond.instanceMethod yX6_letsIn) ∈ lwt := List.mem_filter.mpr ⟨List.mem_append_right _ (List.mem_of_getElem? (i := 609) (by decide +kernel)), rfl⟩
theorem tw610 : (Cond.selects RX6 yX6_letsIn yX6_letsIn) ∈ lwt := List.mem_filter.mpr ⟨List.mem_append_right _ (List.mem_of_getElem? (i := 610) (by decide +kernel)), rfl⟩
theorem tw611 : (Cond.code yX6_letsIn cX6_letsIn 3 (Option.some FieldType.boolean)) ∈ lwt := List.mem_filter.mpr ⟨List.mem_append_right _ (List.mem_of_getElem? (i := 611) (by decide +kernel)), rfl⟩
theorem tw612 : (Cond.methodLink RX6 26 yX6_hasQuorum) ∈ lwt := List.mem_filter.mpr ⟨List.mem_append_right _ (List.mem_of_getElem? (i := 612) (by decide +kernel)), rfl⟩
theorem tw613 : (Cond.methodLink RX6 30 yX6_shutsOut) ∈ lwt := List.mem_filter.mpr ⟨List.mem_append_right _ (List.mem_of_getElem? (i := 613) (by decide +kernel)), rfl⟩
theorem tw614 : (Cond.methodLink RX11 213 yX9_all) ∈ lwt := List.mem_filter.mpr ⟨List.mem_append_right _ (List.mem_of_getElem? (i := 614) (by decide +kernel)), rfl⟩
theorem tw615 : (Cond.instanceMethod yX9_all) ∈ lwt := List.mem_filter.mpr ⟨List.mem_append_right _ (List.mem_of_getElem? (i := 615) (by decide +kernel)), rfl⟩
theorem tw616 : (Cond.selects RX9 yX9_all yX9_all) ∈ lwt := List.mem_filter.mpr ⟨List.mem_append_right _ (List.mem_of_getElem? (i := 616) (by decide +kernel)), rfl⟩
theorem tw617 : (Cond.code yX9_all cX9_all 1 (Option.some FieldType.long)) ∈ lwt := List.mem_filter.mpr ⟨List.mem_append_right _ (List.mem_of_getElem? (i := 617) (by decide +kernel)), rfl⟩
theorem tw618 : (Cond.methodLink RL 88 yX11_wrong) ∈ lwt := List.mem_filter.mpr ⟨List.mem_append_right _ (List.mem_of_getElem? (i := 618) (by decide +kernel)), rfl⟩
theorem tw619 : (Cond.instanceMethod yX11_wrong) ∈ lwt := List.mem_filter.mpr ⟨List.mem_append_right _ (List.mem_of_getElem? (i := 619) (by decide +kernel)), rfl⟩
theorem tw620 : (Cond.selects RX11 yX11_wrong yX11_wrong) ∈ lwt := List.mem_filter.mpr ⟨List.mem_append_right _ (List.mem_of_getElem? (i := 620) (by decide +kernel)), rfl⟩
theorem tw621 : (Cond.code yX11_wrong cX11_wrong 4 (Option.some FieldType.long)) ∈ lwt := List.mem_filter.mpr ⟨List.mem_append_right _ (List.mem_of_getElem? (i := 621) (by decide +kernel)), rfl⟩
theorem tw622 : (Cond.methodLink RX11 214 yX11_wrongWays) ∈ lwt := List.mem_filter.mpr ⟨List.mem_append_right _ (List.mem_of_getElem? (i := 622) (by decide +kernel)), rfl⟩
theorem tw624 : (Cond.instanceMethod yX11_wrongWays) ∈ lwt := List.mem_filter.mpr ⟨List.mem_append_right _ (List.mem_of_getElem? (i := 624) (by decide +kernel)), rfl⟩
theorem tw625 : (Cond.code yX11_wrongWays cX11_wrongWays 10 (Option.some FieldType.long)) ∈ lwt := List.mem_filter.mpr ⟨List.mem_append_right _ (List.mem_of_getElem? (i := 625) (by decide +kernel)), rfl⟩
theorem tw626 : (Cond.methodLink RL 93 yX11_best) ∈ lwt := List.mem_filter.mpr ⟨List.mem_append_right _ (List.mem_of_getElem? (i := 626) (by decide +kernel)), rfl⟩
theorem tw627 : (Cond.instanceMethod yX11_best) ∈ lwt := List.mem_filter.mpr ⟨List.mem_append_right _ (List.mem_of_getElem? (i := 627) (by decide +kernel)), rfl⟩
theorem tw628 : (Cond.selects RX11 yX11_best yX11_best) ∈ lwt := List.mem_filter.mpr ⟨List.mem_append_right _ (List.mem_of_getElem? (i := 628) (by decide +kernel)), rfl⟩
theorem tw629 : (Cond.code yX11_best cX11_best 8 (Option.some FieldType.int)) ∈ lwt := List.mem_filter.mpr ⟨List.mem_append_right _ (List.mem_of_getElem? (i := 629) (by decide +kernel)), rfl⟩
theorem tw630 : (Cond.methodLink RL 97 yX11_who) ∈ lwt := List.mem_filter.mpr ⟨List.mem_append_right _ (List.mem_of_getElem? (i := 630) (by decide +kernel)), rfl⟩
theorem tw631 : (Cond.instanceMethod yX11_who) ∈ lwt := List.mem_filter.mpr ⟨List.mem_append_right _ (List.mem_of_getElem? (i := 631) (by decide +kernel)), rfl⟩
theorem tw632 : (Cond.selects RX11 yX11_who yX11_who) ∈ lwt := List.mem_filter.mpr ⟨List.mem_append_right _ (List.mem_of_getElem? (i := 632) (by decide +kernel)), rfl⟩
theorem tw633 : (Cond.code yX11_who cX11_who 17 (Option.some FieldType.int)) ∈ lwt := List.mem_filter.mpr ⟨List.mem_append_right _ (List.mem_of_getElem? (i := 633) (by decide +kernel)), rfl⟩
theorem tw634 : (Cond.methodLink RL 102 yX11_heard) ∈ lwt := List.mem_filter.mpr ⟨List.mem_append_right _ (List.mem_of_getElem? (i := 634) (by decide +kernel)), rfl⟩
theorem tw635 : (Cond.instanceMethod yX11_heard) ∈ lwt := List.mem_filter.mpr ⟨List.mem_append_right _ (List.mem_of_getElem? (i := 635) (by decide +kernel)), rfl⟩
theorem tw636 : (Cond.selects RX11 yX11_heard yX11_heard) ∈ lwt := List.mem_filter.mpr ⟨List.mem_append_right _ (List.mem_of_getElem? (i := 636) (by decide +kernel)), rfl⟩
theorem tw637 : (Cond.code yX11_heard cX11_heard 14 (Option.some FieldType.int)) ∈ lwt := List.mem_filter.mpr ⟨List.mem_append_right _ (List.mem_of_getElem? (i := 637) (by decide +kernel)), rfl⟩
theorem tw638 : (Cond.methodLink RL 107 yX11_sway) ∈ lwt := List.mem_filter.mpr ⟨List.mem_append_right _ (List.mem_of_getElem? (i := 638) (by decide +kernel)), rfl⟩
theorem tw639 : (Cond.instanceMethod yX11_sway) ∈ lwt := List.mem_filter.mpr ⟨List.mem_append_right _ (List.mem_of_getElem? (i := 639) (by decide +kernel)), rfl⟩
theorem tw640 : (Cond.selects RX11 yX11_sway yX11_sway) ∈ lwt := List.mem_filter.mpr ⟨List.mem_append_right _ (List.mem_of_getElem? (i := 640) (by decide +kernel)), rfl⟩
theorem tw641 : (Cond.code yX11_sway cX11_sway 15 (Option.some FieldType.int)) ∈ lwt := List.mem_filter.mpr ⟨List.mem_append_right _ (List.mem_of_getElem? (i := 641) (by decide +kernel)), rfl⟩
theorem tw642 : (Cond.constantLong RX11 228 (100 : Int64)) ∈ lwt := List.mem_filter.mpr ⟨List.mem_append_right _ (List.mem_of_getElem? (i := 642) (by decide +kernel)), rfl⟩
theorem tw643 : (Cond.methodLink RX11 230 yJ9_abs_067f4) ∈ lwt := List.mem_filter.mpr ⟨List.mem_append_right _ (List.mem_of_getElem? (i := 643) (by decide +kernel)), rfl⟩
theorem tw644 : (Cond.static yJ9_abs_067f4) ∈ lwt := List.mem_filter.mpr ⟨List.mem_append_right _ (List.mem_of_getElem? (i := 644) (by decide +kernel)), rfl⟩
theorem tw645 : (Cond.code yJ9_abs_067f4 cJ9_abs_067f4 2 (Option.some FieldType.long)) ∈ lwt := List.mem_filter.mpr ⟨List.mem_append_right _ (List.mem_of_getElem? (i := 645) (by decide +kernel)), rfl⟩
theorem tw646 : (Cond.methodLink RL 111 yX11_word) ∈ lwt := List.mem_filter.mpr ⟨List.mem_append_right _ (List.mem_of_getElem? (i := 646) (by decide +kernel)), rfl⟩
theorem tw647 : (Cond.instanceMethod yX11_word) ∈ lwt := List.mem_filter.mpr ⟨List.mem_append_right _ (List.mem_of_getElem? (i := 647) (by decide +kernel)), rfl⟩
theorem tw648 : (Cond.selects RX11 yX11_word yX11_word) ∈ lwt := List.mem_filter.mpr ⟨List.mem_append_right _ (List.mem_of_getElem? (i := 648) (by decide +kernel)), rfl⟩
theorem tw649 : (Cond.code yX11_word cX11_word 7 (Option.some FieldType.int)) ∈ lwt := List.mem_filter.mpr ⟨List.mem_append_right _ (List.mem_of_getElem? (i := 649) (by decide +kernel)), rfl⟩
theorem tw650 : (Cond.methodLink RX11 236 yX11_withdraws) ∈ lwt := List.mem_filter.mpr ⟨List.mem_append_right _ (List.mem_of_getElem? (i := 650) (by decide +kernel)), rfl⟩
theorem tw651 : (Cond.static yX11_withdraws) ∈ lwt := List.mem_filter.mpr ⟨List.mem_append_right _ (List.mem_of_getElem? (i := 651) (by decide +kernel)), rfl⟩
theorem tw652 : (Cond.code yX11_withdraws cX11_withdraws 4 (Option.some FieldType.boolean)) ∈ lwt := List.mem_filter.mpr ⟨List.mem_append_right _ (List.mem_of_getElem? (i := 652) (by decide +kernel)), rfl⟩
theorem tw653 : (Cond.methodLink RL 115 yX11_seen) ∈ lwt := List.mem_filter.mpr ⟨List.mem_append_right _ (List.mem_of_getElem? (i := 653) (by decide +kernel)), rfl⟩
theorem tw654 : (Cond.instanceMethod yX11_seen) ∈ lwt := List.mem_filter.mpr ⟨List.mem_append_right _ (List.mem_of_getElem? (i := 654) (by decide +kernel)), rfl⟩
theorem tw655 : (Cond.selects RX11 yX11_seen yX11_seen) ∈ lwt := List.mem_filter.mpr ⟨List.mem_append_right _ (List.mem_of_getElem? (i := 655) (by decide +kernel)), rfl⟩
theorem tw656 : (Cond.code yX11_seen cX11_seen 11 (Option.some FieldType.long)) ∈ lwt := List.mem_filter.mpr ⟨List.mem_append_right _ (List.mem_of_getElem? (i := 656) (by decide +kernel)), rfl⟩
theorem tw657 : (Cond.methodLink RL 119 yX11_evening) ∈ lwt := List.mem_filter.mpr ⟨List.mem_append_right _ (List.mem_of_getElem? (i := 657) (by decide +kernel)), rfl⟩
theorem tw658 : (Cond.instanceMethod yX11_evening) ∈ lwt := List.mem_filter.mpr ⟨List.mem_append_right _ (List.mem_of_getElem? (i := 658) (by decide +kernel)), rfl⟩
theorem tw659 : (Cond.selects RX11 yX11_evening yX11_evening) ∈ lwt := List.mem_filter.mpr ⟨List.mem_append_right _ (List.mem_of_getElem? (i := 659) (by decide +kernel)), rfl⟩
theorem tw660 : (Cond.code yX11_evening cX11_evening 9 (Option.some FieldType.int)) ∈ lwt := List.mem_filter.mpr ⟨List.mem_append_right _ (List.mem_of_getElem? (i := 660) (by decide +kernel)), rfl⟩
theorem tw661 : (Cond.methodLink RX11 240 yX0_begin) ∈ lwt := List.mem_filter.mpr ⟨List.mem_append_right _ (List.mem_of_getElem? (i := 661) (by decide +kernel)), rfl⟩
theorem tw662 : (Cond.instanceMethod yX0_begin) ∈ lwt := List.mem_filter.mpr ⟨List.mem_append_right _ (List.mem_of_getElem? (i := 662) (by decide +kernel)), rfl⟩
theorem tw663 : (Cond.selects RX0 yX0_begin yX0_begin) ∈ lwt := List.mem_filter.mpr ⟨List.mem_append_right _ (List.mem_of_getElem? (i := 663) (by decide +kernel)), rfl⟩
theorem tw664 : (Cond.code yX0_begin cX0_begin 1 (Option.none : Option FieldType)) ∈ lwt := List.mem_filter.mpr ⟨List.mem_append_right _ (List.mem_of_getElem? (i := 664) (by decide +kernel)), rfl⟩
theorem tw665 : (Cond.methodLink RX11 241 yX0_seat) ∈ lwt := List.mem_filter.mpr ⟨List.mem_append_right _ (List.mem_of_getElem? (i := 665) (by decide +kernel)), rfl⟩
theorem tw666 : (Cond.instanceMethod yX0_seat) ∈ lwt := List.mem_filter.mpr ⟨List.mem_append_right _ (List.mem_of_getElem? (i := 666) (by decide +kernel)), rfl⟩
theorem tw667 : (Cond.selects RX0 yX0_seat yX0_seat) ∈ lwt := List.mem_filter.mpr ⟨List.mem_append_right _ (List.mem_of_getElem? (i := 667) (by decide +kernel)), rfl⟩
theorem tw668 : (Cond.code yX0_seat cX0_seat 2 (Option.none : Option FieldType)) ∈ lwt := List.mem_filter.mpr ⟨List.mem_append_right _ (List.mem_of_getElem? (i := 668) (by decide +kernel)), rfl⟩
theorem tw669 : (Cond.methodLink RX11 245 yX0_hold) ∈ lwt := List.mem_filter.mpr ⟨List.mem_append_right _ (List.mem_of_getElem? (i := 669) (by decide +kernel)), rfl⟩
theorem tw670 : (Cond.instanceMethod yX0_hold) ∈ lwt := List.mem_filter.mpr ⟨List.mem_append_right _ (List.mem_of_getElem? (i := 670) (by decide +kernel)), rfl⟩
theorem tw671 : (Cond.selects RX0 yX0_hold yX0_hold) ∈ lwt := List.mem_filter.mpr ⟨List.mem_append_right _ (List.mem_of_getElem? (i := 671) (by decide +kernel)), rfl⟩
theorem tw672 : (Cond.code yX0_hold cX0_hold 3 (Option.none : Option FieldType)) ∈ lwt := List.mem_filter.mpr ⟨List.mem_append_right _ (List.mem_of_getElem? (i := 672) (by decide +kernel)), rfl⟩
theorem tw673 : (Cond.methodLink RX0 29 yX6_hasQuorum) ∈ lwt := List.mem_filter.mpr ⟨List.mem_append_right _ (List.mem_of_getElem? (i := 673) (by decide +kernel)), rfl⟩
theorem tw674 : (Cond.methodLink RX0 35 yX0_putBalls) ∈ lwt := List.mem_filter.mpr ⟨List.mem_append_right _ (List.mem_of_getElem? (i := 674) (by decide +kernel)), rfl⟩
theorem tw676 : (Cond.instanceMethod yX0_putBalls) ∈ lwt := List.mem_filter.mpr ⟨List.mem_append_right _ (List.mem_of_getElem? (i := 676) (by decide +kernel)), rfl⟩
theorem tw677 : (Cond.code yX0_putBalls cX0_putBalls 2 (Option.none : Option FieldType)) ∈ lwt := List.mem_filter.mpr ⟨List.mem_append_right _ (List.mem_of_getElem? (i := 677) (by decide +kernel)), rfl⟩
theorem tw678 : (Cond.methodLink RX0 45 yX0_nextSeed) ∈ lwt := List.mem_filter.mpr ⟨List.mem_append_right _ (List.mem_of_getElem? (i := 678) (by decide +kernel)), rfl⟩
theorem tw679 : (Cond.static yX0_nextSeed) ∈ lwt := List.mem_filter.mpr ⟨List.mem_append_right _ (List.mem_of_getElem? (i := 679) (by decide +kernel)), rfl⟩
theorem tw680 : (Cond.code yX0_nextSeed cX0_nextSeed 1 (Option.some FieldType.int)) ∈ lwt := List.mem_filter.mpr ⟨List.mem_append_right _ (List.mem_of_getElem? (i := 680) (by decide +kernel)), rfl⟩
theorem tw681 : (Cond.constant RX0 52 (1103515245 : Int32)) ∈ lwt := List.mem_filter.mpr ⟨List.mem_append_right _ (List.mem_of_getElem? (i := 681) (by decide +kernel)), rfl⟩
theorem tw682 : (Cond.constant RX0 55 (2147483647 : Int32)) ∈ lwt := List.mem_filter.mpr ⟨List.mem_append_right _ (List.mem_of_getElem? (i := 682) (by decide +kernel)), rfl⟩
theorem tw683 : (Cond.methodLink RX0 49 yX0_drawnTenth) ∈ lwt := List.mem_filter.mpr ⟨List.mem_append_right _ (List.mem_of_getElem? (i := 683) (by decide +kernel)), rfl⟩
theorem tw684 : (Cond.static yX0_drawnTenth) ∈ lwt := List.mem_filter.mpr ⟨List.mem_append_right _ (List.mem_of_getElem? (i := 684) (by decide +kernel)), rfl⟩
theorem tw685 : (Cond.code yX0_drawnTenth cX0_drawnTenth 1 (Option.some FieldType.int)) ∈ lwt := List.mem_filter.mpr ⟨List.mem_append_right _ (List.mem_of_getElem? (i := 685) (by decide +kernel)), rfl⟩
theorem tw686 : (Cond.constant RX0 56 (65536 : Int32)) ∈ lwt := List.mem_filter.mpr ⟨List.mem_append_right _ (List.mem_of_getElem? (i := 686) (by decide +kernel)), rfl⟩
theorem tw687 : (Cond.methodLink RX0 41 yX6_shutsOut) ∈ lwt := List.mem_filter.mpr ⟨List.mem_append_right _ (List.mem_of_getElem? (i := 687) (by decide +kernel)), rfl⟩
theorem tw688 : (Cond.methodLink RL 123 yX11_trade) ∈ lwt := List.mem_filter.mpr ⟨List.mem_append_right _ (List.mem_of_getElem? (i := 688) (by decide +kernel)), rfl⟩
theorem tw689 : (Cond.instanceMethod yX11_trade) ∈ lwt := List.mem_filter.mpr ⟨List.mem_append_right _ (List.mem_of_getElem? (i := 689) (by decide +kernel)), rfl⟩
theorem tw690 : (Cond.selects RX11 yX11_trade yX11_trade) ∈ lwt := List.mem_filter.mpr ⟨List.mem_append_right _ (List.mem_of_getElem? (i := 690) (by decide +kernel)), rfl⟩
theorem tw691 : (Cond.code yX11_trade cX11_trade 15 (Option.some FieldType.int)) ∈ lwt := List.mem_filter.mpr ⟨List.mem_append_right _ (List.mem_of_getElem? (i := 691) (by decide +kernel)), rfl⟩
theorem tw692 : (Cond.methodLink RX11 258 yX11_letInByOneBall) ∈ lwt := List.mem_filter.mpr ⟨List.mem_append_right _ (List.mem_of_getElem? (i := 692) (by decide +kernel)), rfl⟩
theorem tw694 : (Cond.instanceMethod yX11_letInByOneBall) ∈ lwt := List.mem_filter.mpr ⟨List.mem_append_right _ (List.mem_of_getElem? (i := 694) (by decide +kernel)), rfl⟩
theorem tw695 : (Cond.code yX11_letInByOneBall cX11_letInByOneBall 8 (Option.some FieldType.int)) ∈ lwt := List.mem_filter.mpr ⟨List.mem_append_right _ (List.mem_of_getElem? (i := 695) (by decide +kernel)), rfl⟩
theorem tw696 : (Cond.methodLink RX11 363 yX6_letsIn) ∈ lwt := List.mem_filter.mpr ⟨List.mem_append_right _ (List.mem_of_getElem? (i := 696) (by decide +kernel)), rfl⟩
theorem tw697 : (Cond.methodLink RX11 262 yX11_gain) ∈ lwt := List.mem_filter.mpr ⟨List.mem_append_right _ (List.mem_of_getElem? (i := 697) (by decide +kernel)), rfl⟩
theorem tw698 : (Cond.static yX11_gain) ∈ lwt := List.mem_filter.mpr ⟨List.mem_append_right _ (List.mem_of_getElem? (i := 698) (by decide +kernel)), rfl⟩
theorem tw699 : (Cond.code yX11_gain cX11_gain 10 (Option.some FieldType.int)) ∈ lwt := List.mem_filter.mpr ⟨List.mem_append_right _ (List.mem_of_getElem? (i := 699) (by decide +kernel)), rfl⟩
theorem tw700 : (Cond.methodLink RL 127 yX11_veto) ∈ lwt := List.mem_filter.mpr ⟨List.mem_append_right _ (List.mem_of_getElem? (i := 700) (by decide +kernel)), rfl⟩
theorem tw701 : (Cond.instanceMethod yX11_veto) ∈ lwt := List.mem_filter.mpr ⟨List.mem_append_right _ (List.mem_of_getElem? (i := 701) (by decide +kernel)), rfl⟩
theorem tw702 : (Cond.selects RX11 yX11_veto yX11_veto) ∈ lwt := List.mem_filter.mpr ⟨List.mem_append_right _ (List.mem_of_getElem? (i := 702) (by decide +kernel)), rfl⟩
theorem tw703 : (Cond.code yX11_veto cX11_veto 6 (Option.some FieldType.int)) ∈ lwt := List.mem_filter.mpr ⟨List.mem_append_right _ (List.mem_of_getElem? (i := 703) (by decide +kernel)), rfl⟩
theorem tw704 : (Cond.methodLink RX11 266 yX11_expectVetoes) ∈ lwt := List.mem_filter.mpr ⟨List.mem_append_right _ (List.mem_of_getElem? (i := 704) (by decide +kernel)), rfl⟩
theorem tw706 : (Cond.instanceMethod yX11_expectVetoes) ∈ lwt := List.mem_filter.mpr ⟨List.mem_append_right _ (List.mem_of_getElem? (i := 706) (by decide +kernel)), rfl⟩
theorem tw707 : (Cond.code yX11_expectVetoes cX11_expectVetoes 9 (Option.some FieldType.long)) ∈ lwt := List.mem_filter.mpr ⟨List.mem_append_right _ (List.mem_of_getElem? (i := 707) (by decide +kernel)), rfl⟩
theorem tw708 : (Cond.methodLink RX11 366 yJ7_fill_d0a16) ∈ lwt := List.mem_filter.mpr ⟨List.mem_append_right _ (List.mem_of_getElem? (i := 708) (by decide +kernel)), rfl⟩
theorem tw709 : (Cond.methodLink RX11 372 yJ9_max_f86c9) ∈ lwt := List.mem_filter.mpr ⟨List.mem_append_right _ (List.mem_of_getElem? (i := 709) (by decide +kernel)), rfl⟩
theorem tw710 : (Cond.static yJ9_max_f86c9) ∈ lwt := List.mem_filter.mpr ⟨List.mem_append_right _ (List.mem_of_getElem? (i := 710) (by decide +kernel)), rfl⟩
theorem tw711 : (Cond.code yJ9_max_f86c9 cJ9_max_f86c9 4 (Option.some FieldType.long)) ∈ lwt := List.mem_filter.mpr ⟨List.mem_append_right _ (List.mem_of_getElem? (i := 711) (by decide +kernel)), rfl⟩
theorem tw712 : (Cond.constantLong RX11 375 (11 : Int64)) ∈ lwt := List.mem_filter.mpr ⟨List.mem_append_right _ (List.mem_of_getElem? (i := 712) (by decide +kernel)), rfl⟩
theorem tw713 : (Cond.methodLink RL 131 yX11_worth) ∈ lwt := List.mem_filter.mpr ⟨List.mem_append_right _ (List.mem_of_getElem? (i := 713) (by decide +kernel)), rfl⟩
theorem tw714 : (Cond.instanceMethod yX11_worth) ∈ lwt := List.mem_filter.mpr ⟨List.mem_append_right _ (List.mem_of_getElem? (i := 714) (by decide +kernel)), rfl⟩
theorem tw715 : (Cond.selects RX11 yX11_worth yX11_worth) ∈ lwt := List.mem_filter.mpr ⟨List.mem_append_right _ (List.mem_of_getElem? (i := 715) (by decide +kernel)), rfl⟩
theorem tw716 : (Cond.code yX11_worth cX11_worth 6 (Option.some FieldType.long)) ∈ lwt := List.mem_filter.mpr ⟨List.mem_append_right _ (List.mem_of_getElem? (i := 716) (by decide +kernel)), rfl⟩
theorem tw717 : (Cond.methodLink RL 135 yX11_years) ∈ lwt := List.mem_filter.mpr ⟨List.mem_append_right _ (List.mem_of_getElem? (i := 717) (by decide +kernel)), rfl⟩
theorem tw718 : (Cond.instanceMethod yX11_years) ∈ lwt := List.mem_filter.mpr ⟨List.mem_append_right _ (List.mem_of_getElem? (i := 718) (by decide +kernel)), rfl⟩
theorem tw719 : (Cond.selects RX11 yX11_years yX11_years) ∈ lwt := List.mem_filter.mpr ⟨List.mem_append_right _ (List.mem_of_getElem? (i := 719) (by decide +kernel)), rfl⟩
theorem tw720 : (Cond.code yX11_years cX11_years 7 (Option.some FieldType.int)) ∈ lwt := List.mem_filter.mpr ⟨List.mem_append_right _ (List.mem_of_getElem? (i := 720) (by decide +kernel)), rfl⟩
theorem tw721 : (Cond.methodLink RX11 269 yX1_found) ∈ lwt := List.mem_filter.mpr ⟨List.mem_append_right _ (List.mem_of_getElem? (i := 721) (by decide +kernel)), rfl⟩
theorem tw722 : (Cond.instanceMethod yX1_found) ∈ lwt := List.mem_filter.mpr ⟨List.mem_append_right _ (List.mem_of_getElem? (i := 722) (by decide +kernel)), rfl⟩
theorem tw723 : (Cond.selects RX1 yX1_found yX1_found) ∈ lwt := List.mem_filter.mpr ⟨List.mem_append_right _ (List.mem_of_getElem? (i := 723) (by decide +kernel)), rfl⟩
theorem tw724 : (Cond.code yX1_found cX1_found 3 (Option.none : Option FieldType)) ∈ lwt := List.mem_filter.mpr ⟨List.mem_append_right _ (List.mem_of_getElem? (i := 724) (by decide +kernel)), rfl⟩
theorem tw725 : (Cond.methodLink RX1 30 yX1_drawTaste) ∈ lwt := List.mem_filter.mpr ⟨List.mem_append_right _ (List.mem_of_getElem? (i := 725) (by decide +kernel)), rfl⟩
theorem tw727 : (Cond.instanceMethod yX1_drawTaste) ∈ lwt := List.mem_filter.mpr ⟨List.mem_append_right _ (List.mem_of_getElem? (i := 727) (by decide +kernel)), rfl⟩
theorem tw728 : (Cond.code yX1_drawTaste cX1_drawTaste 1 (Option.some FieldType.int)) ∈ lwt := List.mem_filter.mpr ⟨List.mem_append_right _ (List.mem_of_getElem? (i := 728) (by decide +kernel)), rfl⟩
theorem tw729 : (Cond.methodLink RX1 69 yX0_nextSeed) ∈ lwt := List.mem_filter.mpr ⟨List.mem_append_right _ (List.mem_of_getElem? (i := 729) (by decide +kernel)), rfl⟩
theorem tw730 : (Cond.methodLink RX1 72 yX0_drawnTenth) ∈ lwt := List.mem_filter.mpr ⟨List.mem_append_right _ (List.mem_of_getElem? (i := 730) (by decide +kernel)), rfl⟩
theorem tw731 : (Cond.methodLink RX11 272 yX1_passYear) ∈ lwt := List.mem_filter.mpr ⟨List.mem_append_right _ (List.mem_of_getElem? (i := 731) (by decide +kernel)), rfl⟩
theorem tw732 : (Cond.instanceMethod yX1_passYear) ∈ lwt := List.mem_filter.mpr ⟨List.mem_append_right _ (List.mem_of_getElem? (i := 732) (by decide +kernel)), rfl⟩
theorem tw733 : (Cond.selects RX1 yX1_passYear yX1_passYear) ∈ lwt := List.mem_filter.mpr ⟨List.mem_append_right _ (List.mem_of_getElem? (i := 733) (by decide +kernel)), rfl⟩
theorem tw734 : (Cond.code yX1_passYear cX1_passYear 4 (Option.none : Option FieldType)) ∈ lwt := List.mem_filter.mpr ⟨List.mem_append_right _ (List.mem_of_getElem? (i := 734) (by decide +kernel)), rfl⟩
theorem tw735 : (Cond.methodLink RX1 34 yX1_firstGoes) ∈ lwt := List.mem_filter.mpr ⟨List.mem_append_right _ (List.mem_of_getElem? (i := 735) (by decide +kernel)), rfl⟩
theorem tw737 : (Cond.instanceMethod yX1_firstGoes) ∈ lwt := List.mem_filter.mpr ⟨List.mem_append_right _ (List.mem_of_getElem? (i := 737) (by decide +kernel)), rfl⟩
theorem tw738 : (Cond.code yX1_firstGoes cX1_firstGoes 1 (Option.none : Option FieldType)) ∈ lwt := List.mem_filter.mpr ⟨List.mem_append_right _ (List.mem_of_getElem? (i := 738) (by decide +kernel)), rfl⟩
theorem tw739 : (Cond.methodLink RX1 63 arraycopyName) ∈ lwt := List.mem_filter.mpr ⟨List.mem_append_right _ (List.mem_of_getElem? (i := 739) (by decide +kernel)), rfl⟩
theorem tw740 : (Cond.static arraycopyName) ∈ lwt := List.mem_filter.mpr ⟨List.mem_append_right _ (List.mem_of_getElem? (i := 740) (by decide +kernel)), rfl⟩
theorem tw741 : (Cond.native arraycopyName) ∈ lwt := List.mem_filter.mpr ⟨List.mem_append_right _ (List.mem_of_getElem? (i := 741) (by decide +kernel)), rfl⟩
theorem tw742 : (Cond.methodLink RX1 37 yX0_begin) ∈ lwt := List.mem_filter.mpr ⟨List.mem_append_right _ (List.mem_of_getElem? (i := 742) (by decide +kernel)), rfl⟩
theorem tw743 : (Cond.methodLink RX1 40 yJ9_abs_0f7a4) ∈ lwt := List.mem_filter.mpr ⟨List.mem_append_right _ (List.mem_of_getElem? (i := 743) (by decide +kernel)), rfl⟩
theorem tw744 : (Cond.static yJ9_abs_0f7a4) ∈ lwt := List.mem_filter.mpr ⟨List.mem_append_right _ (List.mem_of_getElem? (i := 744) (by decide +kernel)), rfl⟩
theorem tw745 : (Cond.code yJ9_abs_0f7a4 cJ9_abs_0f7a4 1 (Option.some FieldType.int)) ∈ lwt := List.mem_filter.mpr ⟨List.mem_append_right _ (List.mem_of_getElem? (i := 745) (by decide +kernel)), rfl⟩
theorem tw746 : (Cond.methodLink RX1 46 yX0_seat) ∈ lwt := List.mem_filter.mpr ⟨List.mem_append_right _ (List.mem_of_getElem? (i := 746) (by decide +kernel)), rfl⟩
theorem tw747 : (Cond.methodLink RX1 50 yX0_hold) ∈ lwt := List.mem_filter.mpr ⟨List.mem_append_right _ (List.mem_of_getElem? (i := 747) (by decide +kernel)), rfl⟩
theorem tw748 : (Cond.methodLink RX11 279 yX1_unlikeTastes) ∈ lwt := List.mem_filter.mpr ⟨List.mem_append_right _ (List.mem_of_getElem? (i := 748) (by decide +kernel)), rfl⟩
theorem tw749 : (Cond.instanceMethod yX1_unlikeTastes) ∈ lwt := List.mem_filter.mpr ⟨List.mem_append_right _ (List.mem_of_getElem? (i := 749) (by decide +kernel)), rfl⟩
theorem tw750 : (Cond.selects RX1 yX1_unlikeTastes yX1_unlikeTastes) ∈ lwt := List.mem_filter.mpr ⟨List.mem_append_right _ (List.mem_of_getElem? (i := 750) (by decide +kernel)), rfl⟩
theorem tw751 : (Cond.code yX1_unlikeTastes cX1_unlikeTastes 3 (Option.some FieldType.int)) ∈ lwt := List.mem_filter.mpr ⟨List.mem_append_right _ (List.mem_of_getElem? (i := 751) (by decide +kernel)), rfl⟩
theorem tw752 : (Cond.methodLink RX1 58 yJ6_bitCount_0f7a4) ∈ lwt := List.mem_filter.mpr ⟨List.mem_append_right _ (List.mem_of_getElem? (i := 752) (by decide +kernel)), rfl⟩
theorem tw753 : (Cond.methodLink RL 139 yX11_lot) ∈ lwt := List.mem_filter.mpr ⟨List.mem_append_right _ (List.mem_of_getElem? (i := 753) (by decide +kernel)), rfl⟩
theorem tw754 : (Cond.instanceMethod yX11_lot) ∈ lwt := List.mem_filter.mpr ⟨List.mem_append_right _ (List.mem_of_getElem? (i := 754) (by decide +kernel)), rfl⟩
theorem tw755 : (Cond.selects RX11 yX11_lot yX11_lot) ∈ lwt := List.mem_filter.mpr ⟨List.mem_append_right _ (List.mem_of_getElem? (i := 755) (by decide +kernel)), rfl⟩
theorem tw756 : (Cond.code yX11_lot cX11_lot 3 (Option.some FieldType.int)) ∈ lwt := List.mem_filter.mpr ⟨List.mem_append_right _ (List.mem_of_getElem? (i := 756) (by decide +kernel)), rfl⟩
theorem tw757 : (Cond.methodLink RX11 285 yX11_howManyMinded) ∈ lwt := List.mem_filter.mpr ⟨List.mem_append_right _ (List.mem_of_getElem? (i := 757) (by decide +kernel)), rfl⟩
theorem tw759 : (Cond.instanceMethod yX11_howManyMinded) ∈ lwt := List.mem_filter.mpr ⟨List.mem_append_right _ (List.mem_of_getElem? (i := 759) (by decide +kernel)), rfl⟩
theorem tw760 : (Cond.code yX11_howManyMinded cX11_howManyMinded 3 (Option.some FieldType.int)) ∈ lwt := List.mem_filter.mpr ⟨List.mem_append_right _ (List.mem_of_getElem? (i := 760) (by decide +kernel)), rfl⟩
theorem tw761 : (Cond.methodLink RL 143 yX11_image) ∈ lwt := List.mem_filter.mpr ⟨List.mem_append_right _ (List.mem_of_getElem? (i := 761) (by decide +kernel)), rfl⟩
theorem tw762 : (Cond.instanceMethod yX11_image) ∈ lwt := List.mem_filter.mpr ⟨List.mem_append_right _ (List.mem_of_getElem? (i := 762) (by decide +kernel)), rfl⟩
theorem tw763 : (Cond.selects RX11 yX11_image yX11_image) ∈ lwt := List.mem_filter.mpr ⟨List.mem_append_right _ (List.mem_of_getElem? (i := 763) (by decide +kernel)), rfl⟩
theorem tw764 : (Cond.code yX11_image cX11_image 2 (Option.some FieldType.int)) ∈ lwt := List.mem_filter.mpr ⟨List.mem_append_right _ (List.mem_of_getElem? (i := 764) (by decide +kernel)), rfl⟩
theorem tw765 : (Cond.methodLink RX11 288 yX5_keep) ∈ lwt := List.mem_filter.mpr ⟨List.mem_append_right _ (List.mem_of_getElem? (i := 765) (by decide +kernel)), rfl⟩
theorem tw766 : (Cond.instanceMethod yX5_keep) ∈ lwt := List.mem_filter.mpr ⟨List.mem_append_right _ (List.mem_of_getElem? (i := 766) (by decide +kernel)), rfl⟩
theorem tw767 : (Cond.selects RX5 yX5_keep yX5_keep) ∈ lwt := List.mem_filter.mpr ⟨List.mem_append_right _ (List.mem_of_getElem? (i := 767) (by decide +kernel)), rfl⟩
theorem tw768 : (Cond.sameMethod RX5 RX5 "keep" "(I)V") ∈ lwt := List.mem_filter.mpr ⟨List.mem_append_right _ (List.mem_of_getElem? (i := 768) (by decide +kernel)), rfl⟩
theorem tw769 : (Cond.selects RX2 yX5_keep yX5_keep) ∈ lwt := List.mem_filter.mpr ⟨List.mem_append_right _ (List.mem_of_getElem? (i := 769) (by decide +kernel)), rfl⟩
theorem tw770 : (Cond.selects RX3 yX5_keep yX5_keep) ∈ lwt := List.mem_filter.mpr ⟨List.mem_append_right _ (List.mem_of_getElem? (i := 770) (by decide +kernel)), rfl⟩
theorem tw771 : (Cond.selects RX8 yX5_keep yX5_keep) ∈ lwt := List.mem_filter.mpr ⟨List.mem_append_right _ (List.mem_of_getElem? (i := 771) (by decide +kernel)), rfl⟩
theorem tw772 : (Cond.selects RX10 yX5_keep yX5_keep) ∈ lwt := List.mem_filter.mpr ⟨List.mem_append_right _ (List.mem_of_getElem? (i := 772) (by decide +kernel)), rfl⟩
theorem tw773 : (Cond.code yX5_keep cX5_keep 2 (Option.none : Option FieldType)) ∈ lwt := List.mem_filter.mpr ⟨List.mem_append_right _ (List.mem_of_getElem? (i := 773) (by decide +kernel)), rfl⟩
theorem tw774 : (Cond.methodLink RX5 36 yJ9_min_7cf53) ∈ lwt := List.mem_filter.mpr ⟨List.mem_append_right _ (List.mem_of_getElem? (i := 774) (by decide +kernel)), rfl⟩
theorem tw775 : (Cond.static yJ9_min_7cf53) ∈ lwt := List.mem_filter.mpr ⟨List.mem_append_right _ (List.mem_of_getElem? (i := 775) (by decide +kernel)), rfl⟩
theorem tw776 : (Cond.code yJ9_min_7cf53 cJ9_min_7cf53 2 (Option.some FieldType.int)) ∈ lwt := List.mem_filter.mpr ⟨List.mem_append_right _ (List.mem_of_getElem? (i := 776) (by decide +kernel)), rfl⟩
theorem tw777 : (Cond.methodLink RX5 45 arraycopyName) ∈ lwt := List.mem_filter.mpr ⟨List.mem_append_right _ (List.mem_of_getElem? (i := 777) (by decide +kernel)), rfl⟩
theorem tw778 : (Cond.methodLink RL 147 yX11_restore) ∈ lwt := List.mem_filter.mpr ⟨List.mem_append_right _ (List.mem_of_getElem? (i := 778) (by decide +kernel)), rfl⟩
theorem tw779 : (Cond.instanceMethod yX11_restore) ∈ lwt := List.mem_filter.mpr ⟨List.mem_append_right _ (List.mem_of_getElem? (i := 779) (by decide +kernel)), rfl⟩
theorem tw780 : (Cond.selects RX11 yX11_restore yX11_restore) ∈ lwt := List.mem_filter.mpr ⟨List.mem_append_right _ (List.mem_of_getElem? (i := 780) (by decide +kernel)), rfl⟩
theorem tw781 : (Cond.code yX11_restore cX11_restore 2 (Option.some FieldType.int)) ∈ lwt := List.mem_filter.mpr ⟨List.mem_append_right _ (List.mem_of_getElem? (i := 781) (by decide +kernel)), rfl⟩
theorem tw782 : (Cond.methodLink RX11 294 yX5_takeBack) ∈ lwt := List.mem_filter.mpr ⟨List.mem_append_right _ (List.mem_of_getElem? (i := 782) (by decide +kernel)), rfl⟩
theorem tw783 : (Cond.instanceMethod yX5_takeBack) ∈ lwt := List.mem_filter.mpr ⟨List.mem_append_right _ (List.mem_of_getElem? (i := 783) (by decide +kernel)), rfl⟩
theorem tw784 : (Cond.selects RX5 yX5_takeBack yX5_takeBack) ∈ lwt := List.mem_filter.mpr ⟨List.mem_append_right _ (List.mem_of_getElem? (i := 784) (by decide +kernel)), rfl⟩
theorem tw785 : (Cond.sameMethod RX5 RX5 "takeBack" "()V") ∈ lwt := List.mem_filter.mpr ⟨List.mem_append_right _ (List.mem_of_getElem? (i := 785) (by decide +kernel)), rfl⟩
theorem tw786 : (Cond.selects RX2 yX5_takeBack yX5_takeBack) ∈ lwt := List.mem_filter.mpr ⟨List.mem_append_right _ (List.mem_of_getElem? (i := 786) (by decide +kernel)), rfl⟩
theorem tw787 : (Cond.selects RX3 yX5_takeBack yX5_takeBack) ∈ lwt := List.mem_filter.mpr ⟨List.mem_append_right _ (List.mem_of_getElem? (i := 787) (by decide +kernel)), rfl⟩
theorem tw788 : (Cond.selects RX8 yX5_takeBack yX5_takeBack) ∈ lwt := List.mem_filter.mpr ⟨List.mem_append_right _ (List.mem_of_getElem? (i := 788) (by decide +kernel)), rfl⟩
theorem tw789 : (Cond.selects RX10 yX5_takeBack yX5_takeBack) ∈ lwt := List.mem_filter.mpr ⟨List.mem_append_right _ (List.mem_of_getElem? (i := 789) (by decide +kernel)), rfl⟩
theorem tw790 : (Cond.code yX5_takeBack cX5_takeBack 1 (Option.none : Option FieldType)) ∈ lwt := List.mem_filter.mpr ⟨List.mem_append_right _ (List.mem_of_getElem? (i := 790) (by decide +kernel)), rfl⟩
theorem tw791 : (Cond.methodLink RL 151 yX11_count) ∈ lwt := List.mem_filter.mpr ⟨List.mem_append_right _ (List.mem_of_getElem? (i := 791) (by decide +kernel)), rfl⟩
theorem tw792 : (Cond.instanceMethod yX11_count) ∈ lwt := List.mem_filter.mpr ⟨List.mem_append_right _ (List.mem_of_getElem? (i := 792) (by decide +kernel)), rfl⟩
theorem tw793 : (Cond.selects RX11 yX11_count yX11_count) ∈ lwt := List.mem_filter.mpr ⟨List.mem_append_right _ (List.mem_of_getElem? (i := 793) (by decide +kernel)), rfl⟩
theorem tw794 : (Cond.code yX11_count cX11_count 2 (Option.some FieldType.int)) ∈ lwt := List.mem_filter.mpr ⟨List.mem_append_right _ (List.mem_of_getElem? (i := 794) (by decide +kernel)), rfl⟩
theorem tw795 : (Cond.methodLink RL 155 yX11_digest) ∈ lwt := List.mem_filter.mpr ⟨List.mem_append_right _ (List.mem_of_getElem? (i := 795) (by decide +kernel)), rfl⟩
theorem tw796 : (Cond.instanceMethod yX11_digest) ∈ lwt := List.mem_filter.mpr ⟨List.mem_append_right _ (List.mem_of_getElem? (i := 796) (by decide +kernel)), rfl⟩
theorem tw797 : (Cond.selects RX11 yX11_digest yX11_digest) ∈ lwt := List.mem_filter.mpr ⟨List.mem_append_right _ (List.mem_of_getElem? (i := 797) (by decide +kernel)), rfl⟩
theorem tw798 : (Cond.code yX11_digest cX11_digest 4 (Option.some FieldType.long)) ∈ lwt := List.mem_filter.mpr ⟨List.mem_append_right _ (List.mem_of_getElem? (i := 798) (by decide +kernel)), rfl⟩
theorem tw799 : (Cond.constantLong RX11 300 (487 : Int64)) ∈ lwt := List.mem_filter.mpr ⟨List.mem_append_right _ (List.mem_of_getElem? (i := 799) (by decide +kernel)), rfl⟩
theorem tw800 : (Cond.methodLink RX11 302 yX11_digestRules) ∈ lwt := List.mem_filter.mpr ⟨List.mem_append_right _ (List.mem_of_getElem? (i := 800) (by decide +kernel)), rfl⟩
theorem tw802 : (Cond.instanceMethod yX11_digestRules) ∈ lwt := List.mem_filter.mpr ⟨List.mem_append_right _ (List.mem_of_getElem? (i := 802) (by decide +kernel)), rfl⟩
theorem tw803 : (Cond.code yX11_digestRules cX11_digestRules 7 (Option.some FieldType.long)) ∈ lwt := List.mem_filter.mpr ⟨List.mem_append_right _ (List.mem_of_getElem? (i := 803) (by decide +kernel)), rfl⟩
theorem tw804 : (Cond.methodLink RX11 320 yX11_mix) ∈ lwt := List.mem_filter.mpr ⟨List.mem_append_right _ (List.mem_of_getElem? (i := 804) (by decide +kernel)), rfl⟩
theorem tw805 : (Cond.static yX11_mix) ∈ lwt := List.mem_filter.mpr ⟨List.mem_append_right _ (List.mem_of_getElem? (i := 805) (by decide +kernel)), rfl⟩
theorem tw806 : (Cond.code yX11_mix cX11_mix 4 (Option.some FieldType.long)) ∈ lwt := List.mem_filter.mpr ⟨List.mem_append_right _ (List.mem_of_getElem? (i := 806) (by decide +kernel)), rfl⟩
theorem tw807 : (Cond.constantLong RX11 384 (31 : Int64)) ∈ lwt := List.mem_filter.mpr ⟨List.mem_append_right _ (List.mem_of_getElem? (i := 807) (by decide +kernel)), rfl⟩
theorem tw808 : (Cond.methodLink RX11 305 yX11_digestPeople) ∈ lwt := List.mem_filter.mpr ⟨List.mem_append_right _ (List.mem_of_getElem? (i := 808) (by decide +kernel)), rfl⟩
theorem tw810 : (Cond.instanceMethod yX11_digestPeople) ∈ lwt := List.mem_filter.mpr ⟨List.mem_append_right _ (List.mem_of_getElem? (i := 810) (by decide +kernel)), rfl⟩
theorem tw811 : (Cond.code yX11_digestPeople cX11_digestPeople 7 (Option.some FieldType.long)) ∈ lwt := List.mem_filter.mpr ⟨List.mem_append_right _ (List.mem_of_getElem? (i := 811) (by decide +kernel)), rfl⟩
theorem tw812 : (Cond.methodLink RX11 377 yX11_about) ∈ lwt := List.mem_filter.mpr ⟨List.mem_append_right _ (List.mem_of_getElem? (i := 812) (by decide +kernel)), rfl⟩
theorem tw813 : (Cond.methodLink RX11 308 yX11_digestCandidates) ∈ lwt := List.mem_filter.mpr ⟨List.mem_append_right _ (List.mem_of_getElem? (i := 813) (by decide +kernel)), rfl⟩
theorem tw815 : (Cond.instanceMethod yX11_digestCandidates) ∈ lwt := List.mem_filter.mpr ⟨List.mem_append_right _ (List.mem_of_getElem? (i := 815) (by decide +kernel)), rfl⟩
theorem tw816 : (Cond.code yX11_digestCandidates cX11_digestCandidates 7 (Option.some FieldType.long)) ∈ lwt := List.mem_filter.mpr ⟨List.mem_append_right _ (List.mem_of_getElem? (i := 816) (by decide +kernel)), rfl⟩
theorem tw817 : (Cond.methodLink RX11 381 yX11_friend) ∈ lwt := List.mem_filter.mpr ⟨List.mem_append_right _ (List.mem_of_getElem? (i := 817) (by decide +kernel)), rfl⟩
theorem tw818 : (Cond.methodLink RX11 311 yX11_digestIn) ∈ lwt := List.mem_filter.mpr ⟨List.mem_append_right _ (List.mem_of_getElem? (i := 818) (by decide +kernel)), rfl⟩
theorem tw820 : (Cond.instanceMethod yX11_digestIn) ∈ lwt := List.mem_filter.mpr ⟨List.mem_append_right _ (List.mem_of_getElem? (i := 820) (by decide +kernel)), rfl⟩
theorem tw821 : (Cond.code yX11_digestIn cX11_digestIn 11 (Option.some FieldType.long)) ∈ lwt := List.mem_filter.mpr ⟨List.mem_append_right _ (List.mem_of_getElem? (i := 821) (by decide +kernel)), rfl⟩
theorem tw822 : (Cond.methodLink RX11 314 yX4_digestLetters) ∈ lwt := List.mem_filter.mpr ⟨List.mem_append_right _ (List.mem_of_getElem? (i := 822) (by decide +kernel)), rfl⟩
theorem tw823 : (Cond.instanceMethod yX4_digestLetters) ∈ lwt := List.mem_filter.mpr ⟨List.mem_append_right _ (List.mem_of_getElem? (i := 823) (by decide +kernel)), rfl⟩
theorem tw824 : (Cond.selects RX4 yX4_digestLetters yX4_digestLetters) ∈ lwt := List.mem_filter.mpr ⟨List.mem_append_right _ (List.mem_of_getElem? (i := 824) (by decide +kernel)), rfl⟩
theorem tw825 : (Cond.code yX4_digestLetters cX4_digestLetters 6 (Option.some FieldType.long)) ∈ lwt := List.mem_filter.mpr ⟨List.mem_append_right _ (List.mem_of_getElem? (i := 825) (by decide +kernel)), rfl⟩
theorem tn826 : (Cond.methodLinkNest RX4 48 yX11_mix RX11) ∈ lw_tbl := List.mem_append_right _ (List.mem_of_getElem? (i := 826) (by decide +kernel))
theorem tw827 : (Cond.methodLink RX11 317 yX11_count) ∈ lwt := List.mem_filter.mpr ⟨List.mem_append_right _ (List.mem_of_getElem? (i := 827) (by decide +kernel)), rfl⟩
theorem tw828 : (Cond.classLink RL 10 RX12) ∈ lwt := List.mem_filter.mpr ⟨List.mem_append_right _ (List.mem_of_getElem? (i := 828) (by decide +kernel)), rfl⟩
theorem tw829 : (Cond.instantiable RX12 37) ∈ lwt := List.mem_filter.mpr ⟨List.mem_append_right _ (List.mem_of_getElem? (i := 829) (by decide +kernel)), rfl⟩
theorem tw830 : (Cond.methodLink RL 12 yX12_init) ∈ lwt := List.mem_filter.mpr ⟨List.mem_append_right _ (List.mem_of_getElem? (i := 830) (by decide +kernel)), rfl⟩
theorem tw831 : (Cond.instanceMethod yX12_init) ∈ lwt := List.mem_filter.mpr ⟨List.mem_append_right _ (List.mem_of_getElem? (i := 831) (by decide +kernel)), rfl⟩
theorem tw832 : (Cond.code yX12_init cX12_init 1 (Option.none : Option FieldType)) ∈ lwt := List.mem_filter.mpr ⟨List.mem_append_right _ (List.mem_of_getElem? (i := 832) (by decide +kernel)), rfl⟩
theorem tw833 : (Cond.methodLink RX12 1 objectInit) ∈ lwt := List.mem_filter.mpr ⟨List.mem_append_right _ (List.mem_of_getElem? (i := 833) (by decide +kernel)), rfl⟩
theorem tw834 : (Cond.fieldLink RX12 119 RX12 "members" "I") ∈ lwt := List.mem_filter.mpr ⟨List.mem_append_right _ (List.mem_of_getElem? (i := 834) (by decide +kernel)), rfl⟩
theorem tw835 : (Cond.fieldLink RX12 7 RX12 "kindOf" "[I") ∈ lwt := List.mem_filter.mpr ⟨List.mem_append_right _ (List.mem_of_getElem? (i := 835) (by decide +kernel)), rfl⟩
theorem tw836 : (Cond.fieldLink RX12 13 RX12 "numberOf" "[I") ∈ lwt := List.mem_filter.mpr ⟨List.mem_append_right _ (List.mem_of_getElem? (i := 836) (by decide +kernel)), rfl⟩
theorem tw837 : (Cond.fieldLink RX12 16 RX12 "comesOf" "[I") ∈ lwt := List.mem_filter.mpr ⟨List.mem_append_right _ (List.mem_of_getElem? (i := 837) (by decide +kernel)), rfl⟩
theorem tw838 : (Cond.fieldLink RX12 122 RX12 "candidates" "I") ∈ lwt := List.mem_filter.mpr ⟨List.mem_append_right _ (List.mem_of_getElem? (i := 838) (by decide +kernel)), rfl⟩
theorem tw839 : (Cond.fieldLink RX12 19 RX12 "friendOf" "[I") ∈ lwt := List.mem_filter.mpr ⟨List.mem_append_right _ (List.mem_of_getElem? (i := 839) (by decide +kernel)), rfl⟩
theorem tw840 : (Cond.fieldLink RX12 22 RX12 "mindsOf" "[I") ∈ lwt := List.mem_filter.mpr ⟨List.mem_append_right _ (List.mem_of_getElem? (i := 840) (by decide +kernel)), rfl⟩
theorem tw841 : (Cond.fieldLink RX12 110 RX12 "rules" "I") ∈ lwt := List.mem_filter.mpr ⟨List.mem_append_right _ (List.mem_of_getElem? (i := 841) (by decide +kernel)), rfl⟩
theorem tw842 : (Cond.fieldLink RX12 25 RX12 "blacksOf" "[I") ∈ lwt := List.mem_filter.mpr ⟨List.mem_append_right _ (List.mem_of_getElem? (i := 842) (by decide +kernel)), rfl⟩
theorem tw843 : (Cond.fieldLink RX12 28 RX12 "ratioOf" "[I") ∈ lwt := List.mem_filter.mpr ⟨List.mem_append_right _ (List.mem_of_getElem? (i := 843) (by decide +kernel)), rfl⟩
theorem tw844 : (Cond.fieldLink RX12 31 RX12 "quorumOf" "[I") ∈ lwt := List.mem_filter.mpr ⟨List.mem_append_right _ (List.mem_of_getElem? (i := 844) (by decide +kernel)), rfl⟩
theorem tw845 : (Cond.fieldLink RX12 34 RX12 "isTwice" "[Z") ∈ lwt := List.mem_filter.mpr ⟨List.mem_append_right _ (List.mem_of_getElem? (i := 845) (by decide +kernel)), rfl⟩
theorem tw846 : (Cond.fieldLink RX12 38 RX12 "isTold" "[Z") ∈ lwt := List.mem_filter.mpr ⟨List.mem_append_right _ (List.mem_of_getElem? (i := 846) (by decide +kernel)), rfl⟩
theorem tw847 : (Cond.fieldLink RX12 69 RX12 "pageLength" "I") ∈ lwt := List.mem_filter.mpr ⟨List.mem_append_right _ (List.mem_of_getElem? (i := 847) (by decide +kernel)), rfl⟩
theorem tw848 : (Cond.fieldLink RX12 41 RX12 "page" "[B") ∈ lwt := List.mem_filter.mpr ⟨List.mem_append_right _ (List.mem_of_getElem? (i := 848) (by decide +kernel)), rfl⟩
theorem tw849 : (Cond.fieldLink RX12 274 RX12 "isKept" "Z") ∈ lwt := List.mem_filter.mpr ⟨List.mem_append_right _ (List.mem_of_getElem? (i := 849) (by decide +kernel)), rfl⟩
theorem tw850 : (Cond.fieldLink RX12 277 RX12 "keptMembers" "I") ∈ lwt := List.mem_filter.mpr ⟨List.mem_append_right _ (List.mem_of_getElem? (i := 850) (by decide +kernel)), rfl⟩
theorem tw851 : (Cond.fieldLink RX12 280 RX12 "keptCandidates" "I") ∈ lwt := List.mem_filter.mpr ⟨List.mem_append_right _ (List.mem_of_getElem? (i := 851) (by decide +kernel)), rfl⟩
theorem tw852 : (Cond.fieldLink RX12 45 RX12 "keptComes" "[I") ∈ lwt := List.mem_filter.mpr ⟨List.mem_append_right _ (List.mem_of_getElem? (i := 852) (by decide +kernel)), rfl⟩
theorem tw853 : (Cond.fieldLink RX12 48 RX12 "keptMinds" "[I") ∈ lwt := List.mem_filter.mpr ⟨List.mem_append_right _ (List.mem_of_getElem? (i := 853) (by decide +kernel)), rfl⟩
theorem tw854 : (Cond.fieldLink RX12 101 RX12 "faultAt" "I") ∈ lwt := List.mem_filter.mpr ⟨List.mem_append_right _ (List.mem_of_getElem? (i := 854) (by decide +kernel)), rfl⟩
theorem tw855 : (Cond.fieldLink RX12 104 RX12 "isWhole" "Z") ∈ lwt := List.mem_filter.mpr ⟨List.mem_append_right _ (List.mem_of_getElem? (i := 855) (by decide +kernel)), rfl⟩
theorem tw856 : (Cond.fieldLink RX12 73 RX12 "newBlacks" "I") ∈ lwt := List.mem_filter.mpr ⟨List.mem_append_right _ (List.mem_of_getElem? (i := 856) (by decide +kernel)), rfl⟩
theorem tw857 : (Cond.fieldLink RX12 76 RX12 "newRatio" "I") ∈ lwt := List.mem_filter.mpr ⟨List.mem_append_right _ (List.mem_of_getElem? (i := 857) (by decide +kernel)), rfl⟩
theorem tw858 : (Cond.fieldLink RX12 83 RX12 "newQuorum" "I") ∈ lwt := List.mem_filter.mpr ⟨List.mem_append_right _ (List.mem_of_getElem? (i := 858) (by decide +kernel)), rfl⟩
theorem tw859 : (Cond.fieldLink RX12 86 RX12 "newTwice" "Z") ∈ lwt := List.mem_filter.mpr ⟨List.mem_append_right _ (List.mem_of_getElem? (i := 859) (by decide +kernel)), rfl⟩
theorem tw860 : (Cond.fieldLink RX12 90 RX12 "newTold" "Z") ∈ lwt := List.mem_filter.mpr ⟨List.mem_append_right _ (List.mem_of_getElem? (i := 860) (by decide +kernel)), rfl⟩
theorem tw861 : (Cond.fieldLink RX12 51 RX12 "ways" "[J") ∈ lwt := List.mem_filter.mpr ⟨List.mem_append_right _ (List.mem_of_getElem? (i := 861) (by decide +kernel)), rfl⟩
theorem tw862 : (Cond.fieldLink RX12 210 RX12 "seedNow" "J") ∈ lwt := List.mem_filter.mpr ⟨List.mem_append_right _ (List.mem_of_getElem? (i := 862) (by decide +kernel)), rfl⟩
theorem tw863 : (Cond.fieldLink RX12 230 RX12 "tradeX" "I") ∈ lwt := List.mem_filter.mpr ⟨List.mem_append_right _ (List.mem_of_getElem? (i := 863) (by decide +kernel)), rfl⟩
theorem tw864 : (Cond.fieldLink RX12 233 RX12 "tradeY" "I") ∈ lwt := List.mem_filter.mpr ⟨List.mem_append_right _ (List.mem_of_getElem? (i := 864) (by decide +kernel)), rfl⟩
theorem tw865 : (Cond.fieldLink RX12 227 RX12 "tradeA" "I") ∈ lwt := List.mem_filter.mpr ⟨List.mem_append_right _ (List.mem_of_getElem? (i := 865) (by decide +kernel)), rfl⟩
theorem tw866 : (Cond.fieldLink RX12 240 RX12 "tradeB" "I") ∈ lwt := List.mem_filter.mpr ⟨List.mem_append_right _ (List.mem_of_getElem? (i := 866) (by decide +kernel)), rfl⟩
theorem tw867 : (Cond.fieldLink RX12 55 RX12 "expected" "[J") ∈ lwt := List.mem_filter.mpr ⟨List.mem_append_right _ (List.mem_of_getElem? (i := 867) (by decide +kernel)), rfl⟩
theorem tw868 : (Cond.fieldLink RX12 258 RX12 "people" "I") ∈ lwt := List.mem_filter.mpr ⟨List.mem_append_right _ (List.mem_of_getElem? (i := 868) (by decide +kernel)), rfl⟩
theorem tw869 : (Cond.fieldLink RX12 58 RX12 "taste" "[I") ∈ lwt := List.mem_filter.mpr ⟨List.mem_append_right _ (List.mem_of_getElem? (i := 869) (by decide +kernel)), rfl⟩
theorem tw870 : (Cond.fieldLink RX12 288 RX12 "h" "J") ∈ lwt := List.mem_filter.mpr ⟨List.mem_append_right _ (List.mem_of_getElem? (i := 870) (by decide +kernel)), rfl⟩
theorem tw871 : (Cond.lays RX12 RX12 "members" "I") ∈ lwt := List.mem_filter.mpr ⟨List.mem_append_right _ (List.mem_of_getElem? (i := 871) (by decide +kernel)), rfl⟩
theorem tw873 : (Cond.laysFinal RX12 RX12 "kindOf" "[I") ∈ lwt := List.mem_filter.mpr ⟨List.mem_append_right _ (List.mem_of_getElem? (i := 873) (by decide +kernel)), rfl⟩
theorem tw875 : (Cond.laysFinal RX12 RX12 "numberOf" "[I") ∈ lwt := List.mem_filter.mpr ⟨List.mem_append_right _ (List.mem_of_getElem? (i := 875) (by decide +kernel)), rfl⟩
theorem tw877 : (Cond.laysFinal RX12 RX12 "comesOf" "[I") ∈ lwt := List.mem_filter.mpr ⟨List.mem_append_right _ (List.mem_of_getElem? (i := 877) (by decide +kernel)), rfl⟩
theorem tw879 : (Cond.lays RX12 RX12 "candidates" "I") ∈ lwt := List.mem_filter.mpr ⟨List.mem_append_right _ (List.mem_of_getElem? (i := 879) (by decide +kernel)), rfl⟩
theorem tw881 : (Cond.laysFinal RX12 RX12 "friendOf" "[I") ∈ lwt := List.mem_filter.mpr ⟨List.mem_append_right _ (List.mem_of_getElem? (i := 881) (by decide +kernel)), rfl⟩
theorem tw883 : (Cond.laysFinal RX12 RX12 "mindsOf" "[I") ∈ lwt := List.mem_filter.mpr ⟨List.mem_append_right _ (List.mem_of_getElem? (i := 883) (by decide +kernel)), rfl⟩
theorem tw885 : (Cond.lays RX12 RX12 "rules" "I") ∈ lwt := List.mem_filter.mpr ⟨List.mem_append_right _ (List.mem_of_getElem? (i := 885) (by decide +kernel)), rfl⟩
theorem tw887 : (Cond.laysFinal RX12 RX12 "blacksOf" "[I") ∈ lwt := List.mem_filter.mpr ⟨List.mem_append_right _ (List.mem_of_getElem? (i := 887) (by decide +kernel)), rfl⟩
theorem tw889 : (Cond.laysFinal RX12 RX12 "ratioOf" "[I") ∈ lwt := List.mem_filter.mpr ⟨List.mem_append_right _ (List.mem_of_getElem? (i := 889) (by decide +kernel)), rfl⟩
theorem tw891 : (Cond.laysFinal RX12 RX12 "quorumOf" "[I") ∈ lwt := List.mem_filter.mpr ⟨List.mem_append_right _ (List.mem_of_getElem? (i := 891) (by decide +kernel)), rfl⟩
theorem tw893 : (Cond.laysFinal RX12 RX12 "isTwice" "[Z") ∈ lwt := List.mem_filter.mpr ⟨List.mem_append_right _ (List.mem_of_getElem? (i := 893) (by decide +kernel)), rfl⟩
theorem tw895 : (Cond.laysFinal RX12 RX12 "isTold" "[Z") ∈ lwt := List.mem_filter.mpr ⟨List.mem_append_right _ (List.mem_of_getElem? (i := 895) (by decide +kernel)), rfl⟩
theorem tw897 : (Cond.lays RX12 RX12 "pageLength" "I") ∈ lwt := List.mem_filter.mpr ⟨List.mem_append_right _ (List.mem_of_getElem? (i := 897) (by decide +kernel)), rfl⟩
theorem tw899 : (Cond.laysFinal RX12 RX12 "page" "[B") ∈ lwt := List.mem_filter.mpr ⟨List.mem_append_right _ (List.mem_of_getElem? (i := 899) (by decide +kernel)), rfl⟩
theorem tw901 : (Cond.lays RX12 RX12 "isKept" "Z") ∈ lwt := List.mem_filter.mpr ⟨List.mem_append_right _ (List.mem_of_getElem? (i := 901) (by decide +kernel)), rfl⟩
theorem tw903 : (Cond.lays RX12 RX12 "keptMembers" "I") ∈ lwt := List.mem_filter.mpr ⟨List.mem_append_right _ (List.mem_of_getElem? (i := 903) (by decide +kernel)), rfl⟩
theorem tw905 : (Cond.lays RX12 RX12 "keptCandidates" "I") ∈ lwt := List.mem_filter.mpr ⟨List.mem_append_right _ (List.mem_of_getElem? (i := 905) (by decide +kernel)), rfl⟩
theorem tw907 : (Cond.laysFinal RX12 RX12 "keptComes" "[I") ∈ lwt := List.mem_filter.mpr ⟨List.mem_append_right _ (List.mem_of_getElem? (i := 907) (by decide +kernel)), rfl⟩
theorem tw909 : (Cond.laysFinal RX12 RX12 "keptMinds" "[I") ∈ lwt := List.mem_filter.mpr ⟨List.mem_append_right _ (List.mem_of_getElem? (i := 909) (by decide +kernel)), rfl⟩
theorem tw911 : (Cond.lays RX12 RX12 "faultAt" "I") ∈ lwt := List.mem_filter.mpr ⟨List.mem_append_right _ (List.mem_of_getElem? (i := 911) (by decide +kernel)), rfl⟩
theorem tw913 : (Cond.lays RX12 RX12 "isWhole" "Z") ∈ lwt := List.mem_filter.mpr ⟨List.mem_append_right _ (List.mem_of_getElem? (i := 913) (by decide +kernel)), rfl⟩
theorem tw915 : (Cond.lays RX12 RX12 "newBlacks" "I") ∈ lwt := List.mem_filter.mpr ⟨List.mem_append_right _ (List.mem_of_getElem? (i := 915) (by decide +kernel)), rfl⟩
theorem tw917 : (Cond.lays RX12 RX12 "newRatio" "I") ∈ lwt := List.mem_filter.mpr ⟨List.mem_append_right _ (List.mem_of_getElem? (i := 917) (by decide +kernel)), rfl⟩
theorem tw919 : (Cond.lays RX12 RX12 "newQuorum" "I") ∈ lwt := List.mem_filter.mpr ⟨List.mem_append_right _ (List.mem_of_getElem? (i := 919) (by decide +kernel)), rfl⟩
theorem tw921 : (Cond.lays RX12 RX12 "newTwice" "Z") ∈ lwt := List.mem_filter.mpr ⟨List.mem_append_right _ (List.mem_of_getElem? (i := 921) (by decide +kernel)), rfl⟩
theorem tw923 : (Cond.lays RX12 RX12 "newTold" "Z") ∈ lwt := List.mem_filter.mpr ⟨List.mem_append_right _ (List.mem_of_getElem? (i := 923) (by decide +kernel)), rfl⟩
theorem tw925 : (Cond.laysFinal RX12 RX12 "ways" "[J") ∈ lwt := List.mem_filter.mpr ⟨List.mem_append_right _ (List.mem_of_getElem? (i := 925) (by decide +kernel)), rfl⟩
theorem tw927 : (Cond.lays RX12 RX12 "seedNow" "J") ∈ lwt := List.mem_filter.mpr ⟨List.mem_append_right _ (List.mem_of_getElem? (i := 927) (by decide +kernel)), rfl⟩
theorem tw929 : (Cond.lays RX12 RX12 "tradeX" "I") ∈ lwt := List.mem_filter.mpr ⟨List.mem_append_right _ (List.mem_of_getElem? (i := 929) (by decide +kernel)), rfl⟩
theorem tw931 : (Cond.lays RX12 RX12 "tradeY" "I") ∈ lwt := List.mem_filter.mpr ⟨List.mem_append_right _ (List.mem_of_getElem? (i := 931) (by decide +kernel)), rfl⟩
theorem tw933 : (Cond.lays RX12 RX12 "tradeA" "I") ∈ lwt := List.mem_filter.mpr ⟨List.mem_append_right _ (List.mem_of_getElem? (i := 933) (by decide +kernel)), rfl⟩
theorem tw935 : (Cond.lays RX12 RX12 "tradeB" "I") ∈ lwt := List.mem_filter.mpr ⟨List.mem_append_right _ (List.mem_of_getElem? (i := 935) (by decide +kernel)), rfl⟩
theorem tw937 : (Cond.laysFinal RX12 RX12 "expected" "[J") ∈ lwt := List.mem_filter.mpr ⟨List.mem_append_right _ (List.mem_of_getElem? (i := 937) (by decide +kernel)), rfl⟩
theorem tw939 : (Cond.lays RX12 RX12 "people" "I") ∈ lwt := List.mem_filter.mpr ⟨List.mem_append_right _ (List.mem_of_getElem? (i := 939) (by decide +kernel)), rfl⟩
theorem tw941 : (Cond.laysFinal RX12 RX12 "taste" "[I") ∈ lwt := List.mem_filter.mpr ⟨List.mem_append_right _ (List.mem_of_getElem? (i := 941) (by decide +kernel)), rfl⟩
theorem tw943 : (Cond.lays RX12 RX12 "h" "J") ∈ lwt := List.mem_filter.mpr ⟨List.mem_append_right _ (List.mem_of_getElem? (i := 943) (by decide +kernel)), rfl⟩
theorem tw946 : (Cond.arrayClass FieldType.boolean) ∈ lwt := List.mem_filter.mpr ⟨List.mem_append_right _ (List.mem_of_getElem? (i := 946) (by decide +kernel)), rfl⟩
theorem tw947 : (Cond.arrayClass FieldType.byte) ∈ lwt := List.mem_filter.mpr ⟨List.mem_append_right _ (List.mem_of_getElem? (i := 947) (by decide +kernel)), rfl⟩
theorem tw948 : (Cond.methodLink RL 19 yX12_letters) ∈ lwt := List.mem_filter.mpr ⟨List.mem_append_right _ (List.mem_of_getElem? (i := 948) (by decide +kernel)), rfl⟩
theorem tw949 : (Cond.instanceMethod yX12_letters) ∈ lwt := List.mem_filter.mpr ⟨List.mem_append_right _ (List.mem_of_getElem? (i := 949) (by decide +kernel)), rfl⟩
theorem tw950 : (Cond.selects RX12 yX12_letters yX12_letters) ∈ lwt := List.mem_filter.mpr ⟨List.mem_append_right _ (List.mem_of_getElem? (i := 950) (by decide +kernel)), rfl⟩
theorem tw951 : (Cond.code yX12_letters cX12_letters 7 (Option.some FieldType.int)) ∈ lwt := List.mem_filter.mpr ⟨List.mem_append_right _ (List.mem_of_getElem? (i := 951) (by decide +kernel)), rfl⟩
theorem tw952 : (Cond.constantLong RX12 67 (255 : Int64)) ∈ lwt := List.mem_filter.mpr ⟨List.mem_append_right _ (List.mem_of_getElem? (i := 952) (by decide +kernel)), rfl⟩
theorem tw953 : (Cond.methodLink RL 24 yX12_blank) ∈ lwt := List.mem_filter.mpr ⟨List.mem_append_right _ (List.mem_of_getElem? (i := 953) (by decide +kernel)), rfl⟩
theorem tw954 : (Cond.instanceMethod yX12_blank) ∈ lwt := List.mem_filter.mpr ⟨List.mem_append_right _ (List.mem_of_getElem? (i := 954) (by decide +kernel)), rfl⟩
theorem tw955 : (Cond.selects RX12 yX12_blank yX12_blank) ∈ lwt := List.mem_filter.mpr ⟨List.mem_append_right _ (List.mem_of_getElem? (i := 955) (by decide +kernel)), rfl⟩
theorem tw956 : (Cond.code yX12_blank cX12_blank 2 (Option.some FieldType.int)) ∈ lwt := List.mem_filter.mpr ⟨List.mem_append_right _ (List.mem_of_getElem? (i := 956) (by decide +kernel)), rfl⟩
theorem tw957 : (Cond.methodLink RL 28 yX12_fault) ∈ lwt := List.mem_filter.mpr ⟨List.mem_append_right _ (List.mem_of_getElem? (i := 957) (by decide +kernel)), rfl⟩
theorem tw958 : (Cond.instanceMethod yX12_fault) ∈ lwt := List.mem_filter.mpr ⟨List.mem_append_right _ (List.mem_of_getElem? (i := 958) (by decide +kernel)), rfl⟩
theorem tw959 : (Cond.selects RX12 yX12_fault yX12_fault) ∈ lwt := List.mem_filter.mpr ⟨List.mem_append_right _ (List.mem_of_getElem? (i := 959) (by decide +kernel)), rfl⟩
theorem tw960 : (Cond.code yX12_fault cX12_fault 1 (Option.some FieldType.int)) ∈ lwt := List.mem_filter.mpr ⟨List.mem_append_right _ (List.mem_of_getElem? (i := 960) (by decide +kernel)), rfl⟩
theorem tw961 : (Cond.methodLink RX12 107 yX12_readPage) ∈ lwt := List.mem_filter.mpr ⟨List.mem_append_right _ (List.mem_of_getElem? (i := 961) (by decide +kernel)), rfl⟩
theorem tw963 : (Cond.instanceMethod yX12_readPage) ∈ lwt := List.mem_filter.mpr ⟨List.mem_append_right _ (List.mem_of_getElem? (i := 963) (by decide +kernel)), rfl⟩
theorem tw964 : (Cond.code yX12_readPage cX12_readPage 5 (Option.none : Option FieldType)) ∈ lwt := List.mem_filter.mpr ⟨List.mem_append_right _ (List.mem_of_getElem? (i := 964) (by decide +kernel)), rfl⟩
theorem tw965 : (Cond.methodLink RX12 97 yX12_next) ∈ lwt := List.mem_filter.mpr ⟨List.mem_append_right _ (List.mem_of_getElem? (i := 965) (by decide +kernel)), rfl⟩
theorem tw967 : (Cond.instanceMethod yX12_next) ∈ lwt := List.mem_filter.mpr ⟨List.mem_append_right _ (List.mem_of_getElem? (i := 967) (by decide +kernel)), rfl⟩
theorem tw968 : (Cond.code yX12_next cX12_next 3 (Option.some FieldType.int)) ∈ lwt := List.mem_filter.mpr ⟨List.mem_append_right _ (List.mem_of_getElem? (i := 968) (by decide +kernel)), rfl⟩
theorem tw969 : (Cond.methodLink RX12 61 yX12_within) ∈ lwt := List.mem_filter.mpr ⟨List.mem_append_right _ (List.mem_of_getElem? (i := 969) (by decide +kernel)), rfl⟩
theorem tw970 : (Cond.static yX12_within) ∈ lwt := List.mem_filter.mpr ⟨List.mem_append_right _ (List.mem_of_getElem? (i := 970) (by decide +kernel)), rfl⟩
theorem tw971 : (Cond.code yX12_within cX12_within 3 (Option.some FieldType.boolean)) ∈ lwt := List.mem_filter.mpr ⟨List.mem_append_right _ (List.mem_of_getElem? (i := 971) (by decide +kernel)), rfl⟩
theorem tw972 : (Cond.methodLink RX12 79 yX12_nextRatio) ∈ lwt := List.mem_filter.mpr ⟨List.mem_append_right _ (List.mem_of_getElem? (i := 972) (by decide +kernel)), rfl⟩
theorem tw974 : (Cond.instanceMethod yX12_nextRatio) ∈ lwt := List.mem_filter.mpr ⟨List.mem_append_right _ (List.mem_of_getElem? (i := 974) (by decide +kernel)), rfl⟩
theorem tw975 : (Cond.code yX12_nextRatio cX12_nextRatio 3 (Option.some FieldType.int)) ∈ lwt := List.mem_filter.mpr ⟨List.mem_append_right _ (List.mem_of_getElem? (i := 975) (by decide +kernel)), rfl⟩
theorem tw976 : (Cond.methodLink RX12 93 yX12_isDigit) ∈ lwt := List.mem_filter.mpr ⟨List.mem_append_right _ (List.mem_of_getElem? (i := 976) (by decide +kernel)), rfl⟩
theorem tw977 : (Cond.static yX12_isDigit) ∈ lwt := List.mem_filter.mpr ⟨List.mem_append_right _ (List.mem_of_getElem? (i := 977) (by decide +kernel)), rfl⟩
theorem tw978 : (Cond.code yX12_isDigit cX12_isDigit 1 (Option.some FieldType.boolean)) ∈ lwt := List.mem_filter.mpr ⟨List.mem_append_right _ (List.mem_of_getElem? (i := 978) (by decide +kernel)), rfl⟩
theorem tw979 : (Cond.methodLink RL 32 yX12_rule) ∈ lwt := List.mem_filter.mpr ⟨List.mem_append_right _ (List.mem_of_getElem? (i := 979) (by decide +kernel)), rfl⟩
theorem tw980 : (Cond.instanceMethod yX12_rule) ∈ lwt := List.mem_filter.mpr ⟨List.mem_append_right _ (List.mem_of_getElem? (i := 980) (by decide +kernel)), rfl⟩
theorem tw981 : (Cond.selects RX12 yX12_rule yX12_rule) ∈ lwt := List.mem_filter.mpr ⟨List.mem_append_right _ (List.mem_of_getElem? (i := 981) (by decide +kernel)), rfl⟩
theorem tw982 : (Cond.code yX12_rule cX12_rule 1 (Option.some FieldType.int)) ∈ lwt := List.mem_filter.mpr ⟨List.mem_append_right _ (List.mem_of_getElem? (i := 982) (by decide +kernel)), rfl⟩
theorem tw983 : (Cond.methodLink RL 37 yX12_ruleTold) ∈ lwt := List.mem_filter.mpr ⟨List.mem_append_right _ (List.mem_of_getElem? (i := 983) (by decide +kernel)), rfl⟩
theorem tw984 : (Cond.instanceMethod yX12_ruleTold) ∈ lwt := List.mem_filter.mpr ⟨List.mem_append_right _ (List.mem_of_getElem? (i := 984) (by decide +kernel)), rfl⟩
theorem tw985 : (Cond.selects RX12 yX12_ruleTold yX12_ruleTold) ∈ lwt := List.mem_filter.mpr ⟨List.mem_append_right _ (List.mem_of_getElem? (i := 985) (by decide +kernel)), rfl⟩
theorem tw986 : (Cond.code yX12_ruleTold cX12_ruleTold 3 (Option.some FieldType.int)) ∈ lwt := List.mem_filter.mpr ⟨List.mem_append_right _ (List.mem_of_getElem? (i := 986) (by decide +kernel)), rfl⟩
theorem tw987 : (Cond.methodLink RX12 113 yX12_isRule) ∈ lwt := List.mem_filter.mpr ⟨List.mem_append_right _ (List.mem_of_getElem? (i := 987) (by decide +kernel)), rfl⟩
theorem tw989 : (Cond.instanceMethod yX12_isRule) ∈ lwt := List.mem_filter.mpr ⟨List.mem_append_right _ (List.mem_of_getElem? (i := 989) (by decide +kernel)), rfl⟩
theorem tw990 : (Cond.code yX12_isRule cX12_isRule 2 (Option.some FieldType.boolean)) ∈ lwt := List.mem_filter.mpr ⟨List.mem_append_right _ (List.mem_of_getElem? (i := 990) (by decide +kernel)), rfl⟩
theorem tw991 : (Cond.methodLink RX12 116 yX12_ruleNow) ∈ lwt := List.mem_filter.mpr ⟨List.mem_append_right _ (List.mem_of_getElem? (i := 991) (by decide +kernel)), rfl⟩
theorem tw993 : (Cond.instanceMethod yX12_ruleNow) ∈ lwt := List.mem_filter.mpr ⟨List.mem_append_right _ (List.mem_of_getElem? (i := 993) (by decide +kernel)), rfl⟩
theorem tw994 : (Cond.code yX12_ruleNow cX12_ruleNow 3 (Option.some FieldType.int)) ∈ lwt := List.mem_filter.mpr ⟨List.mem_append_right _ (List.mem_of_getElem? (i := 994) (by decide +kernel)), rfl⟩
theorem tw995 : (Cond.methodLink RL 42 yX12_member) ∈ lwt := List.mem_filter.mpr ⟨List.mem_append_right _ (List.mem_of_getElem? (i := 995) (by decide +kernel)), rfl⟩
theorem tw996 : (Cond.instanceMethod yX12_member) ∈ lwt := List.mem_filter.mpr ⟨List.mem_append_right _ (List.mem_of_getElem? (i := 996) (by decide +kernel)), rfl⟩
theorem tw997 : (Cond.selects RX12 yX12_member yX12_member) ∈ lwt := List.mem_filter.mpr ⟨List.mem_append_right _ (List.mem_of_getElem? (i := 997) (by decide +kernel)), rfl⟩
theorem tw998 : (Cond.code yX12_member cX12_member 4 (Option.some FieldType.int)) ∈ lwt := List.mem_filter.mpr ⟨List.mem_append_right _ (List.mem_of_getElem? (i := 998) (by decide +kernel)), rfl⟩
theorem tw999 : (Cond.methodLink RX12 125 yX12_isMember) ∈ lwt := List.mem_filter.mpr ⟨List.mem_append_right _ (List.mem_of_getElem? (i := 999) (by decide +kernel)), rfl⟩
theorem tw1001 : (Cond.instanceMethod yX12_isMember) ∈ lwt := List.mem_filter.mpr ⟨List.mem_append_right _ (List.mem_of_getElem? (i := 1001) (by decide +kernel)), rfl⟩
theorem tw1002 : (Cond.code yX12_isMember cX12_isMember 2 (Option.some FieldType.boolean)) ∈ lwt := List.mem_filter.mpr ⟨List.mem_append_right _ (List.mem_of_getElem? (i := 1002) (by decide +kernel)), rfl⟩
theorem tw1003 : (Cond.methodLink RL 46 yX12_as) ∈ lwt := List.mem_filter.mpr ⟨List.mem_append_right _ (List.mem_of_getElem? (i := 1003) (by decide +kernel)), rfl⟩
theorem tw1004 : (Cond.instanceMethod yX12_as) ∈ lwt := List.mem_filter.mpr ⟨List.mem_append_right _ (List.mem_of_getElem? (i := 1004) (by decide +kernel)), rfl⟩
theorem tw1005 : (Cond.selects RX12 yX12_as yX12_as) ∈ lwt := List.mem_filter.mpr ⟨List.mem_append_right _ (List.mem_of_getElem? (i := 1005) (by decide +kernel)), rfl⟩
theorem tw1006 : (Cond.code yX12_as cX12_as 4 (Option.some FieldType.int)) ∈ lwt := List.mem_filter.mpr ⟨List.mem_append_right _ (List.mem_of_getElem? (i := 1006) (by decide +kernel)), rfl⟩
theorem tw1007 : (Cond.methodLink RL 50 yX12_about) ∈ lwt := List.mem_filter.mpr ⟨List.mem_append_right _ (List.mem_of_getElem? (i := 1007) (by decide +kernel)), rfl⟩
theorem tw1008 : (Cond.instanceMethod yX12_about) ∈ lwt := List.mem_filter.mpr ⟨List.mem_append_right _ (List.mem_of_getElem? (i := 1008) (by decide +kernel)), rfl⟩
theorem tw1009 : (Cond.selects RX12 yX12_about yX12_about) ∈ lwt := List.mem_filter.mpr ⟨List.mem_append_right _ (List.mem_of_getElem? (i := 1009) (by decide +kernel)), rfl⟩
theorem tw1010 : (Cond.code yX12_about cX12_about 3 (Option.some FieldType.int)) ∈ lwt := List.mem_filter.mpr ⟨List.mem_append_right _ (List.mem_of_getElem? (i := 1010) (by decide +kernel)), rfl⟩
theorem tw1011 : (Cond.methodLink RX12 128 yX12_memberNow) ∈ lwt := List.mem_filter.mpr ⟨List.mem_append_right _ (List.mem_of_getElem? (i := 1011) (by decide +kernel)), rfl⟩
theorem tw1013 : (Cond.instanceMethod yX12_memberNow) ∈ lwt := List.mem_filter.mpr ⟨List.mem_append_right _ (List.mem_of_getElem? (i := 1013) (by decide +kernel)), rfl⟩
theorem tw1014 : (Cond.code yX12_memberNow cX12_memberNow 3 (Option.some FieldType.int)) ∈ lwt := List.mem_filter.mpr ⟨List.mem_append_right _ (List.mem_of_getElem? (i := 1014) (by decide +kernel)), rfl⟩
theorem tw1015 : (Cond.methodLink RL 54 yX12_comes) ∈ lwt := List.mem_filter.mpr ⟨List.mem_append_right _ (List.mem_of_getElem? (i := 1015) (by decide +kernel)), rfl⟩
theorem tw1016 : (Cond.instanceMethod yX12_comes) ∈ lwt := List.mem_filter.mpr ⟨List.mem_append_right _ (List.mem_of_getElem? (i := 1016) (by decide +kernel)), rfl⟩
theorem tw1017 : (Cond.selects RX12 yX12_comes yX12_comes) ∈ lwt := List.mem_filter.mpr ⟨List.mem_append_right _ (List.mem_of_getElem? (i := 1017) (by decide +kernel)), rfl⟩
theorem tw1018 : (Cond.code yX12_comes cX12_comes 4 (Option.some FieldType.int)) ∈ lwt := List.mem_filter.mpr ⟨List.mem_append_right _ (List.mem_of_getElem? (i := 1018) (by decide +kernel)), rfl⟩
theorem tw1019 : (Cond.methodLink RL 59 yX12_candidate) ∈ lwt := List.mem_filter.mpr ⟨List.mem_append_right _ (List.mem_of_getElem? (i := 1019) (by decide +kernel)), rfl⟩
theorem tw1020 : (Cond.instanceMethod yX12_candidate) ∈ lwt := List.mem_filter.mpr ⟨List.mem_append_right _ (List.mem_of_getElem? (i := 1020) (by decide +kernel)), rfl⟩
theorem tw1021 : (Cond.selects RX12 yX12_candidate yX12_candidate) ∈ lwt := List.mem_filter.mpr ⟨List.mem_append_right _ (List.mem_of_getElem? (i := 1021) (by decide +kernel)), rfl⟩
theorem tw1022 : (Cond.code yX12_candidate cX12_candidate 2 (Option.some FieldType.int)) ∈ lwt := List.mem_filter.mpr ⟨List.mem_append_right _ (List.mem_of_getElem? (i := 1022) (by decide +kernel)), rfl⟩
theorem tw1023 : (Cond.methodLink RL 63 yX12_minds) ∈ lwt := List.mem_filter.mpr ⟨List.mem_append_right _ (List.mem_of_getElem? (i := 1023) (by decide +kernel)), rfl⟩
theorem tw1024 : (Cond.instanceMethod yX12_minds) ∈ lwt := List.mem_filter.mpr ⟨List.mem_append_right _ (List.mem_of_getElem? (i := 1024) (by decide +kernel)), rfl⟩
theorem tw1025 : (Cond.selects RX12 yX12_minds yX12_minds) ∈ lwt := List.mem_filter.mpr ⟨List.mem_append_right _ (List.mem_of_getElem? (i := 1025) (by decide +kernel)), rfl⟩
theorem tw1026 : (Cond.code yX12_minds cX12_minds 5 (Option.some FieldType.int)) ∈ lwt := List.mem_filter.mpr ⟨List.mem_append_right _ (List.mem_of_getElem? (i := 1026) (by decide +kernel)), rfl⟩
theorem tw1027 : (Cond.methodLink RX12 131 yX12_isCandidate) ∈ lwt := List.mem_filter.mpr ⟨List.mem_append_right _ (List.mem_of_getElem? (i := 1027) (by decide +kernel)), rfl⟩
theorem tw1029 : (Cond.instanceMethod yX12_isCandidate) ∈ lwt := List.mem_filter.mpr ⟨List.mem_append_right _ (List.mem_of_getElem? (i := 1029) (by decide +kernel)), rfl⟩
theorem tw1030 : (Cond.code yX12_isCandidate cX12_isCandidate 2 (Option.some FieldType.boolean)) ∈ lwt := List.mem_filter.mpr ⟨List.mem_append_right _ (List.mem_of_getElem? (i := 1030) (by decide +kernel)), rfl⟩
theorem tw1031 : (Cond.methodLink RL 67 yX12_friend) ∈ lwt := List.mem_filter.mpr ⟨List.mem_append_right _ (List.mem_of_getElem? (i := 1031) (by decide +kernel)), rfl⟩
theorem tw1032 : (Cond.instanceMethod yX12_friend) ∈ lwt := List.mem_filter.mpr ⟨List.mem_append_right _ (List.mem_of_getElem? (i := 1032) (by decide +kernel)), rfl⟩
theorem tw1033 : (Cond.selects RX12 yX12_friend yX12_friend) ∈ lwt := List.mem_filter.mpr ⟨List.mem_append_right _ (List.mem_of_getElem? (i := 1033) (by decide +kernel)), rfl⟩
theorem tw1034 : (Cond.code yX12_friend cX12_friend 3 (Option.some FieldType.int)) ∈ lwt := List.mem_filter.mpr ⟨List.mem_append_right _ (List.mem_of_getElem? (i := 1034) (by decide +kernel)), rfl⟩
theorem tw1035 : (Cond.methodLink RX12 140 yX12_candidateNow) ∈ lwt := List.mem_filter.mpr ⟨List.mem_append_right _ (List.mem_of_getElem? (i := 1035) (by decide +kernel)), rfl⟩
theorem tw1037 : (Cond.instanceMethod yX12_candidateNow) ∈ lwt := List.mem_filter.mpr ⟨List.mem_append_right _ (List.mem_of_getElem? (i := 1037) (by decide +kernel)), rfl⟩
theorem tw1038 : (Cond.code yX12_candidateNow cX12_candidateNow 3 (Option.some FieldType.int)) ∈ lwt := List.mem_filter.mpr ⟨List.mem_append_right _ (List.mem_of_getElem? (i := 1038) (by decide +kernel)), rfl⟩
theorem tw1039 : (Cond.methodLink RX12 137 yX12_isMinded) ∈ lwt := List.mem_filter.mpr ⟨List.mem_append_right _ (List.mem_of_getElem? (i := 1039) (by decide +kernel)), rfl⟩
theorem tw1041 : (Cond.instanceMethod yX12_isMinded) ∈ lwt := List.mem_filter.mpr ⟨List.mem_append_right _ (List.mem_of_getElem? (i := 1041) (by decide +kernel)), rfl⟩
theorem tw1042 : (Cond.code yX12_isMinded cX12_isMinded 2 (Option.some FieldType.boolean)) ∈ lwt := List.mem_filter.mpr ⟨List.mem_append_right _ (List.mem_of_getElem? (i := 1042) (by decide +kernel)), rfl⟩
theorem tw1043 : (Cond.methodLink RX12 134 yX12_mindedBy) ∈ lwt := List.mem_filter.mpr ⟨List.mem_append_right _ (List.mem_of_getElem? (i := 1043) (by decide +kernel)), rfl⟩
theorem tw1045 : (Cond.instanceMethod yX12_mindedBy) ∈ lwt := List.mem_filter.mpr ⟨List.mem_append_right _ (List.mem_of_getElem? (i := 1045) (by decide +kernel)), rfl⟩
theorem tw1046 : (Cond.code yX12_mindedBy cX12_mindedBy 4 (Option.some FieldType.int)) ∈ lwt := List.mem_filter.mpr ⟨List.mem_append_right _ (List.mem_of_getElem? (i := 1046) (by decide +kernel)), rfl⟩
theorem tw1047 : (Cond.methodLink RL 72 yX12_black) ∈ lwt := List.mem_filter.mpr ⟨List.mem_append_right _ (List.mem_of_getElem? (i := 1047) (by decide +kernel)), rfl⟩
theorem tw1048 : (Cond.instanceMethod yX12_black) ∈ lwt := List.mem_filter.mpr ⟨List.mem_append_right _ (List.mem_of_getElem? (i := 1048) (by decide +kernel)), rfl⟩
theorem tw1049 : (Cond.selects RX12 yX12_black yX12_black) ∈ lwt := List.mem_filter.mpr ⟨List.mem_append_right _ (List.mem_of_getElem? (i := 1049) (by decide +kernel)), rfl⟩
theorem tw1050 : (Cond.code yX12_black cX12_black 5 (Option.some FieldType.int)) ∈ lwt := List.mem_filter.mpr ⟨List.mem_append_right _ (List.mem_of_getElem? (i := 1050) (by decide +kernel)), rfl⟩
theorem tw1051 : (Cond.methodLink RX12 143 yX12_areComers) ∈ lwt := List.mem_filter.mpr ⟨List.mem_append_right _ (List.mem_of_getElem? (i := 1051) (by decide +kernel)), rfl⟩
theorem tw1053 : (Cond.instanceMethod yX12_areComers) ∈ lwt := List.mem_filter.mpr ⟨List.mem_append_right _ (List.mem_of_getElem? (i := 1053) (by decide +kernel)), rfl⟩
theorem tw1054 : (Cond.code yX12_areComers cX12_areComers 2 (Option.some FieldType.boolean)) ∈ lwt := List.mem_filter.mpr ⟨List.mem_append_right _ (List.mem_of_getElem? (i := 1054) (by decide +kernel)), rfl⟩
theorem tw1055 : (Cond.methodLink RX12 146 yX12_has) ∈ lwt := List.mem_filter.mpr ⟨List.mem_append_right _ (List.mem_of_getElem? (i := 1055) (by decide +kernel)), rfl⟩
theorem tw1056 : (Cond.static yX12_has) ∈ lwt := List.mem_filter.mpr ⟨List.mem_append_right _ (List.mem_of_getElem? (i := 1056) (by decide +kernel)), rfl⟩
theorem tw1057 : (Cond.code yX12_has cX12_has 2 (Option.some FieldType.boolean)) ∈ lwt := List.mem_filter.mpr ⟨List.mem_append_right _ (List.mem_of_getElem? (i := 1057) (by decide +kernel)), rfl⟩
theorem tw1058 : (Cond.methodLink RX12 150 yX12_ones) ∈ lwt := List.mem_filter.mpr ⟨List.mem_append_right _ (List.mem_of_getElem? (i := 1058) (by decide +kernel)), rfl⟩
theorem tw1059 : (Cond.static yX12_ones) ∈ lwt := List.mem_filter.mpr ⟨List.mem_append_right _ (List.mem_of_getElem? (i := 1059) (by decide +kernel)), rfl⟩
theorem tw1060 : (Cond.code yX12_ones cX12_ones 3 (Option.some FieldType.int)) ∈ lwt := List.mem_filter.mpr ⟨List.mem_append_right _ (List.mem_of_getElem? (i := 1060) (by decide +kernel)), rfl⟩
theorem tw1061 : (Cond.methodLink RX12 153 yX12_blackBy) ∈ lwt := List.mem_filter.mpr ⟨List.mem_append_right _ (List.mem_of_getElem? (i := 1061) (by decide +kernel)), rfl⟩
theorem tw1063 : (Cond.instanceMethod yX12_blackBy) ∈ lwt := List.mem_filter.mpr ⟨List.mem_append_right _ (List.mem_of_getElem? (i := 1063) (by decide +kernel)), rfl⟩
theorem tw1064 : (Cond.code yX12_blackBy cX12_blackBy 6 (Option.some FieldType.int)) ∈ lwt := List.mem_filter.mpr ⟨List.mem_append_right _ (List.mem_of_getElem? (i := 1064) (by decide +kernel)), rfl⟩
theorem tw1065 : (Cond.methodLink RL 77 yX12_balls) ∈ lwt := List.mem_filter.mpr ⟨List.mem_append_right _ (List.mem_of_getElem? (i := 1065) (by decide +kernel)), rfl⟩
theorem tw1066 : (Cond.instanceMethod yX12_balls) ∈ lwt := List.mem_filter.mpr ⟨List.mem_append_right _ (List.mem_of_getElem? (i := 1066) (by decide +kernel)), rfl⟩
theorem tw1067 : (Cond.selects RX12 yX12_balls yX12_balls) ∈ lwt := List.mem_filter.mpr ⟨List.mem_append_right _ (List.mem_of_getElem? (i := 1067) (by decide +kernel)), rfl⟩
theorem tw1068 : (Cond.code yX12_balls cX12_balls 6 (Option.some FieldType.int)) ∈ lwt := List.mem_filter.mpr ⟨List.mem_append_right _ (List.mem_of_getElem? (i := 1068) (by decide +kernel)), rfl⟩
theorem tw1069 : (Cond.methodLink RX12 172 yX12_areThere) ∈ lwt := List.mem_filter.mpr ⟨List.mem_append_right _ (List.mem_of_getElem? (i := 1069) (by decide +kernel)), rfl⟩
theorem tw1071 : (Cond.instanceMethod yX12_areThere) ∈ lwt := List.mem_filter.mpr ⟨List.mem_append_right _ (List.mem_of_getElem? (i := 1071) (by decide +kernel)), rfl⟩
theorem tw1072 : (Cond.code yX12_areThere cX12_areThere 3 (Option.some FieldType.boolean)) ∈ lwt := List.mem_filter.mpr ⟨List.mem_append_right _ (List.mem_of_getElem? (i := 1072) (by decide +kernel)), rfl⟩
theorem tw1073 : (Cond.methodLink RX12 175 yX12_isPart) ∈ lwt := List.mem_filter.mpr ⟨List.mem_append_right _ (List.mem_of_getElem? (i := 1073) (by decide +kernel)), rfl⟩
theorem tw1074 : (Cond.static yX12_isPart) ∈ lwt := List.mem_filter.mpr ⟨List.mem_append_right _ (List.mem_of_getElem? (i := 1074) (by decide +kernel)), rfl⟩
theorem tw1075 : (Cond.code yX12_isPart cX12_isPart 1 (Option.some FieldType.boolean)) ∈ lwt := List.mem_filter.mpr ⟨List.mem_append_right _ (List.mem_of_getElem? (i := 1075) (by decide +kernel)), rfl⟩
theorem tw1076 : (Cond.methodLink RX12 157 yX12_layWays) ∈ lwt := List.mem_filter.mpr ⟨List.mem_append_right _ (List.mem_of_getElem? (i := 1076) (by decide +kernel)), rfl⟩
theorem tw1078 : (Cond.instanceMethod yX12_layWays) ∈ lwt := List.mem_filter.mpr ⟨List.mem_append_right _ (List.mem_of_getElem? (i := 1078) (by decide +kernel)), rfl⟩
theorem tw1079 : (Cond.code yX12_layWays cX12_layWays 9 (Option.none : Option FieldType)) ∈ lwt := List.mem_filter.mpr ⟨List.mem_append_right _ (List.mem_of_getElem? (i := 1079) (by decide +kernel)), rfl⟩
theorem tw1080 : (Cond.methodLink RX12 168 yX12_tens) ∈ lwt := List.mem_filter.mpr ⟨List.mem_append_right _ (List.mem_of_getElem? (i := 1080) (by decide +kernel)), rfl⟩
theorem tw1081 : (Cond.static yX12_tens) ∈ lwt := List.mem_filter.mpr ⟨List.mem_append_right _ (List.mem_of_getElem? (i := 1081) (by decide +kernel)), rfl⟩
theorem tw1082 : (Cond.code yX12_tens cX12_tens 4 (Option.some FieldType.long)) ∈ lwt := List.mem_filter.mpr ⟨List.mem_append_right _ (List.mem_of_getElem? (i := 1082) (by decide +kernel)), rfl⟩
theorem tw1083 : (Cond.constantLong RX12 65 (10 : Int64)) ∈ lwt := List.mem_filter.mpr ⟨List.mem_append_right _ (List.mem_of_getElem? (i := 1083) (by decide +kernel)), rfl⟩
theorem tw1084 : (Cond.methodLink RX12 178 yX12_lowest) ∈ lwt := List.mem_filter.mpr ⟨List.mem_append_right _ (List.mem_of_getElem? (i := 1084) (by decide +kernel)), rfl⟩
theorem tw1085 : (Cond.static yX12_lowest) ∈ lwt := List.mem_filter.mpr ⟨List.mem_append_right _ (List.mem_of_getElem? (i := 1085) (by decide +kernel)), rfl⟩
theorem tw1086 : (Cond.code yX12_lowest cX12_lowest 11 (Option.some FieldType.long)) ∈ lwt := List.mem_filter.mpr ⟨List.mem_append_right _ (List.mem_of_getElem? (i := 1086) (by decide +kernel)), rfl⟩
theorem tw1087 : (Cond.methodLink RL 82 yX12_in) ∈ lwt := List.mem_filter.mpr ⟨List.mem_append_right _ (List.mem_of_getElem? (i := 1087) (by decide +kernel)), rfl⟩
theorem tw1088 : (Cond.instanceMethod yX12_in) ∈ lwt := List.mem_filter.mpr ⟨List.mem_append_right _ (List.mem_of_getElem? (i := 1088) (by decide +kernel)), rfl⟩
theorem tw1089 : (Cond.selects RX12 yX12_in yX12_in) ∈ lwt := List.mem_filter.mpr ⟨List.mem_append_right _ (List.mem_of_getElem? (i := 1089) (by decide +kernel)), rfl⟩
theorem tw1090 : (Cond.code yX12_in cX12_in 5 (Option.some FieldType.long)) ∈ lwt := List.mem_filter.mpr ⟨List.mem_append_right _ (List.mem_of_getElem? (i := 1090) (by decide +kernel)), rfl⟩
theorem tw1091 : (Cond.constantLong RX12 182 (-101 : Int64)) ∈ lwt := List.mem_filter.mpr ⟨List.mem_append_right _ (List.mem_of_getElem? (i := 1091) (by decide +kernel)), rfl⟩
theorem tw1092 : (Cond.constantLong RX12 184 (-102 : Int64)) ∈ lwt := List.mem_filter.mpr ⟨List.mem_append_right _ (List.mem_of_getElem? (i := 1092) (by decide +kernel)), rfl⟩
theorem tw1093 : (Cond.methodLink RX12 186 yX12_inBy) ∈ lwt := List.mem_filter.mpr ⟨List.mem_append_right _ (List.mem_of_getElem? (i := 1093) (by decide +kernel)), rfl⟩
theorem tw1095 : (Cond.instanceMethod yX12_inBy) ∈ lwt := List.mem_filter.mpr ⟨List.mem_append_right _ (List.mem_of_getElem? (i := 1095) (by decide +kernel)), rfl⟩
theorem tw1096 : (Cond.code yX12_inBy cX12_inBy 7 (Option.some FieldType.long)) ∈ lwt := List.mem_filter.mpr ⟨List.mem_append_right _ (List.mem_of_getElem? (i := 1096) (by decide +kernel)), rfl⟩
theorem tw1097 : (Cond.methodLink RX12 164 yX12_shutBy) ∈ lwt := List.mem_filter.mpr ⟨List.mem_append_right _ (List.mem_of_getElem? (i := 1097) (by decide +kernel)), rfl⟩
theorem tw1099 : (Cond.instanceMethod yX12_shutBy) ∈ lwt := List.mem_filter.mpr ⟨List.mem_append_right _ (List.mem_of_getElem? (i := 1099) (by decide +kernel)), rfl⟩
theorem tw1100 : (Cond.code yX12_shutBy cX12_shutBy 8 (Option.some FieldType.long)) ∈ lwt := List.mem_filter.mpr ⟨List.mem_append_right _ (List.mem_of_getElem? (i := 1100) (by decide +kernel)), rfl⟩
theorem tw1101 : (Cond.methodLink RX12 161 yX12_shuts) ∈ lwt := List.mem_filter.mpr ⟨List.mem_append_right _ (List.mem_of_getElem? (i := 1101) (by decide +kernel)), rfl⟩
theorem tw1103 : (Cond.instanceMethod yX12_shuts) ∈ lwt := List.mem_filter.mpr ⟨List.mem_append_right _ (List.mem_of_getElem? (i := 1103) (by decide +kernel)), rfl⟩
theorem tw1104 : (Cond.code yX12_shuts cX12_shuts 4 (Option.some FieldType.boolean)) ∈ lwt := List.mem_filter.mpr ⟨List.mem_append_right _ (List.mem_of_getElem? (i := 1104) (by decide +kernel)), rfl⟩
theorem tw1105 : (Cond.methodLink RL 87 yX12_large) ∈ lwt := List.mem_filter.mpr ⟨List.mem_append_right _ (List.mem_of_getElem? (i := 1105) (by decide +kernel)), rfl⟩
theorem tw1106 : (Cond.instanceMethod yX12_large) ∈ lwt := List.mem_filter.mpr ⟨List.mem_append_right _ (List.mem_of_getElem? (i := 1106) (by decide +kernel)), rfl⟩
theorem tw1107 : (Cond.selects RX12 yX12_large yX12_large) ∈ lwt := List.mem_filter.mpr ⟨List.mem_append_right _ (List.mem_of_getElem? (i := 1107) (by decide +kernel)), rfl⟩
theorem tw1108 : (Cond.code yX12_large cX12_large 10 (Option.some FieldType.long)) ∈ lwt := List.mem_filter.mpr ⟨List.mem_append_right _ (List.mem_of_getElem? (i := 1108) (by decide +kernel)), rfl⟩
theorem tw1109 : (Cond.constantLong RX12 190 (-103 : Int64)) ∈ lwt := List.mem_filter.mpr ⟨List.mem_append_right _ (List.mem_of_getElem? (i := 1109) (by decide +kernel)), rfl⟩
theorem tw1110 : (Cond.methodLink RX12 192 yX12_comesBy) ∈ lwt := List.mem_filter.mpr ⟨List.mem_append_right _ (List.mem_of_getElem? (i := 1110) (by decide +kernel)), rfl⟩
theorem tw1112 : (Cond.instanceMethod yX12_comesBy) ∈ lwt := List.mem_filter.mpr ⟨List.mem_append_right _ (List.mem_of_getElem? (i := 1112) (by decide +kernel)), rfl⟩
theorem tw1113 : (Cond.code yX12_comesBy cX12_comesBy 5 (Option.some FieldType.long)) ∈ lwt := List.mem_filter.mpr ⟨List.mem_append_right _ (List.mem_of_getElem? (i := 1113) (by decide +kernel)), rfl⟩
theorem tw1114 : (Cond.methodLink RL 92 yX12_wrong) ∈ lwt := List.mem_filter.mpr ⟨List.mem_append_right _ (List.mem_of_getElem? (i := 1114) (by decide +kernel)), rfl⟩
theorem tw1115 : (Cond.instanceMethod yX12_wrong) ∈ lwt := List.mem_filter.mpr ⟨List.mem_append_right _ (List.mem_of_getElem? (i := 1115) (by decide +kernel)), rfl⟩
theorem tw1116 : (Cond.selects RX12 yX12_wrong yX12_wrong) ∈ lwt := List.mem_filter.mpr ⟨List.mem_append_right _ (List.mem_of_getElem? (i := 1116) (by decide +kernel)), rfl⟩
theorem tw1117 : (Cond.code yX12_wrong cX12_wrong 3 (Option.some FieldType.long)) ∈ lwt := List.mem_filter.mpr ⟨List.mem_append_right _ (List.mem_of_getElem? (i := 1117) (by decide +kernel)), rfl⟩
theorem tw1118 : (Cond.methodLink RX12 195 yX12_wrongBy) ∈ lwt := List.mem_filter.mpr ⟨List.mem_append_right _ (List.mem_of_getElem? (i := 1118) (by decide +kernel)), rfl⟩
theorem tw1120 : (Cond.instanceMethod yX12_wrongBy) ∈ lwt := List.mem_filter.mpr ⟨List.mem_append_right _ (List.mem_of_getElem? (i := 1120) (by decide +kernel)), rfl⟩
theorem tw1121 : (Cond.code yX12_wrongBy cX12_wrongBy 8 (Option.some FieldType.long)) ∈ lwt := List.mem_filter.mpr ⟨List.mem_append_right _ (List.mem_of_getElem? (i := 1121) (by decide +kernel)), rfl⟩
theorem tw1122 : (Cond.methodLink RL 96 yX12_best) ∈ lwt := List.mem_filter.mpr ⟨List.mem_append_right _ (List.mem_of_getElem? (i := 1122) (by decide +kernel)), rfl⟩
theorem tw1123 : (Cond.instanceMethod yX12_best) ∈ lwt := List.mem_filter.mpr ⟨List.mem_append_right _ (List.mem_of_getElem? (i := 1123) (by decide +kernel)), rfl⟩
theorem tw1124 : (Cond.selects RX12 yX12_best yX12_best) ∈ lwt := List.mem_filter.mpr ⟨List.mem_append_right _ (List.mem_of_getElem? (i := 1124) (by decide +kernel)), rfl⟩
theorem tw1125 : (Cond.code yX12_best cX12_best 9 (Option.some FieldType.int)) ∈ lwt := List.mem_filter.mpr ⟨List.mem_append_right _ (List.mem_of_getElem? (i := 1125) (by decide +kernel)), rfl⟩
theorem tw1126 : (Cond.methodLink RL 101 yX12_who) ∈ lwt := List.mem_filter.mpr ⟨List.mem_append_right _ (List.mem_of_getElem? (i := 1126) (by decide +kernel)), rfl⟩
theorem tw1127 : (Cond.instanceMethod yX12_who) ∈ lwt := List.mem_filter.mpr ⟨List.mem_append_right _ (List.mem_of_getElem? (i := 1127) (by decide +kernel)), rfl⟩
theorem tw1128 : (Cond.selects RX12 yX12_who yX12_who) ∈ lwt := List.mem_filter.mpr ⟨List.mem_append_right _ (List.mem_of_getElem? (i := 1128) (by decide +kernel)), rfl⟩
theorem tw1129 : (Cond.code yX12_who cX12_who 17 (Option.some FieldType.int)) ∈ lwt := List.mem_filter.mpr ⟨List.mem_append_right _ (List.mem_of_getElem? (i := 1129) (by decide +kernel)), rfl⟩
theorem tw1130 : (Cond.methodLink RX12 199 yX12_isAsked) ∈ lwt := List.mem_filter.mpr ⟨List.mem_append_right _ (List.mem_of_getElem? (i := 1130) (by decide +kernel)), rfl⟩
theorem tw1132 : (Cond.instanceMethod yX12_isAsked) ∈ lwt := List.mem_filter.mpr ⟨List.mem_append_right _ (List.mem_of_getElem? (i := 1132) (by decide +kernel)), rfl⟩
theorem tw1133 : (Cond.code yX12_isAsked cX12_isAsked 4 (Option.some FieldType.boolean)) ∈ lwt := List.mem_filter.mpr ⟨List.mem_append_right _ (List.mem_of_getElem? (i := 1133) (by decide +kernel)), rfl⟩
theorem tw1134 : (Cond.methodLink RL 106 yX12_heard) ∈ lwt := List.mem_filter.mpr ⟨List.mem_append_right _ (List.mem_of_getElem? (i := 1134) (by decide +kernel)), rfl⟩
theorem tw1135 : (Cond.instanceMethod yX12_heard) ∈ lwt := List.mem_filter.mpr ⟨List.mem_append_right _ (List.mem_of_getElem? (i := 1135) (by decide +kernel)), rfl⟩
theorem tw1136 : (Cond.selects RX12 yX12_heard yX12_heard) ∈ lwt := List.mem_filter.mpr ⟨List.mem_append_right _ (List.mem_of_getElem? (i := 1136) (by decide +kernel)), rfl⟩
theorem tw1137 : (Cond.code yX12_heard cX12_heard 11 (Option.some FieldType.int)) ∈ lwt := List.mem_filter.mpr ⟨List.mem_append_right _ (List.mem_of_getElem? (i := 1137) (by decide +kernel)), rfl⟩
theorem tw1138 : (Cond.methodLink RL 110 yX12_sway) ∈ lwt := List.mem_filter.mpr ⟨List.mem_append_right _ (List.mem_of_getElem? (i := 1138) (by decide +kernel)), rfl⟩
theorem tw1139 : (Cond.instanceMethod yX12_sway) ∈ lwt := List.mem_filter.mpr ⟨List.mem_append_right _ (List.mem_of_getElem? (i := 1139) (by decide +kernel)), rfl⟩
theorem tw1140 : (Cond.selects RX12 yX12_sway yX12_sway) ∈ lwt := List.mem_filter.mpr ⟨List.mem_append_right _ (List.mem_of_getElem? (i := 1140) (by decide +kernel)), rfl⟩
theorem tw1141 : (Cond.code yX12_sway cX12_sway 13 (Option.some FieldType.int)) ∈ lwt := List.mem_filter.mpr ⟨List.mem_append_right _ (List.mem_of_getElem? (i := 1141) (by decide +kernel)), rfl⟩
theorem tw1142 : (Cond.constantLong RX12 202 (100 : Int64)) ∈ lwt := List.mem_filter.mpr ⟨List.mem_append_right _ (List.mem_of_getElem? (i := 1142) (by decide +kernel)), rfl⟩
theorem tw1143 : (Cond.methodLink RL 114 yX12_word) ∈ lwt := List.mem_filter.mpr ⟨List.mem_append_right _ (List.mem_of_getElem? (i := 1143) (by decide +kernel)), rfl⟩
theorem tw1144 : (Cond.instanceMethod yX12_word) ∈ lwt := List.mem_filter.mpr ⟨List.mem_append_right _ (List.mem_of_getElem? (i := 1144) (by decide +kernel)), rfl⟩
theorem tw1145 : (Cond.selects RX12 yX12_word yX12_word) ∈ lwt := List.mem_filter.mpr ⟨List.mem_append_right _ (List.mem_of_getElem? (i := 1145) (by decide +kernel)), rfl⟩
theorem tw1146 : (Cond.code yX12_word cX12_word 6 (Option.some FieldType.int)) ∈ lwt := List.mem_filter.mpr ⟨List.mem_append_right _ (List.mem_of_getElem? (i := 1146) (by decide +kernel)), rfl⟩
theorem tw1147 : (Cond.methodLink RX12 204 yX12_withdraws) ∈ lwt := List.mem_filter.mpr ⟨List.mem_append_right _ (List.mem_of_getElem? (i := 1147) (by decide +kernel)), rfl⟩
theorem tw1149 : (Cond.instanceMethod yX12_withdraws) ∈ lwt := List.mem_filter.mpr ⟨List.mem_append_right _ (List.mem_of_getElem? (i := 1149) (by decide +kernel)), rfl⟩
theorem tw1150 : (Cond.code yX12_withdraws cX12_withdraws 5 (Option.some FieldType.boolean)) ∈ lwt := List.mem_filter.mpr ⟨List.mem_append_right _ (List.mem_of_getElem? (i := 1150) (by decide +kernel)), rfl⟩
theorem tw1151 : (Cond.methodLink RL 118 yX12_seen) ∈ lwt := List.mem_filter.mpr ⟨List.mem_append_right _ (List.mem_of_getElem? (i := 1151) (by decide +kernel)), rfl⟩
theorem tw1152 : (Cond.instanceMethod yX12_seen) ∈ lwt := List.mem_filter.mpr ⟨List.mem_append_right _ (List.mem_of_getElem? (i := 1152) (by decide +kernel)), rfl⟩
theorem tw1153 : (Cond.selects RX12 yX12_seen yX12_seen) ∈ lwt := List.mem_filter.mpr ⟨List.mem_append_right _ (List.mem_of_getElem? (i := 1153) (by decide +kernel)), rfl⟩
theorem tw1154 : (Cond.code yX12_seen cX12_seen 10 (Option.some FieldType.long)) ∈ lwt := List.mem_filter.mpr ⟨List.mem_append_right _ (List.mem_of_getElem? (i := 1154) (by decide +kernel)), rfl⟩
theorem tw1155 : (Cond.methodLink RL 122 yX12_evening) ∈ lwt := List.mem_filter.mpr ⟨List.mem_append_right _ (List.mem_of_getElem? (i := 1155) (by decide +kernel)), rfl⟩
theorem tw1156 : (Cond.instanceMethod yX12_evening) ∈ lwt := List.mem_filter.mpr ⟨List.mem_append_right _ (List.mem_of_getElem? (i := 1156) (by decide +kernel)), rfl⟩
theorem tw1157 : (Cond.selects RX12 yX12_evening yX12_evening) ∈ lwt := List.mem_filter.mpr ⟨List.mem_append_right _ (List.mem_of_getElem? (i := 1157) (by decide +kernel)), rfl⟩
theorem tw1158 : (Cond.code yX12_evening cX12_evening 9 (Option.some FieldType.int)) ∈ lwt := List.mem_filter.mpr ⟨List.mem_append_right _ (List.mem_of_getElem? (i := 1158) (by decide +kernel)), rfl⟩
theorem tw1159 : (Cond.methodLink RX12 223 yX12_goRound) ∈ lwt := List.mem_filter.mpr ⟨List.mem_append_right _ (List.mem_of_getElem? (i := 1159) (by decide +kernel)), rfl⟩
theorem tw1161 : (Cond.instanceMethod yX12_goRound) ∈ lwt := List.mem_filter.mpr ⟨List.mem_append_right _ (List.mem_of_getElem? (i := 1161) (by decide +kernel)), rfl⟩
theorem tw1162 : (Cond.code yX12_goRound cX12_goRound 6 (Option.some FieldType.int)) ∈ lwt := List.mem_filter.mpr ⟨List.mem_append_right _ (List.mem_of_getElem? (i := 1162) (by decide +kernel)), rfl⟩
theorem tw1163 : (Cond.methodLink RX12 220 yX12_draw) ∈ lwt := List.mem_filter.mpr ⟨List.mem_append_right _ (List.mem_of_getElem? (i := 1163) (by decide +kernel)), rfl⟩
theorem tw1165 : (Cond.instanceMethod yX12_draw) ∈ lwt := List.mem_filter.mpr ⟨List.mem_append_right _ (List.mem_of_getElem? (i := 1165) (by decide +kernel)), rfl⟩
theorem tw1166 : (Cond.code yX12_draw cX12_draw 2 (Option.some FieldType.int)) ∈ lwt := List.mem_filter.mpr ⟨List.mem_append_right _ (List.mem_of_getElem? (i := 1166) (by decide +kernel)), rfl⟩
theorem tw1167 : (Cond.constantLong RX12 208 (1103515245 : Int64)) ∈ lwt := List.mem_filter.mpr ⟨List.mem_append_right _ (List.mem_of_getElem? (i := 1167) (by decide +kernel)), rfl⟩
theorem tw1168 : (Cond.constantLong RX12 214 (12345 : Int64)) ∈ lwt := List.mem_filter.mpr ⟨List.mem_append_right _ (List.mem_of_getElem? (i := 1168) (by decide +kernel)), rfl⟩
theorem tw1169 : (Cond.constantLong RX12 216 (2147483647 : Int64)) ∈ lwt := List.mem_filter.mpr ⟨List.mem_append_right _ (List.mem_of_getElem? (i := 1169) (by decide +kernel)), rfl⟩
theorem tw1170 : (Cond.constantLong RX12 218 (65536 : Int64)) ∈ lwt := List.mem_filter.mpr ⟨List.mem_append_right _ (List.mem_of_getElem? (i := 1170) (by decide +kernel)), rfl⟩
theorem tw1171 : (Cond.methodLink RL 126 yX12_trade) ∈ lwt := List.mem_filter.mpr ⟨List.mem_append_right _ (List.mem_of_getElem? (i := 1171) (by decide +kernel)), rfl⟩
theorem tw1172 : (Cond.instanceMethod yX12_trade) ∈ lwt := List.mem_filter.mpr ⟨List.mem_append_right _ (List.mem_of_getElem? (i := 1172) (by decide +kernel)), rfl⟩
theorem tw1173 : (Cond.selects RX12 yX12_trade yX12_trade) ∈ lwt := List.mem_filter.mpr ⟨List.mem_append_right _ (List.mem_of_getElem? (i := 1173) (by decide +kernel)), rfl⟩
theorem tw1174 : (Cond.code yX12_trade cX12_trade 9 (Option.some FieldType.int)) ∈ lwt := List.mem_filter.mpr ⟨List.mem_append_right _ (List.mem_of_getElem? (i := 1174) (by decide +kernel)), rfl⟩
theorem tw1175 : (Cond.methodLink RX12 243 yX12_gain) ∈ lwt := List.mem_filter.mpr ⟨List.mem_append_right _ (List.mem_of_getElem? (i := 1175) (by decide +kernel)), rfl⟩
theorem tw1177 : (Cond.instanceMethod yX12_gain) ∈ lwt := List.mem_filter.mpr ⟨List.mem_append_right _ (List.mem_of_getElem? (i := 1177) (by decide +kernel)), rfl⟩
theorem tw1178 : (Cond.code yX12_gain cX12_gain 6 (Option.some FieldType.int)) ∈ lwt := List.mem_filter.mpr ⟨List.mem_append_right _ (List.mem_of_getElem? (i := 1178) (by decide +kernel)), rfl⟩
theorem tw1179 : (Cond.methodLink RX12 236 yX12_isInBy) ∈ lwt := List.mem_filter.mpr ⟨List.mem_append_right _ (List.mem_of_getElem? (i := 1179) (by decide +kernel)), rfl⟩
theorem tw1181 : (Cond.instanceMethod yX12_isInBy) ∈ lwt := List.mem_filter.mpr ⟨List.mem_append_right _ (List.mem_of_getElem? (i := 1181) (by decide +kernel)), rfl⟩
theorem tw1182 : (Cond.code yX12_isInBy cX12_isInBy 8 (Option.some FieldType.boolean)) ∈ lwt := List.mem_filter.mpr ⟨List.mem_append_right _ (List.mem_of_getElem? (i := 1182) (by decide +kernel)), rfl⟩
theorem tw1183 : (Cond.methodLink RL 130 yX12_veto) ∈ lwt := List.mem_filter.mpr ⟨List.mem_append_right _ (List.mem_of_getElem? (i := 1183) (by decide +kernel)), rfl⟩
theorem tw1184 : (Cond.instanceMethod yX12_veto) ∈ lwt := List.mem_filter.mpr ⟨List.mem_append_right _ (List.mem_of_getElem? (i := 1184) (by decide +kernel)), rfl⟩
theorem tw1185 : (Cond.selects RX12 yX12_veto yX12_veto) ∈ lwt := List.mem_filter.mpr ⟨List.mem_append_right _ (List.mem_of_getElem? (i := 1185) (by decide +kernel)), rfl⟩
theorem tw1186 : (Cond.code yX12_veto cX12_veto 4 (Option.some FieldType.int)) ∈ lwt := List.mem_filter.mpr ⟨List.mem_append_right _ (List.mem_of_getElem? (i := 1186) (by decide +kernel)), rfl⟩
theorem tw1187 : (Cond.methodLink RX12 254 yX12_layVetoes) ∈ lwt := List.mem_filter.mpr ⟨List.mem_append_right _ (List.mem_of_getElem? (i := 1187) (by decide +kernel)), rfl⟩
theorem tw1189 : (Cond.instanceMethod yX12_layVetoes) ∈ lwt := List.mem_filter.mpr ⟨List.mem_append_right _ (List.mem_of_getElem? (i := 1189) (by decide +kernel)), rfl⟩
theorem tw1190 : (Cond.code yX12_layVetoes cX12_layVetoes 7 (Option.none : Option FieldType)) ∈ lwt := List.mem_filter.mpr ⟨List.mem_append_right _ (List.mem_of_getElem? (i := 1190) (by decide +kernel)), rfl⟩
theorem tw1191 : (Cond.methodLink RX12 251 yX12_isUsed) ∈ lwt := List.mem_filter.mpr ⟨List.mem_append_right _ (List.mem_of_getElem? (i := 1191) (by decide +kernel)), rfl⟩
theorem tw1193 : (Cond.instanceMethod yX12_isUsed) ∈ lwt := List.mem_filter.mpr ⟨List.mem_append_right _ (List.mem_of_getElem? (i := 1193) (by decide +kernel)), rfl⟩
theorem tw1194 : (Cond.code yX12_isUsed cX12_isUsed 4 (Option.some FieldType.boolean)) ∈ lwt := List.mem_filter.mpr ⟨List.mem_append_right _ (List.mem_of_getElem? (i := 1194) (by decide +kernel)), rfl⟩
theorem tw1195 : (Cond.methodLink RX12 248 yX12_elevens) ∈ lwt := List.mem_filter.mpr ⟨List.mem_append_right _ (List.mem_of_getElem? (i := 1195) (by decide +kernel)), rfl⟩
theorem tw1196 : (Cond.static yX12_elevens) ∈ lwt := List.mem_filter.mpr ⟨List.mem_append_right _ (List.mem_of_getElem? (i := 1196) (by decide +kernel)), rfl⟩
theorem tw1197 : (Cond.code yX12_elevens cX12_elevens 4 (Option.some FieldType.long)) ∈ lwt := List.mem_filter.mpr ⟨List.mem_append_right _ (List.mem_of_getElem? (i := 1197) (by decide +kernel)), rfl⟩
theorem tw1198 : (Cond.constantLong RX12 246 (11 : Int64)) ∈ lwt := List.mem_filter.mpr ⟨List.mem_append_right _ (List.mem_of_getElem? (i := 1198) (by decide +kernel)), rfl⟩
theorem tw1199 : (Cond.methodLink RL 134 yX12_worth) ∈ lwt := List.mem_filter.mpr ⟨List.mem_append_right _ (List.mem_of_getElem? (i := 1199) (by decide +kernel)), rfl⟩
theorem tw1200 : (Cond.instanceMethod yX12_worth) ∈ lwt := List.mem_filter.mpr ⟨List.mem_append_right _ (List.mem_of_getElem? (i := 1200) (by decide +kernel)), rfl⟩
theorem tw1201 : (Cond.selects RX12 yX12_worth yX12_worth) ∈ lwt := List.mem_filter.mpr ⟨List.mem_append_right _ (List.mem_of_getElem? (i := 1201) (by decide +kernel)), rfl⟩
theorem tw1202 : (Cond.code yX12_worth cX12_worth 4 (Option.some FieldType.long)) ∈ lwt := List.mem_filter.mpr ⟨List.mem_append_right _ (List.mem_of_getElem? (i := 1202) (by decide +kernel)), rfl⟩
theorem tw1203 : (Cond.methodLink RL 138 yX12_years) ∈ lwt := List.mem_filter.mpr ⟨List.mem_append_right _ (List.mem_of_getElem? (i := 1203) (by decide +kernel)), rfl⟩
theorem tw1204 : (Cond.instanceMethod yX12_years) ∈ lwt := List.mem_filter.mpr ⟨List.mem_append_right _ (List.mem_of_getElem? (i := 1204) (by decide +kernel)), rfl⟩
theorem tw1205 : (Cond.selects RX12 yX12_years yX12_years) ∈ lwt := List.mem_filter.mpr ⟨List.mem_append_right _ (List.mem_of_getElem? (i := 1205) (by decide +kernel)), rfl⟩
theorem tw1206 : (Cond.code yX12_years cX12_years 8 (Option.some FieldType.int)) ∈ lwt := List.mem_filter.mpr ⟨List.mem_append_right _ (List.mem_of_getElem? (i := 1206) (by decide +kernel)), rfl⟩
theorem tw1207 : (Cond.methodLink RX12 264 yX12_isLetIn) ∈ lwt := List.mem_filter.mpr ⟨List.mem_append_right _ (List.mem_of_getElem? (i := 1207) (by decide +kernel)), rfl⟩
theorem tw1209 : (Cond.instanceMethod yX12_isLetIn) ∈ lwt := List.mem_filter.mpr ⟨List.mem_append_right _ (List.mem_of_getElem? (i := 1209) (by decide +kernel)), rfl⟩
theorem tw1210 : (Cond.code yX12_isLetIn cX12_isLetIn 4 (Option.some FieldType.boolean)) ∈ lwt := List.mem_filter.mpr ⟨List.mem_append_right _ (List.mem_of_getElem? (i := 1210) (by decide +kernel)), rfl⟩
theorem tw1211 : (Cond.methodLink RX12 261 yX12_clubRound) ∈ lwt := List.mem_filter.mpr ⟨List.mem_append_right _ (List.mem_of_getElem? (i := 1211) (by decide +kernel)), rfl⟩
theorem tw1213 : (Cond.instanceMethod yX12_clubRound) ∈ lwt := List.mem_filter.mpr ⟨List.mem_append_right _ (List.mem_of_getElem? (i := 1213) (by decide +kernel)), rfl⟩
theorem tw1214 : (Cond.code yX12_clubRound cX12_clubRound 5 (Option.some FieldType.int)) ∈ lwt := List.mem_filter.mpr ⟨List.mem_append_right _ (List.mem_of_getElem? (i := 1214) (by decide +kernel)), rfl⟩
theorem tw1215 : (Cond.methodLink RX12 267 yX12_unlike) ∈ lwt := List.mem_filter.mpr ⟨List.mem_append_right _ (List.mem_of_getElem? (i := 1215) (by decide +kernel)), rfl⟩
theorem tw1217 : (Cond.instanceMethod yX12_unlike) ∈ lwt := List.mem_filter.mpr ⟨List.mem_append_right _ (List.mem_of_getElem? (i := 1217) (by decide +kernel)), rfl⟩
theorem tw1218 : (Cond.code yX12_unlike cX12_unlike 3 (Option.some FieldType.int)) ∈ lwt := List.mem_filter.mpr ⟨List.mem_append_right _ (List.mem_of_getElem? (i := 1218) (by decide +kernel)), rfl⟩
theorem tw1219 : (Cond.methodLink RL 142 yX12_lot) ∈ lwt := List.mem_filter.mpr ⟨List.mem_append_right _ (List.mem_of_getElem? (i := 1219) (by decide +kernel)), rfl⟩
theorem tw1220 : (Cond.instanceMethod yX12_lot) ∈ lwt := List.mem_filter.mpr ⟨List.mem_append_right _ (List.mem_of_getElem? (i := 1220) (by decide +kernel)), rfl⟩
theorem tw1221 : (Cond.selects RX12 yX12_lot yX12_lot) ∈ lwt := List.mem_filter.mpr ⟨List.mem_append_right _ (List.mem_of_getElem? (i := 1221) (by decide +kernel)), rfl⟩
theorem tw1222 : (Cond.code yX12_lot cX12_lot 3 (Option.some FieldType.int)) ∈ lwt := List.mem_filter.mpr ⟨List.mem_append_right _ (List.mem_of_getElem? (i := 1222) (by decide +kernel)), rfl⟩
theorem tw1223 : (Cond.methodLink RX12 271 yX12_mindedMany) ∈ lwt := List.mem_filter.mpr ⟨List.mem_append_right _ (List.mem_of_getElem? (i := 1223) (by decide +kernel)), rfl⟩
theorem tw1225 : (Cond.instanceMethod yX12_mindedMany) ∈ lwt := List.mem_filter.mpr ⟨List.mem_append_right _ (List.mem_of_getElem? (i := 1225) (by decide +kernel)), rfl⟩
theorem tw1226 : (Cond.code yX12_mindedMany cX12_mindedMany 3 (Option.some FieldType.int)) ∈ lwt := List.mem_filter.mpr ⟨List.mem_append_right _ (List.mem_of_getElem? (i := 1226) (by decide +kernel)), rfl⟩
theorem tw1227 : (Cond.methodLink RL 146 yX12_image) ∈ lwt := List.mem_filter.mpr ⟨List.mem_append_right _ (List.mem_of_getElem? (i := 1227) (by decide +kernel)), rfl⟩
theorem tw1228 : (Cond.instanceMethod yX12_image) ∈ lwt := List.mem_filter.mpr ⟨List.mem_append_right _ (List.mem_of_getElem? (i := 1228) (by decide +kernel)), rfl⟩
theorem tw1229 : (Cond.selects RX12 yX12_image yX12_image) ∈ lwt := List.mem_filter.mpr ⟨List.mem_append_right _ (List.mem_of_getElem? (i := 1229) (by decide +kernel)), rfl⟩
theorem tw1230 : (Cond.code yX12_image cX12_image 2 (Option.some FieldType.int)) ∈ lwt := List.mem_filter.mpr ⟨List.mem_append_right _ (List.mem_of_getElem? (i := 1230) (by decide +kernel)), rfl⟩
theorem tw1231 : (Cond.methodLink RL 150 yX12_restore) ∈ lwt := List.mem_filter.mpr ⟨List.mem_append_right _ (List.mem_of_getElem? (i := 1231) (by decide +kernel)), rfl⟩
theorem tw1232 : (Cond.instanceMethod yX12_restore) ∈ lwt := List.mem_filter.mpr ⟨List.mem_append_right _ (List.mem_of_getElem? (i := 1232) (by decide +kernel)), rfl⟩
theorem tw1233 : (Cond.selects RX12 yX12_restore yX12_restore) ∈ lwt := List.mem_filter.mpr ⟨List.mem_append_right _ (List.mem_of_getElem? (i := 1233) (by decide +kernel)), rfl⟩
theorem tw1234 : (Cond.code yX12_restore cX12_restore 3 (Option.some FieldType.int)) ∈ lwt := List.mem_filter.mpr ⟨List.mem_append_right _ (List.mem_of_getElem? (i := 1234) (by decide +kernel)), rfl⟩
theorem tw1235 : (Cond.methodLink RL 154 yX12_count) ∈ lwt := List.mem_filter.mpr ⟨List.mem_append_right _ (List.mem_of_getElem? (i := 1235) (by decide +kernel)), rfl⟩
theorem tw1236 : (Cond.instanceMethod yX12_count) ∈ lwt := List.mem_filter.mpr ⟨List.mem_append_right _ (List.mem_of_getElem? (i := 1236) (by decide +kernel)), rfl⟩
theorem tw1237 : (Cond.selects RX12 yX12_count yX12_count) ∈ lwt := List.mem_filter.mpr ⟨List.mem_append_right _ (List.mem_of_getElem? (i := 1237) (by decide +kernel)), rfl⟩
theorem tw1238 : (Cond.code yX12_count cX12_count 2 (Option.some FieldType.int)) ∈ lwt := List.mem_filter.mpr ⟨List.mem_append_right _ (List.mem_of_getElem? (i := 1238) (by decide +kernel)), rfl⟩
theorem tw1239 : (Cond.methodLink RX12 283 yX12_howMany) ∈ lwt := List.mem_filter.mpr ⟨List.mem_append_right _ (List.mem_of_getElem? (i := 1239) (by decide +kernel)), rfl⟩
theorem tw1241 : (Cond.instanceMethod yX12_howMany) ∈ lwt := List.mem_filter.mpr ⟨List.mem_append_right _ (List.mem_of_getElem? (i := 1241) (by decide +kernel)), rfl⟩
theorem tw1242 : (Cond.code yX12_howMany cX12_howMany 2 (Option.some FieldType.int)) ∈ lwt := List.mem_filter.mpr ⟨List.mem_append_right _ (List.mem_of_getElem? (i := 1242) (by decide +kernel)), rfl⟩
theorem tw1243 : (Cond.methodLink RL 159 yX12_digest) ∈ lwt := List.mem_filter.mpr ⟨List.mem_append_right _ (List.mem_of_getElem? (i := 1243) (by decide +kernel)), rfl⟩
theorem tw1244 : (Cond.instanceMethod yX12_digest) ∈ lwt := List.mem_filter.mpr ⟨List.mem_append_right _ (List.mem_of_getElem? (i := 1244) (by decide +kernel)), rfl⟩
theorem tw1245 : (Cond.selects RX12 yX12_digest yX12_digest) ∈ lwt := List.mem_filter.mpr ⟨List.mem_append_right _ (List.mem_of_getElem? (i := 1245) (by decide +kernel)), rfl⟩
theorem tw1246 : (Cond.code yX12_digest cX12_digest 3 (Option.some FieldType.long)) ∈ lwt := List.mem_filter.mpr ⟨List.mem_append_right _ (List.mem_of_getElem? (i := 1246) (by decide +kernel)), rfl⟩
theorem tw1247 : (Cond.constantLong RX12 295 (487 : Int64)) ∈ lwt := List.mem_filter.mpr ⟨List.mem_append_right _ (List.mem_of_getElem? (i := 1247) (by decide +kernel)), rfl⟩
theorem tw1248 : (Cond.methodLink RX12 291 yX12_mix) ∈ lwt := List.mem_filter.mpr ⟨List.mem_append_right _ (List.mem_of_getElem? (i := 1248) (by decide +kernel)), rfl⟩
theorem tw1250 : (Cond.instanceMethod yX12_mix) ∈ lwt := List.mem_filter.mpr ⟨List.mem_append_right _ (List.mem_of_getElem? (i := 1250) (by decide +kernel)), rfl⟩
theorem tw1251 : (Cond.code yX12_mix cX12_mix 3 (Option.none : Option FieldType)) ∈ lwt := List.mem_filter.mpr ⟨List.mem_append_right _ (List.mem_of_getElem? (i := 1251) (by decide +kernel)), rfl⟩
theorem tw1252 : (Cond.constantLong RX12 286 (31 : Int64)) ∈ lwt := List.mem_filter.mpr ⟨List.mem_append_right _ (List.mem_of_getElem? (i := 1252) (by decide +kernel)), rfl⟩
theorem tw1253 : (Cond.methodLink RX12 297 yX12_mixIns) ∈ lwt := List.mem_filter.mpr ⟨List.mem_append_right _ (List.mem_of_getElem? (i := 1253) (by decide +kernel)), rfl⟩
theorem tw1255 : (Cond.instanceMethod yX12_mixIns) ∈ lwt := List.mem_filter.mpr ⟨List.mem_append_right _ (List.mem_of_getElem? (i := 1255) (by decide +kernel)), rfl⟩
theorem tw1256 : (Cond.code yX12_mixIns cX12_mixIns 6 (Option.none : Option FieldType)) ∈ lwt := List.mem_filter.mpr ⟨List.mem_append_right _ (List.mem_of_getElem? (i := 1256) (by decide +kernel)), rfl⟩
theorem tw1257 : (Cond.constantLong RL 13 (4294967295 : Int64)) ∈ lwt := List.mem_filter.mpr ⟨List.mem_append_right _ (List.mem_of_getElem? (i := 1257) (by decide +kernel)), rfl⟩
theorem tn1258 : (Cond.castable RX8 RX10) ∈ lw_tbl := List.mem_append_right _ (List.mem_of_getElem? (i := 1258) (by decide +kernel))
theorem tn1259 : (Cond.castable RX2 RX5) ∈ lw_tbl := List.mem_append_right _ (List.mem_of_getElem? (i := 1259) (by decide +kernel))
theorem tn1260 : (Cond.castable RX3 RX5) ∈ lw_tbl := List.mem_append_right _ (List.mem_of_getElem? (i := 1260) (by decide +kernel))
theorem tn1261 : (Cond.castable RX10 RX5) ∈ lw_tbl := List.mem_append_right _ (List.mem_of_getElem? (i := 1261) (by decide +kernel))
theorem tn1262 : (Cond.castable RX8 RX5) ∈ lw_tbl := List.mem_append_right _ (List.mem_of_getElem? (i := 1262) (by decide +kernel))
theorem tp0 : Cond.selects RX4 yX4_codeAt yX4_codeAt ∈ lwt := List.mem_filter.mpr ⟨List.mem_append_left _ (List.mem_of_getElem? (i := 0) (by decide +kernel)), rfl⟩
theorem tp1 : Cond.selects RX11 yX11_ruleAt yX11_ruleAt ∈ lwt := List.mem_filter.mpr ⟨List.mem_append_left _ (List.mem_of_getElem? (i := 1) (by decide +kernel)), rfl⟩
theorem tp2 : Cond.selects RX11 yX11_personAt yX11_personAt ∈ lwt := List.mem_filter.mpr ⟨List.mem_append_left _ (List.mem_of_getElem? (i := 2) (by decide +kernel)), rfl⟩
theorem tp3 : Cond.selects RX11 yX11_newPerson yX11_newPerson ∈ lwt := List.mem_filter.mpr ⟨List.mem_append_left _ (List.mem_of_getElem? (i := 3) (by decide +kernel)), rfl⟩
theorem tp4 : Cond.selects RX11 yX11_isCandidate yX11_isCandidate ∈ lwt := List.mem_filter.mpr ⟨List.mem_append_left _ (List.mem_of_getElem? (i := 4) (by decide +kernel)), rfl⟩
theorem tp5 : Cond.selects RX11 yX11_friendOf yX11_friendOf ∈ lwt := List.mem_filter.mpr ⟨List.mem_append_left _ (List.mem_of_getElem? (i := 5) (by decide +kernel)), rfl⟩
theorem tp6 : Cond.selects RX11 yX11_isMinded yX11_isMinded ∈ lwt := List.mem_filter.mpr ⟨List.mem_append_left _ (List.mem_of_getElem? (i := 6) (by decide +kernel)), rfl⟩
theorem tp7 : Cond.selects RX11 yX11_howManyMindMuch yX11_howManyMindMuch ∈ lwt := List.mem_filter.mpr ⟨List.mem_append_left _ (List.mem_of_getElem? (i := 7) (by decide +kernel)), rfl⟩
theorem tp8 : Cond.selects RX11 yX11_areComers yX11_areComers ∈ lwt := List.mem_filter.mpr ⟨List.mem_append_left _ (List.mem_of_getElem? (i := 8) (by decide +kernel)), rfl⟩
theorem tp9 : Cond.selects RX11 yX11_everybody yX11_everybody ∈ lwt := List.mem_filter.mpr ⟨List.mem_append_left _ (List.mem_of_getElem? (i := 9) (by decide +kernel)), rfl⟩
theorem tp10 : Cond.selects RX11 yX11_blackOf yX11_blackOf ∈ lwt := List.mem_filter.mpr ⟨List.mem_append_left _ (List.mem_of_getElem? (i := 10) (by decide +kernel)), rfl⟩
theorem tp11 : Cond.selects RX11 yX11_tallyBalls yX11_tallyBalls ∈ lwt := List.mem_filter.mpr ⟨List.mem_append_left _ (List.mem_of_getElem? (i := 11) (by decide +kernel)), rfl⟩
theorem tp12 : Cond.selects RX11 yX11_inWays yX11_inWays ∈ lwt := List.mem_filter.mpr ⟨List.mem_append_left _ (List.mem_of_getElem? (i := 12) (by decide +kernel)), rfl⟩
theorem tp13 : Cond.selects RX9 yX9_waysTo yX9_waysTo ∈ lwt := List.mem_filter.mpr ⟨List.mem_append_left _ (List.mem_of_getElem? (i := 13) (by decide +kernel)), rfl⟩
theorem tp14 : Cond.selects RX11 yX11_wrongWays yX11_wrongWays ∈ lwt := List.mem_filter.mpr ⟨List.mem_append_left _ (List.mem_of_getElem? (i := 14) (by decide +kernel)), rfl⟩
theorem tp15 : Cond.selects RX0 yX0_putBalls yX0_putBalls ∈ lwt := List.mem_filter.mpr ⟨List.mem_append_left _ (List.mem_of_getElem? (i := 15) (by decide +kernel)), rfl⟩
theorem tp16 : Cond.selects RX11 yX11_letInByOneBall yX11_letInByOneBall ∈ lwt := List.mem_filter.mpr ⟨List.mem_append_left _ (List.mem_of_getElem? (i := 16) (by decide +kernel)), rfl⟩
theorem tp17 : Cond.selects RX11 yX11_expectVetoes yX11_expectVetoes ∈ lwt := List.mem_filter.mpr ⟨List.mem_append_left _ (List.mem_of_getElem? (i := 17) (by decide +kernel)), rfl⟩
theorem tp18 : Cond.selects RX1 yX1_drawTaste yX1_drawTaste ∈ lwt := List.mem_filter.mpr ⟨List.mem_append_left _ (List.mem_of_getElem? (i := 18) (by decide +kernel)), rfl⟩
theorem tp19 : Cond.selects RX1 yX1_firstGoes yX1_firstGoes ∈ lwt := List.mem_filter.mpr ⟨List.mem_append_left _ (List.mem_of_getElem? (i := 19) (by decide +kernel)), rfl⟩
theorem tp20 : Cond.selects RX11 yX11_howManyMinded yX11_howManyMinded ∈ lwt := List.mem_filter.mpr ⟨List.mem_append_left _ (List.mem_of_getElem? (i := 20) (by decide +kernel)), rfl⟩
theorem tp21 : Cond.selects RX11 yX11_digestRules yX11_digestRules ∈ lwt := List.mem_filter.mpr ⟨List.mem_append_left _ (List.mem_of_getElem? (i := 21) (by decide +kernel)), rfl⟩
theorem tp22 : Cond.selects RX11 yX11_digestPeople yX11_digestPeople ∈ lwt := List.mem_filter.mpr ⟨List.mem_append_left _ (List.mem_of_getElem? (i := 22) (by decide +kernel)), rfl⟩
theorem tp23 : Cond.selects RX11 yX11_digestCandidates yX11_digestCandidates ∈ lwt := List.mem_filter.mpr ⟨List.mem_append_left _ (List.mem_of_getElem? (i := 23) (by decide +kernel)), rfl⟩
theorem tp24 : Cond.selects RX11 yX11_digestIn yX11_digestIn ∈ lwt := List.mem_filter.mpr ⟨List.mem_append_left _ (List.mem_of_getElem? (i := 24) (by decide +kernel)), rfl⟩
theorem tp25 : Cond.selects RX12 yX12_readPage yX12_readPage ∈ lwt := List.mem_filter.mpr ⟨List.mem_append_left _ (List.mem_of_getElem? (i := 25) (by decide +kernel)), rfl⟩
theorem tp26 : Cond.selects RX12 yX12_next yX12_next ∈ lwt := List.mem_filter.mpr ⟨List.mem_append_left _ (List.mem_of_getElem? (i := 26) (by decide +kernel)), rfl⟩
theorem tp27 : Cond.selects RX12 yX12_nextRatio yX12_nextRatio ∈ lwt := List.mem_filter.mpr ⟨List.mem_append_left _ (List.mem_of_getElem? (i := 27) (by decide +kernel)), rfl⟩
theorem tp28 : Cond.selects RX12 yX12_isRule yX12_isRule ∈ lwt := List.mem_filter.mpr ⟨List.mem_append_left _ (List.mem_of_getElem? (i := 28) (by decide +kernel)), rfl⟩
theorem tp29 : Cond.selects RX12 yX12_ruleNow yX12_ruleNow ∈ lwt := List.mem_filter.mpr ⟨List.mem_append_left _ (List.mem_of_getElem? (i := 29) (by decide +kernel)), rfl⟩
theorem tp30 : Cond.selects RX12 yX12_isMember yX12_isMember ∈ lwt := List.mem_filter.mpr ⟨List.mem_append_left _ (List.mem_of_getElem? (i := 30) (by decide +kernel)), rfl⟩
theorem tp31 : Cond.selects RX12 yX12_memberNow yX12_memberNow ∈ lwt := List.mem_filter.mpr ⟨List.mem_append_left _ (List.mem_of_getElem? (i := 31) (by decide +kernel)), rfl⟩
theorem tp32 : Cond.selects RX12 yX12_isCandidate yX12_isCandidate ∈ lwt := List.mem_filter.mpr ⟨List.mem_append_left _ (List.mem_of_getElem? (i := 32) (by decide +kernel)), rfl⟩
theorem tp33 : Cond.selects RX12 yX12_candidateNow yX12_candidateNow ∈ lwt := List.mem_filter.mpr ⟨List.mem_append_left _ (List.mem_of_getElem? (i := 33) (by decide +kernel)), rfl⟩
theorem tp34 : Cond.selects RX12 yX12_isMinded yX12_isMinded ∈ lwt := List.mem_filter.mpr ⟨List.mem_append_left _ (List.mem_of_getElem? (i := 34) (by decide +kernel)), rfl⟩
theorem tp35 : Cond.selects RX12 yX12_mindedBy yX12_mindedBy ∈ lwt := List.mem_filter.mpr ⟨List.mem_append_left _ (List.mem_of_getElem? (i := 35) (by decide +kernel)), rfl⟩
theorem tp36 : Cond.selects RX12 yX12_areComers yX12_areComers ∈ lwt := List.mem_filter.mpr ⟨List.mem_append_left _ (List.mem_of_getElem? (i := 36) (by decide +kernel)), rfl⟩
theorem tp37 : Cond.selects RX12 yX12_blackBy yX12_blackBy ∈ lwt := List.mem_filter.mpr ⟨List.mem_append_left _ (List.mem_of_getElem? (i := 37) (by decide +kernel)), rfl⟩
theorem tp38 : Cond.selects RX12 yX12_areThere yX12_areThere ∈ lwt := List.mem_filter.mpr ⟨List.mem_append_left _ (List.mem_of_getElem? (i := 38) (by decide +kernel)), rfl⟩
theorem tp39 : Cond.selects RX12 yX12_layWays yX12_layWays ∈ lwt := List.mem_filter.mpr ⟨List.mem_append_left _ (List.mem_of_getElem? (i := 39) (by decide +kernel)), rfl⟩
theorem tp40 : Cond.selects RX12 yX12_inBy yX12_inBy ∈ lwt := List.mem_filter.mpr ⟨List.mem_append_left _ (List.mem_of_getElem? (i := 40) (by decide +kernel)), rfl⟩
theorem tp41 : Cond.selects RX12 yX12_shutBy yX12_shutBy ∈ lwt := List.mem_filter.mpr ⟨List.mem_append_left _ (List.mem_of_getElem? (i := 41) (by decide +kernel)), rfl⟩
theorem tp42 : Cond.selects RX12 yX12_shuts yX12_shuts ∈ lwt := List.mem_filter.mpr ⟨List.mem_append_left _ (List.mem_of_getElem? (i := 42) (by decide +kernel)), rfl⟩
theorem tp43 : Cond.selects RX12 yX12_comesBy yX12_comesBy ∈ lwt := List.mem_filter.mpr ⟨List.mem_append_left _ (List.mem_of_getElem? (i := 43) (by decide +kernel)), rfl⟩
theorem tp44 : Cond.selects RX12 yX12_wrongBy yX12_wrongBy ∈ lwt := List.mem_filter.mpr ⟨List.mem_append_left _ (List.mem_of_getElem? (i := 44) (by decide +kernel)), rfl⟩
theorem tp45 : Cond.selects RX12 yX12_isAsked yX12_isAsked ∈ lwt := List.mem_filter.mpr ⟨List.mem_append_left _ (List.mem_of_getElem? (i := 45) (by decide +kernel)), rfl⟩
theorem tp46 : Cond.selects RX12 yX12_withdraws yX12_withdraws ∈ lwt := List.mem_filter.mpr ⟨List.mem_append_left _ (List.mem_of_getElem? (i := 46) (by decide +kernel)), rfl⟩
theorem tp47 : Cond.selects RX12 yX12_goRound yX12_goRound ∈ lwt := List.mem_filter.mpr ⟨List.mem_append_left _ (List.mem_of_getElem? (i := 47) (by decide +kernel)), rfl⟩
theorem tp48 : Cond.selects RX12 yX12_draw yX12_draw ∈ lwt := List.mem_filter.mpr ⟨List.mem_append_left _ (List.mem_of_getElem? (i := 48) (by decide +kernel)), rfl⟩
theorem tp49 : Cond.selects RX12 yX12_gain yX12_gain ∈ lwt := List.mem_filter.mpr ⟨List.mem_append_left _ (List.mem_of_getElem? (i := 49) (by decide +kernel)), rfl⟩
theorem tp50 : Cond.selects RX12 yX12_isInBy yX12_isInBy ∈ lwt := List.mem_filter.mpr ⟨List.mem_append_left _ (List.mem_of_getElem? (i := 50) (by decide +kernel)), rfl⟩
theorem tp51 : Cond.selects RX12 yX12_layVetoes yX12_layVetoes ∈ lwt := List.mem_filter.mpr ⟨List.mem_append_left _ (List.mem_of_getElem? (i := 51) (by decide +kernel)), rfl⟩
theorem tp52 : Cond.selects RX12 yX12_isUsed yX12_isUsed ∈ lwt := List.mem_filter.mpr ⟨List.mem_append_left _ (List.mem_of_getElem? (i := 52) (by decide +kernel)), rfl⟩
theorem tp53 : Cond.selects RX12 yX12_isLetIn yX12_isLetIn ∈ lwt := List.mem_filter.mpr ⟨List.mem_append_left _ (List.mem_of_getElem? (i := 53) (by decide +kernel)), rfl⟩
theorem tp54 : Cond.selects RX12 yX12_clubRound yX12_clubRound ∈ lwt := List.mem_filter.mpr ⟨List.mem_append_left _ (List.mem_of_getElem? (i := 54) (by decide +kernel)), rfl⟩
theorem tp55 : Cond.selects RX12 yX12_unlike yX12_unlike ∈ lwt := List.mem_filter.mpr ⟨List.mem_append_left _ (List.mem_of_getElem? (i := 55) (by decide +kernel)), rfl⟩
theorem tp56 : Cond.selects RX12 yX12_mindedMany yX12_mindedMany ∈ lwt := List.mem_filter.mpr ⟨List.mem_append_left _ (List.mem_of_getElem? (i := 56) (by decide +kernel)), rfl⟩
theorem tp57 : Cond.selects RX12 yX12_howMany yX12_howMany ∈ lwt := List.mem_filter.mpr ⟨List.mem_append_left _ (List.mem_of_getElem? (i := 57) (by decide +kernel)), rfl⟩
theorem tp58 : Cond.selects RX12 yX12_mix yX12_mix ∈ lwt := List.mem_filter.mpr ⟨List.mem_append_left _ (List.mem_of_getElem? (i := 58) (by decide +kernel)), rfl⟩
theorem tp59 : Cond.selects RX12 yX12_mixIns yX12_mixIns ∈ lwt := List.mem_filter.mpr ⟨List.mem_append_left _ (List.mem_of_getElem? (i := 59) (by decide +kernel)), rfl⟩
theorem inX0 : ∀ w ∈ u_ws RX0 TX0 5, w ∈ lwt := List.forall_mem_cons.mpr ⟨tw94, List.forall_mem_cons.mpr ⟨tw96, List.forall_mem_cons.mpr ⟨tw98, List.forall_mem_cons.mpr ⟨tw100, List.forall_mem_cons.mpr ⟨tw102, fun _ h => absurd h List.not_mem_nil⟩⟩⟩⟩⟩
theorem inX1 : ∀ w ∈ u_ws RX1 TX1 5, w ∈ lwt := List.forall_mem_cons.mpr ⟨tw121, List.forall_mem_cons.mpr ⟨tw123, List.forall_mem_cons.mpr ⟨tw125, List.forall_mem_cons.mpr ⟨tw127, List.forall_mem_cons.mpr ⟨tw129, fun _ h => absurd h List.not_mem_nil⟩⟩⟩⟩⟩
theorem inX2 : ∀ w ∈ u_ws RX2 TX2 6, w ∈ lwt := List.forall_mem_cons.mpr ⟨tw296, List.forall_mem_cons.mpr ⟨tw298, List.forall_mem_cons.mpr ⟨tw300, List.forall_mem_cons.mpr ⟨tw302, List.forall_mem_cons.mpr ⟨tw304, List.forall_mem_cons.mpr ⟨tw306, fun _ h => absurd h List.not_mem_nil⟩⟩⟩⟩⟩⟩
theorem inX3 : ∀ w ∈ u_ws RX3 TX3 7, w ∈ lwt := List.forall_mem_cons.mpr ⟨tw318, List.forall_mem_cons.mpr ⟨tw319, List.forall_mem_cons.mpr ⟨tw320, List.forall_mem_cons.mpr ⟨tw321, List.forall_mem_cons.mpr ⟨tw322, List.forall_mem_cons.mpr ⟨tw323, List.forall_mem_cons.mpr ⟨tw316, fun _ h => absurd h List.not_mem_nil⟩⟩⟩⟩⟩⟩⟩
theorem inX4 : ∀ w ∈ u_ws RX4 TX4 2, w ∈ lwt := List.forall_mem_cons.mpr ⟨tw35, List.forall_mem_cons.mpr ⟨tw37, fun _ h => absurd h List.not_mem_nil⟩⟩
theorem inX5 : ∀ w ∈ u_ws RX5 TX5 6, w ∈ lwt := List.forall_mem_cons.mpr ⟨tw357, List.forall_mem_cons.mpr ⟨tw358, List.forall_mem_cons.mpr ⟨tw359, List.forall_mem_cons.mpr ⟨tw360, List.forall_mem_cons.mpr ⟨tw361, List.forall_mem_cons.mpr ⟨tw362, fun _ h => absurd h List.not_mem_nil⟩⟩⟩⟩⟩⟩
theorem inX6 : ∀ w ∈ u_ws RX6 TX6 5, w ∈ lwt := List.forall_mem_cons.mpr ⟨tw243, List.forall_mem_cons.mpr ⟨tw245, List.forall_mem_cons.mpr ⟨tw247, List.forall_mem_cons.mpr ⟨tw249, List.forall_mem_cons.mpr ⟨tw251, fun _ h => absurd h List.not_mem_nil⟩⟩⟩⟩⟩
theorem inX7 : ∀ w ∈ u_ws RX7 TX7 3, w ∈ lwt := List.forall_mem_cons.mpr ⟨tw54, List.forall_mem_cons.mpr ⟨tw56, List.forall_mem_cons.mpr ⟨tw58, fun _ h => absurd h List.not_mem_nil⟩⟩⟩
theorem inX8 : ∀ w ∈ u_ws RX8 TX8 7, w ∈ lwt := List.forall_mem_cons.mpr ⟨tw347, List.forall_mem_cons.mpr ⟨tw348, List.forall_mem_cons.mpr ⟨tw349, List.forall_mem_cons.mpr ⟨tw350, List.forall_mem_cons.mpr ⟨tw351, List.forall_mem_cons.mpr ⟨tw352, List.forall_mem_cons.mpr ⟨tw353, fun _ h => absurd h List.not_mem_nil⟩⟩⟩⟩⟩⟩⟩
theorem inX9 : ∀ w ∈ u_ws RX9 TX9 3, w ∈ lwt := List.forall_mem_cons.mpr ⟨tw71, List.forall_mem_cons.mpr ⟨tw73, List.forall_mem_cons.mpr ⟨tw75, fun _ h => absurd h List.not_mem_nil⟩⟩⟩
theorem inX10 : ∀ w ∈ u_ws RX10 TX10 7, w ∈ lwt := List.forall_mem_cons.mpr ⟨tw334, List.forall_mem_cons.mpr ⟨tw335, List.forall_mem_cons.mpr ⟨tw336, List.forall_mem_cons.mpr ⟨tw337, List.forall_mem_cons.mpr ⟨tw338, List.forall_mem_cons.mpr ⟨tw339, List.forall_mem_cons.mpr ⟨tw332, fun _ h => absurd h List.not_mem_nil⟩⟩⟩⟩⟩⟩⟩
theorem inX11 : ∀ w ∈ u_ws RX11 TX11 13, w ∈ lwt := List.forall_mem_cons.mpr ⟨tw145, List.forall_mem_cons.mpr ⟨tw147, List.forall_mem_cons.mpr ⟨tw149, List.forall_mem_cons.mpr ⟨tw151, List.forall_mem_cons.mpr ⟨tw153, List.forall_mem_cons.mpr ⟨tw155, List.forall_mem_cons.mpr ⟨tw157, List.forall_mem_cons.mpr ⟨tw159, List.forall_mem_cons.mpr ⟨tw161, List.forall_mem_cons.mpr ⟨tw163, List.forall_mem_cons.mpr ⟨tw165, List.forall_mem_cons.mpr ⟨tw167, List.forall_mem_cons.mpr ⟨tw169, fun _ h => absurd h List.not_mem_nil⟩⟩⟩⟩⟩⟩⟩⟩⟩⟩⟩⟩⟩
theorem inX12 : ∀ w ∈ u_ws RX12 TX12 37, w ∈ lwt := List.forall_mem_cons.mpr ⟨tw871, List.forall_mem_cons.mpr ⟨tw873, List.forall_mem_cons.mpr ⟨tw875, List.forall_mem_cons.mpr ⟨tw877, List.forall_mem_cons.mpr ⟨tw879, List.forall_mem_cons.mpr ⟨tw881, List.forall_mem_cons.mpr ⟨tw883, List.forall_mem_cons.mpr ⟨tw885, List.forall_mem_cons.mpr ⟨tw887, List.forall_mem_cons.mpr ⟨tw889, List.forall_mem_cons.mpr ⟨tw891, List.forall_mem_cons.mpr ⟨tw893, List.forall_mem_cons.mpr ⟨tw895, List.forall_mem_cons.mpr ⟨tw897, List.forall_mem_cons.mpr ⟨tw899, List.forall_mem_cons.mpr ⟨tw901, List.forall_mem_cons.mpr ⟨tw903, List.forall_mem_cons.mpr ⟨tw905, List.forall_mem_cons.mpr ⟨tw907, List.forall_mem_cons.mpr ⟨tw909, List.forall_mem_cons.mpr ⟨tw911, List.forall_mem_cons.mpr ⟨tw913, List.forall_mem_cons.mpr ⟨tw915, List.forall_mem_cons.mpr ⟨tw917, List.forall_mem_cons.mpr ⟨tw919, List.forall_mem_cons.mpr ⟨tw921, List.forall_mem_cons.mpr ⟨tw923, List.forall_mem_cons.mpr ⟨tw925, List.forall_mem_cons.mpr ⟨tw927, List.forall_mem_cons.mpr ⟨tw929, List.forall_mem_cons.mpr ⟨tw931, List.forall_mem_cons.mpr ⟨tw933, List.forall_mem_cons.mpr ⟨tw935, List.forall_mem_cons.mpr ⟨tw937, List.forall_mem_cons.mpr ⟨tw939, List.forall_mem_cons.mpr ⟨tw941, List.forall_mem_cons.mpr ⟨tw943, fun _ h => absurd h List.not_mem_nil⟩⟩⟩⟩⟩⟩⟩⟩⟩⟩⟩⟩⟩⟩⟩⟩⟩⟩⟩⟩⟩⟩⟩⟩⟩⟩⟩⟩⟩⟩⟩⟩⟩⟩⟩⟩⟩
/-- words of nest mates: field links, method links; casts -/
def nestW : List Cond := [(Cond.fieldLinkNest RX11 297 RX4 "length" "I" RX11), (Cond.fieldLinkNest RX1 54 RX0 "seed" "I" RX11), (Cond.fieldLinkNest RX11 255 RX0 "seed" "I" RX11), (Cond.fieldLinkNest RX11 249 RX0 "lastBlacks" "I" RX11), (Cond.fieldLinkNest RX1 55 RX0 "letIn" "Z" RX11), (Cond.fieldLinkNest RX11 252 RX0 "letIn" "Z" RX11), (Cond.fieldLinkNest RX11 276 RX1 "size" "I" RX11), (Cond.fieldLinkNest RX11 282 RX1 "letIn" "I" RX11), (Cond.fieldLinkNest RX11 284 RX1 "seed" "I" RX11), (Cond.fieldLinkNest RX0 38 RX6 "twice" "Z" RX11), (Cond.fieldLinkNest RX11 194 RX6 "twice" "Z" RX11), (Cond.fieldLinkNest RX11 343 RX6 "countTold" "Z" RX11), (Cond.fieldLinkNest RX11 114 RX5 "number" "I" RX11), (Cond.fieldLinkNest RX11 123 RX5 "comesTenths" "I" RX11), (Cond.methodLinkNest RX11 11 yX4_init RX11), (Cond.methodLinkNest RX11 34 yX7_init RX11), (Cond.methodLinkNest RX11 41 yX9_init RX11), (Cond.methodLinkNest RX11 48 yX0_init RX11), (Cond.methodLinkNest RX11 55 yX1_init RX11), (Cond.methodLinkNest RX1 15 yX0_init RX11), (Cond.methodLinkNest RX4 54 yX11_within RX11), (Cond.methodLinkNest RX4 48 yX11_mix RX11), (Cond.castable RX8 RX10), (Cond.castable RX2 RX5), (Cond.castable RX3 RX5), (Cond.castable RX10 RX5), (Cond.castable RX8 RX5)]
theorem nw34 : (Cond.fieldLinkNest RX11 297 RX4 "length" "I" RX11) ∈ nestW := List.mem_of_getElem? (i := 0) rfl
theorem nw86 : (Cond.fieldLinkNest RX1 54 RX0 "seed" "I" RX11) ∈ nestW := List.mem_of_getElem? (i := 1) rfl
theorem nw88 : (Cond.fieldLinkNest RX11 255 RX0 "seed" "I" RX11) ∈ nestW := List.mem_of_getElem? (i := 2) rfl
theorem nw90 : (Cond.fieldLinkNest RX11 249 RX0 "lastBlacks" "I" RX11) ∈ nestW := List.mem_of_getElem? (i := 3) rfl
theorem nw91 : (Cond.fieldLinkNest RX1 55 RX0 "letIn" "Z" RX11) ∈ nestW := List.mem_of_getElem? (i := 4) rfl
theorem nw93 : (Cond.fieldLinkNest RX11 252 RX0 "letIn" "Z" RX11) ∈ nestW := List.mem_of_getElem? (i := 5) rfl
theorem nw116 : (Cond.fieldLinkNest RX11 276 RX1 "size" "I" RX11) ∈ nestW := List.mem_of_getElem? (i := 6) rfl
theorem nw118 : (Cond.fieldLinkNest RX11 282 RX1 "letIn" "I" RX11) ∈ nestW := List.mem_of_getElem? (i := 7) rfl
theorem nw120 : (Cond.fieldLinkNest RX11 284 RX1 "seed" "I" RX11) ∈ nestW := List.mem_of_getElem? (i := 8) rfl
theorem nw239 : (Cond.fieldLinkNest RX0 38 RX6 "twice" "Z" RX11) ∈ nestW := List.mem_of_getElem? (i := 9) rfl
theorem nw240 : (Cond.fieldLinkNest RX11 194 RX6 "twice" "Z" RX11) ∈ nestW := List.mem_of_getElem? (i := 10) rfl
theorem nw242 : (Cond.fieldLinkNest RX11 343 RX6 "countTold" "Z" RX11) ∈ nestW := List.mem_of_getElem? (i := 11) rfl
theorem nw289 : (Cond.fieldLinkNest RX11 114 RX5 "number" "I" RX11) ∈ nestW := List.mem_of_getElem? (i := 12) rfl
theorem nw293 : (Cond.fieldLinkNest RX11 123 RX5 "comesTenths" "I" RX11) ∈ nestW := List.mem_of_getElem? (i := 13) rfl
theorem nw28 : (Cond.methodLinkNest RX11 11 yX4_init RX11) ∈ nestW := List.mem_of_getElem? (i := 14) rfl
theorem nw47 : (Cond.methodLinkNest RX11 34 yX7_init RX11) ∈ nestW := List.mem_of_getElem? (i := 15) rfl
theorem nw64 : (Cond.methodLinkNest RX11 41 yX9_init RX11) ∈ nestW := List.mem_of_getElem? (i := 16) rfl
theorem nw80 : (Cond.methodLinkNest RX11 48 yX0_init RX11) ∈ nestW := List.mem_of_getElem? (i := 17) rfl
theorem nw107 : (Cond.methodLinkNest RX11 55 yX1_init RX11) ∈ nestW := List.mem_of_getElem? (i := 18) rfl
theorem nw112 : (Cond.methodLinkNest RX1 15 yX0_init RX11) ∈ nestW := List.mem_of_getElem? (i := 19) rfl
theorem nw206 : (Cond.methodLinkNest RX4 54 yX11_within RX11) ∈ nestW := List.mem_of_getElem? (i := 20) rfl
theorem nw826 : (Cond.methodLinkNest RX4 48 yX11_mix RX11) ∈ nestW := List.mem_of_getElem? (i := 21) rfl
theorem nw1258 : (Cond.castable RX8 RX10) ∈ nestW := List.mem_of_getElem? (i := 22) rfl
theorem nw1259 : (Cond.castable RX2 RX5) ∈ nestW := List.mem_of_getElem? (i := 23) rfl
theorem nw1260 : (Cond.castable RX3 RX5) ∈ nestW := List.mem_of_getElem? (i := 24) rfl
theorem nw1261 : (Cond.castable RX10 RX5) ∈ nestW := List.mem_of_getElem? (i := 25) rfl
theorem nw1262 : (Cond.castable RX8 RX5) ∈ nestW := List.mem_of_getElem? (i := 26) rfl
theorem nestW_in : ∀ w ∈ nestW, w ∈ lw_tbl := List.forall_mem_cons.mpr ⟨tn34, List.forall_mem_cons.mpr ⟨tn86, List.forall_mem_cons.mpr ⟨tn88, List.forall_mem_cons.mpr ⟨tn90, List.forall_mem_cons.mpr ⟨tn91, List.forall_mem_cons.mpr ⟨tn93, List.forall_mem_cons.mpr ⟨tn116, List.forall_mem_cons.mpr ⟨tn118, List.forall_mem_cons.mpr ⟨tn120, List.forall_mem_cons.mpr ⟨tn239, List.forall_mem_cons.mpr ⟨tn240, List.forall_mem_cons.mpr ⟨tn242, List.forall_mem_cons.mpr ⟨tn289, List.forall_mem_cons.mpr ⟨tn293, List.forall_mem_cons.mpr ⟨tn28, List.forall_mem_cons.mpr ⟨tn47, List.forall_mem_cons.mpr ⟨tn64, List.forall_mem_cons.mpr ⟨tn80, List.forall_mem_cons.mpr ⟨tn107, List.forall_mem_cons.mpr ⟨tn112, List.forall_mem_cons.mpr ⟨tn206, List.forall_mem_cons.mpr ⟨tn826, List.forall_mem_cons.mpr ⟨tn1258, List.forall_mem_cons.mpr ⟨tn1259, List.forall_mem_cons.mpr ⟨tn1260, List.forall_mem_cons.mpr ⟨tn1261, List.forall_mem_cons.mpr ⟨tn1262, fun _ h => absurd h List.not_mem_nil⟩⟩⟩⟩⟩⟩⟩⟩⟩⟩⟩⟩⟩⟩⟩⟩⟩⟩⟩⟩⟩⟩⟩⟩⟩⟩⟩
theorem nestW_tab : ∀ w ∈ nestW, w.onTables = true := by decide
theorem nestW_warm {s U : State} (hW : s.WarmedH U.vm) (h : ∀ w ∈ nestW, va_Nw w s) : ∀ w ∈ nestW, va_Nw w U := by
  have key : ∀ w : Cond, (match w with | .fieldLinkNest .. => true | .methodLinkNest .. => true | .castable .. => true | _ => false) = true → va_Nw w s → va_Nw w U := by
    intro w hw hs
    cases w <;> first | exact va_Nw.warmF hW hs | exact va_Nw.warmM hW hs | exact va_Nw.warmC hW hs | (simp at hw)
  intro w hw
  refine key w ?_ (h w hw)
  revert w
  decide
end
section
abbrev MI : Type := Nat → Nat → Nat → Int32
abbrev MJ : Type := Nat → Nat → Nat → Int64
/-- kinds of the persons (places in vwCl), how many persons, how many rules stand in the arrays -/
abbrev GS : Type := (Nat → Nat) × Nat × Nat
/-- tables, array classes, the heap's size at the law's start, addresses of cells, the cells that are there, GS -/
abbrev WE : Type := va_G × (Nat → ClassId) × Nat × (Nat → Nat → Nat) × List (Nat × Nat) × GS
abbrev wD (E : WE) : va_G := E.1
abbrev wc (E : WE) : Nat → ClassId := E.2.1
abbrev wN (E : WE) : Nat := E.2.2.1
abbrev wa (E : WE) : Nat → Nat → Nat := E.2.2.2.1
abbrev wC (E : WE) : List (Nat × Nat) := E.2.2.2.2.1
abbrev wg (E : WE) : GS := E.2.2.2.2.2
def u3 {α : Type} (I : Nat → Nat → Nat → α) (k p : Nat) (f : Nat → α) : Nat → Nat → Nat → α := fun a b => if a = k ∧ b = p then f else I a b
theorem u3_same {α : Type} (I : Nat → Nat → Nat → α) (k p : Nat) (f : Nat → α) : u3 I k p f k p = f := by simp [u3]
theorem u3_ne {α : Type} (I : Nat → Nat → Nat → α) {k p a b : Nat} (f : Nat → α) (h : ¬ (a = k ∧ b = p)) : u3 I k p f a b = I a b := by simp [u3, h]
def tysW (cy : Nat → ClassId) : List (ClassId × FieldType) := [(cy 0, .byte), (cy 1, .int), (cy 2, .long), (cy 3, .boolean), (cy 4, .object RX5), (cy 5, .object RX6)]
def cont (E : WE) (I : MI) (J : MJ) (k p : Nat) : va_E := match k with
  | 0 => .inr (11, [.ref (wa E 1 0), .ref (wa E 3 0), .ref (wa E 4 0), .ref (wa E 5 0), .ref (wa E 6 0), .ref (wa E 8 0), .ref (wa E 10 0), .ref (wa E 12 0), .ref (wa E 14 0), .int (I 0 p 9), .int (I 0 p 10), .int (I 0 p 11), .int (I 0 p 12)])
  | 1 => .inr (4, [.ref (wa E 2 0), .int (I 1 p 1)])
  | 2 => .inl (wc E 1, 20, .inl (I 2 p))
  | 3 => .inl (wc E 5, 6, .inr (.inr (.inr (.inr (fun j => if j < (wg E).2.2 then some (wa E 43 j) else none)))))
  | 4 => .inl (wc E 4, 8, .inr (.inr (.inr (.inr (fun j => if j < (wg E).2.1 then some (wa E 40 j) else none)))))
  | 5 => .inl (wc E 1, 6, .inl (I 5 p))
  | 6 => .inr (7, [.ref (wa E 7 0), .int (I 6 p 1), .long (J 6 p 2)])
  | 7 => .inl (wc E 2, 9, .inr (.inl (J 7 p)))
  | 8 => .inr (9, [.ref (wa E 9 0), .int (I 8 p 1), .long (J 8 p 2)])
  | 9 => .inl (wc E 2, 81, .inr (.inl (J 9 p)))
  | 10 => .inr (0, [.ref (wa E 11 p), .int (I 10 p 1), .int (I 10 p 2), .int (I 10 p 3), .int (I 10 p 4)])
  | 11 => .inl (wc E 1, 8, .inl (I 11 p))
  | 12 => .inr (1, [.ref (wa E 13 0), .ref (wa E 10 1), .int (I 12 p 2), .int (I 12 p 3), .int (I 12 p 4)])
  | 13 => .inl (wc E 1, 8, .inl (I 13 p))
  | 14 => .inl (wc E 2, 4, .inr (.inl (J 14 p)))
  | 17 => .inr (12, [.int (I 17 p 0), .ref (wa E 18 0), .ref (wa E 19 0), .ref (wa E 20 0), .int (I 17 p 4), .ref (wa E 21 0), .ref (wa E 22 0), .int (I 17 p 7), .ref (wa E 23 0), .ref (wa E 24 0), .ref (wa E 25 0), .ref (wa E 26 0), .ref (wa E 27 0), .int (I 17 p 13), .ref (wa E 28 0), .int (I 17 p 15), .int (I 17 p 16), .int (I 17 p 17), .ref (wa E 29 0), .ref (wa E 30 0), .int (I 17 p 20), .int (I 17 p 21), .int (I 17 p 22), .int (I 17 p 23), .int (I 17 p 24), .int (I 17 p 25), .int (I 17 p 26), .ref (wa E 31 0), .long (J 17 p 28), .int (I 17 p 29), .int (I 17 p 30), .int (I 17 p 31), .int (I 17 p 32), .ref (wa E 32 0), .int (I 17 p 34), .ref (wa E 33 0), .long (J 17 p 36)])
  | 18 => .inl (wc E 1, 8, .inl (I 18 p))
  | 19 => .inl (wc E 1, 8, .inl (I 19 p))
  | 20 => .inl (wc E 1, 8, .inl (I 20 p))
  | 21 => .inl (wc E 1, 6, .inl (I 21 p))
  | 22 => .inl (wc E 1, 48, .inl (I 22 p))
  | 23 => .inl (wc E 1, 6, .inl (I 23 p))
  | 24 => .inl (wc E 1, 6, .inl (I 24 p))
  | 25 => .inl (wc E 1, 6, .inl (I 25 p))
  | 26 => .inl (wc E 3, 6, .inl (I 26 p))
  | 27 => .inl (wc E 3, 6, .inl (I 27 p))
  | 28 => .inl (wc E 0, 20, .inl (I 28 p))
  | 29 => .inl (wc E 1, 8, .inl (I 29 p))
  | 30 => .inl (wc E 1, 48, .inl (I 30 p))
  | 31 => .inl (wc E 2, 9, .inr (.inl (J 31 p)))
  | 32 => .inl (wc E 2, 36, .inr (.inl (J 32 p)))
  | 33 => .inl (wc E 1, 9, .inl (I 33 p))
  | 40 => if (wg E).1 p = 2 then .inr (2, [.int (I 40 p 0), .ref (wa E 41 p), .ref (wa E 42 p), .int (I 40 p 3), .int (I 40 p 4), .int (I 40 p 5)]) else if (wg E).1 p = 3 then .inr (3, [.int (I 40 p 0), .ref (wa E 41 p), .ref (wa E 42 p), .int (I 40 p 3), .int (I 40 p 4), .int (I 40 p 5), .int (I 40 p 6)]) else if (wg E).1 p = 8 then .inr (8, [.int (I 40 p 6), .int (I 40 p 0), .ref (wa E 41 p), .ref (wa E 42 p), .int (I 40 p 3), .int (I 40 p 4), .int (I 40 p 5)]) else if (wg E).1 p = 10 then .inr (10, [.int (I 40 p 0), .ref (wa E 41 p), .ref (wa E 42 p), .int (I 40 p 3), .int (I 40 p 4), .int (I 40 p 5), .int (I 40 p 6)]) else .inr (5, [.int (I 40 p 0), .ref (wa E 41 p), .ref (wa E 42 p), .int (I 40 p 3), .int (I 40 p 4), .int (I 40 p 5)])
  | 41 => .inl (wc E 1, 6, .inl (I 41 p))
  | 42 => .inl (wc E 1, 6, .inl (I 42 p))
  | 43 => .inr (6, [.int (I 43 p 0), .int (I 43 p 1), .int (I 43 p 2), .int (I 43 p 3), .int (I 43 p 4)])
  | _ => .inr (0, [])
def wsW (E : WE) (I : MI) (J : MJ) : va_W := (wC E).map (fun c => (wa E c.1 c.2, cont E I J c.1 c.2))
def AA (E : WE) : Nat → Prop := fun q => wN E ≤ q
def wStat : List (Nat × Nat) := [(0, 0), (1, 0), (2, 0), (3, 0), (4, 0), (5, 0), (6, 0), (7, 0), (8, 0), (9, 0), (10, 0), (10, 1), (11, 0), (11, 1), (12, 0), (13, 0), (14, 0), (17, 0), (18, 0), (19, 0), (20, 0), (21, 0), (22, 0), (23, 0), (24, 0), (25, 0), (26, 0), (27, 0), (28, 0), (29, 0), (30, 0), (31, 0), (32, 0), (33, 0)]
def okC (E : WE) : Prop := (∀ c ∈ wStat, c ∈ wC E) ∧ (∀ p, p < (wg E).2.1 → (40, p) ∈ wC E ∧ (41, p) ∈ wC E ∧ (42, p) ∈ wC E) ∧ ∀ r, r < (wg E).2.2 → (43, r) ∈ wC E
def ncP : List (String × String) := [(RX5, RX2), (RX3, RX2), (RX8, RX2), (RX10, RX2), (RX5, RX3), (RX2, RX3), (RX8, RX3), (RX10, RX3), (RX5, RX8), (RX2, RX8), (RX3, RX8), (RX10, RX8), (RX5, RX10), (RX2, RX10), (RX3, RX10)]
def KK (E : WE) (U : State) : Prop := va_K (wD E) vwCl (tysW (wc E)) U ∧ (∀ q ∈ ncP, va_Nc q.1 q.2 U) ∧ ∀ w ∈ nestW, va_Nw w U
theorem KK.warm {E : WE} {u U : State} (hW : u.WarmedH U.vm) (h : KK E u) : KK E U := ⟨va_K.moved hW.alike h.1, fun q hq => va_Nc.moved hW.alike (h.2.1 q hq), nestW_warm hW h.2.2⟩
theorem KK.same {E : WE} {u U : State} (hvm : u.vm = U.vm) (h : KK E u) : KK E U := ⟨va_K.moved (by rw [hvm]; exact Vm.Alike.refl _) h.1, fun q hq => va_Nc.moved (by rw [hvm]; exact Vm.Alike.refl _) (h.2.1 q hq), fun w hw => va_Nw.same (nestW_tab w hw) hvm (h.2.2 w hw)⟩
def Wp (E : WE) (I : MI) (J : MJ) (U : State) : Prop := wN E ≤ U.heap.size ∧ va_P (wD E) vwCl (wsW E I J) U.heap ∧ KK E U ∧ va_D (AA E) (wsW E I J) ∧ okC E
def Wd (E : WE) (I : MI) (J : MJ) (s : State) (H : Heap) (locs : List Loc) : Prop := va_P (wD E) vwCl (wsW E I J) H ∧ va_D (AA E) (wsW E I J) ∧ va_S (AA E) s.heap H locs ∧ okC E
def Cx (E : WE) (cc : ByteArray) (nL : Nat) (own : String) (rt : Option FieldType) (p : Program) (s : State) (m : MethodId) (args : Array Value) (c : Code) (meth : Method) : Prop :=
  CallFix p m c cc nL s args lwt own ∧ KK E s ∧ wN E ≤ s.heap.size ∧ meth.sig.returnType = rt ∧ meth.locks = false
def QI (E : WE) (Q : Int32 → MI → MJ → Prop) : Array Value → State → Outcome → State → Prop := va_Qi (S := MI × MJ) (fun r u => Q r u.1 u.2) (fun u t => Wp E u.1 u.2 t) (AA E)
def QL (E : WE) (Q : Int64 → MI → MJ → Prop) : Array Value → State → Outcome → State → Prop := va_Ql (S := MI × MJ) (fun r u => Q r u.1 u.2) (fun u t => Wp E u.1 u.2 t) (AA E)
def QV (E : WE) (Q : MI → MJ → Prop) : Array Value → State → Outcome → State → Prop := va_Qv (S := MI × MJ) (fun u => Q u.1 u.2) (fun u t => Wp E u.1 u.2 t) (AA E)
/-- an answer that is null or the object of kind k at place j, below n -/
def QR (E : WE) (k n : Nat) (Q : Option Nat → MI → MJ → Prop) : Array Value → State → Outcome → State → Prop := va_Qq (S := Option Nat × MI × MJ) (fun r u => r = u.1.map (wa E k) ∧ (∀ j, u.1 = some j → j < n) ∧ Q u.1 u.2.1 u.2.2) (fun u t => Wp E u.2.1 u.2.2 t) (AA E)

theorem sc0_0 : ((0, 0) : Nat × Nat) ∈ wStat := by decide
theorem sc1_0 : ((1, 0) : Nat × Nat) ∈ wStat := by decide
theorem sc2_0 : ((2, 0) : Nat × Nat) ∈ wStat := by decide
theorem sc3_0 : ((3, 0) : Nat × Nat) ∈ wStat := by decide
theorem sc4_0 : ((4, 0) : Nat × Nat) ∈ wStat := by decide
theorem sc5_0 : ((5, 0) : Nat × Nat) ∈ wStat := by decide
theorem sc6_0 : ((6, 0) : Nat × Nat) ∈ wStat := by decide
theorem sc7_0 : ((7, 0) : Nat × Nat) ∈ wStat := by decide
theorem sc8_0 : ((8, 0) : Nat × Nat) ∈ wStat := by decide
theorem sc9_0 : ((9, 0) : Nat × Nat) ∈ wStat := by decide
theorem sc10_0 : ((10, 0) : Nat × Nat) ∈ wStat := by decide
theorem sc10_1 : ((10, 1) : Nat × Nat) ∈ wStat := by decide
theorem sc11_0 : ((11, 0) : Nat × Nat) ∈ wStat := by decide
theorem sc11_1 : ((11, 1) : Nat × Nat) ∈ wStat := by decide
theorem sc12_0 : ((12, 0) : Nat × Nat) ∈ wStat := by decide
theorem sc13_0 : ((13, 0) : Nat × Nat) ∈ wStat := by decide
theorem sc14_0 : ((14, 0) : Nat × Nat) ∈ wStat := by decide
theorem sc17_0 : ((17, 0) : Nat × Nat) ∈ wStat := by decide
theorem sc18_0 : ((18, 0) : Nat × Nat) ∈ wStat := by decide
theorem sc19_0 : ((19, 0) : Nat × Nat) ∈ wStat := by decide
theorem sc20_0 : ((20, 0) : Nat × Nat) ∈ wStat := by decide
theorem sc21_0 : ((21, 0) : Nat × Nat) ∈ wStat := by decide
theorem sc22_0 : ((22, 0) : Nat × Nat) ∈ wStat := by decide
theorem sc23_0 : ((23, 0) : Nat × Nat) ∈ wStat := by decide
theorem sc24_0 : ((24, 0) : Nat × Nat) ∈ wStat := by decide
theorem sc25_0 : ((25, 0) : Nat × Nat) ∈ wStat := by decide
theorem sc26_0 : ((26, 0) : Nat × Nat) ∈ wStat := by decide
theorem sc27_0 : ((27, 0) : Nat × Nat) ∈ wStat := by decide
theorem sc28_0 : ((28, 0) : Nat × Nat) ∈ wStat := by decide
theorem sc29_0 : ((29, 0) : Nat × Nat) ∈ wStat := by decide
theorem sc30_0 : ((30, 0) : Nat × Nat) ∈ wStat := by decide
theorem sc31_0 : ((31, 0) : Nat × Nat) ∈ wStat := by decide
theorem sc32_0 : ((32, 0) : Nat × Nat) ∈ wStat := by decide
theorem sc33_0 : ((33, 0) : Nat × Nat) ∈ wStat := by decide
theorem ws_at {E : WE} (I : MI) (J : MJ) {k p : Nat} (h : (k, p) ∈ wC E) : ∃ q0 : Nat, (wC E)[q0]? = some (k, p) ∧ (wsW E I J)[q0]? = some (wa E k p, cont E I J k p) := by
  obtain ⟨q0, hq⟩ := List.getElem?_of_mem h
  exact ⟨q0, hq, by simp [wsW, hq]⟩
theorem ws_set {E : WE} {I I' : MI} {J J' : MJ} {k p q0 : Nat} {A : Nat → Prop} (hD : va_D A (wsW E I J)) (hq : (wC E)[q0]? = some (k, p)) (hsame : ∀ a b, ¬ (a = k ∧ b = p) → cont E I' J' a b = cont E I J a b) :
    (wsW E I J).set q0 (wa E k p, cont E I' J' k p) = wsW E I' J' := by
  have hl : q0 < (wsW E I J).length := by
    have := (List.getElem?_eq_some_iff.mp hq).1
    simpa [wsW] using this
  apply List.ext_getElem?
  intro i
  by_cases hi : i = q0
  · subst hi
    rw [List.getElem?_set_self hl]
    simp [wsW, hq]
  · rw [List.getElem?_set_ne (fun h => hi h.symm)]
    cases hc : (wC E)[i]? with
    | none => simp [wsW, hc]
    | some c =>
      obtain ⟨a, b⟩ := c
      have h1 : (wsW E I J)[i]? = some (wa E a b, cont E I J a b) := by simp [wsW, hc]
      have h2 : (wsW E I' J')[i]? = some (wa E a b, cont E I' J' a b) := by simp [wsW, hc]
      rw [h1, h2, hsame a b]
      rintro ⟨rfl, rfl⟩
      have h3 : (wsW E I J)[q0]? = some (wa E a b, cont E I J a b) := by simp [wsW, hq]
      exact hi (hD.1 i q0 _ _ h1 h3 rfl)
theorem okS {E : WE} {I : MI} {J : MJ} {s : State} {H : Heap} {locs : List Loc} (hW : Wd E I J s H locs) {c : Nat × Nat} (h : c ∈ wStat) : c ∈ wC E := hW.2.2.2.1 c h
theorem okP {E : WE} {I : MI} {J : MJ} {s : State} {H : Heap} {locs : List Loc} (hW : Wd E I J s H locs) {p : Nat} (h : p < (wg E).2.1) : (40, p) ∈ wC E ∧ (41, p) ∈ wC E ∧ (42, p) ∈ wC E := hW.2.2.2.2.1 p h
theorem okR {E : WE} {I : MI} {J : MJ} {s : State} {H : Heap} {locs : List Loc} (hW : Wd E I J s H locs) {p : Nat} (h : p < (wg E).2.2) : (43, p) ∈ wC E := hW.2.2.2.2.2 p h
theorem okB {E : WE} {I : MI} {J : MJ} {s : State} {H : Heap} {locs : List Loc} (hW : Wd E I J s H locs) {p : Nat} (h : p < 2) : (10, p) ∈ wC E ∧ (11, p) ∈ wC E := by
  rcases (show p = 0 ∨ p = 1 by omega) with rfl | rfl
  · exact ⟨okS hW sc10_0, okS hW sc11_0⟩
  · exact ⟨okS hW sc10_1, okS hW sc11_1⟩
/-- what changes in I at one cell changes no other cell -/
theorem cont_I {E : WE} {I : MI} {J : MJ} {k p : Nat} (f : Nat → Int32) : ∀ a b, ¬ (a = k ∧ b = p) → cont E (u3 I k p f) J a b = cont E I J a b := by
  intro a b h
  have e : u3 I k p f a b = I a b := u3_ne I f h
  unfold cont
  split <;> first | rfl | simp only [e]
theorem cont_J {E : WE} {I : MI} {J : MJ} {k p : Nat} (f : Nat → Int64) : ∀ a b, ¬ (a = k ∧ b = p) → cont E I (u3 J k p f) a b = cont E I J a b := by
  intro a b h
  have e : u3 J k p f a b = J a b := u3_ne J f h
  unfold cont
  split <;> first | rfl | simp only [e]
section Rows
variable {p : Program} {l : Launch} {e : Env} {R : Room} {s : State} {m : MethodId} {args : Array Value} {below : List Frame} {meth : Method} {c : Code} {H : Heap} {locs : List Loc} {cells slots : Nat} {Q : State → Prop}
variable {E : WE} {I I' : MI} {J J' : MJ} {cc : ByteArray} {nL : Nat} {own : String} {rt : Option FieldType} {pc : Nat} {ls : Array Slot} {rest : List Value}
theorem r_get (X : Cx E cc nL own rt p s m args c meth) (hW : Wd E I J s H locs) {k pp ci index N : Nat} {fs : List Value} {Cn : String} {T : u_T} {v : Value} (j : Nat) (hc : (k, pp) ∈ wC E) (he : cont E I J k pp = .inr (ci, fs)) (hcl : vwCl[ci]? = some (Cn, T, N)) (hin : ∀ w ∈ u_ws Cn T N, w ∈ lwt) (hj : j < N)
    (hlink : Cond.fieldLink own index (T j).1 (T j).2.1 (T j).2.2.1 ∈ lwt) (hv : fs[j]? = some v) (hdg : decode cc pc = .ok (.getfield index, 3)) (kk : W p l e R s m args below meth c H locs cells slots Q (F0 m (pc + 3) ls (v :: rest))) : W p l e R s m args below meth c H locs cells slots Q (F0 m pc ls (.ref (wa E k pp) :: rest)) := by
  obtain ⟨q0, -, hq⟩ := ws_at I J hc
  rw [he] at hq
  exact va_get (D := wD E) X.1.1 X.1.2.1 X.1.2.2.2.2 hin X.1.2.2.2.1 X.2.1.1 hW.1 q0 hq hcl j hj (X.1.2.2.2.2 _ hlink) (fun _ h => h) hv hdg kk
theorem r_getN (X : Cx E cc nL own rt p s m args c meth) (hW : Wd E I J s H locs) {k pp ci index N : Nat} {fs : List Value} {Cn host : String} {T : u_T} {v : Value} (j : Nat) (hc : (k, pp) ∈ wC E) (he : cont E I J k pp = .inr (ci, fs)) (hcl : vwCl[ci]? = some (Cn, T, N)) (hin : ∀ w ∈ u_ws Cn T N, w ∈ lwt) (hj : j < N)
    (hlink : Cond.fieldLinkNest own index (T j).1 (T j).2.1 (T j).2.2.1 host ∈ nestW) (hv : fs[j]? = some v) (hdg : decode cc pc = .ok (.getfield index, 3)) (kk : W p l e R s m args below meth c H locs cells slots Q (F0 m (pc + 3) ls (v :: rest))) : W p l e R s m args below meth c H locs cells slots Q (F0 m pc ls (.ref (wa E k pp) :: rest)) := by
  obtain ⟨q0, -, hq⟩ := ws_at I J hc
  rw [he] at hq
  exact va_getN (D := wD E) X.1.1 X.1.2.1 X.1.2.2.2.2 hin X.1.2.2.2.1 X.2.1.1 hW.1 q0 hq hcl j hj (va_Nw.use rfl (X.2.1.2.2 _ hlink)) (fun _ h => h) hv hdg kk
theorem r_put (X : Cx E cc nL own rt p s m args c meth) (hW : Wd E I J s H locs) {k pp ci index N : Nat} {fs : List Value} {Cn : String} {T : u_T} {v : Value} {ty : FieldType} (j : Nat) (hc : (k, pp) ∈ wC E) (he : cont E I J k pp = .inr (ci, fs)) (hcl : vwCl[ci]? = some (Cn, T, N)) (hin : ∀ w ∈ u_ws Cn T N, w ∈ lwt) (ty0 : Nat → FieldType) (hty : ∀ k, k < N → parseFieldDescriptor (T k).2.2.1 = some (ty0 k)) (hnm : ∀ a, a < N → ∀ b, b < N → a ≠ b → (T a).2.1 ≠ (T b).2.1) (hj : j < N)
    (hlink : Cond.fieldLink own index (T j).1 (T j).2.1 (T j).2.2.1 ∈ lwt) (hfin : (T j).2.2.2 = false) (hd : parseFieldDescriptor (T j).2.2.1 = some ty) (hn : narrow ty v = v) (hfit : fits ty v = true) (hl : j < fs.length) (he' : cont E I' J' k pp = .inr (ci, fs.set j v)) (hsame : ∀ a b, ¬ (a = k ∧ b = pp) → cont E I' J' a b = cont E I J a b)
    (hdg : decode cc pc = .ok (.putfield index, 3)) (kk : ∀ (H1 : Heap) (locs1 : List Loc), Wd E I' J' s H1 locs1 → W p l e R s m args below meth c H1 locs1 cells slots Q (F0 m (pc + 3) ls rest)) : W p l e R s m args below meth c H locs cells slots Q (F0 m pc ls (v :: .ref (wa E k pp) :: rest)) := by
  obtain ⟨q0, hq1, hq⟩ := ws_at I J hc
  have hset := ws_set (I' := I') (J' := J') hW.2.1 hq1 hsame
  rw [he'] at hset
  rw [he] at hq
  refine va_put (D := wD E) X.1.1 X.1.2.1 X.1.2.2.2.2 hin ty0 hty hnm X.1.2.2.2.1 X.2.1.1 hW.1 hW.2.1 hW.2.2.1 q0 hq hcl j hj (X.1.2.2.2.2 _ hlink) (fun _ h => h) hfin hd hn hfit hl hdg (fun H1 locs1 hP hD hS => ?_)
  rw [hset] at hP hD
  exact kk H1 locs1 ⟨hP, hD, hS, hW.2.2.2⟩
theorem r_putN (X : Cx E cc nL own rt p s m args c meth) (hW : Wd E I J s H locs) {k pp ci index N : Nat} {fs : List Value} {Cn host : String} {T : u_T} {v : Value} {ty : FieldType} (j : Nat) (hc : (k, pp) ∈ wC E) (he : cont E I J k pp = .inr (ci, fs)) (hcl : vwCl[ci]? = some (Cn, T, N)) (hin : ∀ w ∈ u_ws Cn T N, w ∈ lwt) (ty0 : Nat → FieldType) (hty : ∀ k, k < N → parseFieldDescriptor (T k).2.2.1 = some (ty0 k)) (hnm : ∀ a, a < N → ∀ b, b < N → a ≠ b → (T a).2.1 ≠ (T b).2.1) (hj : j < N)
    (hlink : Cond.fieldLinkNest own index (T j).1 (T j).2.1 (T j).2.2.1 host ∈ nestW) (hfin : (T j).2.2.2 = false) (hd : parseFieldDescriptor (T j).2.2.1 = some ty) (hn : narrow ty v = v) (hfit : fits ty v = true) (hl : j < fs.length) (he' : cont E I' J' k pp = .inr (ci, fs.set j v)) (hsame : ∀ a b, ¬ (a = k ∧ b = pp) → cont E I' J' a b = cont E I J a b)
    (hdg : decode cc pc = .ok (.putfield index, 3)) (kk : ∀ (H1 : Heap) (locs1 : List Loc), Wd E I' J' s H1 locs1 → W p l e R s m args below meth c H1 locs1 cells slots Q (F0 m (pc + 3) ls rest)) : W p l e R s m args below meth c H locs cells slots Q (F0 m pc ls (v :: .ref (wa E k pp) :: rest)) := by
  obtain ⟨q0, hq1, hq⟩ := ws_at I J hc
  have hset := ws_set (I' := I') (J' := J') hW.2.1 hq1 hsame
  rw [he'] at hset
  rw [he] at hq
  refine va_putN (D := wD E) X.1.1 X.1.2.1 X.1.2.2.2.2 hin ty0 hty hnm X.1.2.2.2.1 X.2.1.1 hW.1 hW.2.1 hW.2.2.1 q0 hq hcl j hj (va_Nw.use rfl (X.2.1.2.2 _ hlink)) (fun _ h => h) hfin hd hn hfit hl hdg (fun H1 locs1 hP hD hS => ?_)
  rw [hset] at hP hD
  exact kk H1 locs1 ⟨hP, hD, hS, hW.2.2.2⟩
theorem r_iald (X : Cx E cc nL own rt p s m args c meth) (hW : Wd E I J s H locs) {k pp n : Nat} (hc : (k, pp) ∈ wC E) (he : cont E I J k pp = .inl (wc E 1, n, .inl (I k pp))) {i : Int32} (hin : vp_in i n) (hdg : decode cc pc = .ok (.iaload, 1))
    (kk : W p l e R s m args below meth c H locs cells slots Q (F0 m (pc + 1) ls (.int (I k pp i.toNatClampNeg) :: rest))) : W p l e R s m args below meth c H locs cells slots Q (F0 m pc ls (.int i :: .ref (wa E k pp) :: rest)) := by
  obtain ⟨q0, -, hq⟩ := ws_at I J hc
  rw [he] at hq
  exact va_iald (D := wD E) X.1.1 X.1.2.1 X.2.1.1 hW.1 q0 1 hq rfl hin hdg kk
theorem r_bald (X : Cx E cc nL own rt p s m args c meth) (hW : Wd E I J s H locs) {k pp n : Nat} (hc : (k, pp) ∈ wC E) (he : cont E I J k pp = .inl (wc E 0, n, .inl (I k pp))) {i : Int32} (hin : vp_in i n) (hdg : decode cc pc = .ok (.baload, 1))
    (kk : W p l e R s m args below meth c H locs cells slots Q (F0 m (pc + 1) ls (.int (I k pp i.toNatClampNeg) :: rest))) : W p l e R s m args below meth c H locs cells slots Q (F0 m pc ls (.int i :: .ref (wa E k pp) :: rest)) := by
  obtain ⟨q0, -, hq⟩ := ws_at I J hc
  rw [he] at hq
  exact va_bald (D := wD E) X.1.1 X.1.2.1 X.2.1.1 hW.1 q0 0 hq rfl hin hdg kk
theorem r_zald (X : Cx E cc nL own rt p s m args c meth) (hW : Wd E I J s H locs) {k pp n : Nat} (hc : (k, pp) ∈ wC E) (he : cont E I J k pp = .inl (wc E 3, n, .inl (I k pp))) {i : Int32} (hin : vp_in i n) (hdg : decode cc pc = .ok (.baload, 1))
    (kk : W p l e R s m args below meth c H locs cells slots Q (F0 m (pc + 1) ls (.int (I k pp i.toNatClampNeg) :: rest))) : W p l e R s m args below meth c H locs cells slots Q (F0 m pc ls (.int i :: .ref (wa E k pp) :: rest)) := by
  obtain ⟨q0, -, hq⟩ := ws_at I J hc
  rw [he] at hq
  exact va_zald (D := wD E) X.1.1 X.1.2.1 X.2.1.1 hW.1 q0 3 hq rfl hin hdg kk
theorem r_lald (X : Cx E cc nL own rt p s m args c meth) (hW : Wd E I J s H locs) {k pp n : Nat} (hc : (k, pp) ∈ wC E) (he : cont E I J k pp = .inl (wc E 2, n, .inr (.inl (J k pp)))) {i : Int32} (hin : vp_in i n) (hdg : decode cc pc = .ok (.laload, 1))
    (kk : W p l e R s m args below meth c H locs cells slots Q (F0 m (pc + 1) ls (.long (J k pp i.toNatClampNeg) :: rest))) : W p l e R s m args below meth c H locs cells slots Q (F0 m pc ls (.int i :: .ref (wa E k pp) :: rest)) := by
  obtain ⟨q0, -, hq⟩ := ws_at I J hc
  rw [he] at hq
  exact va_lald (D := wD E) X.1.1 X.1.2.1 X.2.1.1 hW.1 q0 2 hq rfl hin hdg kk
theorem r_iast (X : Cx E cc nL own rt p s m args c meth) (hW : Wd E I J s H locs) {k pp n : Nat} (hc : (k, pp) ∈ wC E) (he : ∀ f, cont E (u3 I k pp f) J k pp = .inl (wc E 1, n, .inl f)) {i : Int32} {x : Int32} (hin : vp_in i n) (hdg : decode cc pc = .ok (.iastore, 1))
    (kk : ∀ (H1 : Heap) (locs1 : List Loc), Wd E (u3 I k pp (upd (I k pp) i.toNatClampNeg x)) J s H1 locs1 → W p l e R s m args below meth c H1 locs1 cells slots Q (F0 m (pc + 1) ls rest)) : W p l e R s m args below meth c H locs cells slots Q (F0 m pc ls (.int x :: .int i :: .ref (wa E k pp) :: rest)) := by
  obtain ⟨q0, hq1, hq⟩ := ws_at I J hc
  have he0 : cont E I J k pp = .inl (wc E 1, n, .inl (I k pp)) := by
    rw [← he (I k pp)]
    congr 1
    funext a b
    simp only [u3]
    split
    · rename_i h; rw [h.1, h.2]
    · rfl
  rw [he0] at hq
  have hset := ws_set (I' := (u3 I k pp (upd (I k pp) i.toNatClampNeg x))) (J' := J) hW.2.1 hq1 (cont_I _)
  rw [he] at hset
  refine va_iast (D := wD E) X.1.1 X.1.2.1 X.2.1.1 hW.1 hW.2.1 hW.2.2.1 q0 1 hq rfl hin hdg (fun H1 locs1 hP hD hS => ?_)
  rw [hset] at hP hD
  exact kk H1 locs1 ⟨hP, hD, hS, hW.2.2.2⟩
theorem r_bast (X : Cx E cc nL own rt p s m args c meth) (hW : Wd E I J s H locs) {k pp n : Nat} (hc : (k, pp) ∈ wC E) (he : ∀ f, cont E (u3 I k pp f) J k pp = .inl (wc E 0, n, .inl f)) {i : Int32} {x : Int32} (hin : vp_in i n) (hdg : decode cc pc = .ok (.bastore, 1))
    (kk : ∀ (H1 : Heap) (locs1 : List Loc), Wd E (u3 I k pp (upd (I k pp) i.toNatClampNeg (vp_nar .byte x))) J s H1 locs1 → W p l e R s m args below meth c H1 locs1 cells slots Q (F0 m (pc + 1) ls rest)) : W p l e R s m args below meth c H locs cells slots Q (F0 m pc ls (.int x :: .int i :: .ref (wa E k pp) :: rest)) := by
  obtain ⟨q0, hq1, hq⟩ := ws_at I J hc
  have he0 : cont E I J k pp = .inl (wc E 0, n, .inl (I k pp)) := by
    rw [← he (I k pp)]
    congr 1
    funext a b
    simp only [u3]
    split
    · rename_i h; rw [h.1, h.2]
    · rfl
  rw [he0] at hq
  have hset := ws_set (I' := (u3 I k pp (upd (I k pp) i.toNatClampNeg (vp_nar .byte x)))) (J' := J) hW.2.1 hq1 (cont_I _)
  rw [he] at hset
  refine va_bast (D := wD E) X.1.1 X.1.2.1 X.2.1.1 hW.1 hW.2.1 hW.2.2.1 q0 0 hq rfl hin hdg (fun H1 locs1 hP hD hS => ?_)
  rw [hset] at hP hD
  exact kk H1 locs1 ⟨hP, hD, hS, hW.2.2.2⟩
theorem r_zast (X : Cx E cc nL own rt p s m args c meth) (hW : Wd E I J s H locs) {k pp n : Nat} (hc : (k, pp) ∈ wC E) (he : ∀ f, cont E (u3 I k pp f) J k pp = .inl (wc E 3, n, .inl f)) {i : Int32} {x : Int32} (hin : vp_in i n) (hdg : decode cc pc = .ok (.bastore, 1))
    (kk : ∀ (H1 : Heap) (locs1 : List Loc), Wd E (u3 I k pp (upd (I k pp) i.toNatClampNeg (vp_nar .boolean x))) J s H1 locs1 → W p l e R s m args below meth c H1 locs1 cells slots Q (F0 m (pc + 1) ls rest)) : W p l e R s m args below meth c H locs cells slots Q (F0 m pc ls (.int x :: .int i :: .ref (wa E k pp) :: rest)) := by
  obtain ⟨q0, hq1, hq⟩ := ws_at I J hc
  have he0 : cont E I J k pp = .inl (wc E 3, n, .inl (I k pp)) := by
    rw [← he (I k pp)]
    congr 1
    funext a b
    simp only [u3]
    split
    · rename_i h; rw [h.1, h.2]
    · rfl
  rw [he0] at hq
  have hset := ws_set (I' := (u3 I k pp (upd (I k pp) i.toNatClampNeg (vp_nar .boolean x)))) (J' := J) hW.2.1 hq1 (cont_I _)
  rw [he] at hset
  refine va_zast (D := wD E) X.1.1 X.1.2.1 X.2.1.1 hW.1 hW.2.1 hW.2.2.1 q0 3 hq rfl hin hdg (fun H1 locs1 hP hD hS => ?_)
  rw [hset] at hP hD
  exact kk H1 locs1 ⟨hP, hD, hS, hW.2.2.2⟩
theorem r_last (X : Cx E cc nL own rt p s m args c meth) (hW : Wd E I J s H locs) {k pp n : Nat} (hc : (k, pp) ∈ wC E) (he : ∀ f, cont E I (u3 J k pp f) k pp = .inl (wc E 2, n, .inr (.inl f))) {i : Int32} {x : Int64} (hin : vp_in i n) (hdg : decode cc pc = .ok (.lastore, 1))
    (kk : ∀ (H1 : Heap) (locs1 : List Loc), Wd E I (u3 J k pp (vp_updL (J k pp) i.toNatClampNeg x)) s H1 locs1 → W p l e R s m args below meth c H1 locs1 cells slots Q (F0 m (pc + 1) ls rest)) : W p l e R s m args below meth c H locs cells slots Q (F0 m pc ls (.long x :: .int i :: .ref (wa E k pp) :: rest)) := by
  obtain ⟨q0, hq1, hq⟩ := ws_at I J hc
  have he0 : cont E I J k pp = .inl (wc E 2, n, .inr (.inl (J k pp))) := by
    rw [← he (J k pp)]
    congr 1
    funext a b
    simp only [u3]
    split
    · rename_i h; rw [h.1, h.2]
    · rfl
  rw [he0] at hq
  have hset := ws_set (I' := I) (J' := (u3 J k pp (vp_updL (J k pp) i.toNatClampNeg x))) hW.2.1 hq1 (cont_J _)
  rw [he] at hset
  refine va_last (D := wD E) X.1.1 X.1.2.1 X.2.1.1 hW.1 hW.2.1 hW.2.2.1 q0 2 hq rfl hin hdg (fun H1 locs1 hP hD hS => ?_)
  rw [hset] at hP hD
  exact kk H1 locs1 ⟨hP, hD, hS, hW.2.2.2⟩
theorem r_aaP (X : Cx E cc nL own rt p s m args c meth) (hW : Wd E I J s H locs) {i : Int32} (hin : vp_in i 8) (hdg : decode cc pc = .ok (.aaload, 1))
    (kn : ¬ i.toNatClampNeg < (wg E).2.1 → W p l e R s m args below meth c H locs cells slots Q (F0 m (pc + 1) ls (.null :: rest))) (kr : i.toNatClampNeg < (wg E).2.1 → W p l e R s m args below meth c H locs cells slots Q (F0 m (pc + 1) ls (.ref (wa E 40 i.toNatClampNeg) :: rest))) : W p l e R s m args below meth c H locs cells slots Q (F0 m pc ls (.int i :: .ref (wa E 4 0) :: rest)) := by
  obtain ⟨q0, -, hq⟩ := ws_at I J (okS hW sc4_0)
  refine va_aldq (D := wD E) (C := RX5) X.1.1 X.1.2.1 X.2.1.1 hW.1 q0 4 hq rfl hin hdg ?_
  by_cases hi : i.toNatClampNeg < (wg E).2.1
  · simp only [hi, if_true]
    exact kr hi
  · simp only [hi, if_false]
    exact kn hi
theorem r_aaR (X : Cx E cc nL own rt p s m args c meth) (hW : Wd E I J s H locs) {i : Int32} (hin : vp_in i 6) (hdg : decode cc pc = .ok (.aaload, 1))
    (kn : ¬ i.toNatClampNeg < (wg E).2.2 → W p l e R s m args below meth c H locs cells slots Q (F0 m (pc + 1) ls (.null :: rest))) (kr : i.toNatClampNeg < (wg E).2.2 → W p l e R s m args below meth c H locs cells slots Q (F0 m (pc + 1) ls (.ref (wa E 43 i.toNatClampNeg) :: rest))) : W p l e R s m args below meth c H locs cells slots Q (F0 m pc ls (.int i :: .ref (wa E 3 0) :: rest)) := by
  obtain ⟨q0, -, hq⟩ := ws_at I J (okS hW sc3_0)
  refine va_aldq (D := wD E) (C := RX6) X.1.1 X.1.2.1 X.2.1.1 hW.1 q0 5 hq rfl hin hdg ?_
  by_cases hi : i.toNatClampNeg < (wg E).2.2
  · simp only [hi, if_true]
    exact kr hi
  · simp only [hi, if_false]
    exact kn hi
end Rows
end
