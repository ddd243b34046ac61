section
-- ===== PART A: goes FIRST, ahead of the names: the tables' words, and 'selects' of the private methods out of them =====
/-- a private method of a class that the tables say can be made, by its rows of tables_1 -/
def lw_okq (q : MethodName × Nat) : Prop := (q.1.cls ≠ "java/lang/invoke/MethodHandle" ∧ q.1.cls ≠ "java/lang/invoke/VarHandle") ∧ Cond.instantiable q.1.cls q.2 ∈ tables_1 ∧ Cond.privateMethod q.1 ∈ tables_1 ∧ Cond.instanceMethod q.1 ∈ tables_1
theorem lw_p0 : lw_okq (⟨"BlackBalls$Page", "codeAt", "(I)I"⟩, 2) := ⟨⟨by decide +kernel, by decide +kernel⟩, List.mem_of_getElem? (i := 27) (by decide +kernel), List.mem_of_getElem? (i := 226) (by decide +kernel), List.mem_of_getElem? (i := 227) (by decide +kernel)⟩
theorem lw_p1 : lw_okq (⟨"BlackBalls", "ruleAt", "(I)LBlackBalls$Rule;"⟩, 13) := ⟨⟨by decide +kernel, by decide +kernel⟩, List.mem_of_getElem? (i := 19) (by decide +kernel), List.mem_of_getElem? (i := 259) (by decide +kernel), List.mem_of_getElem? (i := 260) (by decide +kernel)⟩
theorem lw_p2 : lw_okq (⟨"BlackBalls", "personAt", "(I)LBlackBalls$Person;"⟩, 13) := ⟨⟨by decide +kernel, by decide +kernel⟩, List.mem_of_getElem? (i := 19) (by decide +kernel), List.mem_of_getElem? (i := 272) (by decide +kernel), List.mem_of_getElem? (i := 273) (by decide +kernel)⟩
theorem lw_p3 : lw_okq (⟨"BlackBalls", "newPerson", "(III)LBlackBalls$Person;"⟩, 13) := ⟨⟨by decide +kernel, by decide +kernel⟩, List.mem_of_getElem? (i := 19) (by decide +kernel), List.mem_of_getElem? (i := 276) (by decide +kernel), List.mem_of_getElem? (i := 277) (by decide +kernel)⟩
theorem lw_p4 : lw_okq (⟨"BlackBalls", "isCandidate", "(I)Z"⟩, 13) := ⟨⟨by decide +kernel, by decide +kernel⟩, List.mem_of_getElem? (i := 19) (by decide +kernel), List.mem_of_getElem? (i := 418) (by decide +kernel), List.mem_of_getElem? (i := 419) (by decide +kernel)⟩
theorem lw_p5 : lw_okq (⟨"BlackBalls", "friendOf", "(I)I"⟩, 13) := ⟨⟨by decide +kernel, by decide +kernel⟩, List.mem_of_getElem? (i := 19) (by decide +kernel), List.mem_of_getElem? (i := 444) (by decide +kernel), List.mem_of_getElem? (i := 445) (by decide +kernel)⟩
theorem lw_p6 : lw_okq (⟨"BlackBalls", "isMinded", "(I)Z"⟩, 13) := ⟨⟨by decide +kernel, by decide +kernel⟩, List.mem_of_getElem? (i := 19) (by decide +kernel), List.mem_of_getElem? (i := 448) (by decide +kernel), List.mem_of_getElem? (i := 449) (by decide +kernel)⟩
theorem lw_p7 : lw_okq (⟨"BlackBalls", "howManyMindMuch", "(I)I"⟩, 13) := ⟨⟨by decide +kernel, by decide +kernel⟩, List.mem_of_getElem? (i := 19) (by decide +kernel), List.mem_of_getElem? (i := 452) (by decide +kernel), List.mem_of_getElem? (i := 453) (by decide +kernel)⟩
theorem lw_p8 : lw_okq (⟨"BlackBalls", "areComers", "(I)Z"⟩, 13) := ⟨⟨by decide +kernel, by decide +kernel⟩, List.mem_of_getElem? (i := 19) (by decide +kernel), List.mem_of_getElem? (i := 470) (by decide +kernel), List.mem_of_getElem? (i := 471) (by decide +kernel)⟩
theorem lw_p9 : lw_okq (⟨"BlackBalls", "everybody", "()I"⟩, 13) := ⟨⟨by decide +kernel, by decide +kernel⟩, List.mem_of_getElem? (i := 19) (by decide +kernel), List.mem_of_getElem? (i := 474) (by decide +kernel), List.mem_of_getElem? (i := 475) (by decide +kernel)⟩
theorem lw_p10 : lw_okq (⟨"BlackBalls", "blackOf", "(LBlackBalls$Person;IZ)I"⟩, 13) := ⟨⟨by decide +kernel, by decide +kernel⟩, List.mem_of_getElem? (i := 19) (by decide +kernel), List.mem_of_getElem? (i := 490) (by decide +kernel), List.mem_of_getElem? (i := 491) (by decide +kernel)⟩
theorem lw_p11 : lw_okq (⟨"BlackBalls", "tallyBalls", "(IIZ)V"⟩, 13) := ⟨⟨by decide +kernel, by decide +kernel⟩, List.mem_of_getElem? (i := 19) (by decide +kernel), List.mem_of_getElem? (i := 531) (by decide +kernel), List.mem_of_getElem? (i := 532) (by decide +kernel)⟩
theorem lw_p12 : lw_okq (⟨"BlackBalls", "inWays", "(LBlackBalls$Rule;II)J"⟩, 13) := ⟨⟨by decide +kernel, by decide +kernel⟩, List.mem_of_getElem? (i := 19) (by decide +kernel), List.mem_of_getElem? (i := 565) (by decide +kernel), List.mem_of_getElem? (i := 566) (by decide +kernel)⟩
theorem lw_p13 : lw_okq (⟨"BlackBalls$Turnout", "waysTo", "(II)J"⟩, 3) := ⟨⟨by decide +kernel, by decide +kernel⟩, List.mem_of_getElem? (i := 63) (by decide +kernel), List.mem_of_getElem? (i := 601) (by decide +kernel), List.mem_of_getElem? (i := 602) (by decide +kernel)⟩
theorem lw_p14 : lw_okq (⟨"BlackBalls", "wrongWays", "(LBlackBalls$Rule;I)J"⟩, 13) := ⟨⟨by decide +kernel, by decide +kernel⟩, List.mem_of_getElem? (i := 19) (by decide +kernel), List.mem_of_getElem? (i := 623) (by decide +kernel), List.mem_of_getElem? (i := 624) (by decide +kernel)⟩
theorem lw_p15 : lw_okq (⟨"BlackBalls$Ballot", "putBalls", "()V"⟩, 5) := ⟨⟨by decide +kernel, by decide +kernel⟩, List.mem_of_getElem? (i := 79) (by decide +kernel), List.mem_of_getElem? (i := 675) (by decide +kernel), List.mem_of_getElem? (i := 676) (by decide +kernel)⟩
def lw_privs_1 : List (MethodName × Nat) := [(⟨"BlackBalls$Page", "codeAt", "(I)I"⟩, 2), (⟨"BlackBalls", "ruleAt", "(I)LBlackBalls$Rule;"⟩, 13), (⟨"BlackBalls", "personAt", "(I)LBlackBalls$Person;"⟩, 13), (⟨"BlackBalls", "newPerson", "(III)LBlackBalls$Person;"⟩, 13), (⟨"BlackBalls", "isCandidate", "(I)Z"⟩, 13), (⟨"BlackBalls", "friendOf", "(I)I"⟩, 13), (⟨"BlackBalls", "isMinded", "(I)Z"⟩, 13), (⟨"BlackBalls", "howManyMindMuch", "(I)I"⟩, 13), (⟨"BlackBalls", "areComers", "(I)Z"⟩, 13), (⟨"BlackBalls", "everybody", "()I"⟩, 13), (⟨"BlackBalls", "blackOf", "(LBlackBalls$Person;IZ)I"⟩, 13), (⟨"BlackBalls", "tallyBalls", "(IIZ)V"⟩, 13), (⟨"BlackBalls", "inWays", "(LBlackBalls$Rule;II)J"⟩, 13), (⟨"BlackBalls$Turnout", "waysTo", "(II)J"⟩, 3), (⟨"BlackBalls", "wrongWays", "(LBlackBalls$Rule;I)J"⟩, 13), (⟨"BlackBalls$Ballot", "putBalls", "()V"⟩, 5)]
theorem lw_r1 : ∀ q ∈ lw_privs_1, lw_okq q := List.forall_mem_cons.mpr ⟨lw_p0, List.forall_mem_cons.mpr ⟨lw_p1, List.forall_mem_cons.mpr ⟨lw_p2, List.forall_mem_cons.mpr ⟨lw_p3, List.forall_mem_cons.mpr ⟨lw_p4, List.forall_mem_cons.mpr ⟨lw_p5, List.forall_mem_cons.mpr ⟨lw_p6, List.forall_mem_cons.mpr ⟨lw_p7, List.forall_mem_cons.mpr ⟨lw_p8, List.forall_mem_cons.mpr ⟨lw_p9, List.forall_mem_cons.mpr ⟨lw_p10, List.forall_mem_cons.mpr ⟨lw_p11, List.forall_mem_cons.mpr ⟨lw_p12, List.forall_mem_cons.mpr ⟨lw_p13, List.forall_mem_cons.mpr ⟨lw_p14, List.forall_mem_cons.mpr ⟨lw_p15, fun _ h => absurd h List.not_mem_nil⟩⟩⟩⟩⟩⟩⟩⟩⟩⟩⟩⟩⟩⟩⟩⟩
theorem lw_p16 : lw_okq (⟨"BlackBalls", "letInByOneBall", "(LBlackBalls$Rule;III)I"⟩, 13) := ⟨⟨by decide +kernel, by decide +kernel⟩, List.mem_of_getElem? (i := 19) (by decide +kernel), List.mem_of_getElem? (i := 693) (by decide +kernel), List.mem_of_getElem? (i := 694) (by decide +kernel)⟩
theorem lw_p17 : lw_okq (⟨"BlackBalls", "expectVetoes", "(I)J"⟩, 13) := ⟨⟨by decide +kernel, by decide +kernel⟩, List.mem_of_getElem? (i := 19) (by decide +kernel), List.mem_of_getElem? (i := 705) (by decide +kernel), List.mem_of_getElem? (i := 706) (by decide +kernel)⟩
theorem lw_p18 : lw_okq (⟨"BlackBalls$Club", "drawTaste", "()I"⟩, 5) := ⟨⟨by decide +kernel, by decide +kernel⟩, List.mem_of_getElem? (i := 106) (by decide +kernel), List.mem_of_getElem? (i := 726) (by decide +kernel), List.mem_of_getElem? (i := 727) (by decide +kernel)⟩
theorem lw_p19 : lw_okq (⟨"BlackBalls$Club", "firstGoes", "()V"⟩, 5) := ⟨⟨by decide +kernel, by decide +kernel⟩, List.mem_of_getElem? (i := 106) (by decide +kernel), List.mem_of_getElem? (i := 736) (by decide +kernel), List.mem_of_getElem? (i := 737) (by decide +kernel)⟩
theorem lw_p20 : lw_okq (⟨"BlackBalls", "howManyMinded", "()I"⟩, 13) := ⟨⟨by decide +kernel, by decide +kernel⟩, List.mem_of_getElem? (i := 19) (by decide +kernel), List.mem_of_getElem? (i := 758) (by decide +kernel), List.mem_of_getElem? (i := 759) (by decide +kernel)⟩
theorem lw_p21 : lw_okq (⟨"BlackBalls", "digestRules", "(J)J"⟩, 13) := ⟨⟨by decide +kernel, by decide +kernel⟩, List.mem_of_getElem? (i := 19) (by decide +kernel), List.mem_of_getElem? (i := 801) (by decide +kernel), List.mem_of_getElem? (i := 802) (by decide +kernel)⟩
theorem lw_p22 : lw_okq (⟨"BlackBalls", "digestPeople", "(J)J"⟩, 13) := ⟨⟨by decide +kernel, by decide +kernel⟩, List.mem_of_getElem? (i := 19) (by decide +kernel), List.mem_of_getElem? (i := 809) (by decide +kernel), List.mem_of_getElem? (i := 810) (by decide +kernel)⟩
theorem lw_p23 : lw_okq (⟨"BlackBalls", "digestCandidates", "(J)J"⟩, 13) := ⟨⟨by decide +kernel, by decide +kernel⟩, List.mem_of_getElem? (i := 19) (by decide +kernel), List.mem_of_getElem? (i := 814) (by decide +kernel), List.mem_of_getElem? (i := 815) (by decide +kernel)⟩
theorem lw_p24 : lw_okq (⟨"BlackBalls", "digestIn", "(J)J"⟩, 13) := ⟨⟨by decide +kernel, by decide +kernel⟩, List.mem_of_getElem? (i := 19) (by decide +kernel), List.mem_of_getElem? (i := 819) (by decide +kernel), List.mem_of_getElem? (i := 820) (by decide +kernel)⟩
theorem lw_p25 : lw_okq (⟨"BlackBallsModel", "readPage", "()V"⟩, 37) := ⟨⟨by decide +kernel, by decide +kernel⟩, List.mem_of_getElem? (i := 829) (by decide +kernel), List.mem_of_getElem? (i := 962) (by decide +kernel), List.mem_of_getElem? (i := 963) (by decide +kernel)⟩
theorem lw_p26 : lw_okq (⟨"BlackBallsModel", "next", "(II)I"⟩, 37) := ⟨⟨by decide +kernel, by decide +kernel⟩, List.mem_of_getElem? (i := 829) (by decide +kernel), List.mem_of_getElem? (i := 966) (by decide +kernel), List.mem_of_getElem? (i := 967) (by decide +kernel)⟩
theorem lw_p27 : lw_okq (⟨"BlackBallsModel", "nextRatio", "(I)I"⟩, 37) := ⟨⟨by decide +kernel, by decide +kernel⟩, List.mem_of_getElem? (i := 829) (by decide +kernel), List.mem_of_getElem? (i := 973) (by decide +kernel), List.mem_of_getElem? (i := 974) (by decide +kernel)⟩
theorem lw_p28 : lw_okq (⟨"BlackBallsModel", "isRule", "(I)Z"⟩, 37) := ⟨⟨by decide +kernel, by decide +kernel⟩, List.mem_of_getElem? (i := 829) (by decide +kernel), List.mem_of_getElem? (i := 988) (by decide +kernel), List.mem_of_getElem? (i := 989) (by decide +kernel)⟩
theorem lw_p29 : lw_okq (⟨"BlackBallsModel", "ruleNow", "(II)I"⟩, 37) := ⟨⟨by decide +kernel, by decide +kernel⟩, List.mem_of_getElem? (i := 829) (by decide +kernel), List.mem_of_getElem? (i := 992) (by decide +kernel), List.mem_of_getElem? (i := 993) (by decide +kernel)⟩
theorem lw_p30 : lw_okq (⟨"BlackBallsModel", "isMember", "(I)Z"⟩, 37) := ⟨⟨by decide +kernel, by decide +kernel⟩, List.mem_of_getElem? (i := 829) (by decide +kernel), List.mem_of_getElem? (i := 1000) (by decide +kernel), List.mem_of_getElem? (i := 1001) (by decide +kernel)⟩
theorem lw_p31 : lw_okq (⟨"BlackBallsModel", "memberNow", "(II)I"⟩, 37) := ⟨⟨by decide +kernel, by decide +kernel⟩, List.mem_of_getElem? (i := 829) (by decide +kernel), List.mem_of_getElem? (i := 1012) (by decide +kernel), List.mem_of_getElem? (i := 1013) (by decide +kernel)⟩
def lw_privs_2 : List (MethodName × Nat) := [(⟨"BlackBalls", "letInByOneBall", "(LBlackBalls$Rule;III)I"⟩, 13), (⟨"BlackBalls", "expectVetoes", "(I)J"⟩, 13), (⟨"BlackBalls$Club", "drawTaste", "()I"⟩, 5), (⟨"BlackBalls$Club", "firstGoes", "()V"⟩, 5), (⟨"BlackBalls", "howManyMinded", "()I"⟩, 13), (⟨"BlackBalls", "digestRules", "(J)J"⟩, 13), (⟨"BlackBalls", "digestPeople", "(J)J"⟩, 13), (⟨"BlackBalls", "digestCandidates", "(J)J"⟩, 13), (⟨"BlackBalls", "digestIn", "(J)J"⟩, 13), (⟨"BlackBallsModel", "readPage", "()V"⟩, 37), (⟨"BlackBallsModel", "next", "(II)I"⟩, 37), (⟨"BlackBallsModel", "nextRatio", "(I)I"⟩, 37), (⟨"BlackBallsModel", "isRule", "(I)Z"⟩, 37), (⟨"BlackBallsModel", "ruleNow", "(II)I"⟩, 37), (⟨"BlackBallsModel", "isMember", "(I)Z"⟩, 37), (⟨"BlackBallsModel", "memberNow", "(II)I"⟩, 37)]
theorem lw_r2 : ∀ q ∈ lw_privs_2, lw_okq q := List.forall_mem_cons.mpr ⟨lw_p16, List.forall_mem_cons.mpr ⟨lw_p17, List.forall_mem_cons.mpr ⟨lw_p18, List.forall_mem_cons.mpr ⟨lw_p19, List.forall_mem_cons.mpr ⟨lw_p20, List.forall_mem_cons.mpr ⟨lw_p21, List.forall_mem_cons.mpr ⟨lw_p22, List.forall_mem_cons.mpr ⟨lw_p23, List.forall_mem_cons.mpr ⟨lw_p24, List.forall_mem_cons.mpr ⟨lw_p25, List.forall_mem_cons.mpr ⟨lw_p26, List.forall_mem_cons.mpr ⟨lw_p27, List.forall_mem_cons.mpr ⟨lw_p28, List.forall_mem_cons.mpr ⟨lw_p29, List.forall_mem_cons.mpr ⟨lw_p30, List.forall_mem_cons.mpr ⟨lw_p31, fun _ h => absurd h List.not_mem_nil⟩⟩⟩⟩⟩⟩⟩⟩⟩⟩⟩⟩⟩⟩⟩⟩
theorem lw_p32 : lw_okq (⟨"BlackBallsModel", "isCandidate", "(I)Z"⟩, 37) := ⟨⟨by decide +kernel, by decide +kernel⟩, List.mem_of_getElem? (i := 829) (by decide +kernel), List.mem_of_getElem? (i := 1028) (by decide +kernel), List.mem_of_getElem? (i := 1029) (by decide +kernel)⟩
theorem lw_p33 : lw_okq (⟨"BlackBallsModel", "candidateNow", "(II)I"⟩, 37) := ⟨⟨by decide +kernel, by decide +kernel⟩, List.mem_of_getElem? (i := 829) (by decide +kernel), List.mem_of_getElem? (i := 1036) (by decide +kernel), List.mem_of_getElem? (i := 1037) (by decide +kernel)⟩
theorem lw_p34 : lw_okq (⟨"BlackBallsModel", "isMinded", "(I)Z"⟩, 37) := ⟨⟨by decide +kernel, by decide +kernel⟩, List.mem_of_getElem? (i := 829) (by decide +kernel), List.mem_of_getElem? (i := 1040) (by decide +kernel), List.mem_of_getElem? (i := 1041) (by decide +kernel)⟩
theorem lw_p35 : lw_okq (⟨"BlackBallsModel", "mindedBy", "(I)I"⟩, 37) := ⟨⟨by decide +kernel, by decide +kernel⟩, List.mem_of_getElem? (i := 829) (by decide +kernel), List.mem_of_getElem? (i := 1044) (by decide +kernel), List.mem_of_getElem? (i := 1045) (by decide +kernel)⟩
theorem lw_p36 : lw_okq (⟨"BlackBallsModel", "areComers", "(I)Z"⟩, 37) := ⟨⟨by decide +kernel, by decide +kernel⟩, List.mem_of_getElem? (i := 829) (by decide +kernel), List.mem_of_getElem? (i := 1052) (by decide +kernel), List.mem_of_getElem? (i := 1053) (by decide +kernel)⟩
theorem lw_p37 : lw_okq (⟨"BlackBallsModel", "blackBy", "(IIII)I"⟩, 37) := ⟨⟨by decide +kernel, by decide +kernel⟩, List.mem_of_getElem? (i := 829) (by decide +kernel), List.mem_of_getElem? (i := 1062) (by decide +kernel), List.mem_of_getElem? (i := 1063) (by decide +kernel)⟩
theorem lw_p38 : lw_okq (⟨"BlackBallsModel", "areThere", "(II)Z"⟩, 37) := ⟨⟨by decide +kernel, by decide +kernel⟩, List.mem_of_getElem? (i := 829) (by decide +kernel), List.mem_of_getElem? (i := 1070) (by decide +kernel), List.mem_of_getElem? (i := 1071) (by decide +kernel)⟩
theorem lw_p39 : lw_okq (⟨"BlackBallsModel", "layWays", "(IIIII)V"⟩, 37) := ⟨⟨by decide +kernel, by decide +kernel⟩, List.mem_of_getElem? (i := 829) (by decide +kernel), List.mem_of_getElem? (i := 1077) (by decide +kernel), List.mem_of_getElem? (i := 1078) (by decide +kernel)⟩
theorem lw_p40 : lw_okq (⟨"BlackBallsModel", "inBy", "(III)J"⟩, 37) := ⟨⟨by decide +kernel, by decide +kernel⟩, List.mem_of_getElem? (i := 829) (by decide +kernel), List.mem_of_getElem? (i := 1094) (by decide +kernel), List.mem_of_getElem? (i := 1095) (by decide +kernel)⟩
theorem lw_p41 : lw_okq (⟨"BlackBallsModel", "shutBy", "(IIII)J"⟩, 37) := ⟨⟨by decide +kernel, by decide +kernel⟩, List.mem_of_getElem? (i := 829) (by decide +kernel), List.mem_of_getElem? (i := 1098) (by decide +kernel), List.mem_of_getElem? (i := 1099) (by decide +kernel)⟩
theorem lw_p42 : lw_okq (⟨"BlackBallsModel", "shuts", "(III)Z"⟩, 37) := ⟨⟨by decide +kernel, by decide +kernel⟩, List.mem_of_getElem? (i := 829) (by decide +kernel), List.mem_of_getElem? (i := 1102) (by decide +kernel), List.mem_of_getElem? (i := 1103) (by decide +kernel)⟩
theorem lw_p43 : lw_okq (⟨"BlackBallsModel", "comesBy", "(I)J"⟩, 37) := ⟨⟨by decide +kernel, by decide +kernel⟩, List.mem_of_getElem? (i := 829) (by decide +kernel), List.mem_of_getElem? (i := 1111) (by decide +kernel), List.mem_of_getElem? (i := 1112) (by decide +kernel)⟩
theorem lw_p44 : lw_okq (⟨"BlackBallsModel", "wrongBy", "(II)J"⟩, 37) := ⟨⟨by decide +kernel, by decide +kernel⟩, List.mem_of_getElem? (i := 829) (by decide +kernel), List.mem_of_getElem? (i := 1119) (by decide +kernel), List.mem_of_getElem? (i := 1120) (by decide +kernel)⟩
theorem lw_p45 : lw_okq (⟨"BlackBallsModel", "isAsked", "(III)Z"⟩, 37) := ⟨⟨by decide +kernel, by decide +kernel⟩, List.mem_of_getElem? (i := 829) (by decide +kernel), List.mem_of_getElem? (i := 1131) (by decide +kernel), List.mem_of_getElem? (i := 1132) (by decide +kernel)⟩
theorem lw_p46 : lw_okq (⟨"BlackBallsModel", "withdraws", "(IIII)Z"⟩, 37) := ⟨⟨by decide +kernel, by decide +kernel⟩, List.mem_of_getElem? (i := 829) (by decide +kernel), List.mem_of_getElem? (i := 1148) (by decide +kernel), List.mem_of_getElem? (i := 1149) (by decide +kernel)⟩
theorem lw_p47 : lw_okq (⟨"BlackBallsModel", "goRound", "(III)I"⟩, 37) := ⟨⟨by decide +kernel, by decide +kernel⟩, List.mem_of_getElem? (i := 829) (by decide +kernel), List.mem_of_getElem? (i := 1160) (by decide +kernel), List.mem_of_getElem? (i := 1161) (by decide +kernel)⟩
def lw_privs_3 : List (MethodName × Nat) := [(⟨"BlackBallsModel", "isCandidate", "(I)Z"⟩, 37), (⟨"BlackBallsModel", "candidateNow", "(II)I"⟩, 37), (⟨"BlackBallsModel", "isMinded", "(I)Z"⟩, 37), (⟨"BlackBallsModel", "mindedBy", "(I)I"⟩, 37), (⟨"BlackBallsModel", "areComers", "(I)Z"⟩, 37), (⟨"BlackBallsModel", "blackBy", "(IIII)I"⟩, 37), (⟨"BlackBallsModel", "areThere", "(II)Z"⟩, 37), (⟨"BlackBallsModel", "layWays", "(IIIII)V"⟩, 37), (⟨"BlackBallsModel", "inBy", "(III)J"⟩, 37), (⟨"BlackBallsModel", "shutBy", "(IIII)J"⟩, 37), (⟨"BlackBallsModel", "shuts", "(III)Z"⟩, 37), (⟨"BlackBallsModel", "comesBy", "(I)J"⟩, 37), (⟨"BlackBallsModel", "wrongBy", "(II)J"⟩, 37), (⟨"BlackBallsModel", "isAsked", "(III)Z"⟩, 37), (⟨"BlackBallsModel", "withdraws", "(IIII)Z"⟩, 37), (⟨"BlackBallsModel", "goRound", "(III)I"⟩, 37)]
theorem lw_r3 : ∀ q ∈ lw_privs_3, lw_okq q := List.forall_mem_cons.mpr ⟨lw_p32, List.forall_mem_cons.mpr ⟨lw_p33, List.forall_mem_cons.mpr ⟨lw_p34, List.forall_mem_cons.mpr ⟨lw_p35, List.forall_mem_cons.mpr ⟨lw_p36, List.forall_mem_cons.mpr ⟨lw_p37, List.forall_mem_cons.mpr ⟨lw_p38, List.forall_mem_cons.mpr ⟨lw_p39, List.forall_mem_cons.mpr ⟨lw_p40, List.forall_mem_cons.mpr ⟨lw_p41, List.forall_mem_cons.mpr ⟨lw_p42, List.forall_mem_cons.mpr ⟨lw_p43, List.forall_mem_cons.mpr ⟨lw_p44, List.forall_mem_cons.mpr ⟨lw_p45, List.forall_mem_cons.mpr ⟨lw_p46, List.forall_mem_cons.mpr ⟨lw_p47, fun _ h => absurd h List.not_mem_nil⟩⟩⟩⟩⟩⟩⟩⟩⟩⟩⟩⟩⟩⟩⟩⟩
theorem lw_p48 : lw_okq (⟨"BlackBallsModel", "draw", "(I)I"⟩, 37) := ⟨⟨by decide +kernel, by decide +kernel⟩, List.mem_of_getElem? (i := 829) (by decide +kernel), List.mem_of_getElem? (i := 1164) (by decide +kernel), List.mem_of_getElem? (i := 1165) (by decide +kernel)⟩
theorem lw_p49 : lw_okq (⟨"BlackBallsModel", "gain", "(III)I"⟩, 37) := ⟨⟨by decide +kernel, by decide +kernel⟩, List.mem_of_getElem? (i := 829) (by decide +kernel), List.mem_of_getElem? (i := 1176) (by decide +kernel), List.mem_of_getElem? (i := 1177) (by decide +kernel)⟩
theorem lw_p50 : lw_okq (⟨"BlackBallsModel", "isInBy", "(IIIII)Z"⟩, 37) := ⟨⟨by decide +kernel, by decide +kernel⟩, List.mem_of_getElem? (i := 829) (by decide +kernel), List.mem_of_getElem? (i := 1180) (by decide +kernel), List.mem_of_getElem? (i := 1181) (by decide +kernel)⟩
theorem lw_p51 : lw_okq (⟨"BlackBallsModel", "layVetoes", "(I)V"⟩, 37) := ⟨⟨by decide +kernel, by decide +kernel⟩, List.mem_of_getElem? (i := 829) (by decide +kernel), List.mem_of_getElem? (i := 1188) (by decide +kernel), List.mem_of_getElem? (i := 1189) (by decide +kernel)⟩
theorem lw_p52 : lw_okq (⟨"BlackBallsModel", "isUsed", "(III)Z"⟩, 37) := ⟨⟨by decide +kernel, by decide +kernel⟩, List.mem_of_getElem? (i := 829) (by decide +kernel), List.mem_of_getElem? (i := 1192) (by decide +kernel), List.mem_of_getElem? (i := 1193) (by decide +kernel)⟩
theorem lw_p53 : lw_okq (⟨"BlackBallsModel", "isLetIn", "(II)Z"⟩, 37) := ⟨⟨by decide +kernel, by decide +kernel⟩, List.mem_of_getElem? (i := 829) (by decide +kernel), List.mem_of_getElem? (i := 1208) (by decide +kernel), List.mem_of_getElem? (i := 1209) (by decide +kernel)⟩
theorem lw_p54 : lw_okq (⟨"BlackBallsModel", "clubRound", "(I)I"⟩, 37) := ⟨⟨by decide +kernel, by decide +kernel⟩, List.mem_of_getElem? (i := 829) (by decide +kernel), List.mem_of_getElem? (i := 1212) (by decide +kernel), List.mem_of_getElem? (i := 1213) (by decide +kernel)⟩
theorem lw_p55 : lw_okq (⟨"BlackBallsModel", "unlike", "()I"⟩, 37) := ⟨⟨by decide +kernel, by decide +kernel⟩, List.mem_of_getElem? (i := 829) (by decide +kernel), List.mem_of_getElem? (i := 1216) (by decide +kernel), List.mem_of_getElem? (i := 1217) (by decide +kernel)⟩
theorem lw_p56 : lw_okq (⟨"BlackBallsModel", "mindedMany", "()I"⟩, 37) := ⟨⟨by decide +kernel, by decide +kernel⟩, List.mem_of_getElem? (i := 829) (by decide +kernel), List.mem_of_getElem? (i := 1224) (by decide +kernel), List.mem_of_getElem? (i := 1225) (by decide +kernel)⟩
theorem lw_p57 : lw_okq (⟨"BlackBallsModel", "howMany", "(I)I"⟩, 37) := ⟨⟨by decide +kernel, by decide +kernel⟩, List.mem_of_getElem? (i := 829) (by decide +kernel), List.mem_of_getElem? (i := 1240) (by decide +kernel), List.mem_of_getElem? (i := 1241) (by decide +kernel)⟩
theorem lw_p58 : lw_okq (⟨"BlackBallsModel", "mix", "(J)V"⟩, 37) := ⟨⟨by decide +kernel, by decide +kernel⟩, List.mem_of_getElem? (i := 829) (by decide +kernel), List.mem_of_getElem? (i := 1249) (by decide +kernel), List.mem_of_getElem? (i := 1250) (by decide +kernel)⟩
theorem lw_p59 : lw_okq (⟨"BlackBallsModel", "mixIns", "()V"⟩, 37) := ⟨⟨by decide +kernel, by decide +kernel⟩, List.mem_of_getElem? (i := 829) (by decide +kernel), List.mem_of_getElem? (i := 1254) (by decide +kernel), List.mem_of_getElem? (i := 1255) (by decide +kernel)⟩
def lw_privs_4 : List (MethodName × Nat) := [(⟨"BlackBallsModel", "draw", "(I)I"⟩, 37), (⟨"BlackBallsModel", "gain", "(III)I"⟩, 37), (⟨"BlackBallsModel", "isInBy", "(IIIII)Z"⟩, 37), (⟨"BlackBallsModel", "layVetoes", "(I)V"⟩, 37), (⟨"BlackBallsModel", "isUsed", "(III)Z"⟩, 37), (⟨"BlackBallsModel", "isLetIn", "(II)Z"⟩, 37), (⟨"BlackBallsModel", "clubRound", "(I)I"⟩, 37), (⟨"BlackBallsModel", "unlike", "()I"⟩, 37), (⟨"BlackBallsModel", "mindedMany", "()I"⟩, 37), (⟨"BlackBallsModel", "howMany", "(I)I"⟩, 37), (⟨"BlackBallsModel", "mix", "(J)V"⟩, 37), (⟨"BlackBallsModel", "mixIns", "()V"⟩, 37)]
theorem lw_r4 : ∀ q ∈ lw_privs_4, lw_okq q := List.forall_mem_cons.mpr ⟨lw_p48, List.forall_mem_cons.mpr ⟨lw_p49, List.forall_mem_cons.mpr ⟨lw_p50, List.forall_mem_cons.mpr ⟨lw_p51, List.forall_mem_cons.mpr ⟨lw_p52, List.forall_mem_cons.mpr ⟨lw_p53, List.forall_mem_cons.mpr ⟨lw_p54, List.forall_mem_cons.mpr ⟨lw_p55, List.forall_mem_cons.mpr ⟨lw_p56, List.forall_mem_cons.mpr ⟨lw_p57, List.forall_mem_cons.mpr ⟨lw_p58, List.forall_mem_cons.mpr ⟨lw_p59, fun _ h => absurd h List.not_mem_nil⟩⟩⟩⟩⟩⟩⟩⟩⟩⟩⟩⟩
def lw_privs : List (MethodName × Nat) := lw_privs_1 ++ (lw_privs_2 ++ (lw_privs_3 ++ (lw_privs_4)))
def lw_tbl : List Cond := k2_sels lw_privs ++ tables_1
theorem lw_privs_ok : ∀ q ∈ lw_privs, lw_okq q := by
  show ∀ q ∈ lw_privs_1 ++ (lw_privs_2 ++ (lw_privs_3 ++ (lw_privs_4))), lw_okq q
  exact List.forall_mem_append.mpr ⟨lw_r1, List.forall_mem_append.mpr ⟨lw_r2, List.forall_mem_append.mpr ⟨lw_r3, lw_r4⟩⟩⟩
def RX0 : String := "BlackBalls$Ballot"
def TX0 : u_T := fun k => match k with
  | 0 => ("BlackBalls$Ballot", "blackTenths", "[I", true)
  | 1 => ("BlackBalls$Ballot", "came", "I", false)
  | 2 => ("BlackBalls$Ballot", "seed", "I", false)
  | 3 => ("BlackBalls$Ballot", "lastBlacks", "I", false)
  | _ => ("BlackBalls$Ballot", "letIn", "Z", false)
def tyX0 : Nat → FieldType := fun k => match k with
  | 0 => .array .int
  | 1 => .int
  | 2 => .int
  | 3 => .int
  | _ => .boolean
theorem nmX0 : ∀ a, a < 5 → ∀ b, b < 5 → a ≠ b → (TX0 a).2.1 ≠ (TX0 b).2.1 := by decide +kernel
theorem tyX0_ok : ∀ k, k < 5 → parseFieldDescriptor (TX0 k).2.2.1 = some (tyX0 k) := by decide +kernel
abbrev cX0_init : ByteArray := prog_2_method_1_code
def yX0_init : MethodName := ⟨RX0, "<init>", "()V"⟩
abbrev cX0_begin : ByteArray := prog_2_method_2_code
def yX0_begin : MethodName := ⟨RX0, "begin", "()V"⟩
abbrev cX0_seat : ByteArray := prog_2_method_3_code
def yX0_seat : MethodName := ⟨RX0, "seat", "(I)V"⟩
abbrev cX0_hold : ByteArray := prog_2_method_4_code
def yX0_hold : MethodName := ⟨RX0, "hold", "(LBlackBalls$Rule;I)V"⟩
abbrev cX0_putBalls : ByteArray := prog_2_method_5_code
def yX0_putBalls : MethodName := ⟨RX0, "putBalls", "()V"⟩
abbrev cX0_nextSeed : ByteArray := prog_2_method_6_code
def yX0_nextSeed : MethodName := ⟨RX0, "nextSeed", "(I)I"⟩
abbrev cX0_drawnTenth : ByteArray := prog_2_method_7_code
def yX0_drawnTenth : MethodName := ⟨RX0, "drawnTenth", "(I)I"⟩
def RX1 : String := "BlackBalls$Club"
def TX1 : u_T := fun k => match k with
  | 0 => ("BlackBalls$Club", "tastes", "[I", true)
  | 1 => ("BlackBalls$Club", "ballot", "LBlackBalls$Ballot;", true)
  | 2 => ("BlackBalls$Club", "size", "I", false)
  | 3 => ("BlackBalls$Club", "letIn", "I", false)
  | _ => ("BlackBalls$Club", "seed", "I", false)
def tyX1 : Nat → FieldType := fun k => match k with
  | 0 => .array .int
  | 1 => .object "BlackBalls$Ballot"
  | 2 => .int
  | 3 => .int
  | _ => .int
theorem nmX1 : ∀ a, a < 5 → ∀ b, b < 5 → a ≠ b → (TX1 a).2.1 ≠ (TX1 b).2.1 := by decide +kernel
theorem tyX1_ok : ∀ k, k < 5 → parseFieldDescriptor (TX1 k).2.2.1 = some (tyX1 k) := by decide +kernel
abbrev cX1_init : ByteArray := prog_3_method_1_code
def yX1_init : MethodName := ⟨RX1, "<init>", "()V"⟩
abbrev cX1_found : ByteArray := prog_3_method_2_code
def yX1_found : MethodName := ⟨RX1, "found", "(I)V"⟩
abbrev cX1_passYear : ByteArray := prog_3_method_3_code
def yX1_passYear : MethodName := ⟨RX1, "passYear", "(LBlackBalls$Rule;)V"⟩
abbrev cX1_unlikeTastes : ByteArray := prog_3_method_4_code
def yX1_unlikeTastes : MethodName := ⟨RX1, "unlikeTastes", "()I"⟩
abbrev cX1_firstGoes : ByteArray := prog_3_method_5_code
def yX1_firstGoes : MethodName := ⟨RX1, "firstGoes", "()V"⟩
abbrev cX1_drawTaste : ByteArray := prog_3_method_6_code
def yX1_drawTaste : MethodName := ⟨RX1, "drawTaste", "()I"⟩
def RX2 : String := "BlackBalls$Feared"
def TX2 : u_T := fun k => match k with
  | 0 => ("BlackBalls$Person", "number", "I", true)
  | 1 => ("BlackBalls$Person", "mindsEach", "[I", true)
  | 2 => ("BlackBalls$Person", "keptMinds", "[I", true)
  | 3 => ("BlackBalls$Person", "comesTenths", "I", false)
  | 4 => ("BlackBalls$Person", "keptComes", "I", false)
  | _ => ("BlackBalls$Person", "keptCandidates", "I", false)
def tyX2 : Nat → FieldType := fun k => match k with
  | 0 => .int
  | 1 => .array .int
  | 2 => .array .int
  | 3 => .int
  | 4 => .int
  | _ => .int
theorem nmX2 : ∀ a, a < 6 → ∀ b, b < 6 → a ≠ b → (TX2 a).2.1 ≠ (TX2 b).2.1 := by decide +kernel
theorem tyX2_ok : ∀ k, k < 6 → parseFieldDescriptor (TX2 k).2.2.1 = some (tyX2 k) := by decide +kernel
abbrev cX2_init : ByteArray := prog_4_method_1_code
def yX2_init : MethodName := ⟨RX2, "<init>", "(II)V"⟩
abbrev cX2_kind : ByteArray := prog_4_method_2_code
def yX2_kind : MethodName := ⟨RX2, "kind", "()I"⟩
abbrev cX2_blackOfStranger : ByteArray := prog_4_method_3_code
def yX2_blackOfStranger : MethodName := ⟨RX2, "blackOfStranger", "(IIZ)I"⟩
def RX3 : String := "BlackBalls$Mistaken"
def TX3 : u_T := fun k => match k with
  | 0 => ("BlackBalls$Person", "number", "I", true)
  | 1 => ("BlackBalls$Person", "mindsEach", "[I", true)
  | 2 => ("BlackBalls$Person", "keptMinds", "[I", true)
  | 3 => ("BlackBalls$Person", "comesTenths", "I", false)
  | 4 => ("BlackBalls$Person", "keptComes", "I", false)
  | 5 => ("BlackBalls$Person", "keptCandidates", "I", false)
  | _ => ("BlackBalls$Mistaken", "slips", "I", true)
def tyX3 : Nat → FieldType := fun k => match k with
  | 0 => .int
  | 1 => .array .int
  | 2 => .array .int
  | 3 => .int
  | 4 => .int
  | 5 => .int
  | _ => .int
theorem nmX3 : ∀ a, a < 7 → ∀ b, b < 7 → a ≠ b → (TX3 a).2.1 ≠ (TX3 b).2.1 := by decide +kernel
theorem tyX3_ok : ∀ k, k < 7 → parseFieldDescriptor (TX3 k).2.2.1 = some (tyX3 k) := by decide +kernel
abbrev cX3_init : ByteArray := prog_5_method_1_code
def yX3_init : MethodName := ⟨RX3, "<init>", "(III)V"⟩
abbrev cX3_kind : ByteArray := prog_5_method_2_code
def yX3_kind : MethodName := ⟨RX3, "kind", "()I"⟩
abbrev cX3_n : ByteArray := prog_5_method_3_code
def yX3_n : MethodName := ⟨RX3, "n", "()I"⟩
abbrev cX3_blackOfStranger : ByteArray := prog_5_method_4_code
def yX3_blackOfStranger : MethodName := ⟨RX3, "blackOfStranger", "(IIZ)I"⟩
def RX4 : String := "BlackBalls$Page"
def TX4 : u_T := fun k => match k with
  | 0 => ("BlackBalls$Page", "codes", "[I", true)
  | _ => ("BlackBalls$Page", "length", "I", false)
def tyX4 : Nat → FieldType := fun k => match k with
  | 0 => .array .int
  | _ => .int
theorem nmX4 : ∀ a, a < 2 → ∀ b, b < 2 → a ≠ b → (TX4 a).2.1 ≠ (TX4 b).2.1 := by decide +kernel
theorem tyX4_ok : ∀ k, k < 2 → parseFieldDescriptor (TX4 k).2.2.1 = some (tyX4 k) := by decide +kernel
abbrev cX4_init : ByteArray := prog_6_method_1_code
def yX4_init : MethodName := ⟨RX4, "<init>", "()V"⟩
abbrev cX4_write : ByteArray := prog_6_method_2_code
def yX4_write : MethodName := ⟨RX4, "write", "(J)I"⟩
abbrev cX4_wipe : ByteArray := prog_6_method_3_code
def yX4_wipe : MethodName := ⟨RX4, "wipe", "()I"⟩
abbrev cX4_firstFault : ByteArray := prog_6_method_4_code
def yX4_firstFault : MethodName := ⟨RX4, "firstFault", "()I"⟩
abbrev cX4_isRule : ByteArray := prog_6_method_5_code
def yX4_isRule : MethodName := ⟨RX4, "isRule", "()Z"⟩
abbrev cX4_toRule : ByteArray := prog_6_method_6_code
def yX4_toRule : MethodName := ⟨RX4, "toRule", "()LBlackBalls$Rule;"⟩
abbrev cX4_digestLetters : ByteArray := prog_6_method_7_code
def yX4_digestLetters : MethodName := ⟨RX4, "digestLetters", "(J)J"⟩
abbrev cX4_codeAt : ByteArray := prog_6_method_8_code
def yX4_codeAt : MethodName := ⟨RX4, "codeAt", "(I)I"⟩
abbrev cX4_codeIn : ByteArray := prog_6_method_9_code
def yX4_codeIn : MethodName := ⟨RX4, "codeIn", "(JI)I"⟩
abbrev cX4_howManyLetters : ByteArray := prog_6_method_10_code
def yX4_howManyLetters : MethodName := ⟨RX4, "howManyLetters", "(J)I"⟩
abbrev cX4_dueBehind : ByteArray := prog_6_method_11_code
def yX4_dueBehind : MethodName := ⟨RX4, "dueBehind", "(II)I"⟩
abbrev cX4_isCount : ByteArray := prog_6_method_12_code
def yX4_isCount : MethodName := ⟨RX4, "isCount", "(I)Z"⟩
def RX5 : String := "BlackBalls$Person"
def TX5 : u_T := fun k => match k with
  | 0 => ("BlackBalls$Person", "number", "I", true)
  | 1 => ("BlackBalls$Person", "mindsEach", "[I", true)
  | 2 => ("BlackBalls$Person", "keptMinds", "[I", true)
  | 3 => ("BlackBalls$Person", "comesTenths", "I", false)
  | 4 => ("BlackBalls$Person", "keptComes", "I", false)
  | _ => ("BlackBalls$Person", "keptCandidates", "I", false)
def tyX5 : Nat → FieldType := fun k => match k with
  | 0 => .int
  | 1 => .array .int
  | 2 => .array .int
  | 3 => .int
  | 4 => .int
  | _ => .int
theorem nmX5 : ∀ a, a < 6 → ∀ b, b < 6 → a ≠ b → (TX5 a).2.1 ≠ (TX5 b).2.1 := by decide +kernel
theorem tyX5_ok : ∀ k, k < 6 → parseFieldDescriptor (TX5 k).2.2.1 = some (tyX5 k) := by decide +kernel
abbrev cX5_init : ByteArray := prog_7_method_1_code
def yX5_init : MethodName := ⟨RX5, "<init>", "(II)V"⟩
abbrev cX5_kind : ByteArray := prog_7_method_2_code
def yX5_kind : MethodName := ⟨RX5, "kind", "()I"⟩
abbrev cX5_n : ByteArray := prog_7_method_3_code
def yX5_n : MethodName := ⟨RX5, "n", "()I"⟩
abbrev cX5_blackOfStranger : ByteArray := prog_7_method_4_code
def yX5_blackOfStranger : MethodName := ⟨RX5, "blackOfStranger", "(IIZ)I"⟩
abbrev cX5_blackFor : ByteArray := prog_7_method_5_code
def yX5_blackFor : MethodName := ⟨RX5, "blackFor", "(IIZ)I"⟩
abbrev cX5_mindsOf : ByteArray := prog_7_method_6_code
def yX5_mindsOf : MethodName := ⟨RX5, "mindsOf", "(I)I"⟩
abbrev cX5_mindsMuch : ByteArray := prog_7_method_7_code
def yX5_mindsMuch : MethodName := ⟨RX5, "mindsMuch", "(I)Z"⟩
abbrev cX5_mindFrom : ByteArray := prog_7_method_8_code
def yX5_mindFrom : MethodName := ⟨RX5, "mindFrom", "(II)V"⟩
abbrev cX5_keep : ByteArray := prog_7_method_9_code
def yX5_keep : MethodName := ⟨RX5, "keep", "(I)V"⟩
abbrev cX5_takeBack : ByteArray := prog_7_method_10_code
def yX5_takeBack : MethodName := ⟨RX5, "takeBack", "()V"⟩
def RX6 : String := "BlackBalls$Rule"
def TX6 : u_T := fun k => match k with
  | 0 => ("BlackBalls$Rule", "blacks", "I", true)
  | 1 => ("BlackBalls$Rule", "ratio", "I", true)
  | 2 => ("BlackBalls$Rule", "quorum", "I", true)
  | 3 => ("BlackBalls$Rule", "twice", "Z", true)
  | _ => ("BlackBalls$Rule", "countTold", "Z", true)
def tyX6 : Nat → FieldType := fun k => match k with
  | 0 => .int
  | 1 => .int
  | 2 => .int
  | 3 => .boolean
  | _ => .boolean
theorem nmX6 : ∀ a, a < 5 → ∀ b, b < 5 → a ≠ b → (TX6 a).2.1 ≠ (TX6 b).2.1 := by decide +kernel
theorem tyX6_ok : ∀ k, k < 5 → parseFieldDescriptor (TX6 k).2.2.1 = some (tyX6 k) := by decide +kernel
abbrev cX6_init : ByteArray := prog_8_method_1_code
def yX6_init : MethodName := ⟨RX6, "<init>", "(IIIZZ)V"⟩
abbrev cX6_told : ByteArray := prog_8_method_2_code
def yX6_told : MethodName := ⟨RX6, "told", "(I)I"⟩
abbrev cX6_hasQuorum : ByteArray := prog_8_method_3_code
def yX6_hasQuorum : MethodName := ⟨RX6, "hasQuorum", "(I)Z"⟩
abbrev cX6_shutsOut : ByteArray := prog_8_method_4_code
def yX6_shutsOut : MethodName := ⟨RX6, "shutsOut", "(II)Z"⟩
abbrev cX6_letsIn : ByteArray := prog_8_method_5_code
def yX6_letsIn : MethodName := ⟨RX6, "letsIn", "(II)Z"⟩
def RX7 : String := "BlackBalls$Tally"
def TX7 : u_T := fun k => match k with
  | 0 => ("BlackBalls$Tally", "ways", "[J", true)
  | 1 => ("BlackBalls$Tally", "balls", "I", false)
  | _ => ("BlackBalls$Tally", "all", "J", false)
def tyX7 : Nat → FieldType := fun k => match k with
  | 0 => .array .long
  | 1 => .int
  | _ => .long
theorem nmX7 : ∀ a, a < 3 → ∀ b, b < 3 → a ≠ b → (TX7 a).2.1 ≠ (TX7 b).2.1 := by decide +kernel
theorem tyX7_ok : ∀ k, k < 3 → parseFieldDescriptor (TX7 k).2.2.1 = some (tyX7 k) := by decide +kernel
abbrev cX7_init : ByteArray := prog_9_method_1_code
def yX7_init : MethodName := ⟨RX7, "<init>", "()V"⟩
abbrev cX7_begin : ByteArray := prog_9_method_2_code
def yX7_begin : MethodName := ⟨RX7, "begin", "()V"⟩
abbrev cX7_put : ByteArray := prog_9_method_3_code
def yX7_put : MethodName := ⟨RX7, "put", "(I)V"⟩
abbrev cX7_waysTo : ByteArray := prog_9_method_4_code
def yX7_waysTo : MethodName := ⟨RX7, "waysTo", "(I)J"⟩
abbrev cX7_all : ByteArray := prog_9_method_5_code
def yX7_all : MethodName := ⟨RX7, "all", "()J"⟩
def RX8 : String := "BlackBalls$Traded"
def TX8 : u_T := fun k => match k with
  | 0 => ("BlackBalls$Vengeful", "other", "I", true)
  | 1 => ("BlackBalls$Person", "number", "I", true)
  | 2 => ("BlackBalls$Person", "mindsEach", "[I", true)
  | 3 => ("BlackBalls$Person", "keptMinds", "[I", true)
  | 4 => ("BlackBalls$Person", "comesTenths", "I", false)
  | 5 => ("BlackBalls$Person", "keptComes", "I", false)
  | _ => ("BlackBalls$Person", "keptCandidates", "I", false)
def tyX8 : Nat → FieldType := fun k => match k with
  | 0 => .int
  | 1 => .int
  | 2 => .array .int
  | 3 => .array .int
  | 4 => .int
  | 5 => .int
  | _ => .int
theorem nmX8 : ∀ a, a < 7 → ∀ b, b < 7 → a ≠ b → (TX8 a).2.1 ≠ (TX8 b).2.1 := by decide +kernel
theorem tyX8_ok : ∀ k, k < 7 → parseFieldDescriptor (TX8 k).2.2.1 = some (tyX8 k) := by decide +kernel
abbrev cX8_init : ByteArray := prog_10_method_1_code
def yX8_init : MethodName := ⟨RX8, "<init>", "(III)V"⟩
abbrev cX8_kind : ByteArray := prog_10_method_2_code
def yX8_kind : MethodName := ⟨RX8, "kind", "()I"⟩
abbrev cX8_blackOfStranger : ByteArray := prog_10_method_3_code
def yX8_blackOfStranger : MethodName := ⟨RX8, "blackOfStranger", "(IIZ)I"⟩
def RX9 : String := "BlackBalls$Turnout"
def TX9 : u_T := fun k => match k with
  | 0 => ("BlackBalls$Turnout", "ways", "[J", true)
  | 1 => ("BlackBalls$Turnout", "asked", "I", false)
  | _ => ("BlackBalls$Turnout", "all", "J", false)
def tyX9 : Nat → FieldType := fun k => match k with
  | 0 => .array .long
  | 1 => .int
  | _ => .long
theorem nmX9 : ∀ a, a < 3 → ∀ b, b < 3 → a ≠ b → (TX9 a).2.1 ≠ (TX9 b).2.1 := by decide +kernel
theorem tyX9_ok : ∀ k, k < 3 → parseFieldDescriptor (TX9 k).2.2.1 = some (tyX9 k) := by decide +kernel
abbrev cX9_init : ByteArray := prog_11_method_1_code
def yX9_init : MethodName := ⟨RX9, "<init>", "()V"⟩
abbrev cX9_begin : ByteArray := prog_11_method_2_code
def yX9_begin : MethodName := ⟨RX9, "begin", "()V"⟩
abbrev cX9_mayCome : ByteArray := prog_11_method_3_code
def yX9_mayCome : MethodName := ⟨RX9, "mayCome", "(II)V"⟩
abbrev cX9_waysIn : ByteArray := prog_11_method_4_code
def yX9_waysIn : MethodName := ⟨RX9, "waysIn", "(LBlackBalls$Rule;)J"⟩
abbrev cX9_all : ByteArray := prog_11_method_5_code
def yX9_all : MethodName := ⟨RX9, "all", "()J"⟩
abbrev cX9_waysTo : ByteArray := prog_11_method_6_code
def yX9_waysTo : MethodName := ⟨RX9, "waysTo", "(II)J"⟩
def RX10 : String := "BlackBalls$Vengeful"
def TX10 : u_T := fun k => match k with
  | 0 => ("BlackBalls$Person", "number", "I", true)
  | 1 => ("BlackBalls$Person", "mindsEach", "[I", true)
  | 2 => ("BlackBalls$Person", "keptMinds", "[I", true)
  | 3 => ("BlackBalls$Person", "comesTenths", "I", false)
  | 4 => ("BlackBalls$Person", "keptComes", "I", false)
  | 5 => ("BlackBalls$Person", "keptCandidates", "I", false)
  | _ => ("BlackBalls$Vengeful", "other", "I", true)
def tyX10 : Nat → FieldType := fun k => match k with
  | 0 => .int
  | 1 => .array .int
  | 2 => .array .int
  | 3 => .int
  | 4 => .int
  | 5 => .int
  | _ => .int
theorem nmX10 : ∀ a, a < 7 → ∀ b, b < 7 → a ≠ b → (TX10 a).2.1 ≠ (TX10 b).2.1 := by decide +kernel
theorem tyX10_ok : ∀ k, k < 7 → parseFieldDescriptor (TX10 k).2.2.1 = some (tyX10 k) := by decide +kernel
abbrev cX10_init : ByteArray := prog_12_method_1_code
def yX10_init : MethodName := ⟨RX10, "<init>", "(III)V"⟩
abbrev cX10_kind : ByteArray := prog_12_method_2_code
def yX10_kind : MethodName := ⟨RX10, "kind", "()I"⟩
abbrev cX10_n : ByteArray := prog_12_method_3_code
def yX10_n : MethodName := ⟨RX10, "n", "()I"⟩
abbrev cX10_blackOfStranger : ByteArray := prog_12_method_4_code
def yX10_blackOfStranger : MethodName := ⟨RX10, "blackOfStranger", "(IIZ)I"⟩
def RX11 : String := "BlackBalls"
def TX11 : u_T := fun k => match k with
  | 0 => ("BlackBalls", "page", "LBlackBalls$Page;", true)
  | 1 => ("BlackBalls", "rules", "[LBlackBalls$Rule;", true)
  | 2 => ("BlackBalls", "people", "[LBlackBalls$Person;", true)
  | 3 => ("BlackBalls", "friends", "[I", true)
  | 4 => ("BlackBalls", "tally", "LBlackBalls$Tally;", true)
  | 5 => ("BlackBalls", "turnout", "LBlackBalls$Turnout;", true)
  | 6 => ("BlackBalls", "ballot", "LBlackBalls$Ballot;", true)
  | 7 => ("BlackBalls", "club", "LBlackBalls$Club;", true)
  | 8 => ("BlackBalls", "vetoRow", "[J", true)
  | 9 => ("BlackBalls", "ruleCount", "I", false)
  | 10 => ("BlackBalls", "peopleCount", "I", false)
  | 11 => ("BlackBalls", "candidateCount", "I", false)
  | _ => ("BlackBalls", "imageKept", "Z", false)
def tyX11 : Nat → FieldType := fun k => match k with
  | 0 => .object "BlackBalls$Page"
  | 1 => .array (.object "BlackBalls$Rule")
  | 2 => .array (.object "BlackBalls$Person")
  | 3 => .array .int
  | 4 => .object "BlackBalls$Tally"
  | 5 => .object "BlackBalls$Turnout"
  | 6 => .object "BlackBalls$Ballot"
  | 7 => .object "BlackBalls$Club"
  | 8 => .array .long
  | 9 => .int
  | 10 => .int
  | 11 => .int
  | _ => .boolean
theorem nmX11 : ∀ a, a < 13 → ∀ b, b < 13 → a ≠ b → (TX11 a).2.1 ≠ (TX11 b).2.1 := by decide +kernel
theorem tyX11_ok : ∀ k, k < 13 → parseFieldDescriptor (TX11 k).2.2.1 = some (tyX11 k) := by decide +kernel
abbrev cX11_init : ByteArray := prog_1_method_1_code
def yX11_init : MethodName := ⟨RX11, "<init>", "()V"⟩
abbrev cX11_letters : ByteArray := prog_1_method_2_code
def yX11_letters : MethodName := ⟨RX11, "letters", "(J)I"⟩
abbrev cX11_blank : ByteArray := prog_1_method_3_code
def yX11_blank : MethodName := ⟨RX11, "blank", "()I"⟩
abbrev cX11_fault : ByteArray := prog_1_method_4_code
def yX11_fault : MethodName := ⟨RX11, "fault", "()I"⟩
abbrev cX11_rule : ByteArray := prog_1_method_5_code
def yX11_rule : MethodName := ⟨RX11, "rule", "()I"⟩
abbrev cX11_ruleTold : ByteArray := prog_1_method_6_code
def yX11_ruleTold : MethodName := ⟨RX11, "ruleTold", "(II)I"⟩
abbrev cX11_member : ByteArray := prog_1_method_7_code
def yX11_member : MethodName := ⟨RX11, "member", "(III)I"⟩
abbrev cX11_as : ByteArray := prog_1_method_8_code
def yX11_as : MethodName := ⟨RX11, "as", "(II)I"⟩
abbrev cX11_about : ByteArray := prog_1_method_9_code
def yX11_about : MethodName := ⟨RX11, "about", "(II)I"⟩
abbrev cX11_comes : ByteArray := prog_1_method_10_code
def yX11_comes : MethodName := ⟨RX11, "comes", "(II)I"⟩
abbrev cX11_candidate : ByteArray := prog_1_method_11_code
def yX11_candidate : MethodName := ⟨RX11, "candidate", "(I)I"⟩
abbrev cX11_minds : ByteArray := prog_1_method_12_code
def yX11_minds : MethodName := ⟨RX11, "minds", "(III)I"⟩
abbrev cX11_friend : ByteArray := prog_1_method_13_code
def yX11_friend : MethodName := ⟨RX11, "friend", "(II)I"⟩
abbrev cX11_black : ByteArray := prog_1_method_14_code
def yX11_black : MethodName := ⟨RX11, "black", "(IIII)I"⟩
abbrev cX11_balls : ByteArray := prog_1_method_15_code
def yX11_balls : MethodName := ⟨RX11, "balls", "(IIIII)I"⟩
abbrev cX11_in : ByteArray := prog_1_method_16_code
def yX11_in : MethodName := ⟨RX11, "in", "(IIII)J"⟩
abbrev cX11_large : ByteArray := prog_1_method_17_code
def yX11_large : MethodName := ⟨RX11, "large", "(III)J"⟩
abbrev cX11_wrong : ByteArray := prog_1_method_18_code
def yX11_wrong : MethodName := ⟨RX11, "wrong", "(II)J"⟩
abbrev cX11_best : ByteArray := prog_1_method_19_code
def yX11_best : MethodName := ⟨RX11, "best", "(I)I"⟩
abbrev cX11_who : ByteArray := prog_1_method_20_code
def yX11_who : MethodName := ⟨RX11, "who", "(IIIIII)I"⟩
abbrev cX11_heard : ByteArray := prog_1_method_21_code
def yX11_heard : MethodName := ⟨RX11, "heard", "(IIIIIZI)I"⟩
abbrev cX11_sway : ByteArray := prog_1_method_22_code
def yX11_sway : MethodName := ⟨RX11, "sway", "(III)I"⟩
abbrev cX11_word : ByteArray := prog_1_method_23_code
def yX11_word : MethodName := ⟨RX11, "word", "(III)I"⟩
abbrev cX11_seen : ByteArray := prog_1_method_24_code
def yX11_seen : MethodName := ⟨RX11, "seen", "(IIII)J"⟩
abbrev cX11_evening : ByteArray := prog_1_method_25_code
def yX11_evening : MethodName := ⟨RX11, "evening", "(IIIII)I"⟩
abbrev cX11_trade : ByteArray := prog_1_method_26_code
def yX11_trade : MethodName := ⟨RX11, "trade", "(IIIII)I"⟩
abbrev cX11_veto : ByteArray := prog_1_method_27_code
def yX11_veto : MethodName := ⟨RX11, "veto", "(III)I"⟩
abbrev cX11_worth : ByteArray := prog_1_method_28_code
def yX11_worth : MethodName := ⟨RX11, "worth", "(III)J"⟩
abbrev cX11_years : ByteArray := prog_1_method_29_code
def yX11_years : MethodName := ⟨RX11, "years", "(IIII)I"⟩
abbrev cX11_lot : ByteArray := prog_1_method_30_code
def yX11_lot : MethodName := ⟨RX11, "lot", "(II)I"⟩
abbrev cX11_image : ByteArray := prog_1_method_31_code
def yX11_image : MethodName := ⟨RX11, "image", "()I"⟩
abbrev cX11_restore : ByteArray := prog_1_method_32_code
def yX11_restore : MethodName := ⟨RX11, "restore", "()I"⟩
abbrev cX11_count : ByteArray := prog_1_method_33_code
def yX11_count : MethodName := ⟨RX11, "count", "(I)I"⟩
abbrev cX11_digest : ByteArray := prog_1_method_34_code
def yX11_digest : MethodName := ⟨RX11, "digest", "()J"⟩
abbrev cX11_ruleAt : ByteArray := prog_1_method_35_code
def yX11_ruleAt : MethodName := ⟨RX11, "ruleAt", "(I)LBlackBalls$Rule;"⟩
abbrev cX11_personAt : ByteArray := prog_1_method_36_code
def yX11_personAt : MethodName := ⟨RX11, "personAt", "(I)LBlackBalls$Person;"⟩
abbrev cX11_isCandidate : ByteArray := prog_1_method_37_code
def yX11_isCandidate : MethodName := ⟨RX11, "isCandidate", "(I)Z"⟩
abbrev cX11_friendOf : ByteArray := prog_1_method_38_code
def yX11_friendOf : MethodName := ⟨RX11, "friendOf", "(I)I"⟩
abbrev cX11_everybody : ByteArray := prog_1_method_39_code
def yX11_everybody : MethodName := ⟨RX11, "everybody", "()I"⟩
abbrev cX11_areComers : ByteArray := prog_1_method_40_code
def yX11_areComers : MethodName := ⟨RX11, "areComers", "(I)Z"⟩
abbrev cX11_isOneOf : ByteArray := prog_1_method_41_code
def yX11_isOneOf : MethodName := ⟨RX11, "isOneOf", "(II)Z"⟩
abbrev cX11_isPart : ByteArray := prog_1_method_42_code
def yX11_isPart : MethodName := ⟨RX11, "isPart", "(I)Z"⟩
abbrev cX11_within : ByteArray := prog_1_method_43_code
def yX11_within : MethodName := ⟨RX11, "within", "(III)Z"⟩
abbrev cX11_newPerson : ByteArray := prog_1_method_44_code
def yX11_newPerson : MethodName := ⟨RX11, "newPerson", "(III)LBlackBalls$Person;"⟩
abbrev cX11_isSuch : ByteArray := prog_1_method_45_code
def yX11_isSuch : MethodName := ⟨RX11, "isSuch", "(LBlackBalls$Person;I)Z"⟩
abbrev cX11_howManyMindMuch : ByteArray := prog_1_method_46_code
def yX11_howManyMindMuch : MethodName := ⟨RX11, "howManyMindMuch", "(I)I"⟩
abbrev cX11_isMinded : ByteArray := prog_1_method_47_code
def yX11_isMinded : MethodName := ⟨RX11, "isMinded", "(I)Z"⟩
abbrev cX11_howManyMinded : ByteArray := prog_1_method_48_code
def yX11_howManyMinded : MethodName := ⟨RX11, "howManyMinded", "()I"⟩
abbrev cX11_isWatched : ByteArray := prog_1_method_49_code
def yX11_isWatched : MethodName := ⟨RX11, "isWatched", "(LBlackBalls$Rule;I)Z"⟩
abbrev cX11_blackOf : ByteArray := prog_1_method_50_code
def yX11_blackOf : MethodName := ⟨RX11, "blackOf", "(LBlackBalls$Person;IZ)I"⟩
abbrev cX11_tallyBalls : ByteArray := prog_1_method_51_code
def yX11_tallyBalls : MethodName := ⟨RX11, "tallyBalls", "(IIZ)V"⟩
abbrev cX11_inWays : ByteArray := prog_1_method_52_code
def yX11_inWays : MethodName := ⟨RX11, "inWays", "(LBlackBalls$Rule;II)J"⟩
abbrev cX11_squaredTens : ByteArray := prog_1_method_53_code
def yX11_squaredTens : MethodName := ⟨RX11, "squaredTens", "(I)J"⟩
abbrev cX11_wrongWays : ByteArray := prog_1_method_54_code
def yX11_wrongWays : MethodName := ⟨RX11, "wrongWays", "(LBlackBalls$Rule;I)J"⟩
abbrev cX11_withdraws : ByteArray := prog_1_method_55_code
def yX11_withdraws : MethodName := ⟨RX11, "withdraws", "(JII)Z"⟩
abbrev cX11_letInByOneBall : ByteArray := prog_1_method_56_code
def yX11_letInByOneBall : MethodName := ⟨RX11, "letInByOneBall", "(LBlackBalls$Rule;III)I"⟩
abbrev cX11_gain : ByteArray := prog_1_method_57_code
def yX11_gain : MethodName := ⟨RX11, "gain", "(LBlackBalls$Person;IIIII)I"⟩
abbrev cX11_expectVetoes : ByteArray := prog_1_method_58_code
def yX11_expectVetoes : MethodName := ⟨RX11, "expectVetoes", "(I)J"⟩
abbrev cX11_digestRules : ByteArray := prog_1_method_59_code
def yX11_digestRules : MethodName := ⟨RX11, "digestRules", "(J)J"⟩
abbrev cX11_digestPeople : ByteArray := prog_1_method_60_code
def yX11_digestPeople : MethodName := ⟨RX11, "digestPeople", "(J)J"⟩
abbrev cX11_digestCandidates : ByteArray := prog_1_method_61_code
def yX11_digestCandidates : MethodName := ⟨RX11, "digestCandidates", "(J)J"⟩
abbrev cX11_digestIn : ByteArray := prog_1_method_62_code
def yX11_digestIn : MethodName := ⟨RX11, "digestIn", "(J)J"⟩
abbrev cX11_mix : ByteArray := prog_1_method_63_code
def yX11_mix : MethodName := ⟨RX11, "mix", "(JJ)J"⟩
abbrev cX11_power : ByteArray := prog_1_method_64_code
def yX11_power : MethodName := ⟨RX11, "power", "(JI)J"⟩
abbrev cX11_commonDivisor : ByteArray := prog_1_method_65_code
def yX11_commonDivisor : MethodName := ⟨RX11, "commonDivisor", "(JJ)J"⟩
abbrev cX11_lowest : ByteArray := prog_1_method_66_code
def yX11_lowest : MethodName := ⟨RX11, "lowest", "(JJI)J"⟩
def RX12 : String := "BlackBallsModel"
def TX12 : u_T := fun k => match k with
  | 0 => ("BlackBallsModel", "members", "I", false)
  | 1 => ("BlackBallsModel", "kindOf", "[I", true)
  | 2 => ("BlackBallsModel", "numberOf", "[I", true)
  | 3 => ("BlackBallsModel", "comesOf", "[I", true)
  | 4 => ("BlackBallsModel", "candidates", "I", false)
  | 5 => ("BlackBallsModel", "friendOf", "[I", true)
  | 6 => ("BlackBallsModel", "mindsOf", "[I", true)
  | 7 => ("BlackBallsModel", "rules", "I", false)
  | 8 => ("BlackBallsModel", "blacksOf", "[I", true)
  | 9 => ("BlackBallsModel", "ratioOf", "[I", true)
  | 10 => ("BlackBallsModel", "quorumOf", "[I", true)
  | 11 => ("BlackBallsModel", "isTwice", "[Z", true)
  | 12 => ("BlackBallsModel", "isTold", "[Z", true)
  | 13 => ("BlackBallsModel", "pageLength", "I", false)
  | 14 => ("BlackBallsModel", "page", "[B", true)
  | 15 => ("BlackBallsModel", "isKept", "Z", false)
  | 16 => ("BlackBallsModel", "keptMembers", "I", false)
  | 17 => ("BlackBallsModel", "keptCandidates", "I", false)
  | 18 => ("BlackBallsModel", "keptComes", "[I", true)
  | 19 => ("BlackBallsModel", "keptMinds", "[I", true)
  | 20 => ("BlackBallsModel", "faultAt", "I", false)
  | 21 => ("BlackBallsModel", "isWhole", "Z", false)
  | 22 => ("BlackBallsModel", "newBlacks", "I", false)
  | 23 => ("BlackBallsModel", "newRatio", "I", false)
  | 24 => ("BlackBallsModel", "newQuorum", "I", false)
  | 25 => ("BlackBallsModel", "newTwice", "Z", false)
  | 26 => ("BlackBallsModel", "newTold", "Z", false)
  | 27 => ("BlackBallsModel", "ways", "[J", true)
  | 28 => ("BlackBallsModel", "seedNow", "J", false)
  | 29 => ("BlackBallsModel", "tradeX", "I", false)
  | 30 => ("BlackBallsModel", "tradeY", "I", false)
  | 31 => ("BlackBallsModel", "tradeA", "I", false)
  | 32 => ("BlackBallsModel", "tradeB", "I", false)
  | 33 => ("BlackBallsModel", "expected", "[J", true)
  | 34 => ("BlackBallsModel", "people", "I", false)
  | 35 => ("BlackBallsModel", "taste", "[I", true)
  | _ => ("BlackBallsModel", "h", "J", false)
def tyX12 : Nat → FieldType := fun k => match k with
  | 0 => .int
  | 1 => .array .int
  | 2 => .array .int
  | 3 => .array .int
  | 4 => .int
  | 5 => .array .int
  | 6 => .array .int
  | 7 => .int
  | 8 => .array .int
  | 9 => .array .int
  | 10 => .array .int
  | 11 => .array .boolean
  | 12 => .array .boolean
  | 13 => .int
  | 14 => .array .byte
  | 15 => .boolean
  | 16 => .int
  | 17 => .int
  | 18 => .array .int
  | 19 => .array .int
  | 20 => .int
  | 21 => .boolean
  | 22 => .int
  | 23 => .int
  | 24 => .int
  | 25 => .boolean
  | 26 => .boolean
  | 27 => .array .long
  | 28 => .long
  | 29 => .int
  | 30 => .int
  | 31 => .int
  | 32 => .int
  | 33 => .array .long
  | 34 => .int
  | 35 => .array .int
  | _ => .long
theorem nmX12 : ∀ a, a < 37 → ∀ b, b < 37 → a ≠ b → (TX12 a).2.1 ≠ (TX12 b).2.1 := by decide +kernel
theorem tyX12_ok : ∀ k, k < 37 → parseFieldDescriptor (TX12 k).2.2.1 = some (tyX12 k) := by decide +kernel
abbrev cX12_init : ByteArray := prog_14_method_1_code
def yX12_init : MethodName := ⟨RX12, "<init>", "()V"⟩
abbrev cX12_within : ByteArray := prog_14_method_3_code
def yX12_within : MethodName := ⟨RX12, "within", "(III)Z"⟩
abbrev cX12_has : ByteArray := prog_14_method_4_code
def yX12_has : MethodName := ⟨RX12, "has", "(II)Z"⟩
abbrev cX12_ones : ByteArray := prog_14_method_5_code
def yX12_ones : MethodName := ⟨RX12, "ones", "(I)I"⟩
abbrev cX12_isPart : ByteArray := prog_14_method_6_code
def yX12_isPart : MethodName := ⟨RX12, "isPart", "(I)Z"⟩
abbrev cX12_lowest : ByteArray := prog_14_method_7_code
def yX12_lowest : MethodName := ⟨RX12, "lowest", "(JJI)J"⟩
abbrev cX12_tens : ByteArray := prog_14_method_8_code
def yX12_tens : MethodName := ⟨RX12, "tens", "(I)J"⟩
abbrev cX12_letters : ByteArray := prog_14_method_9_code
def yX12_letters : MethodName := ⟨RX12, "letters", "(J)I"⟩
abbrev cX12_blank : ByteArray := prog_14_method_10_code
def yX12_blank : MethodName := ⟨RX12, "blank", "()I"⟩
abbrev cX12_isDigit : ByteArray := prog_14_method_11_code
def yX12_isDigit : MethodName := ⟨RX12, "isDigit", "(I)Z"⟩
abbrev cX12_next : ByteArray := prog_14_method_12_code
def yX12_next : MethodName := ⟨RX12, "next", "(II)I"⟩
abbrev cX12_nextRatio : ByteArray := prog_14_method_13_code
def yX12_nextRatio : MethodName := ⟨RX12, "nextRatio", "(I)I"⟩
abbrev cX12_readPage : ByteArray := prog_14_method_14_code
def yX12_readPage : MethodName := ⟨RX12, "readPage", "()V"⟩
abbrev cX12_fault : ByteArray := prog_14_method_15_code
def yX12_fault : MethodName := ⟨RX12, "fault", "()I"⟩
abbrev cX12_rule : ByteArray := prog_14_method_16_code
def yX12_rule : MethodName := ⟨RX12, "rule", "()I"⟩
abbrev cX12_isRule : ByteArray := prog_14_method_17_code
def yX12_isRule : MethodName := ⟨RX12, "isRule", "(I)Z"⟩
abbrev cX12_ruleNow : ByteArray := prog_14_method_18_code
def yX12_ruleNow : MethodName := ⟨RX12, "ruleNow", "(II)I"⟩
abbrev cX12_ruleTold : ByteArray := prog_14_method_19_code
def yX12_ruleTold : MethodName := ⟨RX12, "ruleTold", "(II)I"⟩
abbrev cX12_isMember : ByteArray := prog_14_method_20_code
def yX12_isMember : MethodName := ⟨RX12, "isMember", "(I)Z"⟩
abbrev cX12_isCandidate : ByteArray := prog_14_method_21_code
def yX12_isCandidate : MethodName := ⟨RX12, "isCandidate", "(I)Z"⟩
abbrev cX12_member : ByteArray := prog_14_method_22_code
def yX12_member : MethodName := ⟨RX12, "member", "(III)I"⟩
abbrev cX12_as : ByteArray := prog_14_method_23_code
def yX12_as : MethodName := ⟨RX12, "as", "(II)I"⟩
abbrev cX12_memberNow : ByteArray := prog_14_method_24_code
def yX12_memberNow : MethodName := ⟨RX12, "memberNow", "(II)I"⟩
abbrev cX12_about : ByteArray := prog_14_method_25_code
def yX12_about : MethodName := ⟨RX12, "about", "(II)I"⟩
abbrev cX12_comes : ByteArray := prog_14_method_26_code
def yX12_comes : MethodName := ⟨RX12, "comes", "(II)I"⟩
abbrev cX12_candidate : ByteArray := prog_14_method_27_code
def yX12_candidate : MethodName := ⟨RX12, "candidate", "(I)I"⟩
abbrev cX12_minds : ByteArray := prog_14_method_28_code
def yX12_minds : MethodName := ⟨RX12, "minds", "(III)I"⟩
abbrev cX12_mindedBy : ByteArray := prog_14_method_29_code
def yX12_mindedBy : MethodName := ⟨RX12, "mindedBy", "(I)I"⟩
abbrev cX12_isMinded : ByteArray := prog_14_method_30_code
def yX12_isMinded : MethodName := ⟨RX12, "isMinded", "(I)Z"⟩
abbrev cX12_candidateNow : ByteArray := prog_14_method_31_code
def yX12_candidateNow : MethodName := ⟨RX12, "candidateNow", "(II)I"⟩
abbrev cX12_friend : ByteArray := prog_14_method_32_code
def yX12_friend : MethodName := ⟨RX12, "friend", "(II)I"⟩
abbrev cX12_areComers : ByteArray := prog_14_method_33_code
def yX12_areComers : MethodName := ⟨RX12, "areComers", "(I)Z"⟩
abbrev cX12_blackBy : ByteArray := prog_14_method_34_code
def yX12_blackBy : MethodName := ⟨RX12, "blackBy", "(IIII)I"⟩
abbrev cX12_black : ByteArray := prog_14_method_35_code
def yX12_black : MethodName := ⟨RX12, "black", "(IIII)I"⟩
abbrev cX12_layWays : ByteArray := prog_14_method_36_code
def yX12_layWays : MethodName := ⟨RX12, "layWays", "(IIIII)V"⟩
abbrev cX12_shuts : ByteArray := prog_14_method_37_code
def yX12_shuts : MethodName := ⟨RX12, "shuts", "(III)Z"⟩
abbrev cX12_shutBy : ByteArray := prog_14_method_38_code
def yX12_shutBy : MethodName := ⟨RX12, "shutBy", "(IIII)J"⟩
abbrev cX12_inBy : ByteArray := prog_14_method_39_code
def yX12_inBy : MethodName := ⟨RX12, "inBy", "(III)J"⟩
abbrev cX12_areThere : ByteArray := prog_14_method_40_code
def yX12_areThere : MethodName := ⟨RX12, "areThere", "(II)Z"⟩
abbrev cX12_balls : ByteArray := prog_14_method_41_code
def yX12_balls : MethodName := ⟨RX12, "balls", "(IIIII)I"⟩
abbrev cX12_in : ByteArray := prog_14_method_42_code
def yX12_in : MethodName := ⟨RX12, "in", "(IIII)J"⟩
abbrev cX12_comesBy : ByteArray := prog_14_method_43_code
def yX12_comesBy : MethodName := ⟨RX12, "comesBy", "(I)J"⟩
abbrev cX12_large : ByteArray := prog_14_method_44_code
def yX12_large : MethodName := ⟨RX12, "large", "(III)J"⟩
abbrev cX12_wrongBy : ByteArray := prog_14_method_45_code
def yX12_wrongBy : MethodName := ⟨RX12, "wrongBy", "(II)J"⟩
abbrev cX12_wrong : ByteArray := prog_14_method_46_code
def yX12_wrong : MethodName := ⟨RX12, "wrong", "(II)J"⟩
abbrev cX12_best : ByteArray := prog_14_method_47_code
def yX12_best : MethodName := ⟨RX12, "best", "(I)I"⟩
abbrev cX12_isAsked : ByteArray := prog_14_method_48_code
def yX12_isAsked : MethodName := ⟨RX12, "isAsked", "(III)Z"⟩
abbrev cX12_who : ByteArray := prog_14_method_49_code
def yX12_who : MethodName := ⟨RX12, "who", "(IIIIII)I"⟩
abbrev cX12_heard : ByteArray := prog_14_method_50_code
def yX12_heard : MethodName := ⟨RX12, "heard", "(IIIIIZI)I"⟩
abbrev cX12_sway : ByteArray := prog_14_method_51_code
def yX12_sway : MethodName := ⟨RX12, "sway", "(III)I"⟩
abbrev cX12_withdraws : ByteArray := prog_14_method_52_code
def yX12_withdraws : MethodName := ⟨RX12, "withdraws", "(IIII)Z"⟩
abbrev cX12_word : ByteArray := prog_14_method_53_code
def yX12_word : MethodName := ⟨RX12, "word", "(III)I"⟩
abbrev cX12_seen : ByteArray := prog_14_method_54_code
def yX12_seen : MethodName := ⟨RX12, "seen", "(IIII)J"⟩
abbrev cX12_draw : ByteArray := prog_14_method_55_code
def yX12_draw : MethodName := ⟨RX12, "draw", "(I)I"⟩
abbrev cX12_goRound : ByteArray := prog_14_method_56_code
def yX12_goRound : MethodName := ⟨RX12, "goRound", "(III)I"⟩
abbrev cX12_evening : ByteArray := prog_14_method_57_code
def yX12_evening : MethodName := ⟨RX12, "evening", "(IIIII)I"⟩
abbrev cX12_isInBy : ByteArray := prog_14_method_58_code
def yX12_isInBy : MethodName := ⟨RX12, "isInBy", "(IIIII)Z"⟩
abbrev cX12_gain : ByteArray := prog_14_method_59_code
def yX12_gain : MethodName := ⟨RX12, "gain", "(III)I"⟩
abbrev cX12_trade : ByteArray := prog_14_method_60_code
def yX12_trade : MethodName := ⟨RX12, "trade", "(IIIII)I"⟩
abbrev cX12_elevens : ByteArray := prog_14_method_61_code
def yX12_elevens : MethodName := ⟨RX12, "elevens", "(I)J"⟩
abbrev cX12_isUsed : ByteArray := prog_14_method_62_code
def yX12_isUsed : MethodName := ⟨RX12, "isUsed", "(III)Z"⟩
abbrev cX12_layVetoes : ByteArray := prog_14_method_63_code
def yX12_layVetoes : MethodName := ⟨RX12, "layVetoes", "(I)V"⟩
abbrev cX12_veto : ByteArray := prog_14_method_64_code
def yX12_veto : MethodName := ⟨RX12, "veto", "(III)I"⟩
abbrev cX12_worth : ByteArray := prog_14_method_65_code
def yX12_worth : MethodName := ⟨RX12, "worth", "(III)J"⟩
abbrev cX12_clubRound : ByteArray := prog_14_method_66_code
def yX12_clubRound : MethodName := ⟨RX12, "clubRound", "(I)I"⟩
abbrev cX12_isLetIn : ByteArray := prog_14_method_67_code
def yX12_isLetIn : MethodName := ⟨RX12, "isLetIn", "(II)Z"⟩
abbrev cX12_unlike : ByteArray := prog_14_method_68_code
def yX12_unlike : MethodName := ⟨RX12, "unlike", "()I"⟩
abbrev cX12_years : ByteArray := prog_14_method_69_code
def yX12_years : MethodName := ⟨RX12, "years", "(IIII)I"⟩
abbrev cX12_mindedMany : ByteArray := prog_14_method_70_code
def yX12_mindedMany : MethodName := ⟨RX12, "mindedMany", "()I"⟩
abbrev cX12_lot : ByteArray := prog_14_method_71_code
def yX12_lot : MethodName := ⟨RX12, "lot", "(II)I"⟩
abbrev cX12_image : ByteArray := prog_14_method_72_code
def yX12_image : MethodName := ⟨RX12, "image", "()I"⟩
abbrev cX12_restore : ByteArray := prog_14_method_73_code
def yX12_restore : MethodName := ⟨RX12, "restore", "()I"⟩
abbrev cX12_howMany : ByteArray := prog_14_method_74_code
def yX12_howMany : MethodName := ⟨RX12, "howMany", "(I)I"⟩
abbrev cX12_count : ByteArray := prog_14_method_75_code
def yX12_count : MethodName := ⟨RX12, "count", "(I)I"⟩
abbrev cX12_mix : ByteArray := prog_14_method_76_code
def yX12_mix : MethodName := ⟨RX12, "mix", "(J)V"⟩
abbrev cX12_mixIns : ByteArray := prog_14_method_77_code
def yX12_mixIns : MethodName := ⟨RX12, "mixIns", "()V"⟩
abbrev cX12_digest : ByteArray := prog_14_method_78_code
def yX12_digest : MethodName := ⟨RX12, "digest", "()J"⟩
def RJ6 : String := "java/lang/Integer"
def TJ6 : u_T := fun k => match k with
  | _ => ("", "", "", false)
def tyJ6 : Nat → FieldType := fun k => match k with
  | _ => .int
abbrev cJ6_bitCount_0f7a4 : ByteArray := prog_15_method_49_code
def yJ6_bitCount_0f7a4 : MethodName := ⟨RJ6, "bitCount", "(I)I"⟩
def RJ9 : String := "java/lang/Math"
def TJ9 : u_T := fun k => match k with
  | _ => ("", "", "", false)
def tyJ9 : Nat → FieldType := fun k => match k with
  | _ => .int
abbrev cJ9_abs_0f7a4 : ByteArray := prog_16_method_59_code
def yJ9_abs_0f7a4 : MethodName := ⟨RJ9, "abs", "(I)I"⟩
abbrev cJ9_abs_067f4 : ByteArray := prog_16_method_61_code
def yJ9_abs_067f4 : MethodName := ⟨RJ9, "abs", "(J)J"⟩
abbrev cJ9_max_f86c9 : ByteArray := prog_16_method_66_code
def yJ9_max_f86c9 : MethodName := ⟨RJ9, "max", "(JJ)J"⟩
abbrev cJ9_min_7cf53 : ByteArray := prog_16_method_69_code
def yJ9_min_7cf53 : MethodName := ⟨RJ9, "min", "(II)I"⟩
def RJ10 : String := "java/lang/System"
def TJ10 : u_T := fun k => match k with
  | _ => ("", "", "", false)
def tyJ10 : Nat → FieldType := fun k => match k with
  | _ => .int
def RJ7 : String := "java/util/Arrays"
def TJ7 : u_T := fun k => match k with
  | _ => ("", "", "", false)
def tyJ7 : Nat → FieldType := fun k => match k with
  | _ => .int
abbrev cJ7_fill_d0a16 : ByteArray := prog_18_method_101_code
def yJ7_fill_d0a16 : MethodName := ⟨RJ7, "fill", "([JJ)V"⟩
def RL : String := "BlackBallsLaw"
abbrev cL_law : ByteArray := code
def yL_law : MethodName := ⟨RL, "law", "([I)Z"⟩
abbrev vwCl : List vw_C := [(RX0, TX0, 5), (RX1, TX1, 5), (RX2, TX2, 6), (RX3, TX3, 7), (RX4, TX4, 2), (RX5, TX5, 6), (RX6, TX6, 5), (RX7, TX7, 3), (RX8, TX8, 7), (RX9, TX9, 3), (RX10, TX10, 7), (RX11, TX11, 13), (RX12, TX12, 37)]
end
section
theorem dX0_init_0 : decode cX0_init 0 = .ok (.aload_n 0, 1) := by decide +kernel
theorem dX0_init_1 : decode cX0_init 1 = .ok (.invokespecial 3, 3) := by decide +kernel
theorem dX0_init_4 : decode cX0_init 4 = .ok (.aload_n 0, 1) := by decide +kernel
theorem dX0_init_5 : decode cX0_init 5 = .ok (.bipush 8, 2) := by decide +kernel
theorem dX0_init_7 : decode cX0_init 7 = .ok (.newarray .int, 2) := by decide +kernel
theorem dX0_init_9 : decode cX0_init 9 = .ok (.putfield 9, 3) := by decide +kernel
theorem dX0_init_12 : decode cX0_init 12 = .ok (.return_, 1) := by decide +kernel
theorem dX0_begin_0 : decode cX0_begin 0 = .ok (.aload_n 0, 1) := by decide +kernel
theorem dX0_begin_1 : decode cX0_begin 1 = .ok (.iconst 0, 1) := by decide +kernel
theorem dX0_begin_2 : decode cX0_begin 2 = .ok (.putfield 15, 3) := by decide +kernel
theorem dX0_begin_5 : decode cX0_begin 5 = .ok (.return_, 1) := by decide +kernel
theorem dX0_seat_0 : decode cX0_seat 0 = .ok (.aload_n 0, 1) := by decide +kernel
theorem dX0_seat_1 : decode cX0_seat 1 = .ok (.getfield 15, 3) := by decide +kernel
theorem dX0_seat_4 : decode cX0_seat 4 = .ok (.bipush 8, 2) := by decide +kernel
theorem dX0_seat_6 : decode cX0_seat 6 = .ok (.if_icmp .ge 23, 3) := by decide +kernel
theorem dX0_seat_9 : decode cX0_seat 9 = .ok (.aload_n 0, 1) := by decide +kernel
theorem dX0_seat_10 : decode cX0_seat 10 = .ok (.getfield 9, 3) := by decide +kernel
theorem dX0_seat_13 : decode cX0_seat 13 = .ok (.aload_n 0, 1) := by decide +kernel
theorem dX0_seat_14 : decode cX0_seat 14 = .ok (.getfield 15, 3) := by decide +kernel
theorem dX0_seat_17 : decode cX0_seat 17 = .ok (.iload_n 1, 1) := by decide +kernel
theorem dX0_seat_18 : decode cX0_seat 18 = .ok (.iastore, 1) := by decide +kernel
theorem dX0_seat_19 : decode cX0_seat 19 = .ok (.aload_n 0, 1) := by decide +kernel
theorem dX0_seat_20 : decode cX0_seat 20 = .ok (.dup, 1) := by decide +kernel
theorem dX0_seat_21 : decode cX0_seat 21 = .ok (.getfield 15, 3) := by decide +kernel
theorem dX0_seat_24 : decode cX0_seat 24 = .ok (.iconst 1, 1) := by decide +kernel
theorem dX0_seat_25 : decode cX0_seat 25 = .ok (.iadd, 1) := by decide +kernel
theorem dX0_seat_26 : decode cX0_seat 26 = .ok (.putfield 15, 3) := by decide +kernel
theorem dX0_seat_29 : decode cX0_seat 29 = .ok (.return_, 1) := by decide +kernel
theorem dX0_hold_0 : decode cX0_hold 0 = .ok (.aload_n 0, 1) := by decide +kernel
theorem dX0_hold_1 : decode cX0_hold 1 = .ok (.iload_n 2, 1) := by decide +kernel
theorem dX0_hold_2 : decode cX0_hold 2 = .ok (.putfield 19, 3) := by decide +kernel
theorem dX0_hold_5 : decode cX0_hold 5 = .ok (.aload_n 0, 1) := by decide +kernel
theorem dX0_hold_6 : decode cX0_hold 6 = .ok (.iconst (-1), 1) := by decide +kernel
theorem dX0_hold_7 : decode cX0_hold 7 = .ok (.putfield 22, 3) := by decide +kernel
theorem dX0_hold_10 : decode cX0_hold 10 = .ok (.aload_n 0, 1) := by decide +kernel
theorem dX0_hold_11 : decode cX0_hold 11 = .ok (.iconst 0, 1) := by decide +kernel
theorem dX0_hold_12 : decode cX0_hold 12 = .ok (.putfield 25, 3) := by decide +kernel
theorem dX0_hold_15 : decode cX0_hold 15 = .ok (.aload_n 1, 1) := by decide +kernel
theorem dX0_hold_16 : decode cX0_hold 16 = .ok (.aload_n 0, 1) := by decide +kernel
theorem dX0_hold_17 : decode cX0_hold 17 = .ok (.getfield 15, 3) := by decide +kernel
theorem dX0_hold_20 : decode cX0_hold 20 = .ok (.invokevirtual 29, 3) := by decide +kernel
theorem dX0_hold_23 : decode cX0_hold 23 = .ok (.ifCond .ne 4, 3) := by decide +kernel
theorem dX0_hold_26 : decode cX0_hold 26 = .ok (.return_, 1) := by decide +kernel
theorem dX0_hold_27 : decode cX0_hold 27 = .ok (.aload_n 0, 1) := by decide +kernel
theorem dX0_hold_28 : decode cX0_hold 28 = .ok (.invokevirtual 35, 3) := by decide +kernel
theorem dX0_hold_31 : decode cX0_hold 31 = .ok (.aload_n 1, 1) := by decide +kernel
theorem dX0_hold_32 : decode cX0_hold 32 = .ok (.getfield 38, 3) := by decide +kernel
theorem dX0_hold_35 : decode cX0_hold 35 = .ok (.ifCond .eq 22, 3) := by decide +kernel
theorem dX0_hold_38 : decode cX0_hold 38 = .ok (.aload_n 1, 1) := by decide +kernel
theorem dX0_hold_39 : decode cX0_hold 39 = .ok (.aload_n 0, 1) := by decide +kernel
theorem dX0_hold_40 : decode cX0_hold 40 = .ok (.getfield 22, 3) := by decide +kernel
theorem dX0_hold_43 : decode cX0_hold 43 = .ok (.aload_n 0, 1) := by decide +kernel
theorem dX0_hold_44 : decode cX0_hold 44 = .ok (.getfield 15, 3) := by decide +kernel
theorem dX0_hold_47 : decode cX0_hold 47 = .ok (.invokevirtual 41, 3) := by decide +kernel
theorem dX0_hold_50 : decode cX0_hold 50 = .ok (.ifCond .eq 7, 3) := by decide +kernel
theorem dX0_hold_53 : decode cX0_hold 53 = .ok (.aload_n 0, 1) := by decide +kernel
theorem dX0_hold_54 : decode cX0_hold 54 = .ok (.invokevirtual 35, 3) := by decide +kernel
theorem dX0_hold_57 : decode cX0_hold 57 = .ok (.aload_n 0, 1) := by decide +kernel
theorem dX0_hold_58 : decode cX0_hold 58 = .ok (.aload_n 1, 1) := by decide +kernel
theorem dX0_hold_59 : decode cX0_hold 59 = .ok (.aload_n 0, 1) := by decide +kernel
theorem dX0_hold_60 : decode cX0_hold 60 = .ok (.getfield 22, 3) := by decide +kernel
theorem dX0_hold_63 : decode cX0_hold 63 = .ok (.aload_n 0, 1) := by decide +kernel
theorem dX0_hold_64 : decode cX0_hold 64 = .ok (.getfield 15, 3) := by decide +kernel
theorem dX0_hold_67 : decode cX0_hold 67 = .ok (.invokevirtual 41, 3) := by decide +kernel
theorem dX0_hold_70 : decode cX0_hold 70 = .ok (.ifCond .ne 7, 3) := by decide +kernel
theorem dX0_hold_73 : decode cX0_hold 73 = .ok (.iconst 1, 1) := by decide +kernel
theorem dX0_hold_74 : decode cX0_hold 74 = .ok (.goto 4, 3) := by decide +kernel
theorem dX0_hold_77 : decode cX0_hold 77 = .ok (.iconst 0, 1) := by decide +kernel
theorem dX0_hold_78 : decode cX0_hold 78 = .ok (.putfield 25, 3) := by decide +kernel
theorem dX0_hold_81 : decode cX0_hold 81 = .ok (.return_, 1) := by decide +kernel
theorem dX0_putBalls_0 : decode cX0_putBalls 0 = .ok (.aload_n 0, 1) := by decide +kernel
theorem dX0_putBalls_1 : decode cX0_putBalls 1 = .ok (.iconst 0, 1) := by decide +kernel
theorem dX0_putBalls_2 : decode cX0_putBalls 2 = .ok (.putfield 22, 3) := by decide +kernel
theorem dX0_putBalls_5 : decode cX0_putBalls 5 = .ok (.iconst 0, 1) := by decide +kernel
theorem dX0_putBalls_6 : decode cX0_putBalls 6 = .ok (.istore_n 1, 1) := by decide +kernel
theorem dX0_putBalls_7 : decode cX0_putBalls 7 = .ok (.iload_n 1, 1) := by decide +kernel
theorem dX0_putBalls_8 : decode cX0_putBalls 8 = .ok (.aload_n 0, 1) := by decide +kernel
theorem dX0_putBalls_9 : decode cX0_putBalls 9 = .ok (.getfield 15, 3) := by decide +kernel
theorem dX0_putBalls_12 : decode cX0_putBalls 12 = .ok (.if_icmp .ge 46, 3) := by decide +kernel
theorem dX0_putBalls_15 : decode cX0_putBalls 15 = .ok (.aload_n 0, 1) := by decide +kernel
theorem dX0_putBalls_16 : decode cX0_putBalls 16 = .ok (.aload_n 0, 1) := by decide +kernel
theorem dX0_putBalls_17 : decode cX0_putBalls 17 = .ok (.getfield 19, 3) := by decide +kernel
theorem dX0_putBalls_20 : decode cX0_putBalls 20 = .ok (.invokestatic 45, 3) := by decide +kernel
theorem dX0_putBalls_23 : decode cX0_putBalls 23 = .ok (.putfield 19, 3) := by decide +kernel
theorem dX0_putBalls_26 : decode cX0_putBalls 26 = .ok (.aload_n 0, 1) := by decide +kernel
theorem dX0_putBalls_27 : decode cX0_putBalls 27 = .ok (.getfield 19, 3) := by decide +kernel
theorem dX0_putBalls_30 : decode cX0_putBalls 30 = .ok (.invokestatic 49, 3) := by decide +kernel
theorem dX0_putBalls_33 : decode cX0_putBalls 33 = .ok (.aload_n 0, 1) := by decide +kernel
theorem dX0_putBalls_34 : decode cX0_putBalls 34 = .ok (.getfield 9, 3) := by decide +kernel
theorem dX0_putBalls_37 : decode cX0_putBalls 37 = .ok (.iload_n 1, 1) := by decide +kernel
theorem dX0_putBalls_38 : decode cX0_putBalls 38 = .ok (.iaload, 1) := by decide +kernel
theorem dX0_putBalls_39 : decode cX0_putBalls 39 = .ok (.if_icmp .ge 13, 3) := by decide +kernel
theorem dX0_putBalls_42 : decode cX0_putBalls 42 = .ok (.aload_n 0, 1) := by decide +kernel
theorem dX0_putBalls_43 : decode cX0_putBalls 43 = .ok (.dup, 1) := by decide +kernel
theorem dX0_putBalls_44 : decode cX0_putBalls 44 = .ok (.getfield 22, 3) := by decide +kernel
theorem dX0_putBalls_47 : decode cX0_putBalls 47 = .ok (.iconst 1, 1) := by decide +kernel
theorem dX0_putBalls_48 : decode cX0_putBalls 48 = .ok (.iadd, 1) := by decide +kernel
theorem dX0_putBalls_49 : decode cX0_putBalls 49 = .ok (.putfield 22, 3) := by decide +kernel
theorem dX0_putBalls_52 : decode cX0_putBalls 52 = .ok (.iinc 1 1, 3) := by decide +kernel
theorem dX0_putBalls_55 : decode cX0_putBalls 55 = .ok (.goto (-48), 3) := by decide +kernel
theorem dX0_putBalls_58 : decode cX0_putBalls 58 = .ok (.return_, 1) := by decide +kernel
theorem dX0_nextSeed_0 : decode cX0_nextSeed 0 = .ok (.ldc 52, 2) := by decide +kernel
theorem dX0_nextSeed_2 : decode cX0_nextSeed 2 = .ok (.iload_n 0, 1) := by decide +kernel
theorem dX0_nextSeed_3 : decode cX0_nextSeed 3 = .ok (.imul, 1) := by decide +kernel
theorem dX0_nextSeed_4 : decode cX0_nextSeed 4 = .ok (.sipush 12345, 3) := by decide +kernel
theorem dX0_nextSeed_7 : decode cX0_nextSeed 7 = .ok (.iadd, 1) := by decide +kernel
theorem dX0_nextSeed_8 : decode cX0_nextSeed 8 = .ok (.ldc 55, 2) := by decide +kernel
theorem dX0_nextSeed_10 : decode cX0_nextSeed 10 = .ok (.iand, 1) := by decide +kernel
theorem dX0_nextSeed_11 : decode cX0_nextSeed 11 = .ok (.ireturn, 1) := by decide +kernel
theorem dX0_drawnTenth_0 : decode cX0_drawnTenth 0 = .ok (.iload_n 0, 1) := by decide +kernel
theorem dX0_drawnTenth_1 : decode cX0_drawnTenth 1 = .ok (.ldc 56, 2) := by decide +kernel
theorem dX0_drawnTenth_3 : decode cX0_drawnTenth 3 = .ok (.idiv, 1) := by decide +kernel
theorem dX0_drawnTenth_4 : decode cX0_drawnTenth 4 = .ok (.bipush 10, 2) := by decide +kernel
theorem dX0_drawnTenth_6 : decode cX0_drawnTenth 6 = .ok (.irem, 1) := by decide +kernel
theorem dX0_drawnTenth_7 : decode cX0_drawnTenth 7 = .ok (.ireturn, 1) := by decide +kernel
theorem dX1_init_0 : decode cX1_init 0 = .ok (.aload_n 0, 1) := by decide +kernel
theorem dX1_init_1 : decode cX1_init 1 = .ok (.invokespecial 1, 3) := by decide +kernel
theorem dX1_init_4 : decode cX1_init 4 = .ok (.aload_n 0, 1) := by decide +kernel
theorem dX1_init_5 : decode cX1_init 5 = .ok (.bipush 8, 2) := by decide +kernel
theorem dX1_init_7 : decode cX1_init 7 = .ok (.newarray .int, 2) := by decide +kernel
theorem dX1_init_9 : decode cX1_init 9 = .ok (.putfield 9, 3) := by decide +kernel
theorem dX1_init_12 : decode cX1_init 12 = .ok (.aload_n 0, 1) := by decide +kernel
theorem dX1_init_13 : decode cX1_init 13 = .ok (.new 13, 3) := by decide +kernel
theorem dX1_init_16 : decode cX1_init 16 = .ok (.dup, 1) := by decide +kernel
theorem dX1_init_17 : decode cX1_init 17 = .ok (.invokespecial 15, 3) := by decide +kernel
theorem dX1_init_20 : decode cX1_init 20 = .ok (.putfield 16, 3) := by decide +kernel
theorem dX1_init_23 : decode cX1_init 23 = .ok (.return_, 1) := by decide +kernel
theorem dX1_found_0 : decode cX1_found 0 = .ok (.aload_n 0, 1) := by decide +kernel
theorem dX1_found_1 : decode cX1_found 1 = .ok (.iload_n 1, 1) := by decide +kernel
theorem dX1_found_2 : decode cX1_found 2 = .ok (.putfield 20, 3) := by decide +kernel
theorem dX1_found_5 : decode cX1_found 5 = .ok (.aload_n 0, 1) := by decide +kernel
theorem dX1_found_6 : decode cX1_found 6 = .ok (.iconst 0, 1) := by decide +kernel
theorem dX1_found_7 : decode cX1_found 7 = .ok (.putfield 24, 3) := by decide +kernel
theorem dX1_found_10 : decode cX1_found 10 = .ok (.aload_n 0, 1) := by decide +kernel
theorem dX1_found_11 : decode cX1_found 11 = .ok (.bipush 8, 2) := by decide +kernel
theorem dX1_found_13 : decode cX1_found 13 = .ok (.putfield 27, 3) := by decide +kernel
theorem dX1_found_16 : decode cX1_found 16 = .ok (.iconst 0, 1) := by decide +kernel
theorem dX1_found_17 : decode cX1_found 17 = .ok (.istore_n 2, 1) := by decide +kernel
theorem dX1_found_18 : decode cX1_found 18 = .ok (.iload_n 2, 1) := by decide +kernel
theorem dX1_found_19 : decode cX1_found 19 = .ok (.bipush 8, 2) := by decide +kernel
theorem dX1_found_21 : decode cX1_found 21 = .ok (.if_icmp .ge 19, 3) := by decide +kernel
theorem dX1_found_24 : decode cX1_found 24 = .ok (.aload_n 0, 1) := by decide +kernel
theorem dX1_found_25 : decode cX1_found 25 = .ok (.getfield 9, 3) := by decide +kernel
theorem dX1_found_28 : decode cX1_found 28 = .ok (.iload_n 2, 1) := by decide +kernel
theorem dX1_found_29 : decode cX1_found 29 = .ok (.aload_n 0, 1) := by decide +kernel
theorem dX1_found_30 : decode cX1_found 30 = .ok (.invokevirtual 30, 3) := by decide +kernel
theorem dX1_found_33 : decode cX1_found 33 = .ok (.iastore, 1) := by decide +kernel
theorem dX1_found_34 : decode cX1_found 34 = .ok (.iinc 2 1, 3) := by decide +kernel
theorem dX1_found_37 : decode cX1_found 37 = .ok (.goto (-19), 3) := by decide +kernel
theorem dX1_found_40 : decode cX1_found 40 = .ok (.return_, 1) := by decide +kernel
theorem dX1_passYear_0 : decode cX1_passYear 0 = .ok (.aload_n 0, 1) := by decide +kernel
theorem dX1_passYear_1 : decode cX1_passYear 1 = .ok (.invokevirtual 34, 3) := by decide +kernel
theorem dX1_passYear_4 : decode cX1_passYear 4 = .ok (.aload_n 0, 1) := by decide +kernel
theorem dX1_passYear_5 : decode cX1_passYear 5 = .ok (.invokevirtual 30, 3) := by decide +kernel
theorem dX1_passYear_8 : decode cX1_passYear 8 = .ok (.istore_n 2, 1) := by decide +kernel
theorem dX1_passYear_9 : decode cX1_passYear 9 = .ok (.aload_n 0, 1) := by decide +kernel
theorem dX1_passYear_10 : decode cX1_passYear 10 = .ok (.getfield 16, 3) := by decide +kernel
theorem dX1_passYear_13 : decode cX1_passYear 13 = .ok (.invokevirtual 37, 3) := by decide +kernel
theorem dX1_passYear_16 : decode cX1_passYear 16 = .ok (.iconst 0, 1) := by decide +kernel
theorem dX1_passYear_17 : decode cX1_passYear 17 = .ok (.istore_n 3, 1) := by decide +kernel
theorem dX1_passYear_18 : decode cX1_passYear 18 = .ok (.iload_n 3, 1) := by decide +kernel
theorem dX1_passYear_19 : decode cX1_passYear 19 = .ok (.aload_n 0, 1) := by decide +kernel
theorem dX1_passYear_20 : decode cX1_passYear 20 = .ok (.getfield 27, 3) := by decide +kernel
theorem dX1_passYear_23 : decode cX1_passYear 23 = .ok (.if_icmp .ge 29, 3) := by decide +kernel
theorem dX1_passYear_26 : decode cX1_passYear 26 = .ok (.aload_n 0, 1) := by decide +kernel
theorem dX1_passYear_27 : decode cX1_passYear 27 = .ok (.getfield 16, 3) := by decide +kernel
theorem dX1_passYear_30 : decode cX1_passYear 30 = .ok (.iconst 2, 1) := by decide +kernel
theorem dX1_passYear_31 : decode cX1_passYear 31 = .ok (.iload_n 2, 1) := by decide +kernel
theorem dX1_passYear_32 : decode cX1_passYear 32 = .ok (.aload_n 0, 1) := by decide +kernel
theorem dX1_passYear_33 : decode cX1_passYear 33 = .ok (.getfield 9, 3) := by decide +kernel
theorem dX1_passYear_36 : decode cX1_passYear 36 = .ok (.iload_n 3, 1) := by decide +kernel
theorem dX1_passYear_37 : decode cX1_passYear 37 = .ok (.iaload, 1) := by decide +kernel
theorem dX1_passYear_38 : decode cX1_passYear 38 = .ok (.isub, 1) := by decide +kernel
theorem dX1_passYear_39 : decode cX1_passYear 39 = .ok (.invokestatic 40, 3) := by decide +kernel
theorem dX1_passYear_42 : decode cX1_passYear 42 = .ok (.imul, 1) := by decide +kernel
theorem dX1_passYear_43 : decode cX1_passYear 43 = .ok (.invokevirtual 46, 3) := by decide +kernel
theorem dX1_passYear_46 : decode cX1_passYear 46 = .ok (.iinc 3 1, 3) := by decide +kernel
theorem dX1_passYear_49 : decode cX1_passYear 49 = .ok (.goto (-31), 3) := by decide +kernel
theorem dX1_passYear_52 : decode cX1_passYear 52 = .ok (.aload_n 0, 1) := by decide +kernel
theorem dX1_passYear_53 : decode cX1_passYear 53 = .ok (.getfield 16, 3) := by decide +kernel
theorem dX1_passYear_56 : decode cX1_passYear 56 = .ok (.aload_n 1, 1) := by decide +kernel
theorem dX1_passYear_57 : decode cX1_passYear 57 = .ok (.aload_n 0, 1) := by decide +kernel
theorem dX1_passYear_58 : decode cX1_passYear 58 = .ok (.getfield 20, 3) := by decide +kernel
theorem dX1_passYear_61 : decode cX1_passYear 61 = .ok (.invokevirtual 50, 3) := by decide +kernel
theorem dX1_passYear_64 : decode cX1_passYear 64 = .ok (.aload_n 0, 1) := by decide +kernel
theorem dX1_passYear_65 : decode cX1_passYear 65 = .ok (.aload_n 0, 1) := by decide +kernel
theorem dX1_passYear_66 : decode cX1_passYear 66 = .ok (.getfield 16, 3) := by decide +kernel
theorem dX1_passYear_69 : decode cX1_passYear 69 = .ok (.getfield 54, 3) := by decide +kernel
theorem dX1_passYear_72 : decode cX1_passYear 72 = .ok (.putfield 20, 3) := by decide +kernel
theorem dX1_passYear_75 : decode cX1_passYear 75 = .ok (.aload_n 0, 1) := by decide +kernel
theorem dX1_passYear_76 : decode cX1_passYear 76 = .ok (.getfield 16, 3) := by decide +kernel
theorem dX1_passYear_79 : decode cX1_passYear 79 = .ok (.getfield 55, 3) := by decide +kernel
theorem dX1_passYear_82 : decode cX1_passYear 82 = .ok (.ifCond .eq 42, 3) := by decide +kernel
theorem dX1_passYear_85 : decode cX1_passYear 85 = .ok (.aload_n 0, 1) := by decide +kernel
theorem dX1_passYear_86 : decode cX1_passYear 86 = .ok (.getfield 27, 3) := by decide +kernel
theorem dX1_passYear_89 : decode cX1_passYear 89 = .ok (.bipush 8, 2) := by decide +kernel
theorem dX1_passYear_91 : decode cX1_passYear 91 = .ok (.if_icmp .ge 33, 3) := by decide +kernel
theorem dX1_passYear_94 : decode cX1_passYear 94 = .ok (.aload_n 0, 1) := by decide +kernel
theorem dX1_passYear_95 : decode cX1_passYear 95 = .ok (.getfield 9, 3) := by decide +kernel
theorem dX1_passYear_98 : decode cX1_passYear 98 = .ok (.aload_n 0, 1) := by decide +kernel
theorem dX1_passYear_99 : decode cX1_passYear 99 = .ok (.getfield 27, 3) := by decide +kernel
theorem dX1_passYear_102 : decode cX1_passYear 102 = .ok (.iload_n 2, 1) := by decide +kernel
theorem dX1_passYear_103 : decode cX1_passYear 103 = .ok (.iastore, 1) := by decide +kernel
theorem dX1_passYear_104 : decode cX1_passYear 104 = .ok (.aload_n 0, 1) := by decide +kernel
theorem dX1_passYear_105 : decode cX1_passYear 105 = .ok (.dup, 1) := by decide +kernel
theorem dX1_passYear_106 : decode cX1_passYear 106 = .ok (.getfield 27, 3) := by decide +kernel
theorem dX1_passYear_109 : decode cX1_passYear 109 = .ok (.iconst 1, 1) := by decide +kernel
theorem dX1_passYear_110 : decode cX1_passYear 110 = .ok (.iadd, 1) := by decide +kernel
theorem dX1_passYear_111 : decode cX1_passYear 111 = .ok (.putfield 27, 3) := by decide +kernel
theorem dX1_passYear_114 : decode cX1_passYear 114 = .ok (.aload_n 0, 1) := by decide +kernel
theorem dX1_passYear_115 : decode cX1_passYear 115 = .ok (.dup, 1) := by decide +kernel
theorem dX1_passYear_116 : decode cX1_passYear 116 = .ok (.getfield 24, 3) := by decide +kernel
theorem dX1_passYear_119 : decode cX1_passYear 119 = .ok (.iconst 1, 1) := by decide +kernel
theorem dX1_passYear_120 : decode cX1_passYear 120 = .ok (.iadd, 1) := by decide +kernel
theorem dX1_passYear_121 : decode cX1_passYear 121 = .ok (.putfield 24, 3) := by decide +kernel
theorem dX1_passYear_124 : decode cX1_passYear 124 = .ok (.return_, 1) := by decide +kernel
theorem dX1_unlikeTastes_0 : decode cX1_unlikeTastes 0 = .ok (.iconst 0, 1) := by decide +kernel
theorem dX1_unlikeTastes_1 : decode cX1_unlikeTastes 1 = .ok (.istore_n 1, 1) := by decide +kernel
theorem dX1_unlikeTastes_2 : decode cX1_unlikeTastes 2 = .ok (.iconst 0, 1) := by decide +kernel
theorem dX1_unlikeTastes_3 : decode cX1_unlikeTastes 3 = .ok (.istore_n 2, 1) := by decide +kernel
theorem dX1_unlikeTastes_4 : decode cX1_unlikeTastes 4 = .ok (.iload_n 2, 1) := by decide +kernel
theorem dX1_unlikeTastes_5 : decode cX1_unlikeTastes 5 = .ok (.aload_n 0, 1) := by decide +kernel
theorem dX1_unlikeTastes_6 : decode cX1_unlikeTastes 6 = .ok (.getfield 27, 3) := by decide +kernel
theorem dX1_unlikeTastes_9 : decode cX1_unlikeTastes 9 = .ok (.if_icmp .ge 20, 3) := by decide +kernel
theorem dX1_unlikeTastes_12 : decode cX1_unlikeTastes 12 = .ok (.iload_n 1, 1) := by decide +kernel
theorem dX1_unlikeTastes_13 : decode cX1_unlikeTastes 13 = .ok (.iconst 1, 1) := by decide +kernel
theorem dX1_unlikeTastes_14 : decode cX1_unlikeTastes 14 = .ok (.aload_n 0, 1) := by decide +kernel
theorem dX1_unlikeTastes_15 : decode cX1_unlikeTastes 15 = .ok (.getfield 9, 3) := by decide +kernel
theorem dX1_unlikeTastes_18 : decode cX1_unlikeTastes 18 = .ok (.iload_n 2, 1) := by decide +kernel
theorem dX1_unlikeTastes_19 : decode cX1_unlikeTastes 19 = .ok (.iaload, 1) := by decide +kernel
theorem dX1_unlikeTastes_20 : decode cX1_unlikeTastes 20 = .ok (.ishl, 1) := by decide +kernel
theorem dX1_unlikeTastes_21 : decode cX1_unlikeTastes 21 = .ok (.ior, 1) := by decide +kernel
theorem dX1_unlikeTastes_22 : decode cX1_unlikeTastes 22 = .ok (.istore_n 1, 1) := by decide +kernel
theorem dX1_unlikeTastes_23 : decode cX1_unlikeTastes 23 = .ok (.iinc 2 1, 3) := by decide +kernel
theorem dX1_unlikeTastes_26 : decode cX1_unlikeTastes 26 = .ok (.goto (-22), 3) := by decide +kernel
theorem dX1_unlikeTastes_29 : decode cX1_unlikeTastes 29 = .ok (.iload_n 1, 1) := by decide +kernel
theorem dX1_unlikeTastes_30 : decode cX1_unlikeTastes 30 = .ok (.invokestatic 58, 3) := by decide +kernel
theorem dX1_unlikeTastes_33 : decode cX1_unlikeTastes 33 = .ok (.ireturn, 1) := by decide +kernel
theorem dX1_firstGoes_0 : decode cX1_firstGoes 0 = .ok (.aload_n 0, 1) := by decide +kernel
theorem dX1_firstGoes_1 : decode cX1_firstGoes 1 = .ok (.getfield 27, 3) := by decide +kernel
theorem dX1_firstGoes_4 : decode cX1_firstGoes 4 = .ok (.ifCond .le 30, 3) := by decide +kernel
theorem dX1_firstGoes_7 : decode cX1_firstGoes 7 = .ok (.aload_n 0, 1) := by decide +kernel
theorem dX1_firstGoes_8 : decode cX1_firstGoes 8 = .ok (.dup, 1) := by decide +kernel
theorem dX1_firstGoes_9 : decode cX1_firstGoes 9 = .ok (.getfield 27, 3) := by decide +kernel
theorem dX1_firstGoes_12 : decode cX1_firstGoes 12 = .ok (.iconst 1, 1) := by decide +kernel
theorem dX1_firstGoes_13 : decode cX1_firstGoes 13 = .ok (.isub, 1) := by decide +kernel
theorem dX1_firstGoes_14 : decode cX1_firstGoes 14 = .ok (.putfield 27, 3) := by decide +kernel
theorem dX1_firstGoes_17 : decode cX1_firstGoes 17 = .ok (.aload_n 0, 1) := by decide +kernel
theorem dX1_firstGoes_18 : decode cX1_firstGoes 18 = .ok (.getfield 9, 3) := by decide +kernel
theorem dX1_firstGoes_21 : decode cX1_firstGoes 21 = .ok (.iconst 1, 1) := by decide +kernel
theorem dX1_firstGoes_22 : decode cX1_firstGoes 22 = .ok (.aload_n 0, 1) := by decide +kernel
theorem dX1_firstGoes_23 : decode cX1_firstGoes 23 = .ok (.getfield 9, 3) := by decide +kernel
theorem dX1_firstGoes_26 : decode cX1_firstGoes 26 = .ok (.iconst 0, 1) := by decide +kernel
theorem dX1_firstGoes_27 : decode cX1_firstGoes 27 = .ok (.aload_n 0, 1) := by decide +kernel
theorem dX1_firstGoes_28 : decode cX1_firstGoes 28 = .ok (.getfield 27, 3) := by decide +kernel
theorem dX1_firstGoes_31 : decode cX1_firstGoes 31 = .ok (.invokestatic 63, 3) := by decide +kernel
theorem dX1_firstGoes_34 : decode cX1_firstGoes 34 = .ok (.return_, 1) := by decide +kernel
theorem dX1_drawTaste_0 : decode cX1_drawTaste 0 = .ok (.aload_n 0, 1) := by decide +kernel
theorem dX1_drawTaste_1 : decode cX1_drawTaste 1 = .ok (.aload_n 0, 1) := by decide +kernel
theorem dX1_drawTaste_2 : decode cX1_drawTaste 2 = .ok (.getfield 20, 3) := by decide +kernel
theorem dX1_drawTaste_5 : decode cX1_drawTaste 5 = .ok (.invokestatic 69, 3) := by decide +kernel
theorem dX1_drawTaste_8 : decode cX1_drawTaste 8 = .ok (.putfield 20, 3) := by decide +kernel
theorem dX1_drawTaste_11 : decode cX1_drawTaste 11 = .ok (.aload_n 0, 1) := by decide +kernel
theorem dX1_drawTaste_12 : decode cX1_drawTaste 12 = .ok (.getfield 20, 3) := by decide +kernel
theorem dX1_drawTaste_15 : decode cX1_drawTaste 15 = .ok (.invokestatic 72, 3) := by decide +kernel
theorem dX1_drawTaste_18 : decode cX1_drawTaste 18 = .ok (.ireturn, 1) := by decide +kernel
theorem dX2_init_0 : decode cX2_init 0 = .ok (.aload_n 0, 1) := by decide +kernel
theorem dX2_init_1 : decode cX2_init 1 = .ok (.iload_n 1, 1) := by decide +kernel
theorem dX2_init_2 : decode cX2_init 2 = .ok (.iload_n 2, 1) := by decide +kernel
theorem dX2_init_3 : decode cX2_init 3 = .ok (.invokespecial 3, 3) := by decide +kernel
theorem dX2_init_6 : decode cX2_init 6 = .ok (.return_, 1) := by decide +kernel
theorem dX2_kind_0 : decode cX2_kind 0 = .ok (.iconst 1, 1) := by decide +kernel
theorem dX2_kind_1 : decode cX2_kind 1 = .ok (.ireturn, 1) := by decide +kernel
theorem dX2_blackOfStranger_0 : decode cX2_blackOfStranger 0 = .ok (.iload_n 3, 1) := by decide +kernel
theorem dX2_blackOfStranger_1 : decode cX2_blackOfStranger 1 = .ok (.ifCond .eq 9, 3) := by decide +kernel
theorem dX2_blackOfStranger_4 : decode cX2_blackOfStranger 4 = .ok (.iload_n 1, 1) := by decide +kernel
theorem dX2_blackOfStranger_5 : decode cX2_blackOfStranger 5 = .ok (.iconst 2, 1) := by decide +kernel
theorem dX2_blackOfStranger_6 : decode cX2_blackOfStranger 6 = .ok (.idiv, 1) := by decide +kernel
theorem dX2_blackOfStranger_7 : decode cX2_blackOfStranger 7 = .ok (.goto 4, 3) := by decide +kernel
theorem dX2_blackOfStranger_10 : decode cX2_blackOfStranger 10 = .ok (.iload_n 1, 1) := by decide +kernel
theorem dX2_blackOfStranger_11 : decode cX2_blackOfStranger 11 = .ok (.ireturn, 1) := by decide +kernel
theorem dX3_init_0 : decode cX3_init 0 = .ok (.aload_n 0, 1) := by decide +kernel
theorem dX3_init_1 : decode cX3_init 1 = .ok (.iload_n 1, 1) := by decide +kernel
theorem dX3_init_2 : decode cX3_init 2 = .ok (.iload_n 2, 1) := by decide +kernel
theorem dX3_init_3 : decode cX3_init 3 = .ok (.invokespecial 3, 3) := by decide +kernel
theorem dX3_init_6 : decode cX3_init 6 = .ok (.aload_n 0, 1) := by decide +kernel
theorem dX3_init_7 : decode cX3_init 7 = .ok (.iload_n 3, 1) := by decide +kernel
theorem dX3_init_8 : decode cX3_init 8 = .ok (.putfield 9, 3) := by decide +kernel
theorem dX3_init_11 : decode cX3_init 11 = .ok (.return_, 1) := by decide +kernel
theorem dX3_kind_0 : decode cX3_kind 0 = .ok (.iconst 2, 1) := by decide +kernel
theorem dX3_kind_1 : decode cX3_kind 1 = .ok (.ireturn, 1) := by decide +kernel
theorem dX3_n_0 : decode cX3_n 0 = .ok (.aload_n 0, 1) := by decide +kernel
theorem dX3_n_1 : decode cX3_n 1 = .ok (.getfield 9, 3) := by decide +kernel
theorem dX3_n_4 : decode cX3_n 4 = .ok (.ireturn, 1) := by decide +kernel
theorem dX3_blackOfStranger_0 : decode cX3_blackOfStranger 0 = .ok (.iload_n 1, 1) := by decide +kernel
theorem dX3_blackOfStranger_1 : decode cX3_blackOfStranger 1 = .ok (.bipush 10, 2) := by decide +kernel
theorem dX3_blackOfStranger_3 : decode cX3_blackOfStranger 3 = .ok (.aload_n 0, 1) := by decide +kernel
theorem dX3_blackOfStranger_4 : decode cX3_blackOfStranger 4 = .ok (.getfield 9, 3) := by decide +kernel
theorem dX3_blackOfStranger_7 : decode cX3_blackOfStranger 7 = .ok (.isub, 1) := by decide +kernel
theorem dX3_blackOfStranger_8 : decode cX3_blackOfStranger 8 = .ok (.imul, 1) := by decide +kernel
theorem dX3_blackOfStranger_9 : decode cX3_blackOfStranger 9 = .ok (.aload_n 0, 1) := by decide +kernel
theorem dX3_blackOfStranger_10 : decode cX3_blackOfStranger 10 = .ok (.getfield 9, 3) := by decide +kernel
theorem dX3_blackOfStranger_13 : decode cX3_blackOfStranger 13 = .ok (.bipush 10, 2) := by decide +kernel
theorem dX3_blackOfStranger_15 : decode cX3_blackOfStranger 15 = .ok (.iload_n 1, 1) := by decide +kernel
theorem dX3_blackOfStranger_16 : decode cX3_blackOfStranger 16 = .ok (.isub, 1) := by decide +kernel
theorem dX3_blackOfStranger_17 : decode cX3_blackOfStranger 17 = .ok (.imul, 1) := by decide +kernel
theorem dX3_blackOfStranger_18 : decode cX3_blackOfStranger 18 = .ok (.iadd, 1) := by decide +kernel
theorem dX3_blackOfStranger_19 : decode cX3_blackOfStranger 19 = .ok (.bipush 10, 2) := by decide +kernel
theorem dX3_blackOfStranger_21 : decode cX3_blackOfStranger 21 = .ok (.idiv, 1) := by decide +kernel
theorem dX3_blackOfStranger_22 : decode cX3_blackOfStranger 22 = .ok (.ireturn, 1) := by decide +kernel
theorem dX4_init_0 : decode cX4_init 0 = .ok (.aload_n 0, 1) := by decide +kernel
theorem dX4_init_1 : decode cX4_init 1 = .ok (.invokespecial 3, 3) := by decide +kernel
theorem dX4_init_4 : decode cX4_init 4 = .ok (.aload_n 0, 1) := by decide +kernel
theorem dX4_init_5 : decode cX4_init 5 = .ok (.bipush 20, 2) := by decide +kernel
theorem dX4_init_7 : decode cX4_init 7 = .ok (.newarray .int, 2) := by decide +kernel
theorem dX4_init_9 : decode cX4_init 9 = .ok (.putfield 11, 3) := by decide +kernel
theorem dX4_init_12 : decode cX4_init 12 = .ok (.return_, 1) := by decide +kernel
theorem dX4_write_0 : decode cX4_write 0 = .ok (.lload_n 1, 1) := by decide +kernel
theorem dX4_write_1 : decode cX4_write 1 = .ok (.invokestatic 15, 3) := by decide +kernel
theorem dX4_write_4 : decode cX4_write 4 = .ok (.istore_n 3, 1) := by decide +kernel
theorem dX4_write_5 : decode cX4_write 5 = .ok (.iload_n 3, 1) := by decide +kernel
theorem dX4_write_6 : decode cX4_write 6 = .ok (.iconst (-1), 1) := by decide +kernel
theorem dX4_write_7 : decode cX4_write 7 = .ok (.if_icmp .ne 6, 3) := by decide +kernel
theorem dX4_write_10 : decode cX4_write 10 = .ok (.bipush (-102), 2) := by decide +kernel
theorem dX4_write_12 : decode cX4_write 12 = .ok (.ireturn, 1) := by decide +kernel
theorem dX4_write_13 : decode cX4_write 13 = .ok (.aload_n 0, 1) := by decide +kernel
theorem dX4_write_14 : decode cX4_write 14 = .ok (.getfield 19, 3) := by decide +kernel
theorem dX4_write_17 : decode cX4_write 17 = .ok (.iload_n 3, 1) := by decide +kernel
theorem dX4_write_18 : decode cX4_write 18 = .ok (.iadd, 1) := by decide +kernel
theorem dX4_write_19 : decode cX4_write 19 = .ok (.bipush 20, 2) := by decide +kernel
theorem dX4_write_21 : decode cX4_write 21 = .ok (.if_icmp .le 6, 3) := by decide +kernel
theorem dX4_write_24 : decode cX4_write 24 = .ok (.bipush (-104), 2) := by decide +kernel
theorem dX4_write_26 : decode cX4_write 26 = .ok (.ireturn, 1) := by decide +kernel
theorem dX4_write_27 : decode cX4_write 27 = .ok (.iconst 0, 1) := by decide +kernel
theorem dX4_write_28 : decode cX4_write 28 = .ok (.istore 4, 2) := by decide +kernel
theorem dX4_write_30 : decode cX4_write 30 = .ok (.iload 4, 2) := by decide +kernel
theorem dX4_write_32 : decode cX4_write 32 = .ok (.iload_n 3, 1) := by decide +kernel
theorem dX4_write_33 : decode cX4_write 33 = .ok (.if_icmp .ge 27, 3) := by decide +kernel
theorem dX4_write_36 : decode cX4_write 36 = .ok (.aload_n 0, 1) := by decide +kernel
theorem dX4_write_37 : decode cX4_write 37 = .ok (.getfield 11, 3) := by decide +kernel
theorem dX4_write_40 : decode cX4_write 40 = .ok (.aload_n 0, 1) := by decide +kernel
theorem dX4_write_41 : decode cX4_write 41 = .ok (.getfield 19, 3) := by decide +kernel
theorem dX4_write_44 : decode cX4_write 44 = .ok (.iload 4, 2) := by decide +kernel
theorem dX4_write_46 : decode cX4_write 46 = .ok (.iadd, 1) := by decide +kernel
theorem dX4_write_47 : decode cX4_write 47 = .ok (.lload_n 1, 1) := by decide +kernel
theorem dX4_write_48 : decode cX4_write 48 = .ok (.iload 4, 2) := by decide +kernel
theorem dX4_write_50 : decode cX4_write 50 = .ok (.invokestatic 23, 3) := by decide +kernel
theorem dX4_write_53 : decode cX4_write 53 = .ok (.iastore, 1) := by decide +kernel
theorem dX4_write_54 : decode cX4_write 54 = .ok (.iinc 4 1, 3) := by decide +kernel
theorem dX4_write_57 : decode cX4_write 57 = .ok (.goto (-27), 3) := by decide +kernel
theorem dX4_write_60 : decode cX4_write 60 = .ok (.aload_n 0, 1) := by decide +kernel
theorem dX4_write_61 : decode cX4_write 61 = .ok (.dup, 1) := by decide +kernel
theorem dX4_write_62 : decode cX4_write 62 = .ok (.getfield 19, 3) := by decide +kernel
theorem dX4_write_65 : decode cX4_write 65 = .ok (.iload_n 3, 1) := by decide +kernel
theorem dX4_write_66 : decode cX4_write 66 = .ok (.iadd, 1) := by decide +kernel
theorem dX4_write_67 : decode cX4_write 67 = .ok (.putfield 19, 3) := by decide +kernel
theorem dX4_write_70 : decode cX4_write 70 = .ok (.aload_n 0, 1) := by decide +kernel
theorem dX4_write_71 : decode cX4_write 71 = .ok (.getfield 19, 3) := by decide +kernel
theorem dX4_write_74 : decode cX4_write 74 = .ok (.ireturn, 1) := by decide +kernel
theorem dX4_wipe_0 : decode cX4_wipe 0 = .ok (.aload_n 0, 1) := by decide +kernel
theorem dX4_wipe_1 : decode cX4_wipe 1 = .ok (.getfield 19, 3) := by decide +kernel
theorem dX4_wipe_4 : decode cX4_wipe 4 = .ok (.istore_n 1, 1) := by decide +kernel
theorem dX4_wipe_5 : decode cX4_wipe 5 = .ok (.aload_n 0, 1) := by decide +kernel
theorem dX4_wipe_6 : decode cX4_wipe 6 = .ok (.iconst 0, 1) := by decide +kernel
theorem dX4_wipe_7 : decode cX4_wipe 7 = .ok (.putfield 19, 3) := by decide +kernel
theorem dX4_wipe_10 : decode cX4_wipe 10 = .ok (.iload_n 1, 1) := by decide +kernel
theorem dX4_wipe_11 : decode cX4_wipe 11 = .ok (.ireturn, 1) := by decide +kernel
theorem dX4_firstFault_0 : decode cX4_firstFault 0 = .ok (.iconst 0, 1) := by decide +kernel
theorem dX4_firstFault_1 : decode cX4_firstFault 1 = .ok (.istore_n 1, 1) := by decide +kernel
theorem dX4_firstFault_2 : decode cX4_firstFault 2 = .ok (.iconst 0, 1) := by decide +kernel
theorem dX4_firstFault_3 : decode cX4_firstFault 3 = .ok (.istore_n 2, 1) := by decide +kernel
theorem dX4_firstFault_4 : decode cX4_firstFault 4 = .ok (.iload_n 2, 1) := by decide +kernel
theorem dX4_firstFault_5 : decode cX4_firstFault 5 = .ok (.aload_n 0, 1) := by decide +kernel
theorem dX4_firstFault_6 : decode cX4_firstFault 6 = .ok (.getfield 19, 3) := by decide +kernel
theorem dX4_firstFault_9 : decode cX4_firstFault 9 = .ok (.if_icmp .ge 27, 3) := by decide +kernel
theorem dX4_firstFault_12 : decode cX4_firstFault 12 = .ok (.iload_n 1, 1) := by decide +kernel
theorem dX4_firstFault_13 : decode cX4_firstFault 13 = .ok (.aload_n 0, 1) := by decide +kernel
theorem dX4_firstFault_14 : decode cX4_firstFault 14 = .ok (.getfield 11, 3) := by decide +kernel
theorem dX4_firstFault_17 : decode cX4_firstFault 17 = .ok (.iload_n 2, 1) := by decide +kernel
theorem dX4_firstFault_18 : decode cX4_firstFault 18 = .ok (.iaload, 1) := by decide +kernel
theorem dX4_firstFault_19 : decode cX4_firstFault 19 = .ok (.invokestatic 27, 3) := by decide +kernel
theorem dX4_firstFault_22 : decode cX4_firstFault 22 = .ok (.istore_n 1, 1) := by decide +kernel
theorem dX4_firstFault_23 : decode cX4_firstFault 23 = .ok (.iload_n 1, 1) := by decide +kernel
theorem dX4_firstFault_24 : decode cX4_firstFault 24 = .ok (.iconst (-1), 1) := by decide +kernel
theorem dX4_firstFault_25 : decode cX4_firstFault 25 = .ok (.if_icmp .ne 5, 3) := by decide +kernel
theorem dX4_firstFault_28 : decode cX4_firstFault 28 = .ok (.iload_n 2, 1) := by decide +kernel
theorem dX4_firstFault_29 : decode cX4_firstFault 29 = .ok (.ireturn, 1) := by decide +kernel
theorem dX4_firstFault_30 : decode cX4_firstFault 30 = .ok (.iinc 2 1, 3) := by decide +kernel
theorem dX4_firstFault_33 : decode cX4_firstFault 33 = .ok (.goto (-29), 3) := by decide +kernel
theorem dX4_firstFault_36 : decode cX4_firstFault 36 = .ok (.aload_n 0, 1) := by decide +kernel
theorem dX4_firstFault_37 : decode cX4_firstFault 37 = .ok (.getfield 19, 3) := by decide +kernel
theorem dX4_firstFault_40 : decode cX4_firstFault 40 = .ok (.ireturn, 1) := by decide +kernel
theorem dX4_isRule_0 : decode cX4_isRule 0 = .ok (.aload_n 0, 1) := by decide +kernel
theorem dX4_isRule_1 : decode cX4_isRule 1 = .ok (.getfield 19, 3) := by decide +kernel
theorem dX4_isRule_4 : decode cX4_isRule 4 = .ok (.ifCond .le 35, 3) := by decide +kernel
theorem dX4_isRule_7 : decode cX4_isRule 7 = .ok (.aload_n 0, 1) := by decide +kernel
theorem dX4_isRule_8 : decode cX4_isRule 8 = .ok (.getfield 11, 3) := by decide +kernel
theorem dX4_isRule_11 : decode cX4_isRule 11 = .ok (.aload_n 0, 1) := by decide +kernel
theorem dX4_isRule_12 : decode cX4_isRule 12 = .ok (.getfield 19, 3) := by decide +kernel
theorem dX4_isRule_15 : decode cX4_isRule 15 = .ok (.iconst 1, 1) := by decide +kernel
theorem dX4_isRule_16 : decode cX4_isRule 16 = .ok (.isub, 1) := by decide +kernel
theorem dX4_isRule_17 : decode cX4_isRule 17 = .ok (.iaload, 1) := by decide +kernel
theorem dX4_isRule_18 : decode cX4_isRule 18 = .ok (.invokestatic 31, 3) := by decide +kernel
theorem dX4_isRule_21 : decode cX4_isRule 21 = .ok (.ifCond .eq 18, 3) := by decide +kernel
theorem dX4_isRule_24 : decode cX4_isRule 24 = .ok (.aload_n 0, 1) := by decide +kernel
theorem dX4_isRule_25 : decode cX4_isRule 25 = .ok (.invokevirtual 35, 3) := by decide +kernel
theorem dX4_isRule_28 : decode cX4_isRule 28 = .ok (.aload_n 0, 1) := by decide +kernel
theorem dX4_isRule_29 : decode cX4_isRule 29 = .ok (.getfield 19, 3) := by decide +kernel
theorem dX4_isRule_32 : decode cX4_isRule 32 = .ok (.if_icmp .ne 7, 3) := by decide +kernel
theorem dX4_isRule_35 : decode cX4_isRule 35 = .ok (.iconst 1, 1) := by decide +kernel
theorem dX4_isRule_36 : decode cX4_isRule 36 = .ok (.goto 4, 3) := by decide +kernel
theorem dX4_isRule_39 : decode cX4_isRule 39 = .ok (.iconst 0, 1) := by decide +kernel
theorem dX4_isRule_40 : decode cX4_isRule 40 = .ok (.ireturn, 1) := by decide +kernel
theorem dX4_toRule_0 : decode cX4_toRule 0 = .ok (.iconst 1, 1) := by decide +kernel
theorem dX4_toRule_1 : decode cX4_toRule 1 = .ok (.istore_n 1, 1) := by decide +kernel
theorem dX4_toRule_2 : decode cX4_toRule 2 = .ok (.iconst 0, 1) := by decide +kernel
theorem dX4_toRule_3 : decode cX4_toRule 3 = .ok (.istore_n 2, 1) := by decide +kernel
theorem dX4_toRule_4 : decode cX4_toRule 4 = .ok (.iload_n 1, 1) := by decide +kernel
theorem dX4_toRule_5 : decode cX4_toRule 5 = .ok (.aload_n 0, 1) := by decide +kernel
theorem dX4_toRule_6 : decode cX4_toRule 6 = .ok (.getfield 19, 3) := by decide +kernel
theorem dX4_toRule_9 : decode cX4_toRule 9 = .ok (.if_icmp .ge 35, 3) := by decide +kernel
theorem dX4_toRule_12 : decode cX4_toRule 12 = .ok (.aload_n 0, 1) := by decide +kernel
theorem dX4_toRule_13 : decode cX4_toRule 13 = .ok (.getfield 11, 3) := by decide +kernel
theorem dX4_toRule_16 : decode cX4_toRule 16 = .ok (.iload_n 1, 1) := by decide +kernel
theorem dX4_toRule_17 : decode cX4_toRule 17 = .ok (.iaload, 1) := by decide +kernel
theorem dX4_toRule_18 : decode cX4_toRule 18 = .ok (.bipush 113, 2) := by decide +kernel
theorem dX4_toRule_20 : decode cX4_toRule 20 = .ok (.if_icmp .eq 24, 3) := by decide +kernel
theorem dX4_toRule_23 : decode cX4_toRule 23 = .ok (.bipush 10, 2) := by decide +kernel
theorem dX4_toRule_25 : decode cX4_toRule 25 = .ok (.iload_n 2, 1) := by decide +kernel
theorem dX4_toRule_26 : decode cX4_toRule 26 = .ok (.imul, 1) := by decide +kernel
theorem dX4_toRule_27 : decode cX4_toRule 27 = .ok (.aload_n 0, 1) := by decide +kernel
theorem dX4_toRule_28 : decode cX4_toRule 28 = .ok (.getfield 11, 3) := by decide +kernel
theorem dX4_toRule_31 : decode cX4_toRule 31 = .ok (.iload_n 1, 1) := by decide +kernel
theorem dX4_toRule_32 : decode cX4_toRule 32 = .ok (.iaload, 1) := by decide +kernel
theorem dX4_toRule_33 : decode cX4_toRule 33 = .ok (.iadd, 1) := by decide +kernel
theorem dX4_toRule_34 : decode cX4_toRule 34 = .ok (.bipush 48, 2) := by decide +kernel
theorem dX4_toRule_36 : decode cX4_toRule 36 = .ok (.isub, 1) := by decide +kernel
theorem dX4_toRule_37 : decode cX4_toRule 37 = .ok (.istore_n 2, 1) := by decide +kernel
theorem dX4_toRule_38 : decode cX4_toRule 38 = .ok (.iinc 1 1, 3) := by decide +kernel
theorem dX4_toRule_41 : decode cX4_toRule 41 = .ok (.goto (-37), 3) := by decide +kernel
theorem dX4_toRule_44 : decode cX4_toRule 44 = .ok (.aload_n 0, 1) := by decide +kernel
theorem dX4_toRule_45 : decode cX4_toRule 45 = .ok (.iconst 0, 1) := by decide +kernel
theorem dX4_toRule_46 : decode cX4_toRule 46 = .ok (.invokevirtual 39, 3) := by decide +kernel
theorem dX4_toRule_49 : decode cX4_toRule 49 = .ok (.bipush 98, 2) := by decide +kernel
theorem dX4_toRule_51 : decode cX4_toRule 51 = .ok (.if_icmp .ne 7, 3) := by decide +kernel
theorem dX4_toRule_54 : decode cX4_toRule 54 = .ok (.iconst 1, 1) := by decide +kernel
theorem dX4_toRule_55 : decode cX4_toRule 55 = .ok (.goto 4, 3) := by decide +kernel
theorem dX4_toRule_58 : decode cX4_toRule 58 = .ok (.iconst 0, 1) := by decide +kernel
theorem dX4_toRule_59 : decode cX4_toRule 59 = .ok (.istore_n 3, 1) := by decide +kernel
theorem dX4_toRule_60 : decode cX4_toRule 60 = .ok (.aload_n 0, 1) := by decide +kernel
theorem dX4_toRule_61 : decode cX4_toRule 61 = .ok (.iload_n 1, 1) := by decide +kernel
theorem dX4_toRule_62 : decode cX4_toRule 62 = .ok (.iconst 1, 1) := by decide +kernel
theorem dX4_toRule_63 : decode cX4_toRule 63 = .ok (.iadd, 1) := by decide +kernel
theorem dX4_toRule_64 : decode cX4_toRule 64 = .ok (.invokevirtual 39, 3) := by decide +kernel
theorem dX4_toRule_67 : decode cX4_toRule 67 = .ok (.bipush 48, 2) := by decide +kernel
theorem dX4_toRule_69 : decode cX4_toRule 69 = .ok (.isub, 1) := by decide +kernel
theorem dX4_toRule_70 : decode cX4_toRule 70 = .ok (.istore 4, 2) := by decide +kernel
theorem dX4_toRule_72 : decode cX4_toRule 72 = .ok (.aload_n 0, 1) := by decide +kernel
theorem dX4_toRule_73 : decode cX4_toRule 73 = .ok (.iload_n 1, 1) := by decide +kernel
theorem dX4_toRule_74 : decode cX4_toRule 74 = .ok (.iconst 2, 1) := by decide +kernel
theorem dX4_toRule_75 : decode cX4_toRule 75 = .ok (.iadd, 1) := by decide +kernel
theorem dX4_toRule_76 : decode cX4_toRule 76 = .ok (.invokevirtual 39, 3) := by decide +kernel
theorem dX4_toRule_79 : decode cX4_toRule 79 = .ok (.bipush 116, 2) := by decide +kernel
theorem dX4_toRule_81 : decode cX4_toRule 81 = .ok (.if_icmp .ne 7, 3) := by decide +kernel
theorem dX4_toRule_84 : decode cX4_toRule 84 = .ok (.iconst 1, 1) := by decide +kernel
theorem dX4_toRule_85 : decode cX4_toRule 85 = .ok (.goto 4, 3) := by decide +kernel
theorem dX4_toRule_88 : decode cX4_toRule 88 = .ok (.iconst 0, 1) := by decide +kernel
theorem dX4_toRule_89 : decode cX4_toRule 89 = .ok (.istore 5, 2) := by decide +kernel
theorem dX4_toRule_91 : decode cX4_toRule 91 = .ok (.aload_n 0, 1) := by decide +kernel
theorem dX4_toRule_92 : decode cX4_toRule 92 = .ok (.aload_n 0, 1) := by decide +kernel
theorem dX4_toRule_93 : decode cX4_toRule 93 = .ok (.getfield 19, 3) := by decide +kernel
theorem dX4_toRule_96 : decode cX4_toRule 96 = .ok (.iconst 1, 1) := by decide +kernel
theorem dX4_toRule_97 : decode cX4_toRule 97 = .ok (.isub, 1) := by decide +kernel
theorem dX4_toRule_98 : decode cX4_toRule 98 = .ok (.invokevirtual 39, 3) := by decide +kernel
theorem dX4_toRule_101 : decode cX4_toRule 101 = .ok (.bipush 99, 2) := by decide +kernel
theorem dX4_toRule_103 : decode cX4_toRule 103 = .ok (.if_icmp .ne 7, 3) := by decide +kernel
theorem dX4_toRule_106 : decode cX4_toRule 106 = .ok (.iconst 1, 1) := by decide +kernel
theorem dX4_toRule_107 : decode cX4_toRule 107 = .ok (.goto 4, 3) := by decide +kernel
theorem dX4_toRule_110 : decode cX4_toRule 110 = .ok (.iconst 0, 1) := by decide +kernel
theorem dX4_toRule_111 : decode cX4_toRule 111 = .ok (.istore 6, 2) := by decide +kernel
theorem dX4_toRule_113 : decode cX4_toRule 113 = .ok (.new 43, 3) := by decide +kernel
theorem dX4_toRule_116 : decode cX4_toRule 116 = .ok (.dup, 1) := by decide +kernel
theorem dX4_toRule_117 : decode cX4_toRule 117 = .ok (.iload_n 3, 1) := by decide +kernel
theorem dX4_toRule_118 : decode cX4_toRule 118 = .ok (.ifCond .eq 7, 3) := by decide +kernel
theorem dX4_toRule_121 : decode cX4_toRule 121 = .ok (.iload_n 2, 1) := by decide +kernel
theorem dX4_toRule_122 : decode cX4_toRule 122 = .ok (.goto 4, 3) := by decide +kernel
theorem dX4_toRule_125 : decode cX4_toRule 125 = .ok (.iconst 0, 1) := by decide +kernel
theorem dX4_toRule_126 : decode cX4_toRule 126 = .ok (.iload_n 3, 1) := by decide +kernel
theorem dX4_toRule_127 : decode cX4_toRule 127 = .ok (.ifCond .eq 7, 3) := by decide +kernel
theorem dX4_toRule_130 : decode cX4_toRule 130 = .ok (.iconst 0, 1) := by decide +kernel
theorem dX4_toRule_131 : decode cX4_toRule 131 = .ok (.goto 4, 3) := by decide +kernel
theorem dX4_toRule_134 : decode cX4_toRule 134 = .ok (.iload_n 2, 1) := by decide +kernel
theorem dX4_toRule_135 : decode cX4_toRule 135 = .ok (.iload 4, 2) := by decide +kernel
theorem dX4_toRule_137 : decode cX4_toRule 137 = .ok (.iload 5, 2) := by decide +kernel
theorem dX4_toRule_139 : decode cX4_toRule 139 = .ok (.iload 6, 2) := by decide +kernel
theorem dX4_toRule_141 : decode cX4_toRule 141 = .ok (.invokespecial 45, 3) := by decide +kernel
theorem dX4_toRule_144 : decode cX4_toRule 144 = .ok (.areturn, 1) := by decide +kernel
theorem dX4_digestLetters_0 : decode cX4_digestLetters 0 = .ok (.lload_n 1, 1) := by decide +kernel
theorem dX4_digestLetters_1 : decode cX4_digestLetters 1 = .ok (.lstore_n 3, 1) := by decide +kernel
theorem dX4_digestLetters_2 : decode cX4_digestLetters 2 = .ok (.iconst 0, 1) := by decide +kernel
theorem dX4_digestLetters_3 : decode cX4_digestLetters 3 = .ok (.istore 5, 2) := by decide +kernel
theorem dX4_digestLetters_5 : decode cX4_digestLetters 5 = .ok (.iload 5, 2) := by decide +kernel
theorem dX4_digestLetters_7 : decode cX4_digestLetters 7 = .ok (.aload_n 0, 1) := by decide +kernel
theorem dX4_digestLetters_8 : decode cX4_digestLetters 8 = .ok (.getfield 19, 3) := by decide +kernel
theorem dX4_digestLetters_11 : decode cX4_digestLetters 11 = .ok (.if_icmp .ge 22, 3) := by decide +kernel
theorem dX4_digestLetters_14 : decode cX4_digestLetters 14 = .ok (.lload_n 3, 1) := by decide +kernel
theorem dX4_digestLetters_15 : decode cX4_digestLetters 15 = .ok (.aload_n 0, 1) := by decide +kernel
theorem dX4_digestLetters_16 : decode cX4_digestLetters 16 = .ok (.getfield 11, 3) := by decide +kernel
theorem dX4_digestLetters_19 : decode cX4_digestLetters 19 = .ok (.iload 5, 2) := by decide +kernel
theorem dX4_digestLetters_21 : decode cX4_digestLetters 21 = .ok (.iaload, 1) := by decide +kernel
theorem dX4_digestLetters_22 : decode cX4_digestLetters 22 = .ok (.i2l, 1) := by decide +kernel
theorem dX4_digestLetters_23 : decode cX4_digestLetters 23 = .ok (.invokestatic 48, 3) := by decide +kernel
theorem dX4_digestLetters_26 : decode cX4_digestLetters 26 = .ok (.lstore_n 3, 1) := by decide +kernel
theorem dX4_digestLetters_27 : decode cX4_digestLetters 27 = .ok (.iinc 5 1, 3) := by decide +kernel
theorem dX4_digestLetters_30 : decode cX4_digestLetters 30 = .ok (.goto (-25), 3) := by decide +kernel
theorem dX4_digestLetters_33 : decode cX4_digestLetters 33 = .ok (.lload_n 3, 1) := by decide +kernel
theorem dX4_digestLetters_34 : decode cX4_digestLetters 34 = .ok (.lreturn, 1) := by decide +kernel
theorem dX4_codeAt_0 : decode cX4_codeAt 0 = .ok (.iload_n 1, 1) := by decide +kernel
theorem dX4_codeAt_1 : decode cX4_codeAt 1 = .ok (.ifCond .lt 20, 3) := by decide +kernel
theorem dX4_codeAt_4 : decode cX4_codeAt 4 = .ok (.iload_n 1, 1) := by decide +kernel
theorem dX4_codeAt_5 : decode cX4_codeAt 5 = .ok (.aload_n 0, 1) := by decide +kernel
theorem dX4_codeAt_6 : decode cX4_codeAt 6 = .ok (.getfield 19, 3) := by decide +kernel
theorem dX4_codeAt_9 : decode cX4_codeAt 9 = .ok (.if_icmp .ge 12, 3) := by decide +kernel
theorem dX4_codeAt_12 : decode cX4_codeAt 12 = .ok (.aload_n 0, 1) := by decide +kernel
theorem dX4_codeAt_13 : decode cX4_codeAt 13 = .ok (.getfield 11, 3) := by decide +kernel
theorem dX4_codeAt_16 : decode cX4_codeAt 16 = .ok (.iload_n 1, 1) := by decide +kernel
theorem dX4_codeAt_17 : decode cX4_codeAt 17 = .ok (.iaload, 1) := by decide +kernel
theorem dX4_codeAt_18 : decode cX4_codeAt 18 = .ok (.goto 4, 3) := by decide +kernel
theorem dX4_codeAt_21 : decode cX4_codeAt 21 = .ok (.iconst 0, 1) := by decide +kernel
theorem dX4_codeAt_22 : decode cX4_codeAt 22 = .ok (.ireturn, 1) := by decide +kernel
theorem dX4_codeIn_0 : decode cX4_codeIn 0 = .ok (.lload_n 0, 1) := by decide +kernel
theorem dX4_codeIn_1 : decode cX4_codeIn 1 = .ok (.bipush 8, 2) := by decide +kernel
theorem dX4_codeIn_3 : decode cX4_codeIn 3 = .ok (.iload_n 2, 1) := by decide +kernel
theorem dX4_codeIn_4 : decode cX4_codeIn 4 = .ok (.imul, 1) := by decide +kernel
theorem dX4_codeIn_5 : decode cX4_codeIn 5 = .ok (.lushr, 1) := by decide +kernel
theorem dX4_codeIn_6 : decode cX4_codeIn 6 = .ok (.ldc2_w 52, 3) := by decide +kernel
theorem dX4_codeIn_9 : decode cX4_codeIn 9 = .ok (.land, 1) := by decide +kernel
theorem dX4_codeIn_10 : decode cX4_codeIn 10 = .ok (.l2i, 1) := by decide +kernel
theorem dX4_codeIn_11 : decode cX4_codeIn 11 = .ok (.ireturn, 1) := by decide +kernel
theorem dX4_howManyLetters_0 : decode cX4_howManyLetters 0 = .ok (.iconst 0, 1) := by decide +kernel
theorem dX4_howManyLetters_1 : decode cX4_howManyLetters 1 = .ok (.istore_n 2, 1) := by decide +kernel
theorem dX4_howManyLetters_2 : decode cX4_howManyLetters 2 = .ok (.iconst 0, 1) := by decide +kernel
theorem dX4_howManyLetters_3 : decode cX4_howManyLetters 3 = .ok (.istore_n 3, 1) := by decide +kernel
theorem dX4_howManyLetters_4 : decode cX4_howManyLetters 4 = .ok (.iload_n 3, 1) := by decide +kernel
theorem dX4_howManyLetters_5 : decode cX4_howManyLetters 5 = .ok (.bipush 8, 2) := by decide +kernel
theorem dX4_howManyLetters_7 : decode cX4_howManyLetters 7 = .ok (.if_icmp .ge 43, 3) := by decide +kernel
theorem dX4_howManyLetters_10 : decode cX4_howManyLetters 10 = .ok (.lload_n 0, 1) := by decide +kernel
theorem dX4_howManyLetters_11 : decode cX4_howManyLetters 11 = .ok (.iload_n 3, 1) := by decide +kernel
theorem dX4_howManyLetters_12 : decode cX4_howManyLetters 12 = .ok (.invokestatic 23, 3) := by decide +kernel
theorem dX4_howManyLetters_15 : decode cX4_howManyLetters 15 = .ok (.istore 4, 2) := by decide +kernel
theorem dX4_howManyLetters_17 : decode cX4_howManyLetters 17 = .ok (.iload 4, 2) := by decide +kernel
theorem dX4_howManyLetters_19 : decode cX4_howManyLetters 19 = .ok (.bipush 126, 2) := by decide +kernel
theorem dX4_howManyLetters_21 : decode cX4_howManyLetters 21 = .ok (.if_icmp .gt 13, 3) := by decide +kernel
theorem dX4_howManyLetters_24 : decode cX4_howManyLetters 24 = .ok (.iload 4, 2) := by decide +kernel
theorem dX4_howManyLetters_26 : decode cX4_howManyLetters 26 = .ok (.ifCond .eq 10, 3) := by decide +kernel
theorem dX4_howManyLetters_29 : decode cX4_howManyLetters 29 = .ok (.iload_n 2, 1) := by decide +kernel
theorem dX4_howManyLetters_30 : decode cX4_howManyLetters 30 = .ok (.iload_n 3, 1) := by decide +kernel
theorem dX4_howManyLetters_31 : decode cX4_howManyLetters 31 = .ok (.if_icmp .ge 5, 3) := by decide +kernel
theorem dX4_howManyLetters_34 : decode cX4_howManyLetters 34 = .ok (.iconst (-1), 1) := by decide +kernel
theorem dX4_howManyLetters_35 : decode cX4_howManyLetters 35 = .ok (.ireturn, 1) := by decide +kernel
theorem dX4_howManyLetters_36 : decode cX4_howManyLetters 36 = .ok (.iload 4, 2) := by decide +kernel
theorem dX4_howManyLetters_38 : decode cX4_howManyLetters 38 = .ok (.ifCond .eq 6, 3) := by decide +kernel
theorem dX4_howManyLetters_41 : decode cX4_howManyLetters 41 = .ok (.iinc 2 1, 3) := by decide +kernel
theorem dX4_howManyLetters_44 : decode cX4_howManyLetters 44 = .ok (.iinc 3 1, 3) := by decide +kernel
theorem dX4_howManyLetters_47 : decode cX4_howManyLetters 47 = .ok (.goto (-43), 3) := by decide +kernel
theorem dX4_howManyLetters_50 : decode cX4_howManyLetters 50 = .ok (.iload_n 2, 1) := by decide +kernel
theorem dX4_howManyLetters_51 : decode cX4_howManyLetters 51 = .ok (.ireturn, 1) := by decide +kernel
theorem dX4_dueBehind_0 : decode cX4_dueBehind 0 = .ok (.iload_n 0, 1) := by decide +kernel
theorem dX4_dueBehind_1 : decode cX4_dueBehind 1 = .ok (.tableswitch 237 0 8 #[51, 73, 90, 127, 144, 167, 180, 198, 223], 51) := by decide +kernel
theorem dX4_dueBehind_52 : decode cX4_dueBehind 52 = .ok (.iload_n 1, 1) := by decide +kernel
theorem dX4_dueBehind_53 : decode cX4_dueBehind 53 = .ok (.bipush 98, 2) := by decide +kernel
theorem dX4_dueBehind_55 : decode cX4_dueBehind 55 = .ok (.if_icmp .ne 7, 3) := by decide +kernel
theorem dX4_dueBehind_58 : decode cX4_dueBehind 58 = .ok (.iconst 1, 1) := by decide +kernel
theorem dX4_dueBehind_59 : decode cX4_dueBehind 59 = .ok (.goto 14, 3) := by decide +kernel
theorem dX4_dueBehind_62 : decode cX4_dueBehind 62 = .ok (.iload_n 1, 1) := by decide +kernel
theorem dX4_dueBehind_63 : decode cX4_dueBehind 63 = .ok (.bipush 114, 2) := by decide +kernel
theorem dX4_dueBehind_65 : decode cX4_dueBehind 65 = .ok (.if_icmp .ne 7, 3) := by decide +kernel
theorem dX4_dueBehind_68 : decode cX4_dueBehind 68 = .ok (.iconst 2, 1) := by decide +kernel
theorem dX4_dueBehind_69 : decode cX4_dueBehind 69 = .ok (.goto 4, 3) := by decide +kernel
theorem dX4_dueBehind_72 : decode cX4_dueBehind 72 = .ok (.iconst (-1), 1) := by decide +kernel
theorem dX4_dueBehind_73 : decode cX4_dueBehind 73 = .ok (.ireturn, 1) := by decide +kernel
theorem dX4_dueBehind_74 : decode cX4_dueBehind 74 = .ok (.iload_n 1, 1) := by decide +kernel
theorem dX4_dueBehind_75 : decode cX4_dueBehind 75 = .ok (.bipush 49, 2) := by decide +kernel
theorem dX4_dueBehind_77 : decode cX4_dueBehind 77 = .ok (.bipush 56, 2) := by decide +kernel
theorem dX4_dueBehind_79 : decode cX4_dueBehind 79 = .ok (.invokestatic 54, 3) := by decide +kernel
theorem dX4_dueBehind_82 : decode cX4_dueBehind 82 = .ok (.ifCond .eq 7, 3) := by decide +kernel
theorem dX4_dueBehind_85 : decode cX4_dueBehind 85 = .ok (.iconst 5, 1) := by decide +kernel
theorem dX4_dueBehind_86 : decode cX4_dueBehind 86 = .ok (.goto 4, 3) := by decide +kernel
theorem dX4_dueBehind_89 : decode cX4_dueBehind 89 = .ok (.iconst (-1), 1) := by decide +kernel
theorem dX4_dueBehind_90 : decode cX4_dueBehind 90 = .ok (.ireturn, 1) := by decide +kernel
theorem dX4_dueBehind_91 : decode cX4_dueBehind 91 = .ok (.iload_n 1, 1) := by decide +kernel
theorem dX4_dueBehind_92 : decode cX4_dueBehind 92 = .ok (.bipush 49, 2) := by decide +kernel
theorem dX4_dueBehind_94 : decode cX4_dueBehind 94 = .ok (.if_icmp .ne 7, 3) := by decide +kernel
theorem dX4_dueBehind_97 : decode cX4_dueBehind 97 = .ok (.iconst 3, 1) := by decide +kernel
theorem dX4_dueBehind_98 : decode cX4_dueBehind 98 = .ok (.goto 29, 3) := by decide +kernel
theorem dX4_dueBehind_101 : decode cX4_dueBehind 101 = .ok (.iload_n 1, 1) := by decide +kernel
theorem dX4_dueBehind_102 : decode cX4_dueBehind 102 = .ok (.bipush 50, 2) := by decide +kernel
theorem dX4_dueBehind_104 : decode cX4_dueBehind 104 = .ok (.if_icmp .ne 7, 3) := by decide +kernel
theorem dX4_dueBehind_107 : decode cX4_dueBehind 107 = .ok (.iconst 4, 1) := by decide +kernel
theorem dX4_dueBehind_108 : decode cX4_dueBehind 108 = .ok (.goto 19, 3) := by decide +kernel
theorem dX4_dueBehind_111 : decode cX4_dueBehind 111 = .ok (.iload_n 1, 1) := by decide +kernel
theorem dX4_dueBehind_112 : decode cX4_dueBehind 112 = .ok (.bipush 51, 2) := by decide +kernel
theorem dX4_dueBehind_114 : decode cX4_dueBehind 114 = .ok (.bipush 57, 2) := by decide +kernel
theorem dX4_dueBehind_116 : decode cX4_dueBehind 116 = .ok (.invokestatic 54, 3) := by decide +kernel
theorem dX4_dueBehind_119 : decode cX4_dueBehind 119 = .ok (.ifCond .eq 7, 3) := by decide +kernel
theorem dX4_dueBehind_122 : decode cX4_dueBehind 122 = .ok (.iconst 5, 1) := by decide +kernel
theorem dX4_dueBehind_123 : decode cX4_dueBehind 123 = .ok (.goto 4, 3) := by decide +kernel
theorem dX4_dueBehind_126 : decode cX4_dueBehind 126 = .ok (.iconst (-1), 1) := by decide +kernel
theorem dX4_dueBehind_127 : decode cX4_dueBehind 127 = .ok (.ireturn, 1) := by decide +kernel
theorem dX4_dueBehind_128 : decode cX4_dueBehind 128 = .ok (.iload_n 1, 1) := by decide +kernel
theorem dX4_dueBehind_129 : decode cX4_dueBehind 129 = .ok (.bipush 48, 2) := by decide +kernel
theorem dX4_dueBehind_131 : decode cX4_dueBehind 131 = .ok (.bipush 57, 2) := by decide +kernel
theorem dX4_dueBehind_133 : decode cX4_dueBehind 133 = .ok (.invokestatic 54, 3) := by decide +kernel
theorem dX4_dueBehind_136 : decode cX4_dueBehind 136 = .ok (.ifCond .eq 7, 3) := by decide +kernel
theorem dX4_dueBehind_139 : decode cX4_dueBehind 139 = .ok (.iconst 5, 1) := by decide +kernel
theorem dX4_dueBehind_140 : decode cX4_dueBehind 140 = .ok (.goto 4, 3) := by decide +kernel
theorem dX4_dueBehind_143 : decode cX4_dueBehind 143 = .ok (.iconst (-1), 1) := by decide +kernel
theorem dX4_dueBehind_144 : decode cX4_dueBehind 144 = .ok (.ireturn, 1) := by decide +kernel
theorem dX4_dueBehind_145 : decode cX4_dueBehind 145 = .ok (.iload_n 1, 1) := by decide +kernel
theorem dX4_dueBehind_146 : decode cX4_dueBehind 146 = .ok (.bipush 48, 2) := by decide +kernel
theorem dX4_dueBehind_148 : decode cX4_dueBehind 148 = .ok (.if_icmp .ne 7, 3) := by decide +kernel
theorem dX4_dueBehind_151 : decode cX4_dueBehind 151 = .ok (.iconst 5, 1) := by decide +kernel
theorem dX4_dueBehind_152 : decode cX4_dueBehind 152 = .ok (.goto 15, 3) := by decide +kernel
theorem dX4_dueBehind_155 : decode cX4_dueBehind 155 = .ok (.iload_n 1, 1) := by decide +kernel
theorem dX4_dueBehind_156 : decode cX4_dueBehind 156 = .ok (.bipush 113, 2) := by decide +kernel
theorem dX4_dueBehind_158 : decode cX4_dueBehind 158 = .ok (.if_icmp .ne 8, 3) := by decide +kernel
theorem dX4_dueBehind_161 : decode cX4_dueBehind 161 = .ok (.bipush 6, 2) := by decide +kernel
theorem dX4_dueBehind_163 : decode cX4_dueBehind 163 = .ok (.goto 4, 3) := by decide +kernel
theorem dX4_dueBehind_166 : decode cX4_dueBehind 166 = .ok (.iconst (-1), 1) := by decide +kernel
theorem dX4_dueBehind_167 : decode cX4_dueBehind 167 = .ok (.ireturn, 1) := by decide +kernel
theorem dX4_dueBehind_168 : decode cX4_dueBehind 168 = .ok (.iload_n 1, 1) := by decide +kernel
theorem dX4_dueBehind_169 : decode cX4_dueBehind 169 = .ok (.bipush 113, 2) := by decide +kernel
theorem dX4_dueBehind_171 : decode cX4_dueBehind 171 = .ok (.if_icmp .ne 8, 3) := by decide +kernel
theorem dX4_dueBehind_174 : decode cX4_dueBehind 174 = .ok (.bipush 6, 2) := by decide +kernel
theorem dX4_dueBehind_176 : decode cX4_dueBehind 176 = .ok (.goto 4, 3) := by decide +kernel
theorem dX4_dueBehind_179 : decode cX4_dueBehind 179 = .ok (.iconst (-1), 1) := by decide +kernel
theorem dX4_dueBehind_180 : decode cX4_dueBehind 180 = .ok (.ireturn, 1) := by decide +kernel
theorem dX4_dueBehind_181 : decode cX4_dueBehind 181 = .ok (.iload_n 1, 1) := by decide +kernel
theorem dX4_dueBehind_182 : decode cX4_dueBehind 182 = .ok (.bipush 48, 2) := by decide +kernel
theorem dX4_dueBehind_184 : decode cX4_dueBehind 184 = .ok (.bipush 56, 2) := by decide +kernel
theorem dX4_dueBehind_186 : decode cX4_dueBehind 186 = .ok (.invokestatic 54, 3) := by decide +kernel
theorem dX4_dueBehind_189 : decode cX4_dueBehind 189 = .ok (.ifCond .eq 8, 3) := by decide +kernel
theorem dX4_dueBehind_192 : decode cX4_dueBehind 192 = .ok (.bipush 7, 2) := by decide +kernel
theorem dX4_dueBehind_194 : decode cX4_dueBehind 194 = .ok (.goto 4, 3) := by decide +kernel
theorem dX4_dueBehind_197 : decode cX4_dueBehind 197 = .ok (.iconst (-1), 1) := by decide +kernel
theorem dX4_dueBehind_198 : decode cX4_dueBehind 198 = .ok (.ireturn, 1) := by decide +kernel
theorem dX4_dueBehind_199 : decode cX4_dueBehind 199 = .ok (.iload_n 1, 1) := by decide +kernel
theorem dX4_dueBehind_200 : decode cX4_dueBehind 200 = .ok (.bipush 116, 2) := by decide +kernel
theorem dX4_dueBehind_202 : decode cX4_dueBehind 202 = .ok (.if_icmp .ne 8, 3) := by decide +kernel
theorem dX4_dueBehind_205 : decode cX4_dueBehind 205 = .ok (.bipush 8, 2) := by decide +kernel
theorem dX4_dueBehind_207 : decode cX4_dueBehind 207 = .ok (.goto 16, 3) := by decide +kernel
theorem dX4_dueBehind_210 : decode cX4_dueBehind 210 = .ok (.iload_n 1, 1) := by decide +kernel
theorem dX4_dueBehind_211 : decode cX4_dueBehind 211 = .ok (.invokestatic 31, 3) := by decide +kernel
theorem dX4_dueBehind_214 : decode cX4_dueBehind 214 = .ok (.ifCond .eq 8, 3) := by decide +kernel
theorem dX4_dueBehind_217 : decode cX4_dueBehind 217 = .ok (.bipush 9, 2) := by decide +kernel
theorem dX4_dueBehind_219 : decode cX4_dueBehind 219 = .ok (.goto 4, 3) := by decide +kernel
theorem dX4_dueBehind_222 : decode cX4_dueBehind 222 = .ok (.iconst (-1), 1) := by decide +kernel
theorem dX4_dueBehind_223 : decode cX4_dueBehind 223 = .ok (.ireturn, 1) := by decide +kernel
theorem dX4_dueBehind_224 : decode cX4_dueBehind 224 = .ok (.iload_n 1, 1) := by decide +kernel
theorem dX4_dueBehind_225 : decode cX4_dueBehind 225 = .ok (.invokestatic 31, 3) := by decide +kernel
theorem dX4_dueBehind_228 : decode cX4_dueBehind 228 = .ok (.ifCond .eq 8, 3) := by decide +kernel
theorem dX4_dueBehind_231 : decode cX4_dueBehind 231 = .ok (.bipush 9, 2) := by decide +kernel
theorem dX4_dueBehind_233 : decode cX4_dueBehind 233 = .ok (.goto 4, 3) := by decide +kernel
theorem dX4_dueBehind_236 : decode cX4_dueBehind 236 = .ok (.iconst (-1), 1) := by decide +kernel
theorem dX4_dueBehind_237 : decode cX4_dueBehind 237 = .ok (.ireturn, 1) := by decide +kernel
theorem dX4_dueBehind_238 : decode cX4_dueBehind 238 = .ok (.iconst (-1), 1) := by decide +kernel
theorem dX4_dueBehind_239 : decode cX4_dueBehind 239 = .ok (.ireturn, 1) := by decide +kernel
theorem dX4_isCount_0 : decode cX4_isCount 0 = .ok (.iload_n 0, 1) := by decide +kernel
theorem dX4_isCount_1 : decode cX4_isCount 1 = .ok (.bipush 99, 2) := by decide +kernel
theorem dX4_isCount_3 : decode cX4_isCount 3 = .ok (.if_icmp .eq 9, 3) := by decide +kernel
theorem dX4_isCount_6 : decode cX4_isCount 6 = .ok (.iload_n 0, 1) := by decide +kernel
theorem dX4_isCount_7 : decode cX4_isCount 7 = .ok (.bipush 121, 2) := by decide +kernel
theorem dX4_isCount_9 : decode cX4_isCount 9 = .ok (.if_icmp .ne 7, 3) := by decide +kernel
theorem dX4_isCount_12 : decode cX4_isCount 12 = .ok (.iconst 1, 1) := by decide +kernel
theorem dX4_isCount_13 : decode cX4_isCount 13 = .ok (.goto 4, 3) := by decide +kernel
theorem dX4_isCount_16 : decode cX4_isCount 16 = .ok (.iconst 0, 1) := by decide +kernel
theorem dX4_isCount_17 : decode cX4_isCount 17 = .ok (.ireturn, 1) := by decide +kernel
theorem dX5_init_0 : decode cX5_init 0 = .ok (.aload_n 0, 1) := by decide +kernel
theorem dX5_init_1 : decode cX5_init 1 = .ok (.invokespecial 3, 3) := by decide +kernel
theorem dX5_init_4 : decode cX5_init 4 = .ok (.aload_n 0, 1) := by decide +kernel
theorem dX5_init_5 : decode cX5_init 5 = .ok (.bipush 6, 2) := by decide +kernel
theorem dX5_init_7 : decode cX5_init 7 = .ok (.newarray .int, 2) := by decide +kernel
theorem dX5_init_9 : decode cX5_init 9 = .ok (.putfield 9, 3) := by decide +kernel
theorem dX5_init_12 : decode cX5_init 12 = .ok (.aload_n 0, 1) := by decide +kernel
theorem dX5_init_13 : decode cX5_init 13 = .ok (.bipush 6, 2) := by decide +kernel
theorem dX5_init_15 : decode cX5_init 15 = .ok (.newarray .int, 2) := by decide +kernel
theorem dX5_init_17 : decode cX5_init 17 = .ok (.putfield 15, 3) := by decide +kernel
theorem dX5_init_20 : decode cX5_init 20 = .ok (.aload_n 0, 1) := by decide +kernel
theorem dX5_init_21 : decode cX5_init 21 = .ok (.iconst (-1), 1) := by decide +kernel
theorem dX5_init_22 : decode cX5_init 22 = .ok (.putfield 18, 3) := by decide +kernel
theorem dX5_init_25 : decode cX5_init 25 = .ok (.aload_n 0, 1) := by decide +kernel
theorem dX5_init_26 : decode cX5_init 26 = .ok (.iload_n 1, 1) := by decide +kernel
theorem dX5_init_27 : decode cX5_init 27 = .ok (.putfield 22, 3) := by decide +kernel
theorem dX5_init_30 : decode cX5_init 30 = .ok (.aload_n 0, 1) := by decide +kernel
theorem dX5_init_31 : decode cX5_init 31 = .ok (.iload_n 2, 1) := by decide +kernel
theorem dX5_init_32 : decode cX5_init 32 = .ok (.putfield 25, 3) := by decide +kernel
theorem dX5_init_35 : decode cX5_init 35 = .ok (.return_, 1) := by decide +kernel
theorem dX5_kind_0 : decode cX5_kind 0 = .ok (.iconst 0, 1) := by decide +kernel
theorem dX5_kind_1 : decode cX5_kind 1 = .ok (.ireturn, 1) := by decide +kernel
theorem dX5_n_0 : decode cX5_n 0 = .ok (.iconst 0, 1) := by decide +kernel
theorem dX5_n_1 : decode cX5_n 1 = .ok (.ireturn, 1) := by decide +kernel
theorem dX5_blackOfStranger_0 : decode cX5_blackOfStranger 0 = .ok (.iload_n 1, 1) := by decide +kernel
theorem dX5_blackOfStranger_1 : decode cX5_blackOfStranger 1 = .ok (.ireturn, 1) := by decide +kernel
theorem dX5_blackFor_0 : decode cX5_blackFor 0 = .ok (.iload_n 2, 1) := by decide +kernel
theorem dX5_blackFor_1 : decode cX5_blackFor 1 = .ok (.aload_n 0, 1) := by decide +kernel
theorem dX5_blackFor_2 : decode cX5_blackFor 2 = .ok (.getfield 22, 3) := by decide +kernel
theorem dX5_blackFor_5 : decode cX5_blackFor 5 = .ok (.if_icmp .ne 7, 3) := by decide +kernel
theorem dX5_blackFor_8 : decode cX5_blackFor 8 = .ok (.iconst 0, 1) := by decide +kernel
theorem dX5_blackFor_9 : decode cX5_blackFor 9 = .ok (.goto 14, 3) := by decide +kernel
theorem dX5_blackFor_12 : decode cX5_blackFor 12 = .ok (.aload_n 0, 1) := by decide +kernel
theorem dX5_blackFor_13 : decode cX5_blackFor 13 = .ok (.aload_n 0, 1) := by decide +kernel
theorem dX5_blackFor_14 : decode cX5_blackFor 14 = .ok (.iload_n 1, 1) := by decide +kernel
theorem dX5_blackFor_15 : decode cX5_blackFor 15 = .ok (.invokevirtual 28, 3) := by decide +kernel
theorem dX5_blackFor_18 : decode cX5_blackFor 18 = .ok (.iload_n 2, 1) := by decide +kernel
theorem dX5_blackFor_19 : decode cX5_blackFor 19 = .ok (.iload_n 3, 1) := by decide +kernel
theorem dX5_blackFor_20 : decode cX5_blackFor 20 = .ok (.invokevirtual 32, 3) := by decide +kernel
theorem dX5_blackFor_23 : decode cX5_blackFor 23 = .ok (.ireturn, 1) := by decide +kernel
theorem dX5_mindsOf_0 : decode cX5_mindsOf 0 = .ok (.iload_n 1, 1) := by decide +kernel
theorem dX5_mindsOf_1 : decode cX5_mindsOf 1 = .ok (.ifCond .lt 18, 3) := by decide +kernel
theorem dX5_mindsOf_4 : decode cX5_mindsOf 4 = .ok (.iload_n 1, 1) := by decide +kernel
theorem dX5_mindsOf_5 : decode cX5_mindsOf 5 = .ok (.bipush 6, 2) := by decide +kernel
theorem dX5_mindsOf_7 : decode cX5_mindsOf 7 = .ok (.if_icmp .ge 12, 3) := by decide +kernel
theorem dX5_mindsOf_10 : decode cX5_mindsOf 10 = .ok (.aload_n 0, 1) := by decide +kernel
theorem dX5_mindsOf_11 : decode cX5_mindsOf 11 = .ok (.getfield 9, 3) := by decide +kernel
theorem dX5_mindsOf_14 : decode cX5_mindsOf 14 = .ok (.iload_n 1, 1) := by decide +kernel
theorem dX5_mindsOf_15 : decode cX5_mindsOf 15 = .ok (.iaload, 1) := by decide +kernel
theorem dX5_mindsOf_16 : decode cX5_mindsOf 16 = .ok (.goto 4, 3) := by decide +kernel
theorem dX5_mindsOf_19 : decode cX5_mindsOf 19 = .ok (.iconst 0, 1) := by decide +kernel
theorem dX5_mindsOf_20 : decode cX5_mindsOf 20 = .ok (.ireturn, 1) := by decide +kernel
theorem dX5_mindsMuch_0 : decode cX5_mindsMuch 0 = .ok (.aload_n 0, 1) := by decide +kernel
theorem dX5_mindsMuch_1 : decode cX5_mindsMuch 1 = .ok (.iload_n 1, 1) := by decide +kernel
theorem dX5_mindsMuch_2 : decode cX5_mindsMuch 2 = .ok (.invokevirtual 28, 3) := by decide +kernel
theorem dX5_mindsMuch_5 : decode cX5_mindsMuch 5 = .ok (.iconst 5, 1) := by decide +kernel
theorem dX5_mindsMuch_6 : decode cX5_mindsMuch 6 = .ok (.if_icmp .lt 7, 3) := by decide +kernel
theorem dX5_mindsMuch_9 : decode cX5_mindsMuch 9 = .ok (.iconst 1, 1) := by decide +kernel
theorem dX5_mindsMuch_10 : decode cX5_mindsMuch 10 = .ok (.goto 4, 3) := by decide +kernel
theorem dX5_mindsMuch_13 : decode cX5_mindsMuch 13 = .ok (.iconst 0, 1) := by decide +kernel
theorem dX5_mindsMuch_14 : decode cX5_mindsMuch 14 = .ok (.ireturn, 1) := by decide +kernel
theorem dX5_mindFrom_0 : decode cX5_mindFrom 0 = .ok (.iload_n 1, 1) := by decide +kernel
theorem dX5_mindFrom_1 : decode cX5_mindFrom 1 = .ok (.ifCond .lt 16, 3) := by decide +kernel
theorem dX5_mindFrom_4 : decode cX5_mindFrom 4 = .ok (.iload_n 1, 1) := by decide +kernel
theorem dX5_mindFrom_5 : decode cX5_mindFrom 5 = .ok (.bipush 6, 2) := by decide +kernel
theorem dX5_mindFrom_7 : decode cX5_mindFrom 7 = .ok (.if_icmp .ge 10, 3) := by decide +kernel
theorem dX5_mindFrom_10 : decode cX5_mindFrom 10 = .ok (.aload_n 0, 1) := by decide +kernel
theorem dX5_mindFrom_11 : decode cX5_mindFrom 11 = .ok (.getfield 9, 3) := by decide +kernel
theorem dX5_mindFrom_14 : decode cX5_mindFrom 14 = .ok (.iload_n 1, 1) := by decide +kernel
theorem dX5_mindFrom_15 : decode cX5_mindFrom 15 = .ok (.iload_n 2, 1) := by decide +kernel
theorem dX5_mindFrom_16 : decode cX5_mindFrom 16 = .ok (.iastore, 1) := by decide +kernel
theorem dX5_mindFrom_17 : decode cX5_mindFrom 17 = .ok (.return_, 1) := by decide +kernel
theorem dX5_keep_0 : decode cX5_keep 0 = .ok (.aload_n 0, 1) := by decide +kernel
theorem dX5_keep_1 : decode cX5_keep 1 = .ok (.aload_n 0, 1) := by decide +kernel
theorem dX5_keep_2 : decode cX5_keep 2 = .ok (.getfield 25, 3) := by decide +kernel
theorem dX5_keep_5 : decode cX5_keep 5 = .ok (.putfield 18, 3) := by decide +kernel
theorem dX5_keep_8 : decode cX5_keep 8 = .ok (.aload_n 0, 1) := by decide +kernel
theorem dX5_keep_9 : decode cX5_keep 9 = .ok (.iload_n 1, 1) := by decide +kernel
theorem dX5_keep_10 : decode cX5_keep 10 = .ok (.bipush 6, 2) := by decide +kernel
theorem dX5_keep_12 : decode cX5_keep 12 = .ok (.invokestatic 36, 3) := by decide +kernel
theorem dX5_keep_15 : decode cX5_keep 15 = .ok (.putfield 42, 3) := by decide +kernel
theorem dX5_keep_18 : decode cX5_keep 18 = .ok (.aload_n 0, 1) := by decide +kernel
theorem dX5_keep_19 : decode cX5_keep 19 = .ok (.getfield 9, 3) := by decide +kernel
theorem dX5_keep_22 : decode cX5_keep 22 = .ok (.iconst 0, 1) := by decide +kernel
theorem dX5_keep_23 : decode cX5_keep 23 = .ok (.aload_n 0, 1) := by decide +kernel
theorem dX5_keep_24 : decode cX5_keep 24 = .ok (.getfield 15, 3) := by decide +kernel
theorem dX5_keep_27 : decode cX5_keep 27 = .ok (.iconst 0, 1) := by decide +kernel
theorem dX5_keep_28 : decode cX5_keep 28 = .ok (.aload_n 0, 1) := by decide +kernel
theorem dX5_keep_29 : decode cX5_keep 29 = .ok (.getfield 42, 3) := by decide +kernel
theorem dX5_keep_32 : decode cX5_keep 32 = .ok (.invokestatic 45, 3) := by decide +kernel
theorem dX5_keep_35 : decode cX5_keep 35 = .ok (.return_, 1) := by decide +kernel
theorem dX5_takeBack_0 : decode cX5_takeBack 0 = .ok (.aload_n 0, 1) := by decide +kernel
theorem dX5_takeBack_1 : decode cX5_takeBack 1 = .ok (.getfield 18, 3) := by decide +kernel
theorem dX5_takeBack_4 : decode cX5_takeBack 4 = .ok (.iconst (-1), 1) := by decide +kernel
theorem dX5_takeBack_5 : decode cX5_takeBack 5 = .ok (.if_icmp .eq 28, 3) := by decide +kernel
theorem dX5_takeBack_8 : decode cX5_takeBack 8 = .ok (.aload_n 0, 1) := by decide +kernel
theorem dX5_takeBack_9 : decode cX5_takeBack 9 = .ok (.aload_n 0, 1) := by decide +kernel
theorem dX5_takeBack_10 : decode cX5_takeBack 10 = .ok (.getfield 18, 3) := by decide +kernel
theorem dX5_takeBack_13 : decode cX5_takeBack 13 = .ok (.putfield 25, 3) := by decide +kernel
theorem dX5_takeBack_16 : decode cX5_takeBack 16 = .ok (.aload_n 0, 1) := by decide +kernel
theorem dX5_takeBack_17 : decode cX5_takeBack 17 = .ok (.getfield 15, 3) := by decide +kernel
theorem dX5_takeBack_20 : decode cX5_takeBack 20 = .ok (.iconst 0, 1) := by decide +kernel
theorem dX5_takeBack_21 : decode cX5_takeBack 21 = .ok (.aload_n 0, 1) := by decide +kernel
theorem dX5_takeBack_22 : decode cX5_takeBack 22 = .ok (.getfield 9, 3) := by decide +kernel
theorem dX5_takeBack_25 : decode cX5_takeBack 25 = .ok (.iconst 0, 1) := by decide +kernel
theorem dX5_takeBack_26 : decode cX5_takeBack 26 = .ok (.aload_n 0, 1) := by decide +kernel
theorem dX5_takeBack_27 : decode cX5_takeBack 27 = .ok (.getfield 42, 3) := by decide +kernel
theorem dX5_takeBack_30 : decode cX5_takeBack 30 = .ok (.invokestatic 45, 3) := by decide +kernel
theorem dX5_takeBack_33 : decode cX5_takeBack 33 = .ok (.return_, 1) := by decide +kernel
theorem dX6_init_0 : decode cX6_init 0 = .ok (.aload_n 0, 1) := by decide +kernel
theorem dX6_init_1 : decode cX6_init 1 = .ok (.invokespecial 1, 3) := by decide +kernel
theorem dX6_init_4 : decode cX6_init 4 = .ok (.aload_n 0, 1) := by decide +kernel
theorem dX6_init_5 : decode cX6_init 5 = .ok (.iload_n 1, 1) := by decide +kernel
theorem dX6_init_6 : decode cX6_init 6 = .ok (.putfield 7, 3) := by decide +kernel
theorem dX6_init_9 : decode cX6_init 9 = .ok (.aload_n 0, 1) := by decide +kernel
theorem dX6_init_10 : decode cX6_init 10 = .ok (.iload_n 2, 1) := by decide +kernel
theorem dX6_init_11 : decode cX6_init 11 = .ok (.putfield 13, 3) := by decide +kernel
theorem dX6_init_14 : decode cX6_init 14 = .ok (.aload_n 0, 1) := by decide +kernel
theorem dX6_init_15 : decode cX6_init 15 = .ok (.iload_n 3, 1) := by decide +kernel
theorem dX6_init_16 : decode cX6_init 16 = .ok (.putfield 16, 3) := by decide +kernel
theorem dX6_init_19 : decode cX6_init 19 = .ok (.aload_n 0, 1) := by decide +kernel
theorem dX6_init_20 : decode cX6_init 20 = .ok (.iload 4, 2) := by decide +kernel
theorem dX6_init_22 : decode cX6_init 22 = .ok (.putfield 19, 3) := by decide +kernel
theorem dX6_init_25 : decode cX6_init 25 = .ok (.aload_n 0, 1) := by decide +kernel
theorem dX6_init_26 : decode cX6_init 26 = .ok (.iload 5, 2) := by decide +kernel
theorem dX6_init_28 : decode cX6_init 28 = .ok (.putfield 23, 3) := by decide +kernel
theorem dX6_init_31 : decode cX6_init 31 = .ok (.return_, 1) := by decide +kernel
theorem dX6_told_0 : decode cX6_told 0 = .ok (.iload_n 1, 1) := by decide +kernel
theorem dX6_told_1 : decode cX6_told 1 = .ok (.tableswitch 59 0 3 #[31, 36, 41, 46], 31) := by decide +kernel
theorem dX6_told_32 : decode cX6_told 32 = .ok (.aload_n 0, 1) := by decide +kernel
theorem dX6_told_33 : decode cX6_told 33 = .ok (.getfield 7, 3) := by decide +kernel
theorem dX6_told_36 : decode cX6_told 36 = .ok (.ireturn, 1) := by decide +kernel
theorem dX6_told_37 : decode cX6_told 37 = .ok (.aload_n 0, 1) := by decide +kernel
theorem dX6_told_38 : decode cX6_told 38 = .ok (.getfield 13, 3) := by decide +kernel
theorem dX6_told_41 : decode cX6_told 41 = .ok (.ireturn, 1) := by decide +kernel
theorem dX6_told_42 : decode cX6_told 42 = .ok (.aload_n 0, 1) := by decide +kernel
theorem dX6_told_43 : decode cX6_told 43 = .ok (.getfield 16, 3) := by decide +kernel
theorem dX6_told_46 : decode cX6_told 46 = .ok (.ireturn, 1) := by decide +kernel
theorem dX6_told_47 : decode cX6_told 47 = .ok (.aload_n 0, 1) := by decide +kernel
theorem dX6_told_48 : decode cX6_told 48 = .ok (.getfield 19, 3) := by decide +kernel
theorem dX6_told_51 : decode cX6_told 51 = .ok (.ifCond .eq 7, 3) := by decide +kernel
theorem dX6_told_54 : decode cX6_told 54 = .ok (.iconst 1, 1) := by decide +kernel
theorem dX6_told_55 : decode cX6_told 55 = .ok (.goto 4, 3) := by decide +kernel
theorem dX6_told_58 : decode cX6_told 58 = .ok (.iconst 0, 1) := by decide +kernel
theorem dX6_told_59 : decode cX6_told 59 = .ok (.ireturn, 1) := by decide +kernel
theorem dX6_told_60 : decode cX6_told 60 = .ok (.aload_n 0, 1) := by decide +kernel
theorem dX6_told_61 : decode cX6_told 61 = .ok (.getfield 23, 3) := by decide +kernel
theorem dX6_told_64 : decode cX6_told 64 = .ok (.ifCond .eq 7, 3) := by decide +kernel
theorem dX6_told_67 : decode cX6_told 67 = .ok (.iconst 1, 1) := by decide +kernel
theorem dX6_told_68 : decode cX6_told 68 = .ok (.goto 4, 3) := by decide +kernel
theorem dX6_told_71 : decode cX6_told 71 = .ok (.iconst 0, 1) := by decide +kernel
theorem dX6_told_72 : decode cX6_told 72 = .ok (.ireturn, 1) := by decide +kernel
theorem dX6_hasQuorum_0 : decode cX6_hasQuorum 0 = .ok (.iload_n 1, 1) := by decide +kernel
theorem dX6_hasQuorum_1 : decode cX6_hasQuorum 1 = .ok (.ifCond .le 15, 3) := by decide +kernel
theorem dX6_hasQuorum_4 : decode cX6_hasQuorum 4 = .ok (.iload_n 1, 1) := by decide +kernel
theorem dX6_hasQuorum_5 : decode cX6_hasQuorum 5 = .ok (.aload_n 0, 1) := by decide +kernel
theorem dX6_hasQuorum_6 : decode cX6_hasQuorum 6 = .ok (.getfield 16, 3) := by decide +kernel
theorem dX6_hasQuorum_9 : decode cX6_hasQuorum 9 = .ok (.if_icmp .lt 7, 3) := by decide +kernel
theorem dX6_hasQuorum_12 : decode cX6_hasQuorum 12 = .ok (.iconst 1, 1) := by decide +kernel
theorem dX6_hasQuorum_13 : decode cX6_hasQuorum 13 = .ok (.goto 4, 3) := by decide +kernel
theorem dX6_hasQuorum_16 : decode cX6_hasQuorum 16 = .ok (.iconst 0, 1) := by decide +kernel
theorem dX6_hasQuorum_17 : decode cX6_hasQuorum 17 = .ok (.ireturn, 1) := by decide +kernel
theorem dX6_shutsOut_0 : decode cX6_shutsOut 0 = .ok (.aload_n 0, 1) := by decide +kernel
theorem dX6_shutsOut_1 : decode cX6_shutsOut 1 = .ok (.getfield 13, 3) := by decide +kernel
theorem dX6_shutsOut_4 : decode cX6_shutsOut 4 = .ok (.ifCond .le 21, 3) := by decide +kernel
theorem dX6_shutsOut_7 : decode cX6_shutsOut 7 = .ok (.aload_n 0, 1) := by decide +kernel
theorem dX6_shutsOut_8 : decode cX6_shutsOut 8 = .ok (.getfield 13, 3) := by decide +kernel
theorem dX6_shutsOut_11 : decode cX6_shutsOut 11 = .ok (.iload_n 1, 1) := by decide +kernel
theorem dX6_shutsOut_12 : decode cX6_shutsOut 12 = .ok (.imul, 1) := by decide +kernel
theorem dX6_shutsOut_13 : decode cX6_shutsOut 13 = .ok (.iload_n 2, 1) := by decide +kernel
theorem dX6_shutsOut_14 : decode cX6_shutsOut 14 = .ok (.if_icmp .lt 7, 3) := by decide +kernel
theorem dX6_shutsOut_17 : decode cX6_shutsOut 17 = .ok (.iconst 1, 1) := by decide +kernel
theorem dX6_shutsOut_18 : decode cX6_shutsOut 18 = .ok (.goto 20, 3) := by decide +kernel
theorem dX6_shutsOut_21 : decode cX6_shutsOut 21 = .ok (.iconst 0, 1) := by decide +kernel
theorem dX6_shutsOut_22 : decode cX6_shutsOut 22 = .ok (.goto 16, 3) := by decide +kernel
theorem dX6_shutsOut_25 : decode cX6_shutsOut 25 = .ok (.iload_n 1, 1) := by decide +kernel
theorem dX6_shutsOut_26 : decode cX6_shutsOut 26 = .ok (.aload_n 0, 1) := by decide +kernel
theorem dX6_shutsOut_27 : decode cX6_shutsOut 27 = .ok (.getfield 7, 3) := by decide +kernel
theorem dX6_shutsOut_30 : decode cX6_shutsOut 30 = .ok (.if_icmp .lt 7, 3) := by decide +kernel
theorem dX6_shutsOut_33 : decode cX6_shutsOut 33 = .ok (.iconst 1, 1) := by decide +kernel
theorem dX6_shutsOut_34 : decode cX6_shutsOut 34 = .ok (.goto 4, 3) := by decide +kernel
theorem dX6_shutsOut_37 : decode cX6_shutsOut 37 = .ok (.iconst 0, 1) := by decide +kernel
theorem dX6_shutsOut_38 : decode cX6_shutsOut 38 = .ok (.ireturn, 1) := by decide +kernel
theorem dX6_letsIn_0 : decode cX6_letsIn 0 = .ok (.aload_n 0, 1) := by decide +kernel
theorem dX6_letsIn_1 : decode cX6_letsIn 1 = .ok (.iload_n 2, 1) := by decide +kernel
theorem dX6_letsIn_2 : decode cX6_letsIn 2 = .ok (.invokevirtual 26, 3) := by decide +kernel
theorem dX6_letsIn_5 : decode cX6_letsIn 5 = .ok (.ifCond .eq 16, 3) := by decide +kernel
theorem dX6_letsIn_8 : decode cX6_letsIn 8 = .ok (.aload_n 0, 1) := by decide +kernel
theorem dX6_letsIn_9 : decode cX6_letsIn 9 = .ok (.iload_n 1, 1) := by decide +kernel
theorem dX6_letsIn_10 : decode cX6_letsIn 10 = .ok (.iload_n 2, 1) := by decide +kernel
theorem dX6_letsIn_11 : decode cX6_letsIn 11 = .ok (.invokevirtual 30, 3) := by decide +kernel
theorem dX6_letsIn_14 : decode cX6_letsIn 14 = .ok (.ifCond .ne 7, 3) := by decide +kernel
theorem dX6_letsIn_17 : decode cX6_letsIn 17 = .ok (.iconst 1, 1) := by decide +kernel
theorem dX6_letsIn_18 : decode cX6_letsIn 18 = .ok (.goto 4, 3) := by decide +kernel
theorem dX6_letsIn_21 : decode cX6_letsIn 21 = .ok (.iconst 0, 1) := by decide +kernel
theorem dX6_letsIn_22 : decode cX6_letsIn 22 = .ok (.ireturn, 1) := by decide +kernel
theorem dX7_init_0 : decode cX7_init 0 = .ok (.aload_n 0, 1) := by decide +kernel
theorem dX7_init_1 : decode cX7_init 1 = .ok (.invokespecial 3, 3) := by decide +kernel
theorem dX7_init_4 : decode cX7_init 4 = .ok (.aload_n 0, 1) := by decide +kernel
theorem dX7_init_5 : decode cX7_init 5 = .ok (.bipush 9, 2) := by decide +kernel
theorem dX7_init_7 : decode cX7_init 7 = .ok (.newarray .long, 2) := by decide +kernel
theorem dX7_init_9 : decode cX7_init 9 = .ok (.putfield 9, 3) := by decide +kernel
theorem dX7_init_12 : decode cX7_init 12 = .ok (.return_, 1) := by decide +kernel
theorem dX7_begin_0 : decode cX7_begin 0 = .ok (.aload_n 0, 1) := by decide +kernel
theorem dX7_begin_1 : decode cX7_begin 1 = .ok (.iconst 0, 1) := by decide +kernel
theorem dX7_begin_2 : decode cX7_begin 2 = .ok (.putfield 15, 3) := by decide +kernel
theorem dX7_begin_5 : decode cX7_begin 5 = .ok (.aload_n 0, 1) := by decide +kernel
theorem dX7_begin_6 : decode cX7_begin 6 = .ok (.lconst 1, 1) := by decide +kernel
theorem dX7_begin_7 : decode cX7_begin 7 = .ok (.putfield 19, 3) := by decide +kernel
theorem dX7_begin_10 : decode cX7_begin 10 = .ok (.aload_n 0, 1) := by decide +kernel
theorem dX7_begin_11 : decode cX7_begin 11 = .ok (.getfield 9, 3) := by decide +kernel
theorem dX7_begin_14 : decode cX7_begin 14 = .ok (.iconst 0, 1) := by decide +kernel
theorem dX7_begin_15 : decode cX7_begin 15 = .ok (.lconst 1, 1) := by decide +kernel
theorem dX7_begin_16 : decode cX7_begin 16 = .ok (.lastore, 1) := by decide +kernel
theorem dX7_begin_17 : decode cX7_begin 17 = .ok (.return_, 1) := by decide +kernel
theorem dX7_put_0 : decode cX7_put 0 = .ok (.aload_n 0, 1) := by decide +kernel
theorem dX7_put_1 : decode cX7_put 1 = .ok (.getfield 15, 3) := by decide +kernel
theorem dX7_put_4 : decode cX7_put 4 = .ok (.bipush 8, 2) := by decide +kernel
theorem dX7_put_6 : decode cX7_put 6 = .ok (.if_icmp .lt 4, 3) := by decide +kernel
theorem dX7_put_9 : decode cX7_put 9 = .ok (.return_, 1) := by decide +kernel
theorem dX7_put_10 : decode cX7_put 10 = .ok (.aload_n 0, 1) := by decide +kernel
theorem dX7_put_11 : decode cX7_put 11 = .ok (.dup, 1) := by decide +kernel
theorem dX7_put_12 : decode cX7_put 12 = .ok (.getfield 15, 3) := by decide +kernel
theorem dX7_put_15 : decode cX7_put 15 = .ok (.iconst 1, 1) := by decide +kernel
theorem dX7_put_16 : decode cX7_put 16 = .ok (.iadd, 1) := by decide +kernel
theorem dX7_put_17 : decode cX7_put 17 = .ok (.putfield 15, 3) := by decide +kernel
theorem dX7_put_20 : decode cX7_put 20 = .ok (.aload_n 0, 1) := by decide +kernel
theorem dX7_put_21 : decode cX7_put 21 = .ok (.getfield 9, 3) := by decide +kernel
theorem dX7_put_24 : decode cX7_put 24 = .ok (.aload_n 0, 1) := by decide +kernel
theorem dX7_put_25 : decode cX7_put 25 = .ok (.getfield 15, 3) := by decide +kernel
theorem dX7_put_28 : decode cX7_put 28 = .ok (.lconst 0, 1) := by decide +kernel
theorem dX7_put_29 : decode cX7_put 29 = .ok (.lastore, 1) := by decide +kernel
theorem dX7_put_30 : decode cX7_put 30 = .ok (.bipush 10, 2) := by decide +kernel
theorem dX7_put_32 : decode cX7_put 32 = .ok (.iload_n 1, 1) := by decide +kernel
theorem dX7_put_33 : decode cX7_put 33 = .ok (.isub, 1) := by decide +kernel
theorem dX7_put_34 : decode cX7_put 34 = .ok (.istore_n 2, 1) := by decide +kernel
theorem dX7_put_35 : decode cX7_put 35 = .ok (.aload_n 0, 1) := by decide +kernel
theorem dX7_put_36 : decode cX7_put 36 = .ok (.getfield 15, 3) := by decide +kernel
theorem dX7_put_39 : decode cX7_put 39 = .ok (.istore_n 3, 1) := by decide +kernel
theorem dX7_put_40 : decode cX7_put 40 = .ok (.iload_n 3, 1) := by decide +kernel
theorem dX7_put_41 : decode cX7_put 41 = .ok (.iconst 1, 1) := by decide +kernel
theorem dX7_put_42 : decode cX7_put 42 = .ok (.if_icmp .lt 36, 3) := by decide +kernel
theorem dX7_put_45 : decode cX7_put 45 = .ok (.aload_n 0, 1) := by decide +kernel
theorem dX7_put_46 : decode cX7_put 46 = .ok (.getfield 9, 3) := by decide +kernel
theorem dX7_put_49 : decode cX7_put 49 = .ok (.iload_n 3, 1) := by decide +kernel
theorem dX7_put_50 : decode cX7_put 50 = .ok (.aload_n 0, 1) := by decide +kernel
theorem dX7_put_51 : decode cX7_put 51 = .ok (.getfield 9, 3) := by decide +kernel
theorem dX7_put_54 : decode cX7_put 54 = .ok (.iload_n 3, 1) := by decide +kernel
theorem dX7_put_55 : decode cX7_put 55 = .ok (.laload, 1) := by decide +kernel
theorem dX7_put_56 : decode cX7_put 56 = .ok (.iload_n 2, 1) := by decide +kernel
theorem dX7_put_57 : decode cX7_put 57 = .ok (.i2l, 1) := by decide +kernel
theorem dX7_put_58 : decode cX7_put 58 = .ok (.lmul, 1) := by decide +kernel
theorem dX7_put_59 : decode cX7_put 59 = .ok (.aload_n 0, 1) := by decide +kernel
theorem dX7_put_60 : decode cX7_put 60 = .ok (.getfield 9, 3) := by decide +kernel
theorem dX7_put_63 : decode cX7_put 63 = .ok (.iload_n 3, 1) := by decide +kernel
theorem dX7_put_64 : decode cX7_put 64 = .ok (.iconst 1, 1) := by decide +kernel
theorem dX7_put_65 : decode cX7_put 65 = .ok (.isub, 1) := by decide +kernel
theorem dX7_put_66 : decode cX7_put 66 = .ok (.laload, 1) := by decide +kernel
theorem dX7_put_67 : decode cX7_put 67 = .ok (.iload_n 1, 1) := by decide +kernel
theorem dX7_put_68 : decode cX7_put 68 = .ok (.i2l, 1) := by decide +kernel
theorem dX7_put_69 : decode cX7_put 69 = .ok (.lmul, 1) := by decide +kernel
theorem dX7_put_70 : decode cX7_put 70 = .ok (.ladd, 1) := by decide +kernel
theorem dX7_put_71 : decode cX7_put 71 = .ok (.lastore, 1) := by decide +kernel
theorem dX7_put_72 : decode cX7_put 72 = .ok (.iinc 3 (-1), 3) := by decide +kernel
theorem dX7_put_75 : decode cX7_put 75 = .ok (.goto (-35), 3) := by decide +kernel
theorem dX7_put_78 : decode cX7_put 78 = .ok (.aload_n 0, 1) := by decide +kernel
theorem dX7_put_79 : decode cX7_put 79 = .ok (.getfield 9, 3) := by decide +kernel
theorem dX7_put_82 : decode cX7_put 82 = .ok (.iconst 0, 1) := by decide +kernel
theorem dX7_put_83 : decode cX7_put 83 = .ok (.dup2, 1) := by decide +kernel
theorem dX7_put_84 : decode cX7_put 84 = .ok (.laload, 1) := by decide +kernel
theorem dX7_put_85 : decode cX7_put 85 = .ok (.iload_n 2, 1) := by decide +kernel
theorem dX7_put_86 : decode cX7_put 86 = .ok (.i2l, 1) := by decide +kernel
theorem dX7_put_87 : decode cX7_put 87 = .ok (.lmul, 1) := by decide +kernel
theorem dX7_put_88 : decode cX7_put 88 = .ok (.lastore, 1) := by decide +kernel
theorem dX7_put_89 : decode cX7_put 89 = .ok (.aload_n 0, 1) := by decide +kernel
theorem dX7_put_90 : decode cX7_put 90 = .ok (.dup, 1) := by decide +kernel
theorem dX7_put_91 : decode cX7_put 91 = .ok (.getfield 19, 3) := by decide +kernel
theorem dX7_put_94 : decode cX7_put 94 = .ok (.ldc2_w 23, 3) := by decide +kernel
theorem dX7_put_97 : decode cX7_put 97 = .ok (.lmul, 1) := by decide +kernel
theorem dX7_put_98 : decode cX7_put 98 = .ok (.putfield 19, 3) := by decide +kernel
theorem dX7_put_101 : decode cX7_put 101 = .ok (.return_, 1) := by decide +kernel
theorem dX7_waysTo_0 : decode cX7_waysTo 0 = .ok (.iload_n 1, 1) := by decide +kernel
theorem dX7_waysTo_1 : decode cX7_waysTo 1 = .ok (.ifCond .lt 20, 3) := by decide +kernel
theorem dX7_waysTo_4 : decode cX7_waysTo 4 = .ok (.iload_n 1, 1) := by decide +kernel
theorem dX7_waysTo_5 : decode cX7_waysTo 5 = .ok (.aload_n 0, 1) := by decide +kernel
theorem dX7_waysTo_6 : decode cX7_waysTo 6 = .ok (.getfield 15, 3) := by decide +kernel
theorem dX7_waysTo_9 : decode cX7_waysTo 9 = .ok (.if_icmp .gt 12, 3) := by decide +kernel
theorem dX7_waysTo_12 : decode cX7_waysTo 12 = .ok (.aload_n 0, 1) := by decide +kernel
theorem dX7_waysTo_13 : decode cX7_waysTo 13 = .ok (.getfield 9, 3) := by decide +kernel
theorem dX7_waysTo_16 : decode cX7_waysTo 16 = .ok (.iload_n 1, 1) := by decide +kernel
theorem dX7_waysTo_17 : decode cX7_waysTo 17 = .ok (.laload, 1) := by decide +kernel
theorem dX7_waysTo_18 : decode cX7_waysTo 18 = .ok (.goto 4, 3) := by decide +kernel
theorem dX7_waysTo_21 : decode cX7_waysTo 21 = .ok (.lconst 0, 1) := by decide +kernel
theorem dX7_waysTo_22 : decode cX7_waysTo 22 = .ok (.lreturn, 1) := by decide +kernel
theorem dX7_all_0 : decode cX7_all 0 = .ok (.aload_n 0, 1) := by decide +kernel
theorem dX7_all_1 : decode cX7_all 1 = .ok (.getfield 19, 3) := by decide +kernel
theorem dX7_all_4 : decode cX7_all 4 = .ok (.lreturn, 1) := by decide +kernel
theorem dX8_init_0 : decode cX8_init 0 = .ok (.aload_n 0, 1) := by decide +kernel
theorem dX8_init_1 : decode cX8_init 1 = .ok (.iload_n 1, 1) := by decide +kernel
theorem dX8_init_2 : decode cX8_init 2 = .ok (.iload_n 2, 1) := by decide +kernel
theorem dX8_init_3 : decode cX8_init 3 = .ok (.iload_n 3, 1) := by decide +kernel
theorem dX8_init_4 : decode cX8_init 4 = .ok (.invokespecial 3, 3) := by decide +kernel
theorem dX8_init_7 : decode cX8_init 7 = .ok (.return_, 1) := by decide +kernel
theorem dX8_kind_0 : decode cX8_kind 0 = .ok (.iconst 4, 1) := by decide +kernel
theorem dX8_kind_1 : decode cX8_kind 1 = .ok (.ireturn, 1) := by decide +kernel
theorem dX8_blackOfStranger_0 : decode cX8_blackOfStranger 0 = .ok (.iload_n 2, 1) := by decide +kernel
theorem dX8_blackOfStranger_1 : decode cX8_blackOfStranger 1 = .ok (.aload_n 0, 1) := by decide +kernel
theorem dX8_blackOfStranger_2 : decode cX8_blackOfStranger 2 = .ok (.invokevirtual 9, 3) := by decide +kernel
theorem dX8_blackOfStranger_5 : decode cX8_blackOfStranger 5 = .ok (.if_icmp .ne 7, 3) := by decide +kernel
theorem dX8_blackOfStranger_8 : decode cX8_blackOfStranger 8 = .ok (.iconst 0, 1) := by decide +kernel
theorem dX8_blackOfStranger_9 : decode cX8_blackOfStranger 9 = .ok (.goto 4, 3) := by decide +kernel
theorem dX8_blackOfStranger_12 : decode cX8_blackOfStranger 12 = .ok (.iload_n 1, 1) := by decide +kernel
theorem dX8_blackOfStranger_13 : decode cX8_blackOfStranger 13 = .ok (.ireturn, 1) := by decide +kernel
theorem dX9_init_0 : decode cX9_init 0 = .ok (.aload_n 0, 1) := by decide +kernel
theorem dX9_init_1 : decode cX9_init 1 = .ok (.invokespecial 3, 3) := by decide +kernel
theorem dX9_init_4 : decode cX9_init 4 = .ok (.aload_n 0, 1) := by decide +kernel
theorem dX9_init_5 : decode cX9_init 5 = .ok (.bipush 81, 2) := by decide +kernel
theorem dX9_init_7 : decode cX9_init 7 = .ok (.newarray .long, 2) := by decide +kernel
theorem dX9_init_9 : decode cX9_init 9 = .ok (.putfield 11, 3) := by decide +kernel
theorem dX9_init_12 : decode cX9_init 12 = .ok (.return_, 1) := by decide +kernel
theorem dX9_begin_0 : decode cX9_begin 0 = .ok (.aload_n 0, 1) := by decide +kernel
theorem dX9_begin_1 : decode cX9_begin 1 = .ok (.getfield 11, 3) := by decide +kernel
theorem dX9_begin_4 : decode cX9_begin 4 = .ok (.lconst 0, 1) := by decide +kernel
theorem dX9_begin_5 : decode cX9_begin 5 = .ok (.invokestatic 15, 3) := by decide +kernel
theorem dX9_begin_8 : decode cX9_begin 8 = .ok (.aload_n 0, 1) := by decide +kernel
theorem dX9_begin_9 : decode cX9_begin 9 = .ok (.getfield 11, 3) := by decide +kernel
theorem dX9_begin_12 : decode cX9_begin 12 = .ok (.iconst 0, 1) := by decide +kernel
theorem dX9_begin_13 : decode cX9_begin 13 = .ok (.lconst 1, 1) := by decide +kernel
theorem dX9_begin_14 : decode cX9_begin 14 = .ok (.lastore, 1) := by decide +kernel
theorem dX9_begin_15 : decode cX9_begin 15 = .ok (.aload_n 0, 1) := by decide +kernel
theorem dX9_begin_16 : decode cX9_begin 16 = .ok (.iconst 0, 1) := by decide +kernel
theorem dX9_begin_17 : decode cX9_begin 17 = .ok (.putfield 21, 3) := by decide +kernel
theorem dX9_begin_20 : decode cX9_begin 20 = .ok (.aload_n 0, 1) := by decide +kernel
theorem dX9_begin_21 : decode cX9_begin 21 = .ok (.lconst 1, 1) := by decide +kernel
theorem dX9_begin_22 : decode cX9_begin 22 = .ok (.putfield 25, 3) := by decide +kernel
theorem dX9_begin_25 : decode cX9_begin 25 = .ok (.return_, 1) := by decide +kernel
theorem dX9_mayCome_0 : decode cX9_mayCome 0 = .ok (.aload_n 0, 1) := by decide +kernel
theorem dX9_mayCome_1 : decode cX9_mayCome 1 = .ok (.getfield 21, 3) := by decide +kernel
theorem dX9_mayCome_4 : decode cX9_mayCome 4 = .ok (.bipush 8, 2) := by decide +kernel
theorem dX9_mayCome_6 : decode cX9_mayCome 6 = .ok (.if_icmp .lt 4, 3) := by decide +kernel
theorem dX9_mayCome_9 : decode cX9_mayCome 9 = .ok (.return_, 1) := by decide +kernel
theorem dX9_mayCome_10 : decode cX9_mayCome 10 = .ok (.aload_n 0, 1) := by decide +kernel
theorem dX9_mayCome_11 : decode cX9_mayCome 11 = .ok (.dup, 1) := by decide +kernel
theorem dX9_mayCome_12 : decode cX9_mayCome 12 = .ok (.getfield 21, 3) := by decide +kernel
theorem dX9_mayCome_15 : decode cX9_mayCome 15 = .ok (.iconst 1, 1) := by decide +kernel
theorem dX9_mayCome_16 : decode cX9_mayCome 16 = .ok (.iadd, 1) := by decide +kernel
theorem dX9_mayCome_17 : decode cX9_mayCome 17 = .ok (.putfield 21, 3) := by decide +kernel
theorem dX9_mayCome_20 : decode cX9_mayCome 20 = .ok (.aload_n 0, 1) := by decide +kernel
theorem dX9_mayCome_21 : decode cX9_mayCome 21 = .ok (.dup, 1) := by decide +kernel
theorem dX9_mayCome_22 : decode cX9_mayCome 22 = .ok (.getfield 25, 3) := by decide +kernel
theorem dX9_mayCome_25 : decode cX9_mayCome 25 = .ok (.ldc2_w 29, 3) := by decide +kernel
theorem dX9_mayCome_28 : decode cX9_mayCome 28 = .ok (.lmul, 1) := by decide +kernel
theorem dX9_mayCome_29 : decode cX9_mayCome 29 = .ok (.putfield 25, 3) := by decide +kernel
theorem dX9_mayCome_32 : decode cX9_mayCome 32 = .ok (.bipush 10, 2) := by decide +kernel
theorem dX9_mayCome_34 : decode cX9_mayCome 34 = .ok (.iload_n 1, 1) := by decide +kernel
theorem dX9_mayCome_35 : decode cX9_mayCome 35 = .ok (.isub, 1) := by decide +kernel
theorem dX9_mayCome_36 : decode cX9_mayCome 36 = .ok (.bipush 10, 2) := by decide +kernel
theorem dX9_mayCome_38 : decode cX9_mayCome 38 = .ok (.imul, 1) := by decide +kernel
theorem dX9_mayCome_39 : decode cX9_mayCome 39 = .ok (.i2l, 1) := by decide +kernel
theorem dX9_mayCome_40 : decode cX9_mayCome 40 = .ok (.lstore_n 3, 1) := by decide +kernel
theorem dX9_mayCome_41 : decode cX9_mayCome 41 = .ok (.iload_n 1, 1) := by decide +kernel
theorem dX9_mayCome_42 : decode cX9_mayCome 42 = .ok (.iload_n 2, 1) := by decide +kernel
theorem dX9_mayCome_43 : decode cX9_mayCome 43 = .ok (.imul, 1) := by decide +kernel
theorem dX9_mayCome_44 : decode cX9_mayCome 44 = .ok (.i2l, 1) := by decide +kernel
theorem dX9_mayCome_45 : decode cX9_mayCome 45 = .ok (.lstore 5, 2) := by decide +kernel
theorem dX9_mayCome_47 : decode cX9_mayCome 47 = .ok (.iload_n 1, 1) := by decide +kernel
theorem dX9_mayCome_48 : decode cX9_mayCome 48 = .ok (.bipush 10, 2) := by decide +kernel
theorem dX9_mayCome_50 : decode cX9_mayCome 50 = .ok (.iload_n 2, 1) := by decide +kernel
theorem dX9_mayCome_51 : decode cX9_mayCome 51 = .ok (.isub, 1) := by decide +kernel
theorem dX9_mayCome_52 : decode cX9_mayCome 52 = .ok (.imul, 1) := by decide +kernel
theorem dX9_mayCome_53 : decode cX9_mayCome 53 = .ok (.i2l, 1) := by decide +kernel
theorem dX9_mayCome_54 : decode cX9_mayCome 54 = .ok (.lstore 7, 2) := by decide +kernel
theorem dX9_mayCome_56 : decode cX9_mayCome 56 = .ok (.aload_n 0, 1) := by decide +kernel
theorem dX9_mayCome_57 : decode cX9_mayCome 57 = .ok (.getfield 21, 3) := by decide +kernel
theorem dX9_mayCome_60 : decode cX9_mayCome 60 = .ok (.istore 9, 2) := by decide +kernel
theorem dX9_mayCome_62 : decode cX9_mayCome 62 = .ok (.iload 9, 2) := by decide +kernel
theorem dX9_mayCome_64 : decode cX9_mayCome 64 = .ok (.ifCond .lt 77, 3) := by decide +kernel
theorem dX9_mayCome_67 : decode cX9_mayCome 67 = .ok (.iload 9, 2) := by decide +kernel
theorem dX9_mayCome_69 : decode cX9_mayCome 69 = .ok (.istore 10, 2) := by decide +kernel
theorem dX9_mayCome_71 : decode cX9_mayCome 71 = .ok (.iload 10, 2) := by decide +kernel
theorem dX9_mayCome_73 : decode cX9_mayCome 73 = .ok (.ifCond .lt 62, 3) := by decide +kernel
theorem dX9_mayCome_76 : decode cX9_mayCome 76 = .ok (.aload_n 0, 1) := by decide +kernel
theorem dX9_mayCome_77 : decode cX9_mayCome 77 = .ok (.getfield 11, 3) := by decide +kernel
theorem dX9_mayCome_80 : decode cX9_mayCome 80 = .ok (.iload 9, 2) := by decide +kernel
theorem dX9_mayCome_82 : decode cX9_mayCome 82 = .ok (.bipush 9, 2) := by decide +kernel
theorem dX9_mayCome_84 : decode cX9_mayCome 84 = .ok (.imul, 1) := by decide +kernel
theorem dX9_mayCome_85 : decode cX9_mayCome 85 = .ok (.iload 10, 2) := by decide +kernel
theorem dX9_mayCome_87 : decode cX9_mayCome 87 = .ok (.iadd, 1) := by decide +kernel
theorem dX9_mayCome_88 : decode cX9_mayCome 88 = .ok (.aload_n 0, 1) := by decide +kernel
theorem dX9_mayCome_89 : decode cX9_mayCome 89 = .ok (.iload 9, 2) := by decide +kernel
theorem dX9_mayCome_91 : decode cX9_mayCome 91 = .ok (.iload 10, 2) := by decide +kernel
theorem dX9_mayCome_93 : decode cX9_mayCome 93 = .ok (.invokevirtual 31, 3) := by decide +kernel
theorem dX9_mayCome_96 : decode cX9_mayCome 96 = .ok (.lload_n 3, 1) := by decide +kernel
theorem dX9_mayCome_97 : decode cX9_mayCome 97 = .ok (.lmul, 1) := by decide +kernel
theorem dX9_mayCome_98 : decode cX9_mayCome 98 = .ok (.aload_n 0, 1) := by decide +kernel
theorem dX9_mayCome_99 : decode cX9_mayCome 99 = .ok (.iload 9, 2) := by decide +kernel
theorem dX9_mayCome_101 : decode cX9_mayCome 101 = .ok (.iconst 1, 1) := by decide +kernel
theorem dX9_mayCome_102 : decode cX9_mayCome 102 = .ok (.isub, 1) := by decide +kernel
theorem dX9_mayCome_103 : decode cX9_mayCome 103 = .ok (.iload 10, 2) := by decide +kernel
theorem dX9_mayCome_105 : decode cX9_mayCome 105 = .ok (.invokevirtual 31, 3) := by decide +kernel
theorem dX9_mayCome_108 : decode cX9_mayCome 108 = .ok (.lload 7, 2) := by decide +kernel
theorem dX9_mayCome_110 : decode cX9_mayCome 110 = .ok (.lmul, 1) := by decide +kernel
theorem dX9_mayCome_111 : decode cX9_mayCome 111 = .ok (.ladd, 1) := by decide +kernel
theorem dX9_mayCome_112 : decode cX9_mayCome 112 = .ok (.aload_n 0, 1) := by decide +kernel
theorem dX9_mayCome_113 : decode cX9_mayCome 113 = .ok (.iload 9, 2) := by decide +kernel
theorem dX9_mayCome_115 : decode cX9_mayCome 115 = .ok (.iconst 1, 1) := by decide +kernel
theorem dX9_mayCome_116 : decode cX9_mayCome 116 = .ok (.isub, 1) := by decide +kernel
theorem dX9_mayCome_117 : decode cX9_mayCome 117 = .ok (.iload 10, 2) := by decide +kernel
theorem dX9_mayCome_119 : decode cX9_mayCome 119 = .ok (.iconst 1, 1) := by decide +kernel
theorem dX9_mayCome_120 : decode cX9_mayCome 120 = .ok (.isub, 1) := by decide +kernel
theorem dX9_mayCome_121 : decode cX9_mayCome 121 = .ok (.invokevirtual 31, 3) := by decide +kernel
theorem dX9_mayCome_124 : decode cX9_mayCome 124 = .ok (.lload 5, 2) := by decide +kernel
theorem dX9_mayCome_126 : decode cX9_mayCome 126 = .ok (.lmul, 1) := by decide +kernel
theorem dX9_mayCome_127 : decode cX9_mayCome 127 = .ok (.ladd, 1) := by decide +kernel
theorem dX9_mayCome_128 : decode cX9_mayCome 128 = .ok (.lastore, 1) := by decide +kernel
theorem dX9_mayCome_129 : decode cX9_mayCome 129 = .ok (.iinc 10 (-1), 3) := by decide +kernel
theorem dX9_mayCome_132 : decode cX9_mayCome 132 = .ok (.goto (-61), 3) := by decide +kernel
theorem dX9_mayCome_135 : decode cX9_mayCome 135 = .ok (.iinc 9 (-1), 3) := by decide +kernel
theorem dX9_mayCome_138 : decode cX9_mayCome 138 = .ok (.goto (-76), 3) := by decide +kernel
theorem dX9_mayCome_141 : decode cX9_mayCome 141 = .ok (.return_, 1) := by decide +kernel
theorem dX9_waysIn_0 : decode cX9_waysIn 0 = .ok (.lconst 0, 1) := by decide +kernel
theorem dX9_waysIn_1 : decode cX9_waysIn 1 = .ok (.lstore_n 2, 1) := by decide +kernel
theorem dX9_waysIn_2 : decode cX9_waysIn 2 = .ok (.iconst 1, 1) := by decide +kernel
theorem dX9_waysIn_3 : decode cX9_waysIn 3 = .ok (.istore 4, 2) := by decide +kernel
theorem dX9_waysIn_5 : decode cX9_waysIn 5 = .ok (.iload 4, 2) := by decide +kernel
theorem dX9_waysIn_7 : decode cX9_waysIn 7 = .ok (.aload_n 0, 1) := by decide +kernel
theorem dX9_waysIn_8 : decode cX9_waysIn 8 = .ok (.getfield 21, 3) := by decide +kernel
theorem dX9_waysIn_11 : decode cX9_waysIn 11 = .ok (.if_icmp .gt 47, 3) := by decide +kernel
theorem dX9_waysIn_14 : decode cX9_waysIn 14 = .ok (.iconst 0, 1) := by decide +kernel
theorem dX9_waysIn_15 : decode cX9_waysIn 15 = .ok (.istore 5, 2) := by decide +kernel
theorem dX9_waysIn_17 : decode cX9_waysIn 17 = .ok (.iload 5, 2) := by decide +kernel
theorem dX9_waysIn_19 : decode cX9_waysIn 19 = .ok (.iload 4, 2) := by decide +kernel
theorem dX9_waysIn_21 : decode cX9_waysIn 21 = .ok (.if_icmp .gt 31, 3) := by decide +kernel
theorem dX9_waysIn_24 : decode cX9_waysIn 24 = .ok (.aload_n 1, 1) := by decide +kernel
theorem dX9_waysIn_25 : decode cX9_waysIn 25 = .ok (.iload 5, 2) := by decide +kernel
theorem dX9_waysIn_27 : decode cX9_waysIn 27 = .ok (.iload 4, 2) := by decide +kernel
theorem dX9_waysIn_29 : decode cX9_waysIn 29 = .ok (.invokevirtual 35, 3) := by decide +kernel
theorem dX9_waysIn_32 : decode cX9_waysIn 32 = .ok (.ifCond .eq 14, 3) := by decide +kernel
theorem dX9_waysIn_35 : decode cX9_waysIn 35 = .ok (.lload_n 2, 1) := by decide +kernel
theorem dX9_waysIn_36 : decode cX9_waysIn 36 = .ok (.aload_n 0, 1) := by decide +kernel
theorem dX9_waysIn_37 : decode cX9_waysIn 37 = .ok (.iload 4, 2) := by decide +kernel
theorem dX9_waysIn_39 : decode cX9_waysIn 39 = .ok (.iload 5, 2) := by decide +kernel
theorem dX9_waysIn_41 : decode cX9_waysIn 41 = .ok (.invokevirtual 31, 3) := by decide +kernel
theorem dX9_waysIn_44 : decode cX9_waysIn 44 = .ok (.ladd, 1) := by decide +kernel
theorem dX9_waysIn_45 : decode cX9_waysIn 45 = .ok (.lstore_n 2, 1) := by decide +kernel
theorem dX9_waysIn_46 : decode cX9_waysIn 46 = .ok (.iinc 5 1, 3) := by decide +kernel
theorem dX9_waysIn_49 : decode cX9_waysIn 49 = .ok (.goto (-32), 3) := by decide +kernel
theorem dX9_waysIn_52 : decode cX9_waysIn 52 = .ok (.iinc 4 1, 3) := by decide +kernel
theorem dX9_waysIn_55 : decode cX9_waysIn 55 = .ok (.goto (-50), 3) := by decide +kernel
theorem dX9_waysIn_58 : decode cX9_waysIn 58 = .ok (.lload_n 2, 1) := by decide +kernel
theorem dX9_waysIn_59 : decode cX9_waysIn 59 = .ok (.lreturn, 1) := by decide +kernel
theorem dX9_all_0 : decode cX9_all 0 = .ok (.aload_n 0, 1) := by decide +kernel
theorem dX9_all_1 : decode cX9_all 1 = .ok (.getfield 25, 3) := by decide +kernel
theorem dX9_all_4 : decode cX9_all 4 = .ok (.lreturn, 1) := by decide +kernel
theorem dX9_waysTo_0 : decode cX9_waysTo 0 = .ok (.iload_n 1, 1) := by decide +kernel
theorem dX9_waysTo_1 : decode cX9_waysTo 1 = .ok (.ifCond .lt 32, 3) := by decide +kernel
theorem dX9_waysTo_4 : decode cX9_waysTo 4 = .ok (.iload_n 1, 1) := by decide +kernel
theorem dX9_waysTo_5 : decode cX9_waysTo 5 = .ok (.bipush 9, 2) := by decide +kernel
theorem dX9_waysTo_7 : decode cX9_waysTo 7 = .ok (.if_icmp .ge 26, 3) := by decide +kernel
theorem dX9_waysTo_10 : decode cX9_waysTo 10 = .ok (.iload_n 2, 1) := by decide +kernel
theorem dX9_waysTo_11 : decode cX9_waysTo 11 = .ok (.ifCond .lt 22, 3) := by decide +kernel
theorem dX9_waysTo_14 : decode cX9_waysTo 14 = .ok (.iload_n 2, 1) := by decide +kernel
theorem dX9_waysTo_15 : decode cX9_waysTo 15 = .ok (.iload_n 1, 1) := by decide +kernel
theorem dX9_waysTo_16 : decode cX9_waysTo 16 = .ok (.if_icmp .gt 17, 3) := by decide +kernel
theorem dX9_waysTo_19 : decode cX9_waysTo 19 = .ok (.aload_n 0, 1) := by decide +kernel
theorem dX9_waysTo_20 : decode cX9_waysTo 20 = .ok (.getfield 11, 3) := by decide +kernel
theorem dX9_waysTo_23 : decode cX9_waysTo 23 = .ok (.iload_n 1, 1) := by decide +kernel
theorem dX9_waysTo_24 : decode cX9_waysTo 24 = .ok (.bipush 9, 2) := by decide +kernel
theorem dX9_waysTo_26 : decode cX9_waysTo 26 = .ok (.imul, 1) := by decide +kernel
theorem dX9_waysTo_27 : decode cX9_waysTo 27 = .ok (.iload_n 2, 1) := by decide +kernel
theorem dX9_waysTo_28 : decode cX9_waysTo 28 = .ok (.iadd, 1) := by decide +kernel
theorem dX9_waysTo_29 : decode cX9_waysTo 29 = .ok (.laload, 1) := by decide +kernel
theorem dX9_waysTo_30 : decode cX9_waysTo 30 = .ok (.goto 4, 3) := by decide +kernel
theorem dX9_waysTo_33 : decode cX9_waysTo 33 = .ok (.lconst 0, 1) := by decide +kernel
theorem dX9_waysTo_34 : decode cX9_waysTo 34 = .ok (.lreturn, 1) := by decide +kernel
theorem dX10_init_0 : decode cX10_init 0 = .ok (.aload_n 0, 1) := by decide +kernel
theorem dX10_init_1 : decode cX10_init 1 = .ok (.iload_n 1, 1) := by decide +kernel
theorem dX10_init_2 : decode cX10_init 2 = .ok (.iload_n 2, 1) := by decide +kernel
theorem dX10_init_3 : decode cX10_init 3 = .ok (.invokespecial 3, 3) := by decide +kernel
theorem dX10_init_6 : decode cX10_init 6 = .ok (.aload_n 0, 1) := by decide +kernel
theorem dX10_init_7 : decode cX10_init 7 = .ok (.iload_n 3, 1) := by decide +kernel
theorem dX10_init_8 : decode cX10_init 8 = .ok (.putfield 9, 3) := by decide +kernel
theorem dX10_init_11 : decode cX10_init 11 = .ok (.return_, 1) := by decide +kernel
theorem dX10_kind_0 : decode cX10_kind 0 = .ok (.iconst 3, 1) := by decide +kernel
theorem dX10_kind_1 : decode cX10_kind 1 = .ok (.ireturn, 1) := by decide +kernel
theorem dX10_n_0 : decode cX10_n 0 = .ok (.aload_n 0, 1) := by decide +kernel
theorem dX10_n_1 : decode cX10_n 1 = .ok (.getfield 9, 3) := by decide +kernel
theorem dX10_n_4 : decode cX10_n 4 = .ok (.ireturn, 1) := by decide +kernel
theorem dX10_blackOfStranger_0 : decode cX10_blackOfStranger 0 = .ok (.iload_n 2, 1) := by decide +kernel
theorem dX10_blackOfStranger_1 : decode cX10_blackOfStranger 1 = .ok (.aload_n 0, 1) := by decide +kernel
theorem dX10_blackOfStranger_2 : decode cX10_blackOfStranger 2 = .ok (.getfield 9, 3) := by decide +kernel
theorem dX10_blackOfStranger_5 : decode cX10_blackOfStranger 5 = .ok (.if_icmp .ne 8, 3) := by decide +kernel
theorem dX10_blackOfStranger_8 : decode cX10_blackOfStranger 8 = .ok (.bipush 10, 2) := by decide +kernel
theorem dX10_blackOfStranger_10 : decode cX10_blackOfStranger 10 = .ok (.goto 4, 3) := by decide +kernel
theorem dX10_blackOfStranger_13 : decode cX10_blackOfStranger 13 = .ok (.iload_n 1, 1) := by decide +kernel
theorem dX10_blackOfStranger_14 : decode cX10_blackOfStranger 14 = .ok (.ireturn, 1) := by decide +kernel
theorem dX11_init_0 : decode cX11_init 0 = .ok (.aload_n 0, 1) := by decide +kernel
theorem dX11_init_1 : decode cX11_init 1 = .ok (.invokespecial 3, 3) := by decide +kernel
theorem dX11_init_4 : decode cX11_init 4 = .ok (.aload_n 0, 1) := by decide +kernel
theorem dX11_init_5 : decode cX11_init 5 = .ok (.new 9, 3) := by decide +kernel
theorem dX11_init_8 : decode cX11_init 8 = .ok (.dup, 1) := by decide +kernel
theorem dX11_init_9 : decode cX11_init 9 = .ok (.invokespecial 11, 3) := by decide +kernel
theorem dX11_init_12 : decode cX11_init 12 = .ok (.putfield 12, 3) := by decide +kernel
theorem dX11_init_15 : decode cX11_init 15 = .ok (.aload_n 0, 1) := by decide +kernel
theorem dX11_init_16 : decode cX11_init 16 = .ok (.bipush 6, 2) := by decide +kernel
theorem dX11_init_18 : decode cX11_init 18 = .ok (.anewarray 16, 3) := by decide +kernel
theorem dX11_init_21 : decode cX11_init 21 = .ok (.putfield 18, 3) := by decide +kernel
theorem dX11_init_24 : decode cX11_init 24 = .ok (.aload_n 0, 1) := by decide +kernel
theorem dX11_init_25 : decode cX11_init 25 = .ok (.bipush 8, 2) := by decide +kernel
theorem dX11_init_27 : decode cX11_init 27 = .ok (.anewarray 22, 3) := by decide +kernel
theorem dX11_init_30 : decode cX11_init 30 = .ok (.putfield 24, 3) := by decide +kernel
theorem dX11_init_33 : decode cX11_init 33 = .ok (.aload_n 0, 1) := by decide +kernel
theorem dX11_init_34 : decode cX11_init 34 = .ok (.bipush 6, 2) := by decide +kernel
theorem dX11_init_36 : decode cX11_init 36 = .ok (.newarray .int, 2) := by decide +kernel
theorem dX11_init_38 : decode cX11_init 38 = .ok (.putfield 28, 3) := by decide +kernel
theorem dX11_init_41 : decode cX11_init 41 = .ok (.aload_n 0, 1) := by decide +kernel
theorem dX11_init_42 : decode cX11_init 42 = .ok (.new 32, 3) := by decide +kernel
theorem dX11_init_45 : decode cX11_init 45 = .ok (.dup, 1) := by decide +kernel
theorem dX11_init_46 : decode cX11_init 46 = .ok (.invokespecial 34, 3) := by decide +kernel
theorem dX11_init_49 : decode cX11_init 49 = .ok (.putfield 35, 3) := by decide +kernel
theorem dX11_init_52 : decode cX11_init 52 = .ok (.aload_n 0, 1) := by decide +kernel
theorem dX11_init_53 : decode cX11_init 53 = .ok (.new 39, 3) := by decide +kernel
theorem dX11_init_56 : decode cX11_init 56 = .ok (.dup, 1) := by decide +kernel
theorem dX11_init_57 : decode cX11_init 57 = .ok (.invokespecial 41, 3) := by decide +kernel
theorem dX11_init_60 : decode cX11_init 60 = .ok (.putfield 42, 3) := by decide +kernel
theorem dX11_init_63 : decode cX11_init 63 = .ok (.aload_n 0, 1) := by decide +kernel
theorem dX11_init_64 : decode cX11_init 64 = .ok (.new 46, 3) := by decide +kernel
theorem dX11_init_67 : decode cX11_init 67 = .ok (.dup, 1) := by decide +kernel
theorem dX11_init_68 : decode cX11_init 68 = .ok (.invokespecial 48, 3) := by decide +kernel
theorem dX11_init_71 : decode cX11_init 71 = .ok (.putfield 49, 3) := by decide +kernel
theorem dX11_init_74 : decode cX11_init 74 = .ok (.aload_n 0, 1) := by decide +kernel
theorem dX11_init_75 : decode cX11_init 75 = .ok (.new 53, 3) := by decide +kernel
theorem dX11_init_78 : decode cX11_init 78 = .ok (.dup, 1) := by decide +kernel
theorem dX11_init_79 : decode cX11_init 79 = .ok (.invokespecial 55, 3) := by decide +kernel
theorem dX11_init_82 : decode cX11_init 82 = .ok (.putfield 56, 3) := by decide +kernel
theorem dX11_init_85 : decode cX11_init 85 = .ok (.aload_n 0, 1) := by decide +kernel
theorem dX11_init_86 : decode cX11_init 86 = .ok (.iconst 4, 1) := by decide +kernel
theorem dX11_init_87 : decode cX11_init 87 = .ok (.newarray .long, 2) := by decide +kernel
theorem dX11_init_89 : decode cX11_init 89 = .ok (.putfield 60, 3) := by decide +kernel
theorem dX11_init_92 : decode cX11_init 92 = .ok (.return_, 1) := by decide +kernel
theorem dX11_letters_0 : decode cX11_letters 0 = .ok (.aload_n 0, 1) := by decide +kernel
theorem dX11_letters_1 : decode cX11_letters 1 = .ok (.getfield 12, 3) := by decide +kernel
theorem dX11_letters_4 : decode cX11_letters 4 = .ok (.lload_n 1, 1) := by decide +kernel
theorem dX11_letters_5 : decode cX11_letters 5 = .ok (.invokevirtual 64, 3) := by decide +kernel
theorem dX11_letters_8 : decode cX11_letters 8 = .ok (.ireturn, 1) := by decide +kernel
theorem dX11_blank_0 : decode cX11_blank 0 = .ok (.aload_n 0, 1) := by decide +kernel
theorem dX11_blank_1 : decode cX11_blank 1 = .ok (.getfield 12, 3) := by decide +kernel
theorem dX11_blank_4 : decode cX11_blank 4 = .ok (.invokevirtual 68, 3) := by decide +kernel
theorem dX11_blank_7 : decode cX11_blank 7 = .ok (.ireturn, 1) := by decide +kernel
theorem dX11_fault_0 : decode cX11_fault 0 = .ok (.aload_n 0, 1) := by decide +kernel
theorem dX11_fault_1 : decode cX11_fault 1 = .ok (.getfield 12, 3) := by decide +kernel
theorem dX11_fault_4 : decode cX11_fault 4 = .ok (.invokevirtual 72, 3) := by decide +kernel
theorem dX11_fault_7 : decode cX11_fault 7 = .ok (.ireturn, 1) := by decide +kernel
theorem dX11_rule_0 : decode cX11_rule 0 = .ok (.aload_n 0, 1) := by decide +kernel
theorem dX11_rule_1 : decode cX11_rule 1 = .ok (.getfield 12, 3) := by decide +kernel
theorem dX11_rule_4 : decode cX11_rule 4 = .ok (.invokevirtual 75, 3) := by decide +kernel
theorem dX11_rule_7 : decode cX11_rule 7 = .ok (.ifCond .ne 6, 3) := by decide +kernel
theorem dX11_rule_10 : decode cX11_rule 10 = .ok (.bipush (-103), 2) := by decide +kernel
theorem dX11_rule_12 : decode cX11_rule 12 = .ok (.ireturn, 1) := by decide +kernel
theorem dX11_rule_13 : decode cX11_rule 13 = .ok (.aload_n 0, 1) := by decide +kernel
theorem dX11_rule_14 : decode cX11_rule 14 = .ok (.getfield 79, 3) := by decide +kernel
theorem dX11_rule_17 : decode cX11_rule 17 = .ok (.bipush 6, 2) := by decide +kernel
theorem dX11_rule_19 : decode cX11_rule 19 = .ok (.if_icmp .lt 6, 3) := by decide +kernel
theorem dX11_rule_22 : decode cX11_rule 22 = .ok (.bipush (-104), 2) := by decide +kernel
theorem dX11_rule_24 : decode cX11_rule 24 = .ok (.ireturn, 1) := by decide +kernel
theorem dX11_rule_25 : decode cX11_rule 25 = .ok (.aload_n 0, 1) := by decide +kernel
theorem dX11_rule_26 : decode cX11_rule 26 = .ok (.getfield 18, 3) := by decide +kernel
theorem dX11_rule_29 : decode cX11_rule 29 = .ok (.aload_n 0, 1) := by decide +kernel
theorem dX11_rule_30 : decode cX11_rule 30 = .ok (.getfield 79, 3) := by decide +kernel
theorem dX11_rule_33 : decode cX11_rule 33 = .ok (.aload_n 0, 1) := by decide +kernel
theorem dX11_rule_34 : decode cX11_rule 34 = .ok (.getfield 12, 3) := by decide +kernel
theorem dX11_rule_37 : decode cX11_rule 37 = .ok (.invokevirtual 83, 3) := by decide +kernel
theorem dX11_rule_40 : decode cX11_rule 40 = .ok (.aastore, 1) := by decide +kernel
theorem dX11_rule_41 : decode cX11_rule 41 = .ok (.aload_n 0, 1) := by decide +kernel
theorem dX11_rule_42 : decode cX11_rule 42 = .ok (.getfield 12, 3) := by decide +kernel
theorem dX11_rule_45 : decode cX11_rule 45 = .ok (.invokevirtual 68, 3) := by decide +kernel
theorem dX11_rule_48 : decode cX11_rule 48 = .ok (.pop, 1) := by decide +kernel
theorem dX11_rule_49 : decode cX11_rule 49 = .ok (.aload_n 0, 1) := by decide +kernel
theorem dX11_rule_50 : decode cX11_rule 50 = .ok (.dup, 1) := by decide +kernel
theorem dX11_rule_51 : decode cX11_rule 51 = .ok (.getfield 79, 3) := by decide +kernel
theorem dX11_rule_54 : decode cX11_rule 54 = .ok (.iconst 1, 1) := by decide +kernel
theorem dX11_rule_55 : decode cX11_rule 55 = .ok (.iadd, 1) := by decide +kernel
theorem dX11_rule_56 : decode cX11_rule 56 = .ok (.putfield 79, 3) := by decide +kernel
theorem dX11_rule_59 : decode cX11_rule 59 = .ok (.aload_n 0, 1) := by decide +kernel
theorem dX11_rule_60 : decode cX11_rule 60 = .ok (.getfield 79, 3) := by decide +kernel
theorem dX11_rule_63 : decode cX11_rule 63 = .ok (.iconst 1, 1) := by decide +kernel
theorem dX11_rule_64 : decode cX11_rule 64 = .ok (.isub, 1) := by decide +kernel
theorem dX11_rule_65 : decode cX11_rule 65 = .ok (.ireturn, 1) := by decide +kernel
theorem dX11_ruleTold_0 : decode cX11_ruleTold 0 = .ok (.aload_n 0, 1) := by decide +kernel
theorem dX11_ruleTold_1 : decode cX11_ruleTold 1 = .ok (.iload_n 1, 1) := by decide +kernel
theorem dX11_ruleTold_2 : decode cX11_ruleTold 2 = .ok (.invokevirtual 87, 3) := by decide +kernel
theorem dX11_ruleTold_5 : decode cX11_ruleTold 5 = .ok (.astore_n 3, 1) := by decide +kernel
theorem dX11_ruleTold_6 : decode cX11_ruleTold 6 = .ok (.aload_n 3, 1) := by decide +kernel
theorem dX11_ruleTold_7 : decode cX11_ruleTold 7 = .ok (.ifnonnull 6, 3) := by decide +kernel
theorem dX11_ruleTold_10 : decode cX11_ruleTold 10 = .ok (.bipush (-101), 2) := by decide +kernel
theorem dX11_ruleTold_12 : decode cX11_ruleTold 12 = .ok (.ireturn, 1) := by decide +kernel
theorem dX11_ruleTold_13 : decode cX11_ruleTold 13 = .ok (.iload_n 2, 1) := by decide +kernel
theorem dX11_ruleTold_14 : decode cX11_ruleTold 14 = .ok (.iconst 0, 1) := by decide +kernel
theorem dX11_ruleTold_15 : decode cX11_ruleTold 15 = .ok (.iconst 4, 1) := by decide +kernel
theorem dX11_ruleTold_16 : decode cX11_ruleTold 16 = .ok (.invokestatic 91, 3) := by decide +kernel
theorem dX11_ruleTold_19 : decode cX11_ruleTold 19 = .ok (.ifCond .ne 6, 3) := by decide +kernel
theorem dX11_ruleTold_22 : decode cX11_ruleTold 22 = .ok (.bipush (-102), 2) := by decide +kernel
theorem dX11_ruleTold_24 : decode cX11_ruleTold 24 = .ok (.ireturn, 1) := by decide +kernel
theorem dX11_ruleTold_25 : decode cX11_ruleTold 25 = .ok (.aload_n 3, 1) := by decide +kernel
theorem dX11_ruleTold_26 : decode cX11_ruleTold 26 = .ok (.iload_n 2, 1) := by decide +kernel
theorem dX11_ruleTold_27 : decode cX11_ruleTold 27 = .ok (.invokevirtual 95, 3) := by decide +kernel
theorem dX11_ruleTold_30 : decode cX11_ruleTold 30 = .ok (.ireturn, 1) := by decide +kernel
theorem dX11_member_0 : decode cX11_member 0 = .ok (.iload_n 1, 1) := by decide +kernel
theorem dX11_member_1 : decode cX11_member 1 = .ok (.iconst 0, 1) := by decide +kernel
theorem dX11_member_2 : decode cX11_member 2 = .ok (.iconst 4, 1) := by decide +kernel
theorem dX11_member_3 : decode cX11_member 3 = .ok (.invokestatic 91, 3) := by decide +kernel
theorem dX11_member_6 : decode cX11_member 6 = .ok (.ifCond .ne 6, 3) := by decide +kernel
theorem dX11_member_9 : decode cX11_member 9 = .ok (.bipush (-102), 2) := by decide +kernel
theorem dX11_member_11 : decode cX11_member 11 = .ok (.ireturn, 1) := by decide +kernel
theorem dX11_member_12 : decode cX11_member 12 = .ok (.iload_n 1, 1) := by decide +kernel
theorem dX11_member_13 : decode cX11_member 13 = .ok (.iconst 3, 1) := by decide +kernel
theorem dX11_member_14 : decode cX11_member 14 = .ok (.if_icmp .lt 14, 3) := by decide +kernel
theorem dX11_member_17 : decode cX11_member 17 = .ok (.aload_n 0, 1) := by decide +kernel
theorem dX11_member_18 : decode cX11_member 18 = .ok (.iload_n 2, 1) := by decide +kernel
theorem dX11_member_19 : decode cX11_member 19 = .ok (.invokevirtual 99, 3) := by decide +kernel
theorem dX11_member_22 : decode cX11_member 22 = .ok (.ifnonnull 6, 3) := by decide +kernel
theorem dX11_member_25 : decode cX11_member 25 = .ok (.bipush (-101), 2) := by decide +kernel
theorem dX11_member_27 : decode cX11_member 27 = .ok (.ireturn, 1) := by decide +kernel
theorem dX11_member_28 : decode cX11_member 28 = .ok (.iload_n 1, 1) := by decide +kernel
theorem dX11_member_29 : decode cX11_member 29 = .ok (.iconst 3, 1) := by decide +kernel
theorem dX11_member_30 : decode cX11_member 30 = .ok (.if_icmp .ge 24, 3) := by decide +kernel
theorem dX11_member_33 : decode cX11_member 33 = .ok (.iload_n 2, 1) := by decide +kernel
theorem dX11_member_34 : decode cX11_member 34 = .ok (.iconst 0, 1) := by decide +kernel
theorem dX11_member_35 : decode cX11_member 35 = .ok (.iload_n 1, 1) := by decide +kernel
theorem dX11_member_36 : decode cX11_member 36 = .ok (.iconst 2, 1) := by decide +kernel
theorem dX11_member_37 : decode cX11_member 37 = .ok (.if_icmp .ne 7, 3) := by decide +kernel
theorem dX11_member_40 : decode cX11_member 40 = .ok (.iconst 5, 1) := by decide +kernel
theorem dX11_member_41 : decode cX11_member 41 = .ok (.goto 4, 3) := by decide +kernel
theorem dX11_member_44 : decode cX11_member 44 = .ok (.iconst 0, 1) := by decide +kernel
theorem dX11_member_45 : decode cX11_member 45 = .ok (.invokestatic 91, 3) := by decide +kernel
theorem dX11_member_48 : decode cX11_member 48 = .ok (.ifCond .ne 6, 3) := by decide +kernel
theorem dX11_member_51 : decode cX11_member 51 = .ok (.bipush (-102), 2) := by decide +kernel
theorem dX11_member_53 : decode cX11_member 53 = .ok (.ireturn, 1) := by decide +kernel
theorem dX11_member_54 : decode cX11_member 54 = .ok (.iload_n 3, 1) := by decide +kernel
theorem dX11_member_55 : decode cX11_member 55 = .ok (.iconst 0, 1) := by decide +kernel
theorem dX11_member_56 : decode cX11_member 56 = .ok (.bipush 10, 2) := by decide +kernel
theorem dX11_member_58 : decode cX11_member 58 = .ok (.invokestatic 91, 3) := by decide +kernel
theorem dX11_member_61 : decode cX11_member 61 = .ok (.ifCond .ne 6, 3) := by decide +kernel
theorem dX11_member_64 : decode cX11_member 64 = .ok (.bipush (-102), 2) := by decide +kernel
theorem dX11_member_66 : decode cX11_member 66 = .ok (.ireturn, 1) := by decide +kernel
theorem dX11_member_67 : decode cX11_member 67 = .ok (.aload_n 0, 1) := by decide +kernel
theorem dX11_member_68 : decode cX11_member 68 = .ok (.getfield 103, 3) := by decide +kernel
theorem dX11_member_71 : decode cX11_member 71 = .ok (.bipush 8, 2) := by decide +kernel
theorem dX11_member_73 : decode cX11_member 73 = .ok (.if_icmp .lt 6, 3) := by decide +kernel
theorem dX11_member_76 : decode cX11_member 76 = .ok (.bipush (-104), 2) := by decide +kernel
theorem dX11_member_78 : decode cX11_member 78 = .ok (.ireturn, 1) := by decide +kernel
theorem dX11_member_79 : decode cX11_member 79 = .ok (.aload_n 0, 1) := by decide +kernel
theorem dX11_member_80 : decode cX11_member 80 = .ok (.getfield 24, 3) := by decide +kernel
theorem dX11_member_83 : decode cX11_member 83 = .ok (.aload_n 0, 1) := by decide +kernel
theorem dX11_member_84 : decode cX11_member 84 = .ok (.getfield 103, 3) := by decide +kernel
theorem dX11_member_87 : decode cX11_member 87 = .ok (.aload_n 0, 1) := by decide +kernel
theorem dX11_member_88 : decode cX11_member 88 = .ok (.iload_n 1, 1) := by decide +kernel
theorem dX11_member_89 : decode cX11_member 89 = .ok (.iload_n 2, 1) := by decide +kernel
theorem dX11_member_90 : decode cX11_member 90 = .ok (.iload_n 3, 1) := by decide +kernel
theorem dX11_member_91 : decode cX11_member 91 = .ok (.invokevirtual 106, 3) := by decide +kernel
theorem dX11_member_94 : decode cX11_member 94 = .ok (.aastore, 1) := by decide +kernel
theorem dX11_member_95 : decode cX11_member 95 = .ok (.aload_n 0, 1) := by decide +kernel
theorem dX11_member_96 : decode cX11_member 96 = .ok (.dup, 1) := by decide +kernel
theorem dX11_member_97 : decode cX11_member 97 = .ok (.getfield 103, 3) := by decide +kernel
theorem dX11_member_100 : decode cX11_member 100 = .ok (.iconst 1, 1) := by decide +kernel
theorem dX11_member_101 : decode cX11_member 101 = .ok (.iadd, 1) := by decide +kernel
theorem dX11_member_102 : decode cX11_member 102 = .ok (.putfield 103, 3) := by decide +kernel
theorem dX11_member_105 : decode cX11_member 105 = .ok (.aload_n 0, 1) := by decide +kernel
theorem dX11_member_106 : decode cX11_member 106 = .ok (.getfield 103, 3) := by decide +kernel
theorem dX11_member_109 : decode cX11_member 109 = .ok (.iconst 1, 1) := by decide +kernel
theorem dX11_member_110 : decode cX11_member 110 = .ok (.isub, 1) := by decide +kernel
theorem dX11_member_111 : decode cX11_member 111 = .ok (.ireturn, 1) := by decide +kernel
theorem dX11_as_0 : decode cX11_as 0 = .ok (.aload_n 0, 1) := by decide +kernel
theorem dX11_as_1 : decode cX11_as 1 = .ok (.iload_n 1, 1) := by decide +kernel
theorem dX11_as_2 : decode cX11_as 2 = .ok (.invokevirtual 99, 3) := by decide +kernel
theorem dX11_as_5 : decode cX11_as 5 = .ok (.astore_n 3, 1) := by decide +kernel
theorem dX11_as_6 : decode cX11_as 6 = .ok (.aload_n 3, 1) := by decide +kernel
theorem dX11_as_7 : decode cX11_as 7 = .ok (.ifnonnull 6, 3) := by decide +kernel
theorem dX11_as_10 : decode cX11_as 10 = .ok (.bipush (-101), 2) := by decide +kernel
theorem dX11_as_12 : decode cX11_as 12 = .ok (.ireturn, 1) := by decide +kernel
theorem dX11_as_13 : decode cX11_as 13 = .ok (.iload_n 2, 1) := by decide +kernel
theorem dX11_as_14 : decode cX11_as 14 = .ok (.iconst 0, 1) := by decide +kernel
theorem dX11_as_15 : decode cX11_as 15 = .ok (.iconst 4, 1) := by decide +kernel
theorem dX11_as_16 : decode cX11_as 16 = .ok (.invokestatic 91, 3) := by decide +kernel
theorem dX11_as_19 : decode cX11_as 19 = .ok (.ifCond .ne 6, 3) := by decide +kernel
theorem dX11_as_22 : decode cX11_as 22 = .ok (.bipush (-102), 2) := by decide +kernel
theorem dX11_as_24 : decode cX11_as 24 = .ok (.ireturn, 1) := by decide +kernel
theorem dX11_as_25 : decode cX11_as 25 = .ok (.aload_n 3, 1) := by decide +kernel
theorem dX11_as_26 : decode cX11_as 26 = .ok (.iload_n 2, 1) := by decide +kernel
theorem dX11_as_27 : decode cX11_as 27 = .ok (.invokestatic 110, 3) := by decide +kernel
theorem dX11_as_30 : decode cX11_as 30 = .ok (.ifCond .eq 10, 3) := by decide +kernel
theorem dX11_as_33 : decode cX11_as 33 = .ok (.aload_n 3, 1) := by decide +kernel
theorem dX11_as_34 : decode cX11_as 34 = .ok (.getfield 114, 3) := by decide +kernel
theorem dX11_as_37 : decode cX11_as 37 = .ok (.goto 4, 3) := by decide +kernel
theorem dX11_as_40 : decode cX11_as 40 = .ok (.iconst (-1), 1) := by decide +kernel
theorem dX11_as_41 : decode cX11_as 41 = .ok (.ireturn, 1) := by decide +kernel
theorem dX11_about_0 : decode cX11_about 0 = .ok (.aload_n 0, 1) := by decide +kernel
theorem dX11_about_1 : decode cX11_about 1 = .ok (.iload_n 1, 1) := by decide +kernel
theorem dX11_about_2 : decode cX11_about 2 = .ok (.invokevirtual 99, 3) := by decide +kernel
theorem dX11_about_5 : decode cX11_about 5 = .ok (.astore_n 3, 1) := by decide +kernel
theorem dX11_about_6 : decode cX11_about 6 = .ok (.aload_n 3, 1) := by decide +kernel
theorem dX11_about_7 : decode cX11_about 7 = .ok (.ifnonnull 6, 3) := by decide +kernel
theorem dX11_about_10 : decode cX11_about 10 = .ok (.bipush (-101), 2) := by decide +kernel
theorem dX11_about_12 : decode cX11_about 12 = .ok (.ireturn, 1) := by decide +kernel
theorem dX11_about_13 : decode cX11_about 13 = .ok (.iload_n 2, 1) := by decide +kernel
theorem dX11_about_14 : decode cX11_about 14 = .ok (.tableswitch 41 0 2 #[26, 31, 36], 26) := by decide +kernel
theorem dX11_about_40 : decode cX11_about 40 = .ok (.aload_n 3, 1) := by decide +kernel
theorem dX11_about_41 : decode cX11_about 41 = .ok (.invokevirtual 117, 3) := by decide +kernel
theorem dX11_about_44 : decode cX11_about 44 = .ok (.ireturn, 1) := by decide +kernel
theorem dX11_about_45 : decode cX11_about 45 = .ok (.aload_n 3, 1) := by decide +kernel
theorem dX11_about_46 : decode cX11_about 46 = .ok (.invokevirtual 120, 3) := by decide +kernel
theorem dX11_about_49 : decode cX11_about 49 = .ok (.ireturn, 1) := by decide +kernel
theorem dX11_about_50 : decode cX11_about 50 = .ok (.aload_n 3, 1) := by decide +kernel
theorem dX11_about_51 : decode cX11_about 51 = .ok (.getfield 123, 3) := by decide +kernel
theorem dX11_about_54 : decode cX11_about 54 = .ok (.ireturn, 1) := by decide +kernel
theorem dX11_about_55 : decode cX11_about 55 = .ok (.bipush (-102), 2) := by decide +kernel
theorem dX11_about_57 : decode cX11_about 57 = .ok (.ireturn, 1) := by decide +kernel
theorem dX11_comes_0 : decode cX11_comes 0 = .ok (.aload_n 0, 1) := by decide +kernel
theorem dX11_comes_1 : decode cX11_comes 1 = .ok (.iload_n 1, 1) := by decide +kernel
theorem dX11_comes_2 : decode cX11_comes 2 = .ok (.invokevirtual 99, 3) := by decide +kernel
theorem dX11_comes_5 : decode cX11_comes 5 = .ok (.astore_n 3, 1) := by decide +kernel
theorem dX11_comes_6 : decode cX11_comes 6 = .ok (.aload_n 3, 1) := by decide +kernel
theorem dX11_comes_7 : decode cX11_comes 7 = .ok (.ifnonnull 6, 3) := by decide +kernel
theorem dX11_comes_10 : decode cX11_comes 10 = .ok (.bipush (-101), 2) := by decide +kernel
theorem dX11_comes_12 : decode cX11_comes 12 = .ok (.ireturn, 1) := by decide +kernel
theorem dX11_comes_13 : decode cX11_comes 13 = .ok (.iload_n 2, 1) := by decide +kernel
theorem dX11_comes_14 : decode cX11_comes 14 = .ok (.iconst 0, 1) := by decide +kernel
theorem dX11_comes_15 : decode cX11_comes 15 = .ok (.bipush 10, 2) := by decide +kernel
theorem dX11_comes_17 : decode cX11_comes 17 = .ok (.invokestatic 91, 3) := by decide +kernel
theorem dX11_comes_20 : decode cX11_comes 20 = .ok (.ifCond .ne 6, 3) := by decide +kernel
theorem dX11_comes_23 : decode cX11_comes 23 = .ok (.bipush (-102), 2) := by decide +kernel
theorem dX11_comes_25 : decode cX11_comes 25 = .ok (.ireturn, 1) := by decide +kernel
theorem dX11_comes_26 : decode cX11_comes 26 = .ok (.aload_n 3, 1) := by decide +kernel
theorem dX11_comes_27 : decode cX11_comes 27 = .ok (.getfield 123, 3) := by decide +kernel
theorem dX11_comes_30 : decode cX11_comes 30 = .ok (.istore 4, 2) := by decide +kernel
theorem dX11_comes_32 : decode cX11_comes 32 = .ok (.aload_n 3, 1) := by decide +kernel
theorem dX11_comes_33 : decode cX11_comes 33 = .ok (.iload_n 2, 1) := by decide +kernel
theorem dX11_comes_34 : decode cX11_comes 34 = .ok (.putfield 123, 3) := by decide +kernel
theorem dX11_comes_37 : decode cX11_comes 37 = .ok (.iload 4, 2) := by decide +kernel
theorem dX11_comes_39 : decode cX11_comes 39 = .ok (.ireturn, 1) := by decide +kernel
theorem dX11_candidate_0 : decode cX11_candidate 0 = .ok (.aload_n 0, 1) := by decide +kernel
theorem dX11_candidate_1 : decode cX11_candidate 1 = .ok (.iload_n 1, 1) := by decide +kernel
theorem dX11_candidate_2 : decode cX11_candidate 2 = .ok (.invokevirtual 99, 3) := by decide +kernel
theorem dX11_candidate_5 : decode cX11_candidate 5 = .ok (.ifnonnull 6, 3) := by decide +kernel
theorem dX11_candidate_8 : decode cX11_candidate 8 = .ok (.bipush (-101), 2) := by decide +kernel
theorem dX11_candidate_10 : decode cX11_candidate 10 = .ok (.ireturn, 1) := by decide +kernel
theorem dX11_candidate_11 : decode cX11_candidate 11 = .ok (.aload_n 0, 1) := by decide +kernel
theorem dX11_candidate_12 : decode cX11_candidate 12 = .ok (.getfield 126, 3) := by decide +kernel
theorem dX11_candidate_15 : decode cX11_candidate 15 = .ok (.bipush 6, 2) := by decide +kernel
theorem dX11_candidate_17 : decode cX11_candidate 17 = .ok (.if_icmp .lt 6, 3) := by decide +kernel
theorem dX11_candidate_20 : decode cX11_candidate 20 = .ok (.bipush (-104), 2) := by decide +kernel
theorem dX11_candidate_22 : decode cX11_candidate 22 = .ok (.ireturn, 1) := by decide +kernel
theorem dX11_candidate_23 : decode cX11_candidate 23 = .ok (.aload_n 0, 1) := by decide +kernel
theorem dX11_candidate_24 : decode cX11_candidate 24 = .ok (.getfield 28, 3) := by decide +kernel
theorem dX11_candidate_27 : decode cX11_candidate 27 = .ok (.aload_n 0, 1) := by decide +kernel
theorem dX11_candidate_28 : decode cX11_candidate 28 = .ok (.getfield 126, 3) := by decide +kernel
theorem dX11_candidate_31 : decode cX11_candidate 31 = .ok (.iload_n 1, 1) := by decide +kernel
theorem dX11_candidate_32 : decode cX11_candidate 32 = .ok (.iastore, 1) := by decide +kernel
theorem dX11_candidate_33 : decode cX11_candidate 33 = .ok (.aload_n 0, 1) := by decide +kernel
theorem dX11_candidate_34 : decode cX11_candidate 34 = .ok (.dup, 1) := by decide +kernel
theorem dX11_candidate_35 : decode cX11_candidate 35 = .ok (.getfield 126, 3) := by decide +kernel
theorem dX11_candidate_38 : decode cX11_candidate 38 = .ok (.iconst 1, 1) := by decide +kernel
theorem dX11_candidate_39 : decode cX11_candidate 39 = .ok (.iadd, 1) := by decide +kernel
theorem dX11_candidate_40 : decode cX11_candidate 40 = .ok (.putfield 126, 3) := by decide +kernel
theorem dX11_candidate_43 : decode cX11_candidate 43 = .ok (.aload_n 0, 1) := by decide +kernel
theorem dX11_candidate_44 : decode cX11_candidate 44 = .ok (.getfield 126, 3) := by decide +kernel
theorem dX11_candidate_47 : decode cX11_candidate 47 = .ok (.iconst 1, 1) := by decide +kernel
theorem dX11_candidate_48 : decode cX11_candidate 48 = .ok (.isub, 1) := by decide +kernel
theorem dX11_candidate_49 : decode cX11_candidate 49 = .ok (.ireturn, 1) := by decide +kernel
theorem dX11_minds_0 : decode cX11_minds 0 = .ok (.aload_n 0, 1) := by decide +kernel
theorem dX11_minds_1 : decode cX11_minds 1 = .ok (.iload_n 1, 1) := by decide +kernel
theorem dX11_minds_2 : decode cX11_minds 2 = .ok (.invokevirtual 99, 3) := by decide +kernel
theorem dX11_minds_5 : decode cX11_minds 5 = .ok (.astore 4, 2) := by decide +kernel
theorem dX11_minds_7 : decode cX11_minds 7 = .ok (.aload 4, 2) := by decide +kernel
theorem dX11_minds_9 : decode cX11_minds 9 = .ok (.ifnull 11, 3) := by decide +kernel
theorem dX11_minds_12 : decode cX11_minds 12 = .ok (.aload_n 0, 1) := by decide +kernel
theorem dX11_minds_13 : decode cX11_minds 13 = .ok (.iload_n 2, 1) := by decide +kernel
theorem dX11_minds_14 : decode cX11_minds 14 = .ok (.invokevirtual 129, 3) := by decide +kernel
theorem dX11_minds_17 : decode cX11_minds 17 = .ok (.ifCond .ne 6, 3) := by decide +kernel
theorem dX11_minds_20 : decode cX11_minds 20 = .ok (.bipush (-101), 2) := by decide +kernel
theorem dX11_minds_22 : decode cX11_minds 22 = .ok (.ireturn, 1) := by decide +kernel
theorem dX11_minds_23 : decode cX11_minds 23 = .ok (.iload_n 3, 1) := by decide +kernel
theorem dX11_minds_24 : decode cX11_minds 24 = .ok (.iconst (-1), 1) := by decide +kernel
theorem dX11_minds_25 : decode cX11_minds 25 = .ok (.bipush 10, 2) := by decide +kernel
theorem dX11_minds_27 : decode cX11_minds 27 = .ok (.invokestatic 91, 3) := by decide +kernel
theorem dX11_minds_30 : decode cX11_minds 30 = .ok (.ifCond .ne 6, 3) := by decide +kernel
theorem dX11_minds_33 : decode cX11_minds 33 = .ok (.bipush (-102), 2) := by decide +kernel
theorem dX11_minds_35 : decode cX11_minds 35 = .ok (.ireturn, 1) := by decide +kernel
theorem dX11_minds_36 : decode cX11_minds 36 = .ok (.aload 4, 2) := by decide +kernel
theorem dX11_minds_38 : decode cX11_minds 38 = .ok (.iload_n 2, 1) := by decide +kernel
theorem dX11_minds_39 : decode cX11_minds 39 = .ok (.invokevirtual 133, 3) := by decide +kernel
theorem dX11_minds_42 : decode cX11_minds 42 = .ok (.istore 5, 2) := by decide +kernel
theorem dX11_minds_44 : decode cX11_minds 44 = .ok (.iload_n 3, 1) := by decide +kernel
theorem dX11_minds_45 : decode cX11_minds 45 = .ok (.iconst (-1), 1) := by decide +kernel
theorem dX11_minds_46 : decode cX11_minds 46 = .ok (.if_icmp .eq 10, 3) := by decide +kernel
theorem dX11_minds_49 : decode cX11_minds 49 = .ok (.aload 4, 2) := by decide +kernel
theorem dX11_minds_51 : decode cX11_minds 51 = .ok (.iload_n 2, 1) := by decide +kernel
theorem dX11_minds_52 : decode cX11_minds 52 = .ok (.iload_n 3, 1) := by decide +kernel
theorem dX11_minds_53 : decode cX11_minds 53 = .ok (.invokevirtual 136, 3) := by decide +kernel
theorem dX11_minds_56 : decode cX11_minds 56 = .ok (.iload 5, 2) := by decide +kernel
theorem dX11_minds_58 : decode cX11_minds 58 = .ok (.ireturn, 1) := by decide +kernel
theorem dX11_friend_0 : decode cX11_friend 0 = .ok (.aload_n 0, 1) := by decide +kernel
theorem dX11_friend_1 : decode cX11_friend 1 = .ok (.iload_n 1, 1) := by decide +kernel
theorem dX11_friend_2 : decode cX11_friend 2 = .ok (.invokevirtual 129, 3) := by decide +kernel
theorem dX11_friend_5 : decode cX11_friend 5 = .ok (.ifCond .ne 6, 3) := by decide +kernel
theorem dX11_friend_8 : decode cX11_friend 8 = .ok (.bipush (-101), 2) := by decide +kernel
theorem dX11_friend_10 : decode cX11_friend 10 = .ok (.ireturn, 1) := by decide +kernel
theorem dX11_friend_11 : decode cX11_friend 11 = .ok (.iload_n 2, 1) := by decide +kernel
theorem dX11_friend_12 : decode cX11_friend 12 = .ok (.tableswitch 54 0 2 #[28, 34, 48], 28) := by decide +kernel
theorem dX11_friend_40 : decode cX11_friend 40 = .ok (.aload_n 0, 1) := by decide +kernel
theorem dX11_friend_41 : decode cX11_friend 41 = .ok (.iload_n 1, 1) := by decide +kernel
theorem dX11_friend_42 : decode cX11_friend 42 = .ok (.invokevirtual 140, 3) := by decide +kernel
theorem dX11_friend_45 : decode cX11_friend 45 = .ok (.ireturn, 1) := by decide +kernel
theorem dX11_friend_46 : decode cX11_friend 46 = .ok (.aload_n 0, 1) := by decide +kernel
theorem dX11_friend_47 : decode cX11_friend 47 = .ok (.iload_n 1, 1) := by decide +kernel
theorem dX11_friend_48 : decode cX11_friend 48 = .ok (.invokevirtual 143, 3) := by decide +kernel
theorem dX11_friend_51 : decode cX11_friend 51 = .ok (.ifCond .eq 7, 3) := by decide +kernel
theorem dX11_friend_54 : decode cX11_friend 54 = .ok (.iconst 1, 1) := by decide +kernel
theorem dX11_friend_55 : decode cX11_friend 55 = .ok (.goto 4, 3) := by decide +kernel
theorem dX11_friend_58 : decode cX11_friend 58 = .ok (.iconst 0, 1) := by decide +kernel
theorem dX11_friend_59 : decode cX11_friend 59 = .ok (.ireturn, 1) := by decide +kernel
theorem dX11_friend_60 : decode cX11_friend 60 = .ok (.aload_n 0, 1) := by decide +kernel
theorem dX11_friend_61 : decode cX11_friend 61 = .ok (.iload_n 1, 1) := by decide +kernel
end
