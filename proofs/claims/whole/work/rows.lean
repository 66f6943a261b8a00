section
-- ===== PART A: goes FIRST, ahead of the names: the tables' words, and 'selects' of the private methods out of them =====
/-- a private method of a class that the tables say can be made, by its rows of tables_1 -/
def lw_okq (q : MethodName × Nat) : Prop := (q.1.cls ≠ "java/lang/invoke/MethodHandle" ∧ q.1.cls ≠ "java/lang/invoke/VarHandle") ∧ Cond.instantiable q.1.cls q.2 ∈ tables_1 ∧ Cond.privateMethod q.1 ∈ tables_1 ∧ Cond.instanceMethod q.1 ∈ tables_1
theorem lw_p0 : lw_okq (⟨"FloodFerry$Chains", "lengthenAll", "(II)V"⟩, 4) := ⟨⟨by decide +kernel, by decide +kernel⟩, List.mem_of_getElem? (i := 127) (by decide +kernel), List.mem_of_getElem? (i := 144) (by decide +kernel), List.mem_of_getElem? (i := 145) (by decide +kernel)⟩
theorem lw_p1 : lw_okq (⟨"FloodFerry$Chains", "lengthen", "(IIII)V"⟩, 4) := ⟨⟨by decide +kernel, by decide +kernel⟩, List.mem_of_getElem? (i := 127) (by decide +kernel), List.mem_of_getElem? (i := 152) (by decide +kernel), List.mem_of_getElem? (i := 153) (by decide +kernel)⟩
theorem lw_p2 : lw_okq (⟨"FloodFerry$Chains", "findFirst", "(II)I"⟩, 4) := ⟨⟨by decide +kernel, by decide +kernel⟩, List.mem_of_getElem? (i := 127) (by decide +kernel), List.mem_of_getElem? (i := 160) (by decide +kernel), List.mem_of_getElem? (i := 161) (by decide +kernel)⟩
theorem lw_p3 : lw_okq (⟨"FloodFerry$Chains", "begins", "(III)Z"⟩, 4) := ⟨⟨by decide +kernel, by decide +kernel⟩, List.mem_of_getElem? (i := 127) (by decide +kernel), List.mem_of_getElem? (i := 164) (by decide +kernel), List.mem_of_getElem? (i := 165) (by decide +kernel)⟩
theorem lw_p4 : lw_okq (⟨"FloodFerry", "digestOfCounts", "(J)J"⟩, 7) := ⟨⟨by decide +kernel, by decide +kernel⟩, List.mem_of_getElem? (i := 21) (by decide +kernel), List.mem_of_getElem? (i := 352) (by decide +kernel), List.mem_of_getElem? (i := 353) (by decide +kernel)⟩
theorem lw_p5 : lw_okq (⟨"FloodFerry", "tellCount", "(I)I"⟩, 7) := ⟨⟨by decide +kernel, by decide +kernel⟩, List.mem_of_getElem? (i := 21) (by decide +kernel), List.mem_of_getElem? (i := 357) (by decide +kernel), List.mem_of_getElem? (i := 358) (by decide +kernel)⟩
theorem lw_p6 : lw_okq (⟨"FloodFerry", "digestOfPlain", "(J)J"⟩, 7) := ⟨⟨by decide +kernel, by decide +kernel⟩, List.mem_of_getElem? (i := 21) (by decide +kernel), List.mem_of_getElem? (i := 407) (by decide +kernel), List.mem_of_getElem? (i := 408) (by decide +kernel)⟩
theorem lw_p7 : lw_okq (⟨"FloodFerry", "tellLanding", "(II)I"⟩, 7) := ⟨⟨by decide +kernel, by decide +kernel⟩, List.mem_of_getElem? (i := 21) (by decide +kernel), List.mem_of_getElem? (i := 412) (by decide +kernel), List.mem_of_getElem? (i := 413) (by decide +kernel)⟩
theorem lw_p8 : lw_okq (⟨"FloodFerry", "tellPunt", "(II)I"⟩, 7) := ⟨⟨by decide +kernel, by decide +kernel⟩, List.mem_of_getElem? (i := 21) (by decide +kernel), List.mem_of_getElem? (i := 441) (by decide +kernel), List.mem_of_getElem? (i := 442) (by decide +kernel)⟩
theorem lw_p9 : lw_okq (⟨"FloodFerry$Charts", "draw", "(IIII)V"⟩, 6) := ⟨⟨by decide +kernel, by decide +kernel⟩, List.mem_of_getElem? (i := 190) (by decide +kernel), List.mem_of_getElem? (i := 462) (by decide +kernel), List.mem_of_getElem? (i := 463) (by decide +kernel)⟩
theorem lw_p10 : lw_okq (⟨"FloodFerry", "tellTraveller", "(II)I"⟩, 7) := ⟨⟨by decide +kernel, by decide +kernel⟩, List.mem_of_getElem? (i := 21) (by decide +kernel), List.mem_of_getElem? (i := 478) (by decide +kernel), List.mem_of_getElem? (i := 479) (by decide +kernel)⟩
theorem lw_p11 : lw_okq (⟨"java/lang/Throwable", "fillInStackTrace", "(I)Ljava/lang/Throwable;"⟩, 6) := ⟨⟨by decide +kernel, by decide +kernel⟩, List.mem_of_getElem? (i := 551) (by decide +kernel), List.mem_of_getElem? (i := 549) (by decide +kernel), List.mem_of_getElem? (i := 550) (by decide +kernel)⟩
theorem lw_p12 : lw_okq (⟨"FloodFerry$Traffic", "hasLanded", "(I)Z"⟩, 11) := ⟨⟨by decide +kernel, by decide +kernel⟩, List.mem_of_getElem? (i := 218) (by decide +kernel), List.mem_of_getElem? (i := 744) (by decide +kernel), List.mem_of_getElem? (i := 745) (by decide +kernel)⟩
theorem lw_p13 : lw_okq (⟨"FloodFerry$Traffic", "turnRound", "(I)I"⟩, 11) := ⟨⟨by decide +kernel, by decide +kernel⟩, List.mem_of_getElem? (i := 218) (by decide +kernel), List.mem_of_getElem? (i := 748) (by decide +kernel), List.mem_of_getElem? (i := 749) (by decide +kernel)⟩
theorem lw_p14 : lw_okq (⟨"FloodFerry$Traffic", "load", "(II)V"⟩, 11) := ⟨⟨by decide +kernel, by decide +kernel⟩, List.mem_of_getElem? (i := 218) (by decide +kernel), List.mem_of_getElem? (i := 757) (by decide +kernel), List.mem_of_getElem? (i := 758) (by decide +kernel)⟩
theorem lw_p15 : lw_okq (⟨"FloodFerry$Traffic", "takes", "(III)Z"⟩, 11) := ⟨⟨by decide +kernel, by decide +kernel⟩, List.mem_of_getElem? (i := 218) (by decide +kernel), List.mem_of_getElem? (i := 761) (by decide +kernel), List.mem_of_getElem? (i := 762) (by decide +kernel)⟩
def lw_privs_1 : List (MethodName × Nat) := [(⟨"FloodFerry$Chains", "lengthenAll", "(II)V"⟩, 4), (⟨"FloodFerry$Chains", "lengthen", "(IIII)V"⟩, 4), (⟨"FloodFerry$Chains", "findFirst", "(II)I"⟩, 4), (⟨"FloodFerry$Chains", "begins", "(III)Z"⟩, 4), (⟨"FloodFerry", "digestOfCounts", "(J)J"⟩, 7), (⟨"FloodFerry", "tellCount", "(I)I"⟩, 7), (⟨"FloodFerry", "digestOfPlain", "(J)J"⟩, 7), (⟨"FloodFerry", "tellLanding", "(II)I"⟩, 7), (⟨"FloodFerry", "tellPunt", "(II)I"⟩, 7), (⟨"FloodFerry$Charts", "draw", "(IIII)V"⟩, 6), (⟨"FloodFerry", "tellTraveller", "(II)I"⟩, 7), (⟨"java/lang/Throwable", "fillInStackTrace", "(I)Ljava/lang/Throwable;"⟩, 6), (⟨"FloodFerry$Traffic", "hasLanded", "(I)Z"⟩, 11), (⟨"FloodFerry$Traffic", "turnRound", "(I)I"⟩, 11), (⟨"FloodFerry$Traffic", "load", "(II)V"⟩, 11), (⟨"FloodFerry$Traffic", "takes", "(III)Z"⟩, 11)]
theorem lw_r1 : ∀ q ∈ lw_privs_1, lw_okq q := List.forall_mem_cons.mpr ⟨lw_p0, List.forall_mem_cons.mpr ⟨lw_p1, List.forall_mem_cons.mpr ⟨lw_p2, List.forall_mem_cons.mpr ⟨lw_p3, List.forall_mem_cons.mpr ⟨lw_p4, List.forall_mem_cons.mpr ⟨lw_p5, List.forall_mem_cons.mpr ⟨lw_p6, List.forall_mem_cons.mpr ⟨lw_p7, List.forall_mem_cons.mpr ⟨lw_p8, List.forall_mem_cons.mpr ⟨lw_p9, List.forall_mem_cons.mpr ⟨lw_p10, List.forall_mem_cons.mpr ⟨lw_p11, List.forall_mem_cons.mpr ⟨lw_p12, List.forall_mem_cons.mpr ⟨lw_p13, List.forall_mem_cons.mpr ⟨lw_p14, List.forall_mem_cons.mpr ⟨lw_p15, fun _ h => absurd h List.not_mem_nil⟩⟩⟩⟩⟩⟩⟩⟩⟩⟩⟩⟩⟩⟩⟩⟩
theorem lw_p16 : lw_okq (⟨"FloodFerry$Traffic", "stepOn", "(I)V"⟩, 11) := ⟨⟨by decide +kernel, by decide +kernel⟩, List.mem_of_getElem? (i := 218) (by decide +kernel), List.mem_of_getElem? (i := 779) (by decide +kernel), List.mem_of_getElem? (i := 780) (by decide +kernel)⟩
theorem lw_p17 : lw_okq (⟨"FloodFerry", "crossingAt", "(II)I"⟩, 7) := ⟨⟨by decide +kernel, by decide +kernel⟩, List.mem_of_getElem? (i := 21) (by decide +kernel), List.mem_of_getElem? (i := 802) (by decide +kernel), List.mem_of_getElem? (i := 803) (by decide +kernel)⟩
theorem lw_p18 : lw_okq (⟨"FloodFerry$Chains", "cheapestFrom", "(II)I"⟩, 4) := ⟨⟨by decide +kernel, by decide +kernel⟩, List.mem_of_getElem? (i := 127) (by decide +kernel), List.mem_of_getElem? (i := 828) (by decide +kernel), List.mem_of_getElem? (i := 829) (by decide +kernel)⟩
theorem lw_p19 : lw_okq (⟨"FloodFerryModel", "fail", "(I)I"⟩, 15) := ⟨⟨by decide +kernel, by decide +kernel⟩, List.mem_of_getElem? (i := 862) (by decide +kernel), List.mem_of_getElem? (i := 928) (by decide +kernel), List.mem_of_getElem? (i := 929) (by decide +kernel)⟩
theorem lw_p20 : lw_okq (⟨"FloodFerryModel", "cellTold", "(II)I"⟩, 15) := ⟨⟨by decide +kernel, by decide +kernel⟩, List.mem_of_getElem? (i := 862) (by decide +kernel), List.mem_of_getElem? (i := 944) (by decide +kernel), List.mem_of_getElem? (i := 945) (by decide +kernel)⟩
theorem lw_p21 : lw_okq (⟨"FloodFerryModel", "go", "(II)I"⟩, 15) := ⟨⟨by decide +kernel, by decide +kernel⟩, List.mem_of_getElem? (i := 862) (by decide +kernel), List.mem_of_getElem? (i := 948) (by decide +kernel), List.mem_of_getElem? (i := 949) (by decide +kernel)⟩
theorem lw_p22 : lw_okq (⟨"FloodFerryModel", "level", "()I"⟩, 15) := ⟨⟨by decide +kernel, by decide +kernel⟩, List.mem_of_getElem? (i := 862) (by decide +kernel), List.mem_of_getElem? (i := 952) (by decide +kernel), List.mem_of_getElem? (i := 953) (by decide +kernel)⟩
theorem lw_p23 : lw_okq (⟨"FloodFerryModel", "depth", "(II)I"⟩, 15) := ⟨⟨by decide +kernel, by decide +kernel⟩, List.mem_of_getElem? (i := 862) (by decide +kernel), List.mem_of_getElem? (i := 956) (by decide +kernel), List.mem_of_getElem? (i := 957) (by decide +kernel)⟩
theorem lw_p24 : lw_okq (⟨"FloodFerryModel", "landingAt", "(I)I"⟩, 15) := ⟨⟨by decide +kernel, by decide +kernel⟩, List.mem_of_getElem? (i := 862) (by decide +kernel), List.mem_of_getElem? (i := 961) (by decide +kernel), List.mem_of_getElem? (i := 962) (by decide +kernel)⟩
theorem lw_p25 : lw_okq (⟨"FloodFerryModel", "isLanding", "(I)Z"⟩, 15) := ⟨⟨by decide +kernel, by decide +kernel⟩, List.mem_of_getElem? (i := 862) (by decide +kernel), List.mem_of_getElem? (i := 973) (by decide +kernel), List.mem_of_getElem? (i := 974) (by decide +kernel)⟩
theorem lw_p26 : lw_okq (⟨"FloodFerryModel", "setGo", "(III)V"⟩, 15) := ⟨⟨by decide +kernel, by decide +kernel⟩, List.mem_of_getElem? (i := 862) (by decide +kernel), List.mem_of_getElem? (i := 980) (by decide +kernel), List.mem_of_getElem? (i := 981) (by decide +kernel)⟩
theorem lw_p27 : lw_okq (⟨"FloodFerryModel", "isPunt", "(I)Z"⟩, 15) := ⟨⟨by decide +kernel, by decide +kernel⟩, List.mem_of_getElem? (i := 862) (by decide +kernel), List.mem_of_getElem? (i := 988) (by decide +kernel), List.mem_of_getElem? (i := 989) (by decide +kernel)⟩
theorem lw_p28 : lw_okq (⟨"FloodFerryModel", "pu", "(II)I"⟩, 15) := ⟨⟨by decide +kernel, by decide +kernel⟩, List.mem_of_getElem? (i := 862) (by decide +kernel), List.mem_of_getElem? (i := 992) (by decide +kernel), List.mem_of_getElem? (i := 993) (by decide +kernel)⟩
theorem lw_p29 : lw_okq (⟨"FloodFerryModel", "puntTold", "(II)I"⟩, 15) := ⟨⟨by decide +kernel, by decide +kernel⟩, List.mem_of_getElem? (i := 862) (by decide +kernel), List.mem_of_getElem? (i := 1000) (by decide +kernel), List.mem_of_getElem? (i := 1001) (by decide +kernel)⟩
theorem lw_p30 : lw_okq (⟨"FloodFerryModel", "ridersOf", "(I)I"⟩, 15) := ⟨⟨by decide +kernel, by decide +kernel⟩, List.mem_of_getElem? (i := 862) (by decide +kernel), List.mem_of_getElem? (i := 1004) (by decide +kernel), List.mem_of_getElem? (i := 1005) (by decide +kernel)⟩
theorem lw_p31 : lw_okq (⟨"FloodFerryModel", "who", "(II)I"⟩, 15) := ⟨⟨by decide +kernel, by decide +kernel⟩, List.mem_of_getElem? (i := 862) (by decide +kernel), List.mem_of_getElem? (i := 1008) (by decide +kernel), List.mem_of_getElem? (i := 1009) (by decide +kernel)⟩
def lw_privs_2 : List (MethodName × Nat) := [(⟨"FloodFerry$Traffic", "stepOn", "(I)V"⟩, 11), (⟨"FloodFerry", "crossingAt", "(II)I"⟩, 7), (⟨"FloodFerry$Chains", "cheapestFrom", "(II)I"⟩, 4), (⟨"FloodFerryModel", "fail", "(I)I"⟩, 15), (⟨"FloodFerryModel", "cellTold", "(II)I"⟩, 15), (⟨"FloodFerryModel", "go", "(II)I"⟩, 15), (⟨"FloodFerryModel", "level", "()I"⟩, 15), (⟨"FloodFerryModel", "depth", "(II)I"⟩, 15), (⟨"FloodFerryModel", "landingAt", "(I)I"⟩, 15), (⟨"FloodFerryModel", "isLanding", "(I)Z"⟩, 15), (⟨"FloodFerryModel", "setGo", "(III)V"⟩, 15), (⟨"FloodFerryModel", "isPunt", "(I)Z"⟩, 15), (⟨"FloodFerryModel", "pu", "(II)I"⟩, 15), (⟨"FloodFerryModel", "puntTold", "(II)I"⟩, 15), (⟨"FloodFerryModel", "ridersOf", "(I)I"⟩, 15), (⟨"FloodFerryModel", "who", "(II)I"⟩, 15)]
theorem lw_r2 : ∀ q ∈ lw_privs_2, lw_okq q := List.forall_mem_cons.mpr ⟨lw_p16, List.forall_mem_cons.mpr ⟨lw_p17, List.forall_mem_cons.mpr ⟨lw_p18, List.forall_mem_cons.mpr ⟨lw_p19, List.forall_mem_cons.mpr ⟨lw_p20, List.forall_mem_cons.mpr ⟨lw_p21, List.forall_mem_cons.mpr ⟨lw_p22, List.forall_mem_cons.mpr ⟨lw_p23, List.forall_mem_cons.mpr ⟨lw_p24, List.forall_mem_cons.mpr ⟨lw_p25, List.forall_mem_cons.mpr ⟨lw_p26, List.forall_mem_cons.mpr ⟨lw_p27, List.forall_mem_cons.mpr ⟨lw_p28, List.forall_mem_cons.mpr ⟨lw_p29, List.forall_mem_cons.mpr ⟨lw_p30, List.forall_mem_cons.mpr ⟨lw_p31, fun _ h => absurd h List.not_mem_nil⟩⟩⟩⟩⟩⟩⟩⟩⟩⟩⟩⟩⟩⟩⟩⟩
theorem lw_p32 : lw_okq (⟨"FloodFerryModel", "isAground", "(I)Z"⟩, 15) := ⟨⟨by decide +kernel, by decide +kernel⟩, List.mem_of_getElem? (i := 862) (by decide +kernel), List.mem_of_getElem? (i := 1012) (by decide +kernel), List.mem_of_getElem? (i := 1013) (by decide +kernel)⟩
theorem lw_p33 : lw_okq (⟨"FloodFerryModel", "floats", "(III)Z"⟩, 15) := ⟨⟨by decide +kernel, by decide +kernel⟩, List.mem_of_getElem? (i := 862) (by decide +kernel), List.mem_of_getElem? (i := 1016) (by decide +kernel), List.mem_of_getElem? (i := 1017) (by decide +kernel)⟩
theorem lw_p34 : lw_okq (⟨"FloodFerryModel", "boundCell", "(I)I"⟩, 15) := ⟨⟨by decide +kernel, by decide +kernel⟩, List.mem_of_getElem? (i := 862) (by decide +kernel), List.mem_of_getElem? (i := 1020) (by decide +kernel), List.mem_of_getElem? (i := 1021) (by decide +kernel)⟩
theorem lw_p35 : lw_okq (⟨"FloodFerryModel", "look", "(III)V"⟩, 15) := ⟨⟨by decide +kernel, by decide +kernel⟩, List.mem_of_getElem? (i := 862) (by decide +kernel), List.mem_of_getElem? (i := 1024) (by decide +kernel), List.mem_of_getElem? (i := 1025) (by decide +kernel)⟩
theorem lw_p36 : lw_okq (⟨"FloodFerryModel", "travellerTold", "(II)I"⟩, 15) := ⟨⟨by decide +kernel, by decide +kernel⟩, List.mem_of_getElem? (i := 862) (by decide +kernel), List.mem_of_getElem? (i := 1039) (by decide +kernel), List.mem_of_getElem? (i := 1040) (by decide +kernel)⟩
theorem lw_p37 : lw_okq (⟨"FloodFerryModel", "hasCome", "(I)Z"⟩, 15) := ⟨⟨by decide +kernel, by decide +kernel⟩, List.mem_of_getElem? (i := 862) (by decide +kernel), List.mem_of_getElem? (i := 1043) (by decide +kernel), List.mem_of_getElem? (i := 1044) (by decide +kernel)⟩
theorem lw_p38 : lw_okq (⟨"FloodFerryModel", "chainFrom", "(II)I"⟩, 15) := ⟨⟨by decide +kernel, by decide +kernel⟩, List.mem_of_getElem? (i := 862) (by decide +kernel), List.mem_of_getElem? (i := 1047) (by decide +kernel), List.mem_of_getElem? (i := 1048) (by decide +kernel)⟩
theorem lw_p39 : lw_okq (⟨"FloodFerryModel", "link", "(I)V"⟩, 15) := ⟨⟨by decide +kernel, by decide +kernel⟩, List.mem_of_getElem? (i := 862) (by decide +kernel), List.mem_of_getElem? (i := 1051) (by decide +kernel), List.mem_of_getElem? (i := 1052) (by decide +kernel)⟩
theorem lw_p40 : lw_okq (⟨"FloodFerryModel", "across", "(II)I"⟩, 15) := ⟨⟨by decide +kernel, by decide +kernel⟩, List.mem_of_getElem? (i := 862) (by decide +kernel), List.mem_of_getElem? (i := 1055) (by decide +kernel), List.mem_of_getElem? (i := 1056) (by decide +kernel)⟩
theorem lw_p41 : lw_okq (⟨"FloodFerryModel", "landingTold", "(II)I"⟩, 15) := ⟨⟨by decide +kernel, by decide +kernel⟩, List.mem_of_getElem? (i := 862) (by decide +kernel), List.mem_of_getElem? (i := 1064) (by decide +kernel), List.mem_of_getElem? (i := 1065) (by decide +kernel)⟩
theorem lw_p42 : lw_okq (⟨"FloodFerryModel", "hourOn", "()I"⟩, 15) := ⟨⟨by decide +kernel, by decide +kernel⟩, List.mem_of_getElem? (i := 862) (by decide +kernel), List.mem_of_getElem? (i := 1072) (by decide +kernel), List.mem_of_getElem? (i := 1073) (by decide +kernel)⟩
theorem lw_p43 : lw_okq (⟨"FloodFerryModel", "land", "(I)I"⟩, 15) := ⟨⟨by decide +kernel, by decide +kernel⟩, List.mem_of_getElem? (i := 862) (by decide +kernel), List.mem_of_getElem? (i := 1076) (by decide +kernel), List.mem_of_getElem? (i := 1077) (by decide +kernel)⟩
theorem lw_p44 : lw_okq (⟨"FloodFerryModel", "setWho", "(III)V"⟩, 15) := ⟨⟨by decide +kernel, by decide +kernel⟩, List.mem_of_getElem? (i := 862) (by decide +kernel), List.mem_of_getElem? (i := 1080) (by decide +kernel), List.mem_of_getElem? (i := 1081) (by decide +kernel)⟩
theorem lw_p45 : lw_okq (⟨"FloodFerryModel", "takes", "(II)I"⟩, 15) := ⟨⟨by decide +kernel, by decide +kernel⟩, List.mem_of_getElem? (i := 862) (by decide +kernel), List.mem_of_getElem? (i := 1084) (by decide +kernel), List.mem_of_getElem? (i := 1085) (by decide +kernel)⟩
theorem lw_p46 : lw_okq (⟨"FloodFerryModel", "step", "(I)V"⟩, 15) := ⟨⟨by decide +kernel, by decide +kernel⟩, List.mem_of_getElem? (i := 862) (by decide +kernel), List.mem_of_getElem? (i := 1088) (by decide +kernel), List.mem_of_getElem? (i := 1089) (by decide +kernel)⟩
theorem lw_p47 : lw_okq (⟨"FloodFerryModel", "counted", "(I)I"⟩, 15) := ⟨⟨by decide +kernel, by decide +kernel⟩, List.mem_of_getElem? (i := 862) (by decide +kernel), List.mem_of_getElem? (i := 1096) (by decide +kernel), List.mem_of_getElem? (i := 1097) (by decide +kernel)⟩
def lw_privs_3 : List (MethodName × Nat) := [(⟨"FloodFerryModel", "isAground", "(I)Z"⟩, 15), (⟨"FloodFerryModel", "floats", "(III)Z"⟩, 15), (⟨"FloodFerryModel", "boundCell", "(I)I"⟩, 15), (⟨"FloodFerryModel", "look", "(III)V"⟩, 15), (⟨"FloodFerryModel", "travellerTold", "(II)I"⟩, 15), (⟨"FloodFerryModel", "hasCome", "(I)Z"⟩, 15), (⟨"FloodFerryModel", "chainFrom", "(II)I"⟩, 15), (⟨"FloodFerryModel", "link", "(I)V"⟩, 15), (⟨"FloodFerryModel", "across", "(II)I"⟩, 15), (⟨"FloodFerryModel", "landingTold", "(II)I"⟩, 15), (⟨"FloodFerryModel", "hourOn", "()I"⟩, 15), (⟨"FloodFerryModel", "land", "(I)I"⟩, 15), (⟨"FloodFerryModel", "setWho", "(III)V"⟩, 15), (⟨"FloodFerryModel", "takes", "(II)I"⟩, 15), (⟨"FloodFerryModel", "step", "(I)V"⟩, 15), (⟨"FloodFerryModel", "counted", "(I)I"⟩, 15)]
theorem lw_r3 : ∀ q ∈ lw_privs_3, lw_okq q := List.forall_mem_cons.mpr ⟨lw_p32, List.forall_mem_cons.mpr ⟨lw_p33, List.forall_mem_cons.mpr ⟨lw_p34, List.forall_mem_cons.mpr ⟨lw_p35, List.forall_mem_cons.mpr ⟨lw_p36, List.forall_mem_cons.mpr ⟨lw_p37, List.forall_mem_cons.mpr ⟨lw_p38, List.forall_mem_cons.mpr ⟨lw_p39, List.forall_mem_cons.mpr ⟨lw_p40, List.forall_mem_cons.mpr ⟨lw_p41, List.forall_mem_cons.mpr ⟨lw_p42, List.forall_mem_cons.mpr ⟨lw_p43, List.forall_mem_cons.mpr ⟨lw_p44, List.forall_mem_cons.mpr ⟨lw_p45, List.forall_mem_cons.mpr ⟨lw_p46, List.forall_mem_cons.mpr ⟨lw_p47, fun _ h => absurd h List.not_mem_nil⟩⟩⟩⟩⟩⟩⟩⟩⟩⟩⟩⟩⟩⟩⟩⟩
theorem lw_p48 : lw_okq (⟨"FloodFerryModel", "crossingAt", "(II)I"⟩, 15) := ⟨⟨by decide +kernel, by decide +kernel⟩, List.mem_of_getElem? (i := 862) (by decide +kernel), List.mem_of_getElem? (i := 1104) (by decide +kernel), List.mem_of_getElem? (i := 1105) (by decide +kernel)⟩
theorem lw_p49 : lw_okq (⟨"FloodFerryModel", "kept", "()[[I"⟩, 15) := ⟨⟨by decide +kernel, by decide +kernel⟩, List.mem_of_getElem? (i := 862) (by decide +kernel), List.mem_of_getElem? (i := 1120) (by decide +kernel), List.mem_of_getElem? (i := 1121) (by decide +kernel)⟩
theorem lw_p50 : lw_okq (⟨"FloodFerryModel", "bringBack", "([[I)V"⟩, 15) := ⟨⟨by decide +kernel, by decide +kernel⟩, List.mem_of_getElem? (i := 862) (by decide +kernel), List.mem_of_getElem? (i := 1132) (by decide +kernel), List.mem_of_getElem? (i := 1133) (by decide +kernel)⟩
def lw_privs_4 : List (MethodName × Nat) := [(⟨"FloodFerryModel", "crossingAt", "(II)I"⟩, 15), (⟨"FloodFerryModel", "kept", "()[[I"⟩, 15), (⟨"FloodFerryModel", "bringBack", "([[I)V"⟩, 15)]
theorem lw_r4 : ∀ q ∈ lw_privs_4, lw_okq q := List.forall_mem_cons.mpr ⟨lw_p48, List.forall_mem_cons.mpr ⟨lw_p49, List.forall_mem_cons.mpr ⟨lw_p50, fun _ h => absurd h List.not_mem_nil⟩⟩⟩
def lw_privs : List (MethodName × Nat) := lw_privs_1 ++ (lw_privs_2 ++ (lw_privs_3 ++ (lw_privs_4)))
def lw_tbl : List Cond := k2_sels lw_privs ++ tables_1
theorem lw_privs_ok : ∀ q ∈ lw_privs, lw_okq q := by
  show ∀ q ∈ lw_privs_1 ++ (lw_privs_2 ++ (lw_privs_3 ++ (lw_privs_4))), lw_okq q
  exact List.forall_mem_append.mpr ⟨lw_r1, List.forall_mem_append.mpr ⟨lw_r2, List.forall_mem_append.mpr ⟨lw_r3, lw_r4⟩⟩⟩
/-- the streams that the claim lets the run draw from -/
abbrev lw_cs : List Choice := [Jvm.Choice.named "NaN.bits"]
theorem lw_bits : nanBits ∈ lw_cs := by first | decide | exact List.mem_cons_self | simp [lw_cs, nanBits]
-- end of PART A
end
section
/-! ===== BEGIN words of one list among another's, by their places ===== -/
theorem goodIn_r {big : List Cond} (ws : List Cond) (ps : List Nat) (hp : ws = ps.filterMap (fun i => big[i]?)) (h : ws.all goodWord = true) : GoodIn big ws := by
  intro w hw
  have h1 := List.all_eq_true.mp h w hw
  rw [hp] at hw
  obtain ⟨i, -, hi⟩ := List.mem_filterMap.mp hw
  have hm : w ∈ big := by first | exact List.mem_of_getElem? hi | exact List.getElem?_mem hi
  exact ⟨hm, good_of_word h1⟩
theorem goodIn_app {big a b : List Cond} (ha : GoodIn big a) (hb : GoodIn big b) : GoodIn big (a ++ b) := fun w h => (List.mem_append.mp h).elim (ha w) (hb w)
theorem goodIn_ca {big a b : List Cond} {c : Cond} (ha : GoodIn big (c :: a)) (hb : GoodIn big b) : GoodIn big (c :: (a ++ b)) := fun w h => (List.mem_cons.mp h).elim (fun e => ha w (List.mem_cons.mpr (Or.inl e))) (fun h => (List.mem_append.mp h).elim (fun h => ha w (List.mem_cons.mpr (Or.inr h))) (hb w))
theorem goodIn_sub {big ws : List Cond} (hm : ∀ w ∈ ws, w ∈ big) (h : ws.all goodWord = true) : GoodIn big ws := fun w hw => ⟨hm w hw, good_of_word (List.all_eq_true.mp h w hw)⟩
/-! ===== END ===== -/

/-! ===== BEGIN exceptions that leave a method, and their catching by the caller (launches without stack traces) ===== -/
section VXA
/-! The laws vx_back, vx_callV, vx_callS, vx_callSW, vx_throw0, vx_throwS follow proofs of the library, with one case more: JvmDerived/Free/Laws.lean (Back.of_free), Shelf42/LK1.lean (callV, callS), Shelf/KitTraced.lean (throwNew0V, throwNewS). -/
/-- where a method has thrown q: the class by its name, the cell, what was written, the world -/
def vx_T (XC : String → State → State → Prop) (st : State) (q : Addr) (t : State) (mc ms : Nat) (free : Addr → Prop) : Prop :=
  ∃ (E : String) (ce : Cell) (L : List Loc), XC E st t ∧ t.heap[q]? = some ce ∧ ce.vm = .none ∧ st.vm.findClass E = some ce.cls ∧ st.WarmedH t.vm ∧ st.sameButNew ({ t with vm := st.vm } : State) L mc ms ∧ ∀ z ∈ L, free z.base
def vx_Q (Qc : Array Value → State → Outcome → State → Prop) (XC : String → State → State → Prop) (mc ms : Nat) (free : Addr → Prop) : Array Value → State → Outcome → State → Prop := fun a st o t =>
  (Qc a st o t ∧ ∃ L, FrameEnd st o t L mc ms ∧ ∀ q ∈ L, free q.base) ∨ ∃ q, o = .threw q ∧ vx_T XC st q t mc ms free
/-- a callee that returns or throws -/
def vx_Met (l : Launch) (y : MethodName) (ws : List Cond) (rm : Room) (Pc : Array Value → State → Prop) (Qc : Array Value → State → Outcome → State → Prop) (XC : String → State → State → Prop) (mc ms : Nat) (free : Addr → Prop) : Prop :=
  MetFree l y (headSpec ws rm) Pc (fun _ _ _ _ _ => True) (vx_Q Qc XC mc ms free)
def vx_Post (XC : String → State → State → Prop) (mc ms : Nat) (free : Addr → Prop) : Pt → Array Value → Addr → Pt → Prop := fun A a q B =>
  ∃ (g : JFrame) (mk : MethodId) (t : State) (L : List Loc) (E : String) (ce : Cell), B.U.heap = t.heap ∧ B.U.vm = t.vm ∧ XC E (A.U.calling g mk a) t ∧ t.heap[q]? = some ce ∧ ce.vm = .none ∧ A.U.vm.findClass E = some ce.cls ∧ B.locs = A.locs ++ L ∧ (∀ z ∈ L, free z.base) ∧ B.cells = A.cells + mc ∧ B.slots = A.slots + ms
def vx_Back (l : Launch) (R : Room) (p : Program) (e : Env) (below : List Frame) (s : State) (sargs : Array Value) (y : MethodName) (len W9 : Nat)
    (Pre : Pt → Array Value → Prop) (Post : Pt → Array Value → Option Value → Pt → Prop) (PostX : Pt → Array Value → Addr → Pt → Prop) : Prop :=
  ∀ (m : MethodId) (meth : Method) (c : Code) (A : Pt) (g : JFrame) (ig : Instr) (mk : MethodId) (a : Array Value),
    Stand p l e R s m sargs below meth c A.U A.locs A.cells A.slots → g.method = m → g.locals.size = c.maxLocals → decode c.code g.pc = .ok (ig, len) →
    2 * g.monitorRoom + (g.stack.map fun v => v.category).sum ≤ W9 → A.U.methodNamed? y = some mk → Pre A a →
    (∃ (v : Option Value) (B : Pt), Stand p l e R s m sargs below meth c B.U B.locs B.cells B.slots ∧ Post A a v B ∧
      Steps p.tables e below (doInvoke e (A.U.setTop g) [] mk a).1 (B.U.setTop { g with pc := g.pc + len, stack := v.toList ++ g.stack })) ∨
    (∃ (q : Addr) (B : Pt), Stand p l e R s m sargs below meth c B.U B.locs B.cells B.slots ∧ PostX A a q B ∧
      Steps p.tables e below (doInvoke e (A.U.setTop g) [] mk a).1 ((B.U.setTop g).pushFrame (.throwing q)))
section Payer
variable {l : Launch} {R : Room} {p : Program} {e : Env} {below : List Frame} {s : State} {sargs : Array Value} {y : MethodName} {len W9 : Nat}
theorem vx_back {ws : List Cond} {rm : Room} {Pc : Array Value → State → Prop} {Qc : Array Value → State → Outcome → State → Prop} {XC : String → State → State → Prop} {mc ms : Nat} {free : Addr → Prop} {bytes : ByteArray} {maxL : Nat} {ret : Option FieldType}
    (hM : vx_Met l y ws rm Pc Qc XC mc ms free) (hblind : FrameBlind Pc) (hrc : rm.cells = mc) (hrs : rm.slots = ms)
    (hframes : rm.frames + 1 ≤ R.frames) (hlocals : W9 + (maxL + 11) + rm.locals ≤ R.locals)
    (hws : ∀ w ∈ ws, ∀ a' U, s.WarmedH U.vm → w.before a' U = true) (hcode : Cond.code y bytes maxL ret ∈ ws) (hinit : ∀ a' U, s.WarmedH U.vm → (Cond.initialized y.cls).before a' U = true) :
    vx_Back l R p e below s sargs y len W9 (PreOf R mc ms Pc) (PostOf Qc mc ms free) (vx_Post XC mc ms free) := by
  intro m meth c A g ig mk a X hg hsize hdg hW hn hp
  have h1 : (headSpec ws rm).pre.before a A.U = true := atoms_intro fun w hw => hws w hw _ _ X.warmed
  have h2 : (Cond.code y bytes maxL ret).before a A.U = true := hws _ hcode _ _ X.warmed
  have h3 : (Cond.initialized y.cls).before a A.U = true := hinit _ _ X.warmed
  have h4 : A.cells + (headSpec ws rm).room.cells ≤ R.cells := by rw [show (headSpec ws rm).room.cells = mc from hrc]; exact hp.1
  have h5 : A.slots + (headSpec ws rm).room.slots ≤ R.slots := by rw [show (headSpec ws rm).room.slots = ms from hrs]; exact hp.2.1
  have hPc : Pc a (A.U.calling g mk a) := hblind _ _ _ _ hp.2.2
  obtain ⟨U, Ls, c0, s0⟩ := A
  dsimp only [Pt.U, Pt.locs, Pt.cells, Pt.slots] at h1 h2 h3 h4 h5 X hn hPc ⊢
  obtain ⟨methY, cY, hmY, hcY, -, hlY, -, -, -, -⟩ := Cond.code_spec hn h2
  obtain ⟨kY, hkY, -⟩ := className_of_methodNamed hn
  have hinitY : kY.init = .initialized := Cond.initialized_spec (findClass_of_methodNamed hn) hkY h3
  have h : At U g.method c below := by rw [hg]; exact X.here
  have hlocals9 : W9 + (maxL + 11) + (headSpec ws rm).room.locals ≤ R.locals := hlocals
  have happ : (headSpec ws rm).appliesLoose y e.platform (U.calling g mk a) = true :=
    Spec.appliesLoose_calling (g := g) h hdg hn hkY hinitY
      (X.room_calling (g := g) (R' := (headSpec ws rm).room) hsize hmY hcY hframes (by rw [hlY]; omega) h4 h5) h1
  obtain ⟨mid, hmid⟩ := h.above
  have hfr : (U.setTop g).frames = (.java g :: mid) ++ below := by rw [State.frames_setTop' g h.top, hmid]; rfl
  obtain ⟨o, s₂, hsteps, -, hend, hq⟩ := Steps.callFree hM p X.admits X.cas X.clock (acts := []) hfr happ hPc trivial
  have hq' : vx_Q Qc XC mc ms free a (U.calling g mk a) o s₂ := hq
  rw [State.frames_setTop' g h.top] at hend
  obtain ⟨g₀, hg0⟩ := Option.isSome_iff_exists.mp h.top
  obtain ⟨r, hr⟩ := State.topJava?_eq_some.mp hg0
  have hr' : (({ U with heap := s₂.heap, slotsUsed := s₂.slotsUsed } : State).setVm s₂.vm).frames = .java g₀ :: r := hr
  rcases hq' with ⟨hqc, L, hfe, hL⟩ | ⟨q, rfl, E, ce, L, hx, hce, hcv, hcl, hW₂, hsm, hL⟩
  · obtain ⟨⟨v, rfl⟩, hW₂, e2, q2, q3, q4, q5, q6⟩ := id hfe
    have e3 : s₂ = ({ (U.calling g mk a).setFrames s₂.frames with heap := s₂.heap, slotsUsed := s₂.slotsUsed } : State).setVm s₂.vm := by
      have : s₂ = ({ s₂ with vm := (U.calling g mk a).vm } : State).setVm s₂.vm := rfl
      rw [e2] at this
      exact this
    obtain ⟨c₂, i₂, len₂, hc₂, hd₂, hf₂⟩ := hend
    have hW' : U.WarmedH s₂.vm := hW₂
    have hcc : c₂ = c := by
      have h1 : s₂.code? g.method = U.code? g.method := by
        rw [State.code?_eq, State.code?_eq, hW'.alike.method?]
      exact Option.some.inj (hc₂.symm.trans (h1.trans h.code))
    subst hcc
    have hlen : len₂ = len := by rw [hdg] at hd₂; cases hd₂; rfl
    subst hlen
    have hs₂ : s₂ = (({ U with heap := s₂.heap, slotsUsed := s₂.slotsUsed } : State).setVm s₂.vm).setTop { g with pc := g.pc + len₂, stack := v.toList ++ g.stack } := by
      refine e3.trans ?_
      rw [hf₂, State.calling_eq h.top, State.setFrames_setFrames, State.setTop_of_frames _ hr', hr]
      rfl
    have hsame : U.sameButNew ({ U with heap := s₂.heap, slotsUsed := s₂.slotsUsed } : State) L mc ms := by
      refine ⟨?_, q2, q3, q4, q5, q6⟩
      obtain ⟨t, ht, -⟩ := State.frames_cons hr
      show ({ U with heap := s₂.heap, slotsUsed := s₂.slotsUsed } : State) = { U.setFrames U.frames with heap := s₂.heap, slotsUsed := s₂.slotsUsed }
      rw [State.setFrames_self ht]
    subst hg
    refine Or.inl ⟨v, ⟨(({ U with heap := s₂.heap, slotsUsed := s₂.slotsUsed } : State).setVm s₂.vm), Ls ++ L, c0 + mc, s0 + ms⟩,
      ⟨X.admits, X.cas, X.clock, X.frames, X.room, X.hears, X.method, X.code, (X.here.setHeapUsed s₂.heap s₂.slotsUsed).setVm hW'.alike, X.tail, State.WarmedH.trans X.warmed hW', X.limits, X.bytes, X.same.trans (hsame.setVm s.vm)⟩,
      ⟨g, mk, s₂, L, rfl, rfl, hqc, rfl, hL, rfl, rfl⟩, ?_⟩
    show Steps p.tables e below _ ((({ U with heap := s₂.heap, slotsUsed := s₂.slotsUsed } : State).setVm s₂.vm).setTop { g with pc := g.pc + len₂, stack := v.toList ++ g.stack })
    rw [← hs₂]
    exact hsteps
  · obtain ⟨e2, q2, q3, q4, q5, q6⟩ := id hsm
    have e3 : s₂ = ({ (U.calling g mk a).setFrames s₂.frames with heap := s₂.heap, slotsUsed := s₂.slotsUsed } : State).setVm s₂.vm := by
      have : s₂ = ({ s₂ with vm := (U.calling g mk a).vm } : State).setVm s₂.vm := rfl
      rw [e2] at this
      exact this
    have hf₂ : s₂.frames = .throwing q :: .java g :: U.frames.tail := hend
    have hW' : U.WarmedH s₂.vm := hW₂
    have hs₂ : s₂ = ((({ U with heap := s₂.heap, slotsUsed := s₂.slotsUsed } : State).setVm s₂.vm).setTop g).pushFrame (.throwing q) := by
      refine e3.trans ?_
      rw [hf₂, State.calling_eq h.top, State.setFrames_setFrames, State.pushFrame, State.frames_setTop _ hr', State.setTop_of_frames _ hr', State.setFrames_setFrames, hr]
      rfl
    have hsame : U.sameButNew ({ U with heap := s₂.heap, slotsUsed := s₂.slotsUsed } : State) L mc ms := by
      refine ⟨?_, q2, q3, q4, q5, q6⟩
      obtain ⟨t, ht, -⟩ := State.frames_cons hr
      show ({ U with heap := s₂.heap, slotsUsed := s₂.slotsUsed } : State) = { U.setFrames U.frames with heap := s₂.heap, slotsUsed := s₂.slotsUsed }
      rw [State.setFrames_self ht]
    subst hg
    refine Or.inr ⟨q, ⟨(({ U with heap := s₂.heap, slotsUsed := s₂.slotsUsed } : State).setVm s₂.vm), Ls ++ L, c0 + mc, s0 + ms⟩,
      ⟨X.admits, X.cas, X.clock, X.frames, X.room, X.hears, X.method, X.code, (X.here.setHeapUsed s₂.heap s₂.slotsUsed).setVm hW'.alike, X.tail, State.WarmedH.trans X.warmed hW', X.limits, X.bytes, X.same.trans (hsame.setVm s.vm)⟩,
      ⟨g, mk, s₂, L, E, ce, rfl, rfl, hx, hce, hcv, hcl, rfl, hL, rfl, rfl⟩, ?_⟩
    show Steps p.tables e below _ (((({ U with heap := s₂.heap, slotsUsed := s₂.slotsUsed } : State).setVm s₂.vm).setTop g).pushFrame (.throwing q))
    rw [← hs₂]
    exact hsteps
end Payer
section Calls
variable {p : Program} {l : Launch} {e : Env} {R : Room} {s : State} {m : MethodId} {args : Array Value} {below : List Frame} {meth : Method} {c : Code} {T : State} {locs : List Loc} {cells slots : Nat}
theorem vx_callV (X : Stand p l e R s m args below meth c T locs cells slots) (hexec : p.tables.exec = Jvm.exec) {own C : String} {index : Nat} {y : MethodName} {bytes : ByteArray} {maxL : Nat} {ret : Option FieldType}
    (hown : s.vm.findClass own = some m.cls) (hlink : (Cond.methodLink own index y).before args s = true) (hinst : (Cond.instanceMethod y).before args s = true) (hsel : (Cond.selects C y y).before args s = true)
    (hcode : (Cond.code y bytes maxL ret).before args s = true) (hy : y.cls ≠ "java/lang/invoke/MethodHandle" ∧ y.cls ≠ "java/lang/invoke/VarHandle")
    {W9 : Nat} {Pre : Pt → Array Value → Prop} {Post : Pt → Array Value → Option Value → Pt → Prop} {PostX : Pt → Array Value → Addr → Pt → Prop} (hK : vx_Back l R p e below s args y 3 W9 Pre Post PostX)
    {b : Addr} {cellB : Cell} (hcell : T.heap[b]? = some cellB) (hobj : cellB.vm.isStatics = false) (hcls : s.vm.findClass C = some cellB.cls)
    {g : JFrame} (hg : g.method = m) (hsize : g.locals.size = c.maxLocals) {argsL rest : List Value} (hlen : ∀ sig, parseMethodDescriptor y.desc = some sig → argsL.length = sig.parameters.length)
    (hstack : g.stack = argsL.reverse ++ .ref b :: rest) (hW : 2 * g.monitorRoom + (rest.map fun v => v.category).sum ≤ W9) (hdg : decode c.code g.pc = .ok (.invokevirtual index, 3))
    (hpre : ∀ vm₁, s.WarmedH vm₁ → Pre ⟨T.setVm vm₁, locs, cells, slots⟩ (Value.ref b :: argsL).toArray) :
    (∃ (v : Option Value) (vm₁ : Vm) (B : Pt), s.WarmedH vm₁ ∧ Stand p l e R s m args below meth c B.U B.locs B.cells B.slots ∧ Post ⟨T.setVm vm₁, locs, cells, slots⟩ (Value.ref b :: argsL).toArray v B ∧
      ∀ target, Steps p.tables e below (B.U.setTop { g with pc := g.pc + 3, stack := v.toList ++ rest }) target → Steps p.tables e below (T.setTop g) target) ∨
    (∃ (q : Addr) (vm₁ : Vm) (B : Pt), s.WarmedH vm₁ ∧ Stand p l e R s m args below meth c B.U B.locs B.cells B.slots ∧ PostX ⟨T.setVm vm₁, locs, cells, slots⟩ (Value.ref b :: argsL).toArray q B ∧
      Steps p.tables e below (T.setTop g) ((B.U.setTop { g with stack := rest }).pushFrame (.throwing q))) := by
  obtain ⟨mk, methM, hnamed, hmethM, hstM, habM⟩ := Cond.instanceMethod_spec hinst
  obtain ⟨methM', cM, hmethM', -, -, -, -, -, -, hsigM⟩ := Cond.code_spec hnamed hcode
  cases hmethM.symm.trans hmethM'
  obtain ⟨c2, r2, m2, q1, q2, q3, q4, kP, hkP, hkPi⟩ := Cond.selects_spec hsel
  cases hcls.symm.trans q1
  cases (State.methodFound?_of_named hnamed hy).symm.trans q2
  cases hnamed.symm.trans q3
  have hselP : selectMethod e.platform s.vm cellB.cls mk = .method mk := by rw [Launch.admits_selectMethod X.admits]; exact q4
  obtain ⟨vm₁, X₁, hstep₁⟩ := X.invokevirtual hexec hown hlink hnamed hmethM hstM hkP hkPi hy (a := b) (cell := cellB) hcell
    (fun z h => by rw [h] at hobj; cases hobj) hselP hmethM habM hkP hkPi (g := g) hg (argsL := argsL) (rest := rest) (hlen _ hsigM) hstack hdg
  rcases hK m meth c ⟨T.setVm vm₁, locs, cells, slots⟩ { g with stack := rest } (.invokevirtual index) mk (Value.ref b :: argsL).toArray X₁ hg hsize hdg hW (X₁.named hnamed) (hpre vm₁ X₁.warmed) with ⟨v, B, X', hpost, hsteps⟩ | ⟨q, B, X', hpost, hsteps⟩
  · exact Or.inl ⟨v, vm₁, B, X₁.warmed, X', hpost, fun target h => hstep₁ _ fun acts => by rw [doInvoke_state]; exact hsteps.trans h⟩
  · exact Or.inr ⟨q, vm₁, B, X₁.warmed, X', hpost, hstep₁ _ fun acts => by rw [doInvoke_state]; exact hsteps⟩
theorem vx_callS (X : Stand p l e R s m args below meth c T locs cells slots) (hexec : p.tables.exec = Jvm.exec) {own : String} {index : Nat} {y : MethodName} {bytes : ByteArray} {maxL : Nat} {ret : Option FieldType}
    (hown : s.vm.findClass own = some m.cls) (hlink : (Cond.methodLink own index y).before args s = true) (hstat : (Cond.static y).before args s = true) (hinit : (Cond.initialized y.cls).before args s = true)
    (hcode : (Cond.code y bytes maxL ret).before args s = true) (hy : y.cls ≠ "java/lang/invoke/MethodHandle" ∧ y.cls ≠ "java/lang/invoke/VarHandle")
    {W9 : Nat} {Pre : Pt → Array Value → Prop} {Post : Pt → Array Value → Option Value → Pt → Prop} {PostX : Pt → Array Value → Addr → Pt → Prop} (hK : vx_Back l R p e below s args y 3 W9 Pre Post PostX)
    {g : JFrame} (hg : g.method = m) (hsize : g.locals.size = c.maxLocals) {argsL rest : List Value} (hlen : ∀ sig, parseMethodDescriptor y.desc = some sig → argsL.length = sig.parameters.length)
    (hstack : g.stack = argsL.reverse ++ rest) (hW : 2 * g.monitorRoom + (rest.map fun v => v.category).sum ≤ W9) (hdg : decode c.code g.pc = .ok (.invokestatic index, 3))
    (hpre : ∀ vm₁, s.WarmedH vm₁ → Pre ⟨T.setVm vm₁, locs, cells, slots⟩ argsL.toArray) :
    (∃ (v : Option Value) (vm₁ : Vm) (B : Pt), s.WarmedH vm₁ ∧ Stand p l e R s m args below meth c B.U B.locs B.cells B.slots ∧ Post ⟨T.setVm vm₁, locs, cells, slots⟩ argsL.toArray v B ∧
      ∀ target, Steps p.tables e below (B.U.setTop { g with pc := g.pc + 3, stack := v.toList ++ rest }) target → Steps p.tables e below (T.setTop g) target) ∨
    (∃ (q : Addr) (vm₁ : Vm) (B : Pt), s.WarmedH vm₁ ∧ Stand p l e R s m args below meth c B.U B.locs B.cells B.slots ∧ PostX ⟨T.setVm vm₁, locs, cells, slots⟩ argsL.toArray q B ∧
      Steps p.tables e below (T.setTop g) ((B.U.setTop { g with stack := rest }).pushFrame (.throwing q))) := by
  obtain ⟨mk, hnamed⟩ := Cond.code_named hcode
  obtain ⟨methM, cM, hmethM, -, -, -, -, -, -, hsigM⟩ := Cond.code_spec hnamed hcode
  have hstatic : methM.isStatic = true := Cond.static_spec hnamed hmethM hstat
  obtain ⟨kP, hkP, -⟩ := className_of_methodNamed hnamed
  have hinitP : kP.init = .initialized := Cond.initialized_spec (findClass_of_methodNamed hnamed) hkP hinit
  obtain ⟨vm₁, X₁, hstep₁⟩ := X.invokestatic hexec hown hlink hnamed hmethM hstatic hkP hinitP hy (g := g) hg (argsL := argsL) (rest := rest) (hlen _ hsigM) hstack hdg
  rcases hK m meth c ⟨T.setVm vm₁, locs, cells, slots⟩ { g with stack := rest } (.invokestatic index) mk argsL.toArray X₁ hg hsize hdg hW (X₁.named hnamed) (hpre vm₁ X₁.warmed) with ⟨v, B, X', hpost, hsteps⟩ | ⟨q, B, X', hpost, hsteps⟩
  · exact Or.inl ⟨v, vm₁, B, X₁.warmed, X', hpost, fun target h => hstep₁ _ fun acts => by rw [doInvoke_state]; exact hsteps.trans h⟩
  · exact Or.inr ⟨q, vm₁, B, X₁.warmed, X', hpost, hstep₁ _ fun acts => by rw [doInvoke_state]; exact hsteps⟩
end Calls
theorem vx_cls {s : State} {T : State} {vm₁ : Vm} {E : String} {k : ClassId} (hW : s.WarmedH vm₁) (h : (T.setVm vm₁).vm.findClass E = some k) : s.vm.findClass E = some k := by
  have h1 : vm₁.findClass E = some k := h
  rw [hW.alike.findClass] at h1
  exact h1
/-- the method's frame g, with q thrown over it -/
def vx_W (p : Program) (l : Launch) (e : Env) (R : Room) (s : State) (m : MethodId) (args : Array Value) (below : List Frame) (meth : Method) (c : Code) (H : Heap) (locs : List Loc) (cells slots : Nat) (Q : State → Prop) (g : JFrame) (q : Addr) : Prop :=
  ∀ T : State, T.heap = H → Stand p l e R s m args below meth c T locs cells slots → ∃ t, Steps p.tables e below ((T.setTop g).pushFrame (.throwing q)) t ∧ Q t
def vx_Run (p : Program) (l : Launch) (e : Env) (R : Room) (s : State) (m : MethodId) (args : Array Value) (below : List Frame) (meth : Method) (c : Code) (H : Heap) (locs : List Loc) (cells slots mc ms : Nat) (g : JFrame) (rest : List Value) (Qa : State → Outcome → State → Prop) (XC : String → State → State → Prop) (free : Addr → Prop) : Prop :=
  ∀ T : State, T.heap = H → Stand p l e R s m args below meth c T locs cells slots →
    (∃ (v : Option Value) (st₀ t T' : State) (L : List Loc), st₀.heap = H ∧ Stand p l e R s m args below meth c T' (locs ++ L) (cells + mc) (slots + ms) ∧ (∀ q ∈ L, free q.base) ∧ T'.heap = t.heap ∧ T'.vm = t.vm ∧ Qa st₀ (.returned v) t ∧
      Goes p e below T g T' { g with pc := g.pc + 3, stack := v.toList ++ rest }) ∨
    (∃ (q : Addr) (st₀ t T' : State) (L : List Loc) (E : String) (ce : Cell), st₀.heap = H ∧ Stand p l e R s m args below meth c T' (locs ++ L) (cells + mc) (slots + ms) ∧ (∀ z ∈ L, free z.base) ∧ T'.heap = t.heap ∧ T'.vm = t.vm ∧ XC E st₀ t ∧ t.heap[q]? = some ce ∧ ce.vm = .none ∧ s.vm.findClass E = some ce.cls ∧
      Steps p.tables e below (T.setTop g) ((T'.setTop { g with stack := rest }).pushFrame (.throwing q)))
def vx_X {S : Type} (px : S → Prop) (B : String → S → State → Prop) (A : Nat → Prop) : String → State → State → Prop := fun E st t => ∃ u : S, px u ∧ B E u t ∧ va_F A st t
section Runs
variable {p : Program} {l : Launch} {e : Env} {R : Room} {s : State} {m : MethodId} {args : Array Value} {below : List Frame} {meth : Method} {c : Code} {H : Heap} {locs : List Loc} {cells slots : Nat}
variable {y : MethodName} {bytes cc : ByteArray} {maxL nL mc ms n index : Nat} {ret : Option FieldType} {ws : List Cond} {rm : Room} {Pc : Array Value → State → Prop} {Qc : Array Value → State → Outcome → State → Prop} {XC : String → State → State → Prop} {free : Addr → Prop} {Ts : List Cond} {own C : String} {b : Addr} {As rest : List Value} {g : JFrame}
theorem vx_callBack (cb : CallB R s args own index y bytes maxL ret ws rm mc ms n) (hM : vx_Met l y ws rm Pc Qc XC mc ms free) (hbl : FrameBlind Pc) : vx_Back l R p e below s args y 3 8 (PreOf R mc ms Pc) (PostOf Qc mc ms free) (vx_Post XC mc ms free) := by
  obtain ⟨hrc, hrs, hfr, hlo, hws, hcw, -, hini, -⟩ := cb
  exact vx_back (bytes := bytes) (maxL := maxL) (ret := ret) hM hbl hrc hrs hfr hlo hws hcw (fun a' U hW => word_at hW (Or.inl (by first | rfl | simp [Cond.onTables, Cond.keeps, Cond.steady])) hini)
theorem vx_runV (S : CallFix p m c cc nL s args Ts own) (hM : vx_Met l y ws rm Pc Qc XC mc ms free) (cw : CallW R s args own C index y bytes maxL ret ws rm mc ms n) (hp : PreV s H C b Pc As)
    (hg : g.method = m) (hn : As.length = n) (hsize : g.locals.size = nL) (hstack : g.stack = As.reverse ++ .ref b :: rest) (hW : 2 * g.monitorRoom + (rest.map fun v => v.category).sum ≤ 8) (hdg : decode cc g.pc = .ok (.invokevirtual index, 3)) (hf : cells + mc ≤ R.cells ∧ slots + ms ≤ R.slots) :
    vx_Run p l e R s m args below meth c H locs cells slots mc ms g rest (Qc (Value.ref b :: As).toArray) XC free := by
  have hK : vx_Back l R p e below s args y 3 8 (PreOf R mc ms Pc) (PostOf Qc mc ms free) (vx_Post XC mc ms free) := vx_callBack cw.1 hM hp.1
  obtain ⟨⟨-, -, -, -, -, -, hcode, -, hy, hlen, hl⟩, hin, hse⟩ := cw
  obtain ⟨hx, hb, hml, ho, -⟩ := S
  obtain ⟨-, ⟨cellB, hcB, hoB, hclB⟩, hPc⟩ := hp
  intro T hT X
  rcases vx_callV X hx (C := C) (bytes := bytes) (maxL := maxL) (ret := ret) ho hl hin hse hcode hy hK (by rw [hT]; exact hcB) hoB hclB hg (hsize.trans hml.symm) (argsL := As) (rest := rest) (fun sig h => hn.trans (hlen sig h)) hstack hW (by rw [hb]; exact hdg)
    (fun vm₁ hW₁ => ⟨hf.1, hf.2, hPc (T.setVm vm₁) hT hW₁⟩) with ⟨v, vm₁, ⟨U', l2, c2, s2⟩, hW₁, X', ⟨g', mk, t, L, e1, e2, hq, h1, hL, h2, h3⟩, st⟩ | ⟨q, vm₁, ⟨U', l2, c2, s2⟩, hW₁, X', ⟨g', mk, t, L, E, ce, e1, e2, hq, hce, hcv, hcl, h1, hL, h2, h3⟩, st⟩
  · dsimp only [Pt.U, Pt.locs, Pt.cells, Pt.slots] at X' e1 e2 h1 h2 h3 st
    subst h1; subst h2; subst h3
    exact Or.inl ⟨v, (T.setVm vm₁).calling g' mk (Value.ref b :: As).toArray, t, U', L, hT, X', hL, e1, e2, hq, st⟩
  · dsimp only [Pt.U, Pt.locs, Pt.cells, Pt.slots] at X' e1 e2 h1 h2 h3 st hcl
    subst h1; subst h2; subst h3
    exact Or.inr ⟨q, (T.setVm vm₁).calling g' mk (Value.ref b :: As).toArray, t, U', L, E, ce, hT, X', hL, e1, e2, hq, hce, hcv, vx_cls hW₁ hcl, st⟩
theorem vx_runS (S : CallFix p m c cc nL s args Ts own) (hM : vx_Met l y ws rm Pc Qc XC mc ms free) (cw : CallB R s args own index y bytes maxL ret ws rm mc ms n ∧ (Cond.static y).before args s = true) (hp : PreS s H Pc As)
    (hg : g.method = m) (hn : As.length = n) (hsize : g.locals.size = nL) (hstack : g.stack = As.reverse ++ rest) (hW : 2 * g.monitorRoom + (rest.map fun v => v.category).sum ≤ 8) (hdg : decode cc g.pc = .ok (.invokestatic index, 3)) (hf : cells + mc ≤ R.cells ∧ slots + ms ≤ R.slots) :
    vx_Run p l e R s m args below meth c H locs cells slots mc ms g rest (Qc As.toArray) XC free := by
  have hK : vx_Back l R p e below s args y 3 8 (PreOf R mc ms Pc) (PostOf Qc mc ms free) (vx_Post XC mc ms free) := vx_callBack cw.1 hM hp.1
  obtain ⟨⟨-, -, -, -, -, -, hcode, hini, hy, hlen, hl⟩, hstt⟩ := cw
  obtain ⟨hx, hb, hml, ho, -⟩ := S
  intro T hT X
  rcases vx_callS X hx (bytes := bytes) (maxL := maxL) (ret := ret) ho hl hstt hini hcode hy hK hg (hsize.trans hml.symm) (argsL := As) (rest := rest) (fun sig h => hn.trans (hlen sig h)) hstack hW (by rw [hb]; exact hdg)
    (fun vm₁ hW₁ => ⟨hf.1, hf.2, hp.2 (T.setVm vm₁) hT hW₁⟩) with ⟨v, vm₁, ⟨U', l2, c2, s2⟩, hW₁, X', ⟨g', mk, t, L, e1, e2, hq, h1, hL, h2, h3⟩, st⟩ | ⟨q, vm₁, ⟨U', l2, c2, s2⟩, hW₁, X', ⟨g', mk, t, L, E, ce, e1, e2, hq, hce, hcv, hcl, h1, hL, h2, h3⟩, st⟩
  · dsimp only [Pt.U, Pt.locs, Pt.cells, Pt.slots] at X' e1 e2 h1 h2 h3 st
    subst h1; subst h2; subst h3
    exact Or.inl ⟨v, (T.setVm vm₁).calling g' mk As.toArray, t, U', L, hT, X', hL, e1, e2, hq, st⟩
  · dsimp only [Pt.U, Pt.locs, Pt.cells, Pt.slots] at X' e1 e2 h1 h2 h3 st hcl
    subst h1; subst h2; subst h3
    exact Or.inr ⟨q, (T.setVm vm₁).calling g' mk As.toArray, t, U', L, E, ce, hT, X', hL, e1, e2, hq, hce, hcv, vx_cls hW₁ hcl, st⟩
end Runs
section Rows
variable {p : Program} {l : Launch} {e : Env} {R : Room} {s : State} {m : MethodId} {args : Array Value} {below : List Frame} {meth : Method} {c : Code} {H : Heap} {locs : List Loc} {cells slots : Nat} {Q : State → Prop}
variable {mc ms : Nat} {free : Addr → Prop} {A0 A1 : Nat → Prop} {H0 : Heap} {a : Array Value} {pc : Nat} {ls : Array Slot} {st0 rest : List Value}
theorem vx_keep {st₀ t T' : State} {L : List Loc} (h0 : st₀.heap = H) (e1 : T'.heap = t.heap) (hS : va_S A0 H0 H locs) (hA : ∀ q, q < H.size → A1 q → A0 q) (hf : ∀ q, free q → A0 q) (hL : ∀ q ∈ L, free q.base) (hF : va_F A1 st₀ t) :
    H.size ≤ T'.heap.size ∧ (∀ q : Nat, q < H.size → ¬ A1 q → T'.heap[q]? = H[q]?) ∧ va_S A0 H0 T'.heap (locs ++ L) := by
  obtain ⟨hz, hk⟩ := hF
  rw [h0] at hz hk
  exact ⟨by rw [e1]; exact hz, fun q h1 h2 => by rw [e1]; exact hk q h1 h2,
    ⟨Nat.le_trans hS.1 (by rw [e1]; exact hz), fun q h1 h2 => by rw [e1, hk q (Nat.lt_of_lt_of_le h1 hS.1) (fun z => h2 (hA q (Nat.lt_of_lt_of_le h1 hS.1) z))]; exact hS.2.1 q h1 h2, fun q hq => by
      rcases List.mem_append.mp hq with h | h
      · exact hS.2.2 q h
      · exact hf _ (hL q h)⟩⟩
theorem vx_calli {S SX : Type} {post : Int32 → S → Prop} {px : SX → Prop} {B : S → State → Prop} {BX : String → SX → State → Prop} {AX : Nat → Prop} (hr : vx_Run p l e R s m args below meth c H locs cells slots mc ms (F0 m pc ls st0) rest (va_Qi post B A1 a) (vx_X px BX AX) free) (hS : va_S A0 H0 H locs) (hA : ∀ q, q < H.size → A1 q → A0 q) (hf : ∀ q, free q → A0 q) (hAX : ∀ q, q < H.size → AX q → A0 q)
    (kx : ∀ (E : String) (ce : Cell) (q9 : Addr) (u : SX) (t : State) (H1 : Heap) (locs1 : List Loc), t.heap = H1 → s.vm.Alike t.vm → px u → BX E u t → H.size ≤ H1.size → (∀ q : Nat, q < H.size → ¬ AX q → H1[q]? = H[q]?) → va_S A0 H0 H1 locs1 → H1[q9]? = some ce → ce.vm = .none → s.vm.findClass E = some ce.cls → vx_W p l e R s m args below meth c H1 locs1 (cells + mc) (slots + ms) Q (F0 m pc ls rest) q9)
    (kk : ∀ (r : Int32) (u : S) (t : State) (H1 : Heap) (locs1 : List Loc), t.heap = H1 → s.vm.Alike t.vm → post r u → B u t → H.size ≤ H1.size → (∀ q : Nat, q < H.size → ¬ A1 q → H1[q]? = H[q]?) → va_S A0 H0 H1 locs1 → W p l e R s m args below meth c H1 locs1 (cells + mc) (slots + ms) Q (F0 m (pc + 3) ls (.int r :: rest))) : W p l e R s m args below meth c H locs cells slots Q (F0 m pc ls st0) := by
  intro T hT X
  rcases hr T hT X with ⟨v, st₀, t, T', L, h0, X', hL, e1, e2, ⟨⟨r, u, hv, hp, hb⟩, hF⟩, st⟩ | ⟨q, st₀, t, T', L, E, ce, h0, X', hL, e1, e2, ⟨u, hp, hb, hF⟩, hce, hcv, hcl, st⟩
  · cases hv
    obtain ⟨k1, k2, k3⟩ := vx_keep h0 e1 hS hA hf hL hF
    obtain ⟨t2, a1, b1⟩ := kk r u t T'.heap (locs ++ L) e1.symm (by rw [← e2]; exact X'.warmed.alike) hp hb k1 k2 k3 T' rfl X'
    exact ⟨t2, st t2 a1, b1⟩
  · obtain ⟨k1, k2, k3⟩ := vx_keep h0 e1 hS hAX hf hL hF
    obtain ⟨t2, a1, b1⟩ := kx E ce q u t T'.heap (locs ++ L) e1.symm (by rw [← e2]; exact X'.warmed.alike) hp hb k1 k2 k3 (by rw [e1]; exact hce) hcv hcl T' rfl X'
    exact ⟨t2, st.trans a1, b1⟩
theorem vx_calll {S SX : Type} {post : Int64 → S → Prop} {px : SX → Prop} {B : S → State → Prop} {BX : String → SX → State → Prop} {AX : Nat → Prop} (hr : vx_Run p l e R s m args below meth c H locs cells slots mc ms (F0 m pc ls st0) rest (va_Ql post B A1 a) (vx_X px BX AX) free) (hS : va_S A0 H0 H locs) (hA : ∀ q, q < H.size → A1 q → A0 q) (hf : ∀ q, free q → A0 q) (hAX : ∀ q, q < H.size → AX q → A0 q)
    (kx : ∀ (E : String) (ce : Cell) (q9 : Addr) (u : SX) (t : State) (H1 : Heap) (locs1 : List Loc), t.heap = H1 → s.vm.Alike t.vm → px u → BX E u t → H.size ≤ H1.size → (∀ q : Nat, q < H.size → ¬ AX q → H1[q]? = H[q]?) → va_S A0 H0 H1 locs1 → H1[q9]? = some ce → ce.vm = .none → s.vm.findClass E = some ce.cls → vx_W p l e R s m args below meth c H1 locs1 (cells + mc) (slots + ms) Q (F0 m pc ls rest) q9)
    (kk : ∀ (r : Int64) (u : S) (t : State) (H1 : Heap) (locs1 : List Loc), t.heap = H1 → s.vm.Alike t.vm → post r u → B u t → H.size ≤ H1.size → (∀ q : Nat, q < H.size → ¬ A1 q → H1[q]? = H[q]?) → va_S A0 H0 H1 locs1 → W p l e R s m args below meth c H1 locs1 (cells + mc) (slots + ms) Q (F0 m (pc + 3) ls (.long r :: rest))) : W p l e R s m args below meth c H locs cells slots Q (F0 m pc ls st0) := by
  intro T hT X
  rcases hr T hT X with ⟨v, st₀, t, T', L, h0, X', hL, e1, e2, ⟨⟨r, u, hv, hp, hb⟩, hF⟩, st⟩ | ⟨q, st₀, t, T', L, E, ce, h0, X', hL, e1, e2, ⟨u, hp, hb, hF⟩, hce, hcv, hcl, st⟩
  · cases hv
    obtain ⟨k1, k2, k3⟩ := vx_keep h0 e1 hS hA hf hL hF
    obtain ⟨t2, a1, b1⟩ := kk r u t T'.heap (locs ++ L) e1.symm (by rw [← e2]; exact X'.warmed.alike) hp hb k1 k2 k3 T' rfl X'
    exact ⟨t2, st t2 a1, b1⟩
  · obtain ⟨k1, k2, k3⟩ := vx_keep h0 e1 hS hAX hf hL hF
    obtain ⟨t2, a1, b1⟩ := kx E ce q u t T'.heap (locs ++ L) e1.symm (by rw [← e2]; exact X'.warmed.alike) hp hb k1 k2 k3 (by rw [e1]; exact hce) hcv hcl T' rfl X'
    exact ⟨t2, st.trans a1, b1⟩
theorem vx_callf {S SX : Type} {post : UInt32 → S → Prop} {px : SX → Prop} {B : S → State → Prop} {BX : String → SX → State → Prop} {AX : Nat → Prop} (hr : vx_Run p l e R s m args below meth c H locs cells slots mc ms (F0 m pc ls st0) rest (va_Qf post B A1 a) (vx_X px BX AX) free) (hS : va_S A0 H0 H locs) (hA : ∀ q, q < H.size → A1 q → A0 q) (hf : ∀ q, free q → A0 q) (hAX : ∀ q, q < H.size → AX q → A0 q)
    (kx : ∀ (E : String) (ce : Cell) (q9 : Addr) (u : SX) (t : State) (H1 : Heap) (locs1 : List Loc), t.heap = H1 → s.vm.Alike t.vm → px u → BX E u t → H.size ≤ H1.size → (∀ q : Nat, q < H.size → ¬ AX q → H1[q]? = H[q]?) → va_S A0 H0 H1 locs1 → H1[q9]? = some ce → ce.vm = .none → s.vm.findClass E = some ce.cls → vx_W p l e R s m args below meth c H1 locs1 (cells + mc) (slots + ms) Q (F0 m pc ls rest) q9)
    (kk : ∀ (r : UInt32) (u : S) (t : State) (H1 : Heap) (locs1 : List Loc), t.heap = H1 → s.vm.Alike t.vm → post r u → B u t → H.size ≤ H1.size → (∀ q : Nat, q < H.size → ¬ A1 q → H1[q]? = H[q]?) → va_S A0 H0 H1 locs1 → W p l e R s m args below meth c H1 locs1 (cells + mc) (slots + ms) Q (F0 m (pc + 3) ls (.float r :: rest))) : W p l e R s m args below meth c H locs cells slots Q (F0 m pc ls st0) := by
  intro T hT X
  rcases hr T hT X with ⟨v, st₀, t, T', L, h0, X', hL, e1, e2, ⟨⟨r, u, hv, hp, hb⟩, hF⟩, st⟩ | ⟨q, st₀, t, T', L, E, ce, h0, X', hL, e1, e2, ⟨u, hp, hb, hF⟩, hce, hcv, hcl, st⟩
  · cases hv
    obtain ⟨k1, k2, k3⟩ := vx_keep h0 e1 hS hA hf hL hF
    obtain ⟨t2, a1, b1⟩ := kk r u t T'.heap (locs ++ L) e1.symm (by rw [← e2]; exact X'.warmed.alike) hp hb k1 k2 k3 T' rfl X'
    exact ⟨t2, st t2 a1, b1⟩
  · obtain ⟨k1, k2, k3⟩ := vx_keep h0 e1 hS hAX hf hL hF
    obtain ⟨t2, a1, b1⟩ := kx E ce q u t T'.heap (locs ++ L) e1.symm (by rw [← e2]; exact X'.warmed.alike) hp hb k1 k2 k3 (by rw [e1]; exact hce) hcv hcl T' rfl X'
    exact ⟨t2, st.trans a1, b1⟩
theorem vx_calld {S SX : Type} {post : UInt64 → S → Prop} {px : SX → Prop} {B : S → State → Prop} {BX : String → SX → State → Prop} {AX : Nat → Prop} (hr : vx_Run p l e R s m args below meth c H locs cells slots mc ms (F0 m pc ls st0) rest (va_Qd post B A1 a) (vx_X px BX AX) free) (hS : va_S A0 H0 H locs) (hA : ∀ q, q < H.size → A1 q → A0 q) (hf : ∀ q, free q → A0 q) (hAX : ∀ q, q < H.size → AX q → A0 q)
    (kx : ∀ (E : String) (ce : Cell) (q9 : Addr) (u : SX) (t : State) (H1 : Heap) (locs1 : List Loc), t.heap = H1 → s.vm.Alike t.vm → px u → BX E u t → H.size ≤ H1.size → (∀ q : Nat, q < H.size → ¬ AX q → H1[q]? = H[q]?) → va_S A0 H0 H1 locs1 → H1[q9]? = some ce → ce.vm = .none → s.vm.findClass E = some ce.cls → vx_W p l e R s m args below meth c H1 locs1 (cells + mc) (slots + ms) Q (F0 m pc ls rest) q9)
    (kk : ∀ (r : UInt64) (u : S) (t : State) (H1 : Heap) (locs1 : List Loc), t.heap = H1 → s.vm.Alike t.vm → post r u → B u t → H.size ≤ H1.size → (∀ q : Nat, q < H.size → ¬ A1 q → H1[q]? = H[q]?) → va_S A0 H0 H1 locs1 → W p l e R s m args below meth c H1 locs1 (cells + mc) (slots + ms) Q (F0 m (pc + 3) ls (.double r :: rest))) : W p l e R s m args below meth c H locs cells slots Q (F0 m pc ls st0) := by
  intro T hT X
  rcases hr T hT X with ⟨v, st₀, t, T', L, h0, X', hL, e1, e2, ⟨⟨r, u, hv, hp, hb⟩, hF⟩, st⟩ | ⟨q, st₀, t, T', L, E, ce, h0, X', hL, e1, e2, ⟨u, hp, hb, hF⟩, hce, hcv, hcl, st⟩
  · cases hv
    obtain ⟨k1, k2, k3⟩ := vx_keep h0 e1 hS hA hf hL hF
    obtain ⟨t2, a1, b1⟩ := kk r u t T'.heap (locs ++ L) e1.symm (by rw [← e2]; exact X'.warmed.alike) hp hb k1 k2 k3 T' rfl X'
    exact ⟨t2, st t2 a1, b1⟩
  · obtain ⟨k1, k2, k3⟩ := vx_keep h0 e1 hS hAX hf hL hF
    obtain ⟨t2, a1, b1⟩ := kx E ce q u t T'.heap (locs ++ L) e1.symm (by rw [← e2]; exact X'.warmed.alike) hp hb k1 k2 k3 (by rw [e1]; exact hce) hcv hcl T' rfl X'
    exact ⟨t2, st.trans a1, b1⟩
theorem vx_callv {S SX : Type} {post : S → Prop} {px : SX → Prop} {B : S → State → Prop} {BX : String → SX → State → Prop} {AX : Nat → Prop} (hr : vx_Run p l e R s m args below meth c H locs cells slots mc ms (F0 m pc ls st0) rest (va_Qv post B A1 a) (vx_X px BX AX) free) (hS : va_S A0 H0 H locs) (hA : ∀ q, q < H.size → A1 q → A0 q) (hf : ∀ q, free q → A0 q) (hAX : ∀ q, q < H.size → AX q → A0 q)
    (kx : ∀ (E : String) (ce : Cell) (q9 : Addr) (u : SX) (t : State) (H1 : Heap) (locs1 : List Loc), t.heap = H1 → s.vm.Alike t.vm → px u → BX E u t → H.size ≤ H1.size → (∀ q : Nat, q < H.size → ¬ AX q → H1[q]? = H[q]?) → va_S A0 H0 H1 locs1 → H1[q9]? = some ce → ce.vm = .none → s.vm.findClass E = some ce.cls → vx_W p l e R s m args below meth c H1 locs1 (cells + mc) (slots + ms) Q (F0 m pc ls rest) q9)
    (kk : ∀ (u : S) (t : State) (H1 : Heap) (locs1 : List Loc), t.heap = H1 → s.vm.Alike t.vm → post u → B u t → H.size ≤ H1.size → (∀ q : Nat, q < H.size → ¬ A1 q → H1[q]? = H[q]?) → va_S A0 H0 H1 locs1 → W p l e R s m args below meth c H1 locs1 (cells + mc) (slots + ms) Q (F0 m (pc + 3) ls (rest))) : W p l e R s m args below meth c H locs cells slots Q (F0 m pc ls st0) := by
  intro T hT X
  rcases hr T hT X with ⟨v, st₀, t, T', L, h0, X', hL, e1, e2, ⟨⟨u, hv, hp, hb⟩, hF⟩, st⟩ | ⟨q, st₀, t, T', L, E, ce, h0, X', hL, e1, e2, ⟨u, hp, hb, hF⟩, hce, hcv, hcl, st⟩
  · cases hv
    obtain ⟨k1, k2, k3⟩ := vx_keep h0 e1 hS hA hf hL hF
    obtain ⟨t2, a1, b1⟩ := kk u t T'.heap (locs ++ L) e1.symm (by rw [← e2]; exact X'.warmed.alike) hp hb k1 k2 k3 T' rfl X'
    exact ⟨t2, st t2 a1, b1⟩
  · obtain ⟨k1, k2, k3⟩ := vx_keep h0 e1 hS hAX hf hL hF
    obtain ⟨t2, a1, b1⟩ := kx E ce q u t T'.heap (locs ++ L) e1.symm (by rw [← e2]; exact X'.warmed.alike) hp hb k1 k2 k3 (by rw [e1]; exact hce) hcv hcl T' rfl X'
    exact ⟨t2, st.trans a1, b1⟩
/-- caught by the row x of this method's table; the rows ahead don't take it -/
theorem vx_catch {own name : String} {E : String} {ce : Cell} {q : Addr} (hown : s.vm.findClass own = some m.cls) (pre : List ExceptionTableEntry) (x : ExceptionTableEntry) (suf : List ExceptionTableEntry) (hsplit : c.exceptionTable.toList = pre ++ x :: suf)
    (hpass : ∀ z ∈ pre, covers z pc = false ∨ (z.catchType ≠ 0 ∧ ∃ nm : String, (Cond.classLink own z.catchType nm).before args s = true ∧ va_Nc E nm s)) (hx : covers x pc = true) (h0 : x.catchType ≠ 0)
    (hlink : (Cond.classLink own x.catchType name).before args s = true) (hcast : (Cond.castable E name).before args s = true) (hcell : H[q]? = some ce) (hv : ce.vm = .none) (hcl : s.vm.findClass E = some ce.cls)
    (kk : W p l e R s m args below meth c H locs cells slots Q (F0 m x.handlerPc ls [.ref q])) : vx_W p l e R s m args below meth c H locs cells slots Q (F0 m pc ls rest) q := by
  intro T hT X
  have hpl : e.platform.magicAccessors = ({} : Platform).magicAccessors := by rw [X.admits.platform]
  obtain ⟨c3, c4, hc3, hc4, hasg⟩ := Cond.castable_spec hcast
  cases Option.some.inj (hc3.symm.trans hcl)
  obtain ⟨c5, hc5, hcl5⟩ := Cond.classLink_spec hown hlink e.platform hpl
  cases Option.some.inj (hc4.symm.trans hc5)
  obtain ⟨vm', X', st⟩ := X.thenCaughtThrough q (g := F0 m pc ls rest) rfl (Steps.refl _) (by rw [hT]; exact hcell) (by rw [hv]; rfl) (by obtain ⟨k9, h9, -⟩ := Vm.findClass_spec hcl; exact ⟨k9, h9⟩) pre x suf hsplit
    (fun z hz => by
      rcases hpass z hz with h | ⟨hz0, nm, hl1, hn1⟩
      · exact Or.inl h
      · obtain ⟨c6, hc6, hcl6⟩ := Cond.classLink_spec hown hl1 e.platform hpl
        obtain ⟨a8, b8, h1, h2, h3⟩ := hn1
        cases Option.some.inj (h1.symm.trans hcl)
        cases Option.some.inj (h2.symm.trans hc6)
        exact Or.inr ⟨hz0, _, hcl6, h3⟩) hx (Or.inr ⟨h0, c4, hcl5, hasg⟩)
  obtain ⟨t, a1, b1⟩ := kk (T.setVm vm') hT X'
  exact ⟨t, st.trans a1, b1⟩
end Rows
section Ends
variable {p : Program} {l : Launch} {e : Env} {R : Room} {s : State} {m : MethodId} {args : Array Value} {below : List Frame} {meth : Method} {c : Code} {H : Heap} {locs : List Loc} {cells slots : Nat} {Q : State → Prop}
variable {mc ms : Nat} {free : Addr → Prop} {A0 A1 : Nat → Prop} {H0 : Heap} {a : Array Value} {ls : Array Slot} {st0 rest : List Value}
variable {Qc : Array Value → State → Outcome → State → Prop} {XC : String → State → State → Prop}
/-- what a body that may throw owes at its end -/
def vx_MQ (below : List Frame) (Qc : Array Value → State → Outcome → State → Prop) (XC : String → State → State → Prop) (a : Array Value) (s : State) (mc ms : Nat) (free : Addr → Prop) : State → Prop := fun t =>
  ∃ o, t.status = .running ∧ Ended t below o ∧ vx_Q Qc XC mc ms free a s o t
theorem vx_ret {g : JFrame} {mc ms : Nat} (k : W p l e R s m args below meth c H locs cells slots (MQ below Qc args s mc ms free) g) : W p l e R s m args below meth c H locs cells slots (vx_MQ below Qc XC args s mc ms free) g := by
  intro T hT X
  obtain ⟨t, a1, o, b1, b2, b3, b4⟩ := k T hT X
  exact ⟨t, a1, o, b1, b2, Or.inl ⟨b3, b4⟩⟩
/-- not caught here: it goes on to the caller -/
theorem vx_widen {g : JFrame} {q : Addr} {k n : Nat} (h1 : cells ≤ k) (h2 : slots ≤ n) (kk : vx_W p l e R s m args below meth c H locs k n Q g q) : vx_W p l e R s m args below meth c H locs cells slots Q g q := fun T hT X => kk T hT (stand_widen X h1 h2)
theorem vx_out {pc : Nat} {E : String} {ce : Cell} {q : Addr} {mc ms : Nat} (hout : ∀ x ∈ c.exceptionTable.toList, covers x pc = false) (hlocks : meth.locks = false) (hcell : H[q]? = some ce) (hv : ce.vm = .none) (hcl : s.vm.findClass E = some ce.cls)
    (hx : ∀ t : State, t.heap = H → s.vm.Alike t.vm → XC E s t) (hf : ∀ z ∈ locs, free z.base) (hc : cells ≤ mc) (hs : slots ≤ ms) :
    vx_W p l e R s m args below meth c H locs cells slots (vx_MQ below Qc XC args s mc ms free) (F0 m pc ls rest) q := by
  intro T hT X
  obtain ⟨st1, hrun, hend, hW, hsm⟩ := X.leaveThrown q (g := F0 m pc ls rest) rfl rfl rfl hout hlocks
  have hcell9 : (T.setFrames (.throwing q :: below)).heap[q]? = some ce := by
    show T.heap[q]? = some ce
    rw [hT]; exact hcell
  exact ⟨_, st1, .threw q, hrun, hend, Or.inr ⟨q, rfl, E, ce, locs, hx _ hT hW.alike, hcell9, hv, hcl, hW, hsm.mono hc hs, hf⟩⟩
theorem vx_frame {U : State} {k n : Nat} (h : s.sameButNew ({ U with vm := s.vm } : State) locs k n) : s.heap.size ≤ U.heap.size ∧ ∀ q : Nat, q < s.heap.size → (∀ z ∈ locs, z.base ≠ q) → U.heap[q]? = s.heap[q]? := by
  obtain ⟨-, h2, -, -, -, h6⟩ := h
  refine ⟨h2, fun q hq hz => ?_⟩
  obtain ⟨c9, e1, e2, e3, e4⟩ := h6 q _ (Array.getElem?_eq_getElem hq)
  have hs : c9.slots = (s.heap[q]).slots := Array.ext_getElem? fun i => e4 i fun hm => hz _ hm rfl
  have h9 : c9 = s.heap[q] := by
    rw [hs] at e2
    exact e2
  have e5 : U.heap[q]? = some c9 := e1
  rw [e5, h9, Array.getElem?_eq_getElem hq]
/-- the words of a throw but the four that speak of the heap -/
def vx_no (w : Cond) : Bool := decide (w ≠ .isRef (.static Bundle.tN "UNASSIGNED_STACK" Bundle.steD)) && decide (w ≠ .isRef (.static Bundle.tN "SUPPRESSED_SENTINEL" Bundle.listD)) && decide (w ≠ .laysStatic Bundle.tN "UNASSIGNED_STACK" Bundle.steD) && decide (w ≠ .laysStatic Bundle.tN "SUPPRESSED_SENTINEL" Bundle.listD)
def vx_at0 (own : String) (ic : Nat) (X : String) (names : List String) : List Cond := (Bundle.ownAtoms0 own ic X names).filter vx_no
def vx_atS (own : String) (ic : Nat) (X : String) (names : List String) : List Cond := (Bundle.ownAtoms own ic X names).filter vx_no
/-- a word that the tables alone decide, or a good one -/
def vx_ot (w : Cond) : Bool := w.onTables || goodWord w
theorem vx_ot_at {args a' : Array Value} {s U : State} {w : Cond} (hW : s.WarmedH U.vm) (hvm : s.vm = U.vm) (hg : vx_ot w = true) (h : w.before args s = true) : w.before a' U = true := by
  simp only [vx_ot, Bool.or_eq_true] at hg
  rcases hg with hg | hg
  · exact va_tabs hg hvm h
  · exact word_at hW (good_of_word hg) h
/-- a list's words: the good ones out of the method's own list, the others by premises of their own -/
theorem vx_hat {args : Array Value} {s : State} {L B : List Cond} (h1 : ∀ w ∈ L.filter goodWord, w.before args s = true) (h2 : ∀ w ∈ L.filter (fun w => !goodWord w), w ∈ B) (h3 : ∀ w ∈ B, w.before args s = true) : ∀ w ∈ L, w.before args s = true := by
  intro w hw
  by_cases g : goodWord w = true
  · exact h1 w (List.mem_filter.mpr ⟨hw, g⟩)
  · refine h3 w (h2 w (List.mem_filter.mpr ⟨hw, ?_⟩))
    show (!goodWord w) = true
    cases hgw : goodWord w
    · rfl
    · exact absurd hgw g
theorem vx_c {args : Array Value} {s : State} {w : Cond} {B : List Cond} (h : w.before args s = true) (t : ∀ w ∈ B, w.before args s = true) : ∀ w' ∈ w :: B, w'.before args s = true := fun w' h' => (List.mem_cons.mp h').elim (fun e => by rw [e]; exact h) (t w')
theorem vx_n {args : Array Value} {s : State} : ∀ w ∈ ([] : List Cond), w.before args s = true := fun _ h => nomatch h
theorem vx_own {args : Array Value} {s : State} {L : List Cond} (h1 : ∀ w ∈ L.filter vx_no, w.before args s = true)
    (hU : (Cond.isRef (.static Bundle.tN "UNASSIGNED_STACK" Bundle.steD)).before args s = true) (hN : (Cond.isRef (.static Bundle.tN "SUPPRESSED_SENTINEL" Bundle.listD)).before args s = true)
    (lU : (Cond.laysStatic Bundle.tN "UNASSIGNED_STACK" Bundle.steD).before args s = true) (lN : (Cond.laysStatic Bundle.tN "SUPPRESSED_SENTINEL" Bundle.listD).before args s = true) : ∀ w ∈ L, w.before args s = true := by
  intro w hw
  by_cases e1 : w = .isRef (.static Bundle.tN "UNASSIGNED_STACK" Bundle.steD)
  · rw [e1]; exact hU
  · by_cases e2 : w = .isRef (.static Bundle.tN "SUPPRESSED_SENTINEL" Bundle.listD)
    · rw [e2]; exact hN
    · by_cases e3 : w = .laysStatic Bundle.tN "UNASSIGNED_STACK" Bundle.steD
      · rw [e3]; exact lU
      · by_cases e4 : w = .laysStatic Bundle.tN "SUPPRESSED_SENTINEL" Bundle.listD
        · rw [e4]; exact lN
        · exact h1 w (List.mem_filter.mpr ⟨hw, by unfold vx_no; rw [decide_eq_true e1, decide_eq_true e2, decide_eq_true e3, decide_eq_true e4]; rfl⟩)
/-- where a static field lies, its class's statics cell in H -/
def vx_L (C n d : String) (A : Nat → Prop) (U : State) (H : Heap) : Prop := ∃ (c : ClassId) (k : Class) (i : Nat) (f : Field) (a : Nat) (cell : Cell), U.vm.findClass C = some c ∧ U.fieldFound? C n d = some (c, k, i, f) ∧ f.isStatic = true ∧ k.statics = some a ∧ H[a]? = some cell ∧ cell.vm.isStatics = true ∧ cell.cls = c ∧ f.slot < cell.slots.size ∧ k.staticTypes[f.slot]? = some f.type ∧ ¬ A a
theorem vx_L.moved {C n d : String} {A : Nat → Prop} {u U : State} {H : Heap} (hvm : u.vm.Alike U.vm) (h : vx_L C n d A u H) : vx_L C n d A U H := by
  obtain ⟨c, k, i, f, a, cell, h1, h2, h3, h4, h5, h6, h7, h8, h9, h10⟩ := h
  obtain ⟨k', hi', he⟩ := State.fieldFound?_setVm hvm h2
  exact ⟨c, k', i, f, a, cell, by rw [hvm.findClass]; exact h1, hi', h3, by rw [he]; exact h4, h5, h6, h7, h8, by rw [he]; exact h9, h10⟩
theorem vx_L.kept {C n d : String} {A : Nat → Prop} {U : State} {H H1 : Heap} (h : vx_L C n d A U H) (hq : ∀ a : Nat, a < H.size → ¬ A a → H1[a]? = H[a]?) : vx_L C n d A U H1 := by
  obtain ⟨c, k, i, f, a, cell, h1, h2, h3, h4, h5, h6, h7, h8, h9, h10⟩ := h
  exact ⟨c, k, i, f, a, cell, h1, h2, h3, h4, by rw [hq a (Array.getElem?_eq_some_iff.mp h5).1 h10]; exact h5, h6, h7, h8, h9, h10⟩
theorem vx_L.narrow {C n d : String} {A B : Nat → Prop} {U : State} {H : Heap} (h : vx_L C n d A U H) (hAB : ∀ q, B q → A q) : vx_L C n d B U H := by
  obtain ⟨c, k, i, f, a, cell, h1, h2, h3, h4, h5, h6, h7, h8, h9, h10⟩ := h
  exact ⟨c, k, i, f, a, cell, h1, h2, h3, h4, h5, h6, h7, h8, h9, fun z => h10 (hAB _ z)⟩
theorem vx_L.word {C n d : String} {A : Nat → Prop} {s : State} {args : Array Value} (h : vx_L C n d A s s.heap) : (Cond.laysStatic C n d).before args s = true := by
  obtain ⟨c, k, i, f, a, cell, h1, h2, h3, h4, h5, h6, h7, h8, h9, -⟩ := h
  show (Cond.laysStatic C n d).holds args s none s [] = true
  exact Cond.laysStatic_of h1 h2 h3 h4 h5 h6 h7 h8 h9
/-- .. and what it holds: null or some reference -/
def vx_Zq (C n d : String) (A : Nat → Prop) (U : State) (H : Heap) : Prop := va_Zq C n d A U H ∧ vx_L C n d A U H
theorem vx_Zq.moved {C n d : String} {A : Nat → Prop} {u U : State} {H : Heap} (hvm : u.vm.Alike U.vm) (h : vx_Zq C n d A u H) : vx_Zq C n d A U H := ⟨va_Zq.moved hvm h.1, vx_L.moved hvm h.2⟩
theorem vx_Zq.kept {C n d : String} {A : Nat → Prop} {U : State} {H H1 : Heap} (h : vx_Zq C n d A U H) (hq : ∀ a : Nat, a < H.size → ¬ A a → H1[a]? = H[a]?) : vx_Zq C n d A U H1 := ⟨va_Zq.kept h.1 hq, vx_L.kept h.2 hq⟩
theorem vx_Zq.narrow {C n d : String} {A B : Nat → Prop} {U : State} {H : Heap} (h : vx_Zq C n d A U H) (hAB : ∀ q, B q → A q) : vx_Zq C n d B U H := ⟨va_Zq.narrow h.1 hAB, vx_L.narrow h.2 hAB⟩
theorem vx_Zqof {args : Array Value} {s : State} {C n d : String} {A : Nat → Prop} (hl : (Cond.laysStatic C n d).before args s = true) (hini : (Cond.initialized C).before args s = true) (h : (Cond.isRef (.static C n d)).before args s = true) (hA : ∀ a : Nat, a < s.heap.size → ¬ A a) : vx_Zq C n d A s s.heap := by
  refine ⟨va_Zqof hl hini h hA, ?_⟩
  obtain ⟨c, k, i, f, a, cell, h1, h2, h3, h4, h5, h6, h7, h8, h9⟩ := Cond.laysStatic_spec hl
  exact ⟨c, k, i, f, a, cell, h1, h2, h3, h4, h5, h6, h7, h8, h9, hA a (Array.getElem?_eq_some_iff.mp h5).1⟩
theorem vx_isRef {C n d : String} {v : Value} {A : Nat → Prop} {s : State} {args : Array Value} (h : va_Z C n d v A s s.heap) (hv : v.isRef = true) : (Cond.isRef (.static C n d)).before args s = true := by
  obtain ⟨cf, kf, fi, f, a, cell, h1, h2, h3, h4, h5, h6, h7, -⟩ := h
  have he : (Term.static C n d).eval args s none [] s = some v := by
    simp [Term.eval, State.fieldNamed?, h1, h2, h4, h5, h6, h7]
  simp only [Cond.before, Cond.holds, Cond.value, he]
  cases v <;> simp_all [Value.isRef]
theorem vx_isRefq {C n d : String} {A : Nat → Prop} {s : State} {args : Array Value} (h : va_Zq C n d A s s.heap) : (Cond.isRef (.static C n d)).before args s = true := by
  rcases h with h | ⟨t, h⟩
  · exact vx_isRef h rfl
  · exact vx_isRef h rfl
/-- the same frame, seen from here: as if the method were called anew in this heap -/
theorem vx_rebase {T : State} (X : Stand p l e R s m args below meth c T locs cells slots) {R' : Room} (hf : R'.frames ≤ R.frames) (hl : R'.locals ≤ R.locals) (hc : cells + R'.cells ≤ R.cells) (hs : slots + R'.slots ≤ R.slots) :
    Stand p l e R' ((T.setVm s.vm).setFrames (.invoking m args :: below)) m args below meth c T [] 0 0 := by
  have htop : (T.setVm s.vm).topJava?.isSome := X.here.top
  have hF : ((T.setVm s.vm).setFrames (.invoking m args :: below)).frames = .invoking m args :: below := State.frames_setFrames _ (State.cur_lt_of_top htop)
  obtain ⟨g₀, hg0⟩ := Option.isSome_iff_exists.mp htop
  obtain ⟨r, hr⟩ := State.topJava?_eq_some.mp hg0
  have hl9 : e.platform.stackLimits (T.setVm s.vm).me = e.platform.stackLimits s.me := X.limits
  have hb9 : (T.setVm s.vm).me.stackBytes = s.me.stackBytes := X.bytes
  refine ⟨X.admits, X.cas, X.clock, hF, ?_, X.hears, X.method, X.code, X.here, X.tail, X.warmed, ?_, ?_, ?_⟩
  · have h := X.room
    have hU : ((T.setVm s.vm).setFrames (.invoking m args :: below)).localsInUse = s.localsInUse := by
      rw [State.localsInUse_invoking hF (meth := meth) (c := c) X.method X.code, State.localsInUse_invoking X.frames X.method X.code]
    simp only [State.hasRoom, Bool.and_eq_true, decide_eq_true_eq] at h ⊢
    obtain ⟨⟨⟨⟨h1, h2, h3, h4, h5, h6⟩, h7⟩, h8⟩, h9⟩ := h
    rw [X.frames, List.length_cons] at h2 h3
    have q1 := X.heapSize
    have q2 := X.used
    simp only [hF, hU, List.length_cons, State.stackLimits_setFrames, State.stackBytes_setFrames, hl9, hb9]
    refine ⟨⟨⟨⟨by omega, by omega, by omega, by omega, by omega, h6⟩, ?_⟩, ?_⟩, X.book⟩
    · show T.heap.size + R'.cells ≤ e.platform.maxCells
      omega
    · show T.slotsUsed + R'.slots ≤ e.platform.maxSlots
      omega
  · rw [State.stackLimits_setFrames]; rfl
  · rw [State.stackBytes_setFrames]; rfl
  · refine ⟨?_, Nat.le_refl _, Nat.le_refl _, ?_, ?_, fun a c9 h9 => ⟨c9, h9, rfl, rfl, fun _ _ => rfl⟩⟩
    · obtain ⟨t, ht, -⟩ := State.frames_cons hr
      show T.setVm s.vm = { ((T.setVm s.vm).setFrames (.invoking m args :: below)).setFrames (T.setVm s.vm).frames with heap := T.heap, slotsUsed := T.slotsUsed }
      rw [State.setFrames_setFrames, State.setFrames_self ht]
      rfl
    · show T.slotsUsed = T.slotsUsed + ((T.heap.toList.drop T.heap.size).map (·.slots.size)).sum
      rw [List.drop_eq_nil_of_le (Nat.le_of_eq Array.length_toList)]
      rfl
    · show ((T.heap.toList.drop T.heap.size).map (·.slots.size)).sum ≤ 0
      rw [List.drop_eq_nil_of_le (Nat.le_of_eq Array.length_toList)]
      exact Nat.le_refl _
/-- 'throw new E()': new; dup; invokespecial; athrow -/
theorem vx_throw0 {cc : ByteArray} {pc : Nat} (hexec : p.tables.exec = Jvm.exec) (hb : c.code = cc) (hl : l.stackTraces = false) {own cls : String} {names : List String} {ik ic mc ms : Nat} {A : Nat → Prop}
    (hown : s.vm.findClass own = some m.cls) (hcls : Bundle.fit cls = true) (hnames : ∀ n ∈ names, Bundle.fit n = true)
    (hk : (Cond.classLink own ik cls).before args s = true) (hini : (Cond.initialized cls).before args s = true) (hat : ∀ w ∈ vx_at0 own ic cls names, w.before args s = true)
    (hgood : ∀ w ∈ Cond.classLink own ik cls :: Cond.initialized cls :: vx_at0 own ic cls names, vx_ot w = true)
    (hU : vx_Zq Bundle.tN "UNASSIGNED_STACK" Bundle.steD A s s.heap) (hN : vx_Zq Bundle.tN "SUPPRESSED_SENTINEL" Bundle.listD A s s.heap) (hS : va_S A s.heap H locs) (hsize : ls.size = c.maxLocals)
    (d0 : decode cc pc = .ok (.new ik, 3)) (d3 : decode cc (pc + 3) = .ok (.dup, 1)) (d4 : decode cc (pc + 4) = .ok (.invokespecial ic, 3)) (d7 : decode cc (pc + 7) = .ok (.athrow, 1))
    (hout : ∀ x ∈ c.exceptionTable.toList, covers x (pc + 7) = false)
    (hRframes : names.length + 3 < R.frames) (hRlocals : (rest.map fun v => v.category).sum + (13 * (names.length + 1) + 42) ≤ R.locals) (hRcells : cells + 1 ≤ R.cells) (hRslots : slots + 6 ≤ R.slots) (hlocks : meth.locks = false)
    (hx : ∀ t : State, s.vm.Alike t.vm → H.size ≤ t.heap.size → (∀ q : Nat, q < H.size → t.heap[q]? = H[q]?) → XC cls s t)
    (hf : ∀ z ∈ locs, free z.base) (hc : cells + 1 ≤ mc) (hs : slots + 6 ≤ ms) :
    W p l e R s m args below meth c H locs cells slots (vx_MQ below Qc XC args s mc ms free) (F0 m pc ls rest) := by
  intro T hT X
  have htr : e.platform.stackTraces = false := (show e.platform.stackTraces = l.stackTraces by rw [X.admits.platform]).trans hl
  have Y := vx_rebase X (R' := { frames := R.frames, locals := R.locals, cells := 1, slots := 6 }) (Nat.le_refl _) (Nat.le_refl _) hRcells hRslots
  obtain ⟨s', hA⟩ : ∃ z, z = (T.setVm s.vm).setFrames (.invoking m args :: below) := ⟨_, rfl⟩
  rw [← hA] at Y
  have hvm : s'.vm = s.vm := by rw [hA]; rfl
  have hhp : s'.heap = H := by rw [hA]; exact hT
  have hW0 : s.WarmedH s'.vm := by rw [hvm]; exact State.WarmedH.refl s
  have hat' : ∀ w ∈ vx_at0 own ic cls names, w.before args s' = true := fun w hw => vx_ot_at hW0 hvm.symm (hgood w (List.mem_cons_of_mem _ (List.mem_cons_of_mem _ hw))) (hat w hw)
  have hk' : (Cond.classLink own ik cls).before args s' = true := vx_ot_at hW0 hvm.symm (hgood _ List.mem_cons_self) hk
  have hini' : (Cond.initialized cls).before args s' = true := vx_ot_at hW0 hvm.symm (hgood _ (List.mem_cons_of_mem _ List.mem_cons_self)) hini
  have hU' : vx_Zq Bundle.tN "UNASSIGNED_STACK" Bundle.steD A s' s'.heap := by rw [hhp]; exact vx_Zq.moved hW0.alike (hU.kept hS.2.1)
  have hN' : vx_Zq Bundle.tN "SUPPRESSED_SENTINEL" Bundle.listD A s' s'.heap := by rw [hhp]; exact vx_Zq.moved hW0.alike (hN.kept hS.2.1)
  have h : ∀ w ∈ Bundle.ownAtoms0 own ic cls names, w.before args s' = true := vx_own hat' (vx_isRefq hU'.1) (vx_isRefq hN'.1) hU'.2.word hN'.2.word
  have hown' : s'.vm.findClass own = some m.cls := by rw [hvm]; exact hown
  have hins : (Cond.instantiable cls 6).before args s' = true := h _ (by simp [Bundle.ownAtoms0])
  obtain ⟨vm₁, cX, kX, hfX, hkX, -, -, X₁, st1⟩ := Y.newCold hexec (own := own) (C := cls) (index := ik) (n := 6) hown' hk' hins hini'
    (g := F0 m pc ls rest) rfl (by rw [hb]; exact d0) (Nat.le_refl _) (Nat.le_refl _)
  generalize hT1 : (T.setVm vm₁).pushCell { cls := cX, slots := kX.instanceTypes.map defaultValue, vm := .none } = T1 at X₁ st1
  have hcat : (Value.ref T.heap.size).category = 1 := rfl
  have hcellA : T1.heap[T.heap.size]? = some (freshCell cX kX) := by rw [← hT1]; exact State.heap_pushCell_size _ _
  have d3' : decode c.code (pc + 3) = .ok (.dup, 1) := by rw [hb]; exact d3
  obtain ⟨U, hsteps, hrun, hend, hW, hsame, ce, hce, hO⟩ := X₁.ctorThrow0 hexec htr (own := own) (cls := cls) (names := names) (ic := ic) hown' hcls hnames h (fun x hx => nomatch hx) hfX hkX hcellA (by rw [hhp, hT]; exact Nat.le_refl _)
    (g := { method := m, pc := pc + 4, locals := ls, stack := .ref T.heap.size :: .ref T.heap.size :: rest, locked := none }) rfl hsize rfl rfl (rest := rest) rfl
    (by rw [hb]; exact d4) (by rw [hb]; exact d7) hout hRframes (by simp only [List.map_cons, List.sum_cons, hcat]; omega) hlocks
  obtain ⟨f1, f2⟩ := vx_frame hsame
  rw [hhp] at f1 f2
  have hWs : s.WarmedH U.vm := State.WarmedH.trans hW0 hW
  have hcl : s.vm.findClass cls = some ce.cls := by
    have h9 := hO.cls
    rw [hvm] at h9
    exact h9
  have hall : s.sameButNew ({ U with vm := s.vm } : State) locs mc ms := by
    subst hA
    obtain ⟨e1, e2⟩ := hsame
    rw [State.setFrames_setFrames] at e1
    have h2 : (T.setVm s.vm).sameButNew ({ U with vm := s.vm } : State) [] (0 + 1) (0 + 6) := ⟨e1, e2⟩
    have h3 := X.same.trans h2
    rw [List.append_nil] at h3
    exact h3.mono hc hs
  refine ⟨U, ?_, .threw T.heap.size, hrun, hend, Or.inr ⟨T.heap.size, rfl, cls, ce, locs, hx U hWs.alike f1 (fun q hq => f2 q hq (fun z hz => nomatch hz)), hce, hO.vm, hcl, hWs, hall, hf⟩⟩
  refine st1 _ ?_
  show Steps p.tables e below (T1.setTop { method := m, pc := pc + 3, locals := ls, stack := .ref T.heap.size :: rest, locked := none }) _
  jvm_step X₁.here [X₁.here.top, hexec, d3', Value.category]
  exact hsteps
/-- 'throw new E("text")': new; dup; ldc; invokespecial; athrow -/
theorem vx_throwS {cc : ByteArray} {pc : Nat} (hexec : p.tables.exec = Jvm.exec) (hb : c.code = cc) (hl : l.stackTraces = false) {own cls text : String} {names : List String} {ik is ic mc ms sa : Nat} {A : Nat → Prop}
    (hown : s.vm.findClass own = some m.cls) (hcls : Bundle.fit cls = true) (hnames : ∀ n ∈ names, Bundle.fit n = true)
    (hk : (Cond.classLink own ik cls).before args s = true) (hini : (Cond.initialized cls).before args s = true) (hstr : vk_R own is text sa s) (hat : ∀ w ∈ vx_atS own ic cls names, w.before args s = true)
    (hgood : ∀ w ∈ Cond.classLink own ik cls :: Cond.initialized cls :: vx_atS own ic cls names, vx_ot w = true)
    (hU : vx_Zq Bundle.tN "UNASSIGNED_STACK" Bundle.steD A s s.heap) (hN : vx_Zq Bundle.tN "SUPPRESSED_SENTINEL" Bundle.listD A s s.heap) (hS : va_S A s.heap H locs) (hsize : ls.size = c.maxLocals)
    (d0 : decode cc pc = .ok (.new ik, 3)) (d3 : decode cc (pc + 3) = .ok (.dup, 1)) (d4 : decode cc (pc + 4) = .ok (.ldc is, 2)) (d6 : decode cc (pc + 6) = .ok (.invokespecial ic, 3)) (d9 : decode cc (pc + 9) = .ok (.athrow, 1))
    (hout : ∀ x ∈ c.exceptionTable.toList, covers x (pc + 9) = false)
    (hRframes : names.length + 3 < R.frames) (hRlocals : (rest.map fun v => v.category).sum + (13 * (names.length + 1) + 43) ≤ R.locals) (hRcells : cells + 1 ≤ R.cells) (hRslots : slots + 6 ≤ R.slots) (hlocks : meth.locks = false)
    (hx : ∀ t : State, s.vm.Alike t.vm → H.size ≤ t.heap.size → (∀ q : Nat, q < H.size → t.heap[q]? = H[q]?) → XC cls s t)
    (hf : ∀ z ∈ locs, free z.base) (hc : cells + 1 ≤ mc) (hs : slots + 6 ≤ ms) :
    W p l e R s m args below meth c H locs cells slots (vx_MQ below Qc XC args s mc ms free) (F0 m pc ls rest) := by
  intro T hT X
  have htr : e.platform.stackTraces = false := (show e.platform.stackTraces = l.stackTraces by rw [X.admits.platform]).trans hl
  have Y := vx_rebase X (R' := { frames := R.frames, locals := R.locals, cells := 1, slots := 6 }) (Nat.le_refl _) (Nat.le_refl _) hRcells hRslots
  obtain ⟨s', hA⟩ : ∃ z, z = (T.setVm s.vm).setFrames (.invoking m args :: below) := ⟨_, rfl⟩
  rw [← hA] at Y
  have hvm : s'.vm = s.vm := by rw [hA]; rfl
  have hhp : s'.heap = H := by rw [hA]; exact hT
  have hW0 : s.WarmedH s'.vm := by rw [hvm]; exact State.WarmedH.refl s
  have hat' : ∀ w ∈ vx_atS own ic cls names, w.before args s' = true := fun w hw => vx_ot_at hW0 hvm.symm (hgood w (List.mem_cons_of_mem _ (List.mem_cons_of_mem _ hw))) (hat w hw)
  have hk' : (Cond.classLink own ik cls).before args s' = true := vx_ot_at hW0 hvm.symm (hgood _ List.mem_cons_self) hk
  have hini' : (Cond.initialized cls).before args s' = true := vx_ot_at hW0 hvm.symm (hgood _ (List.mem_cons_of_mem _ List.mem_cons_self)) hini
  have hU' : vx_Zq Bundle.tN "UNASSIGNED_STACK" Bundle.steD A s' s'.heap := by rw [hhp]; exact vx_Zq.moved hW0.alike (hU.kept hS.2.1)
  have hN' : vx_Zq Bundle.tN "SUPPRESSED_SENTINEL" Bundle.listD A s' s'.heap := by rw [hhp]; exact vx_Zq.moved hW0.alike (hN.kept hS.2.1)
  have h : ∀ w ∈ Bundle.ownAtoms own ic cls names, w.before args s' = true := vx_own hat' (vx_isRefq hU'.1) (vx_isRefq hN'.1) hU'.2.word hN'.2.word
  have hown' : s'.vm.findClass own = some m.cls := by rw [hvm]; exact hown
  have hins : (Cond.instantiable cls 6).before args s' = true := h _ (by simp [Bundle.ownAtoms])
  obtain ⟨vm₁, cX, kX, hfX, hkX, -, -, X₁, st1⟩ := Y.newCold hexec (own := own) (C := cls) (index := ik) (n := 6) hown' hk' hins hini'
    (g := F0 m pc ls rest) rfl (by rw [hb]; exact d0) (Nat.le_refl _) (Nat.le_refl _)
  generalize hT1 : (T.setVm vm₁).pushCell { cls := cX, slots := kX.instanceTypes.map defaultValue, vm := .none } = T1 at X₁ st1
  have hcat : (Value.ref T.heap.size).category = 1 := rfl
  have hcellA : T1.heap[T.heap.size]? = some (freshCell cX kX) := by rw [← hT1]; exact State.heap_pushCell_size _ _
  have d3' : decode c.code (pc + 3) = .ok (.dup, 1) := by rw [hb]; exact d3
  have d4' : decode c.code (pc + 4) = .ok (.ldc is, 2) := by rw [hb]; exact d4
  have hstr' : vk_R own is text sa s' := vk_R.warm hW0 hstr
  obtain ⟨U, hsteps, hrun, hend, hW, hsame, ce, hce, hO⟩ := X₁.ctorThrowS hexec htr (own := own) (cls := cls) (names := names) (ic := ic) hown' hcls hnames h (fun x hx => nomatch hx) hfX hkX hcellA (by rw [hhp, hT]; exact Nat.le_refl _) (msg := .ref sa) rfl
    (g := { method := m, pc := pc + 6, locals := ls, stack := .ref sa :: .ref T.heap.size :: .ref T.heap.size :: rest, locked := none }) rfl hsize rfl rfl (rest := rest) rfl
    (by rw [hb]; exact d6) (by rw [hb]; exact d9) hout hRframes (by simp only [List.map_cons, List.sum_cons, hcat]; omega) hlocks
  obtain ⟨f1, f2⟩ := vx_frame hsame
  rw [hhp] at f1 f2
  have hWs : s.WarmedH U.vm := State.WarmedH.trans hW0 hW
  have hcl : s.vm.findClass cls = some ce.cls := by
    have h9 := hO.cls
    rw [hvm] at h9
    exact h9
  have hall : s.sameButNew ({ U with vm := s.vm } : State) locs mc ms := by
    subst hA
    obtain ⟨e1, e2⟩ := hsame
    rw [State.setFrames_setFrames] at e1
    have h2 : (T.setVm s.vm).sameButNew ({ U with vm := s.vm } : State) [] (0 + 1) (0 + 6) := ⟨e1, e2⟩
    have h3 := X.same.trans h2
    rw [List.append_nil] at h3
    exact h3.mono hc hs
  refine ⟨U, ?_, .threw T.heap.size, hrun, hend, Or.inr ⟨T.heap.size, rfl, cls, ce, locs, hx U hWs.alike f1 (fun q hq => f2 q hq (fun z hz => nomatch hz)), hce, hO.vm, hcl, hWs, hall, hf⟩⟩
  refine st1 _ ?_
  show Steps p.tables e below (T1.setTop { method := m, pc := pc + 3, locals := ls, stack := .ref T.heap.size :: rest, locked := none }) _
  jvm_step X₁.here [X₁.here.top, hexec, d3', Value.category]
  exact X₁.ldcString hexec (own := own) (text := text) (index := is) (a := sa) hown' hstr'.1 hstr'.2
    (g := { method := m, pc := pc + 4, locals := ls, stack := .ref T.heap.size :: .ref T.heap.size :: rest, locked := none }) rfl d4' _ hsteps
/-- 'throw new E("text")', the text by a wide index -/
theorem vx_throwSW {cc : ByteArray} {pc : Nat} (hexec : p.tables.exec = Jvm.exec) (hb : c.code = cc) (hl : l.stackTraces = false) {own cls text : String} {names : List String} {ik is ic mc ms sa : Nat} {A : Nat → Prop}
    (hown : s.vm.findClass own = some m.cls) (hcls : Bundle.fit cls = true) (hnames : ∀ n ∈ names, Bundle.fit n = true)
    (hk : (Cond.classLink own ik cls).before args s = true) (hini : (Cond.initialized cls).before args s = true) (hstr : vk_R own is text sa s) (hat : ∀ w ∈ vx_atS own ic cls names, w.before args s = true)
    (hgood : ∀ w ∈ Cond.classLink own ik cls :: Cond.initialized cls :: vx_atS own ic cls names, vx_ot w = true)
    (hU : vx_Zq Bundle.tN "UNASSIGNED_STACK" Bundle.steD A s s.heap) (hN : vx_Zq Bundle.tN "SUPPRESSED_SENTINEL" Bundle.listD A s s.heap) (hS : va_S A s.heap H locs) (hsize : ls.size = c.maxLocals)
    (d0 : decode cc pc = .ok (.new ik, 3)) (d3 : decode cc (pc + 3) = .ok (.dup, 1)) (d4 : decode cc (pc + 4) = .ok (.ldc_w is, 3)) (d7 : decode cc (pc + 7) = .ok (.invokespecial ic, 3)) (d10 : decode cc (pc + 10) = .ok (.athrow, 1))
    (hout : ∀ x ∈ c.exceptionTable.toList, covers x (pc + 10) = false)
    (hRframes : names.length + 3 < R.frames) (hRlocals : (rest.map fun v => v.category).sum + (13 * (names.length + 1) + 43) ≤ R.locals) (hRcells : cells + 1 ≤ R.cells) (hRslots : slots + 6 ≤ R.slots) (hlocks : meth.locks = false)
    (hx : ∀ t : State, s.vm.Alike t.vm → H.size ≤ t.heap.size → (∀ q : Nat, q < H.size → t.heap[q]? = H[q]?) → XC cls s t)
    (hf : ∀ z ∈ locs, free z.base) (hc : cells + 1 ≤ mc) (hs : slots + 6 ≤ ms) :
    W p l e R s m args below meth c H locs cells slots (vx_MQ below Qc XC args s mc ms free) (F0 m pc ls rest) := by
  intro T hT X
  have htr : e.platform.stackTraces = false := (show e.platform.stackTraces = l.stackTraces by rw [X.admits.platform]).trans hl
  have Y := vx_rebase X (R' := { frames := R.frames, locals := R.locals, cells := 1, slots := 6 }) (Nat.le_refl _) (Nat.le_refl _) hRcells hRslots
  obtain ⟨s', hA⟩ : ∃ z, z = (T.setVm s.vm).setFrames (.invoking m args :: below) := ⟨_, rfl⟩
  rw [← hA] at Y
  have hvm : s'.vm = s.vm := by rw [hA]; rfl
  have hhp : s'.heap = H := by rw [hA]; exact hT
  have hW0 : s.WarmedH s'.vm := by rw [hvm]; exact State.WarmedH.refl s
  have hat' : ∀ w ∈ vx_atS own ic cls names, w.before args s' = true := fun w hw => vx_ot_at hW0 hvm.symm (hgood w (List.mem_cons_of_mem _ (List.mem_cons_of_mem _ hw))) (hat w hw)
  have hk' : (Cond.classLink own ik cls).before args s' = true := vx_ot_at hW0 hvm.symm (hgood _ List.mem_cons_self) hk
  have hini' : (Cond.initialized cls).before args s' = true := vx_ot_at hW0 hvm.symm (hgood _ (List.mem_cons_of_mem _ List.mem_cons_self)) hini
  have hU' : vx_Zq Bundle.tN "UNASSIGNED_STACK" Bundle.steD A s' s'.heap := by rw [hhp]; exact vx_Zq.moved hW0.alike (hU.kept hS.2.1)
  have hN' : vx_Zq Bundle.tN "SUPPRESSED_SENTINEL" Bundle.listD A s' s'.heap := by rw [hhp]; exact vx_Zq.moved hW0.alike (hN.kept hS.2.1)
  have h : ∀ w ∈ Bundle.ownAtoms own ic cls names, w.before args s' = true := vx_own hat' (vx_isRefq hU'.1) (vx_isRefq hN'.1) hU'.2.word hN'.2.word
  have hown' : s'.vm.findClass own = some m.cls := by rw [hvm]; exact hown
  have hins : (Cond.instantiable cls 6).before args s' = true := h _ (by simp [Bundle.ownAtoms])
  obtain ⟨vm₁, cX, kX, hfX, hkX, -, -, X₁, st1⟩ := Y.newCold hexec (own := own) (C := cls) (index := ik) (n := 6) hown' hk' hins hini'
    (g := F0 m pc ls rest) rfl (by rw [hb]; exact d0) (Nat.le_refl _) (Nat.le_refl _)
  generalize hT1 : (T.setVm vm₁).pushCell { cls := cX, slots := kX.instanceTypes.map defaultValue, vm := .none } = T1 at X₁ st1
  have hcat : (Value.ref T.heap.size).category = 1 := rfl
  have hcellA : T1.heap[T.heap.size]? = some (freshCell cX kX) := by rw [← hT1]; exact State.heap_pushCell_size _ _
  have d3' : decode c.code (pc + 3) = .ok (.dup, 1) := by rw [hb]; exact d3
  have d4' : decode c.code (pc + 4) = .ok (.ldc_w is, 3) := by rw [hb]; exact d4
  have hstr' : vk_R own is text sa s' := vk_R.warm hW0 hstr
  obtain ⟨U, hsteps, hrun, hend, hW, hsame, ce, hce, hO⟩ := X₁.ctorThrowS hexec htr (own := own) (cls := cls) (names := names) (ic := ic) hown' hcls hnames h (fun x hx => nomatch hx) hfX hkX hcellA (by rw [hhp, hT]; exact Nat.le_refl _) (msg := .ref sa) rfl
    (g := { method := m, pc := pc + 7, locals := ls, stack := .ref sa :: .ref T.heap.size :: .ref T.heap.size :: rest, locked := none }) rfl hsize rfl rfl (rest := rest) rfl
    (by rw [hb]; exact d7) (by rw [hb]; exact d10) hout hRframes (by simp only [List.map_cons, List.sum_cons, hcat]; omega) hlocks
  obtain ⟨f1, f2⟩ := vx_frame hsame
  rw [hhp] at f1 f2
  have hWs : s.WarmedH U.vm := State.WarmedH.trans hW0 hW
  have hcl : s.vm.findClass cls = some ce.cls := by
    have h9 := hO.cls
    rw [hvm] at h9
    exact h9
  have hall : s.sameButNew ({ U with vm := s.vm } : State) locs mc ms := by
    subst hA
    obtain ⟨e1, e2⟩ := hsame
    rw [State.setFrames_setFrames] at e1
    have h2 : (T.setVm s.vm).sameButNew ({ U with vm := s.vm } : State) [] (0 + 1) (0 + 6) := ⟨e1, e2⟩
    have h3 := X.same.trans h2
    rw [List.append_nil] at h3
    exact h3.mono hc hs
  refine ⟨U, ?_, .threw T.heap.size, hrun, hend, Or.inr ⟨T.heap.size, rfl, cls, ce, locs, hx U hWs.alike f1 (fun q hq => f2 q hq (fun z hz => nomatch hz)), hce, hO.vm, hcl, hWs, hall, hf⟩⟩
  refine st1 _ ?_
  show Steps p.tables e below (T1.setTop { method := m, pc := pc + 3, locals := ls, stack := .ref T.heap.size :: rest, locked := none }) _
  jvm_step X₁.here [X₁.here.top, hexec, d3', Value.category]
  exact X₁.ldcStringW hexec (own := own) (text := text) (index := is) (a := sa) hown' hstr'.1 hstr'.2
    (g := { method := m, pc := pc + 4, locals := ls, stack := .ref T.heap.size :: .ref T.heap.size :: rest, locked := none }) rfl d4' _ hsteps
end Ends
section Bodies
variable {l : Launch}
theorem vx_ofW {y : MethodName} {ws ws' : List Cond} {rm : Room} {Pc : Array Value → State → Prop} {Qc : Array Value → State → Outcome → State → Prop} {XC : String → State → State → Prop} {mc ms : Nat} {free : Addr → Prop} {cc : ByteArray} {maxL : Nat} {ret : Option FieldType}
    (hy : plainName y.cls = true) (hw : ws = Cond.code y cc maxL ret :: ws')
    (body : ∀ p e s m args below meth c s₁, BodyLoose p l y (headSpec ws rm) cc maxL ret e s m args below meth c s₁ → c.maxLocals = maxL → (∀ x ∈ c.exceptionTable.toList, False) → Pc args s →
      W p l e (headSpec ws rm).room s m args below meth c s.heap [] 0 0 (vx_MQ below Qc XC args s mc ms free) (entryFrame m args maxL)) : vx_Met l y ws rm Pc Qc XC mc ms free := by
  refine MetFree.of_bodyS (code := cc) (maxLocals := maxL) (ret := ret) hy ?_ ?_
  · intro args s m h hn
    obtain ⟨meth, c, h1, h2, h3, h4, h5, h6, -, -⟩ := Cond.code_spec hn (atoms_spec (ws := ws) h _ (by rw [hw]; exact List.mem_cons_self))
    exact ⟨meth, c, h1, h2, h3, h4, h5, h6⟩
  · intro p e s m args below meth c s₁ B hml hP _
    have hh0 : s₁.heap = s.heap := by rw [B.state]; rfl
    have ht : ∀ x ∈ c.exceptionTable.toList, False := by
      obtain ⟨meth9, c9, h1, h2, -, -, -, -, h7, -⟩ := Cond.code_spec B.named (atoms_spec (ws := ws) B.pre _ (by rw [hw]; exact List.mem_cons_self))
      cases Option.some.inj (h1.symm.trans B.method)
      cases Option.some.inj (h2.symm.trans (Stand.of_body B).code)
      intro x hx
      rw [Array.isEmpty_iff.mp h7] at hx
      cases hx
    obtain ⟨t, a1, o, b1, b2, b3⟩ := body p e s m args below meth c s₁ B hml ht hP s₁ hh0 (Stand.of_body B)
    exact ⟨t, o, a1, b1, b2, b3⟩
/-- the table of a body with handlers -/
theorem vx_table {p : Program} {x y : MethodName} {S : Spec} {cc bytes : ByteArray} {maxL maxL' : Nat} {ret ret' : Option FieldType} {e : Env} {s s₁ : State} {m : MethodId} {args : Array Value} {below : List Frame} {meth : Method} {c : Code} {hh : List (Nat × Nat × Nat × Nat)}
    (B : BodyLoose p l y S cc maxL ret e s m args below meth c s₁) (h : (Cond.codeWith y bytes maxL' ret' hh).before args s = true) : c.exceptionTable.toList = tableOf hh := by
  obtain ⟨m9, meth9, c9, hn9, h1, h2, -, -, h6, -⟩ := Cond.codeWith_spec h
  cases Option.some.inj (hn9.symm.trans B.named)
  cases Option.some.inj (h1.symm.trans B.method)
  cases Option.some.inj (h2.symm.trans (Stand.of_body B).code)
  rw [← h6, table_eq]
end Bodies
end VXA
/-! ===== END ===== -/
/-! ===== BEGIN a static call of a method with an exception table ===== -/
section VXS
variable {p : Program} {l : Launch} {e : Env} {R : Room} {s : State} {m : MethodId} {args : Array Value} {below : List Frame} {meth : Method} {c : Code} {T : State} {H : Heap} {locs : List Loc} {cells slots : Nat}
abbrev vx_CSW (R : Room) (s : State) (args : Array Value) (own : String) (index : Nat) (y : MethodName) (bytes : ByteArray) (maxL : Nat) (ret : Option FieldType) (hh : List (Nat × Nat × Nat × Nat)) (ws : List Cond) (rm : Room) (mc ms n : Nat) : Prop :=
  (rm.cells = mc ∧ rm.slots = ms ∧ rm.frames + 1 ≤ R.frames ∧ 8 + (maxL + 11) + rm.locals ≤ R.locals ∧ (∀ w ∈ ws, ∀ (a' : Array Value) (U : State), s.WarmedH U.vm → w.before a' U = true) ∧ Cond.codeWith y bytes maxL ret hh ∈ ws) ∧
  (Cond.codeWith y bytes maxL ret hh).before args s = true ∧ (Cond.initialized y.cls).before args s = true ∧ (y.cls ≠ "java/lang/invoke/MethodHandle" ∧ y.cls ≠ "java/lang/invoke/VarHandle") ∧
  (∀ sig, parseMethodDescriptor y.desc = some sig → n = sig.parameters.length) ∧ (Cond.methodLink own index y).before args s = true ∧ (Cond.static y).before args s = true
theorem vx_cwSW {own : String} {index maxL mc ms : Nat} {y : MethodName} {bytes : ByteArray} {ret : Option FieldType} {hh : List (Nat × Nat × Nat × Nat)} {Ts ws ws' : List Cond} {rm : Room} (n : Nat) (ht : ∀ w ∈ Ts, w.before args s = true) (hT : GoodIn Ts (va_wsS own index y ws)) (hw : ws = Cond.codeWith y bytes maxL ret hh :: ws') (hrc : rm.cells = mc) (hrs : rm.slots = ms)
    (hd : y.cls ≠ "java/lang/invoke/MethodHandle" ∧ y.cls ≠ "java/lang/invoke/VarHandle" ∧ (parseMethodDescriptor y.desc).map (fun d => d.parameters.length) = some n) (hR : rm.frames + 1 ≤ R.frames ∧ 8 + (maxL + 11) + rm.locals ≤ R.locals) :
    vx_CSW R s args own index y bytes maxL ret hh ws rm mc ms n := by
  have ok : ∀ w ∈ va_wsS own index y ws, w.before args s = true := fun w h => ht w (hT w h).1
  have hG : GoodIn Ts ws := fun w h => hT w (by unfold va_wsS; exact List.mem_append_right _ h)
  have hc : Cond.codeWith y bytes maxL ret hh ∈ ws := by rw [hw]; exact List.mem_cons_self
  refine ⟨⟨hrc, hrs, hR.1, hR.2, pay_in ht hG, hc⟩, ht _ (hG _ hc).1, ok _ (by simp [va_wsS]), ⟨hd.1, hd.2.1⟩, fun sig h => ?_, ok _ (by simp [va_wsS]), ok _ (by simp [va_wsS])⟩
  have h2 := hd.2.2
  rw [h] at h2
  exact (Option.some.inj h2).symm
theorem vx_callSW (X : Stand p l e R s m args below meth c T locs cells slots) (hexec : p.tables.exec = Jvm.exec) {own : String} {index : Nat} {y : MethodName} {bytes : ByteArray} {maxL : Nat} {ret : Option FieldType} {hh : List (Nat × Nat × Nat × Nat)}
    (hown : s.vm.findClass own = some m.cls) (hlink : (Cond.methodLink own index y).before args s = true) (hstat : (Cond.static y).before args s = true) (hinit : (Cond.initialized y.cls).before args s = true)
    (hcode : (Cond.codeWith y bytes maxL ret hh).before args s = true) (hy : y.cls ≠ "java/lang/invoke/MethodHandle" ∧ y.cls ≠ "java/lang/invoke/VarHandle")
    {W9 : Nat} {Pre : Pt → Array Value → Prop} {Post : Pt → Array Value → Option Value → Pt → Prop} (hK : Back l R p e below s args y 3 W9 Pre Post)
    {g : JFrame} (hg : g.method = m) (hsize : g.locals.size = c.maxLocals) {argsL rest : List Value} (hlen : ∀ sig, parseMethodDescriptor y.desc = some sig → argsL.length = sig.parameters.length)
    (hstack : g.stack = argsL.reverse ++ rest) (hW : 2 * g.monitorRoom + (rest.map fun v => v.category).sum ≤ W9) (hdg : decode c.code g.pc = .ok (.invokestatic index, 3))
    (hpre : ∀ vm₁, s.WarmedH vm₁ → Pre ⟨T.setVm vm₁, locs, cells, slots⟩ argsL.toArray) :
    ∃ (v : Option Value) (vm₁ : Vm) (B : Pt), s.WarmedH vm₁ ∧ Stand p l e R s m args below meth c B.U B.locs B.cells B.slots ∧ Post ⟨T.setVm vm₁, locs, cells, slots⟩ argsL.toArray v B ∧
      ∀ target, Steps p.tables e below (B.U.setTop { g with pc := g.pc + 3, stack := v.toList ++ rest }) target → Steps p.tables e below (T.setTop g) target := by
  obtain ⟨mk, methM, cM, hnamed, hmethM, -, -, -, -, -, -, hsigM⟩ := Cond.codeWith_spec hcode
  have hstatic : methM.isStatic = true := Cond.static_spec hnamed hmethM hstat
  obtain ⟨kP, hkP, -⟩ := className_of_methodNamed hnamed
  have hinitP : kP.init = .initialized := Cond.initialized_spec (findClass_of_methodNamed hnamed) hkP hinit
  obtain ⟨vm₁, X₁, hstep₁⟩ := X.invokestatic hexec hown hlink hnamed hmethM hstatic hkP hinitP hy (g := g) hg (argsL := argsL) (rest := rest) (hlen _ hsigM) hstack hdg
  obtain ⟨v, B, X', hpost, hsteps⟩ := hK m meth c ⟨T.setVm vm₁, locs, cells, slots⟩ { g with stack := rest } (.invokestatic index) mk argsL.toArray X₁ hg hsize hdg hW (X₁.named hnamed) (hpre vm₁ X₁.warmed)
  exact ⟨v, vm₁, B, X₁.warmed, X', hpost, fun target h => hstep₁ _ fun acts => by rw [doInvoke_state]; exact hsteps.trans h⟩
theorem vx_runSW {y : MethodName} {bytes cc : ByteArray} {maxL nL mc ms n index : Nat} {ret : Option FieldType} {hh : List (Nat × Nat × Nat × Nat)} {ws : List Cond} {rm : Room} {Pc : Array Value → State → Prop} {Qc : Array Value → State → Outcome → State → Prop} {free : Addr → Prop} {Ts : List Cond} {own : String} {As rest : List Value} {g : JFrame}
    (S : CallFix p m c cc nL s args Ts own) (hM : Met l y ws rm Pc Qc mc ms free) (cw : vx_CSW R s args own index y bytes maxL ret hh ws rm mc ms n) (hp : PreS s H Pc As)
    (hg : g.method = m) (hn : As.length = n) (hsize : g.locals.size = nL) (hstack : g.stack = As.reverse ++ rest) (hW : 2 * g.monitorRoom + (rest.map fun v => v.category).sum ≤ 8) (hdg : decode cc g.pc = .ok (.invokestatic index, 3)) (hf : cells + mc ≤ R.cells ∧ slots + ms ≤ R.slots) :
    va_Run p l e R s m args below meth c H locs cells slots mc ms g rest (Qc As.toArray) (free) := by
  obtain ⟨⟨hrc, hrs, hfr, hlo, hws, hcw⟩, hcode, hini, hy, hlen, hl, hstt⟩ := cw
  have hK : Back l R p e below s args y 3 8 (PreOf R mc ms Pc) (PostOf Qc mc ms free) := va_backW (hh := hh) (bytes := bytes) (maxL := maxL) (ret := ret) hM hp.1 hrc hrs hfr hlo hws hcw (fun a' U hW => word_at hW (Or.inl (by first | rfl | simp [Cond.onTables, Cond.keeps, Cond.steady])) hini)
  obtain ⟨hx, hb, hml, ho, -⟩ := S
  intro T hT X
  obtain ⟨v, vm₁, ⟨U', l2, c2, s2⟩, hW₁, X', ⟨g', mk, t, L, e1, e2, hq, h1, hL, h2, h3⟩, st⟩ := vx_callSW X hx (hh := hh) (bytes := bytes) (maxL := maxL) (ret := ret) ho hl hstt hini hcode hy hK hg (hsize.trans hml.symm) (argsL := As) (rest := rest) (fun sig h => hn.trans (hlen sig h)) hstack hW (by rw [hb]; exact hdg)
    (fun vm₁ hW₁ => ⟨hf.1, hf.2, hp.2 (T.setVm vm₁) hT hW₁⟩)
  dsimp only [Pt.U, Pt.locs, Pt.cells, Pt.slots] at X' e1 e2 h1 h2 h3 st
  subst h1; subst h2; subst h3
  exact ⟨v, (T.setVm vm₁).calling g' mk As.toArray, t, U', L, hT, X', hL, e1, e2, hq, st⟩
/-- not caught here, past rows that name other classes: it goes on to the caller -/
theorem vx_outP {p : Program} {l : Launch} {e : Env} {R : Room} {s : State} {m : MethodId} {args : Array Value} {below : List Frame} {meth : Method} {c : Code} {H : Heap} {locs : List Loc} {cells slots : Nat} {free : Addr → Prop} {ls : Array Slot} {rest : List Value} {Qc : Array Value → State → Outcome → State → Prop} {XC : String → State → State → Prop}
    {pc : Nat} {own E : String} {ce : Cell} {q : Addr} {mc ms : Nat} (hown : s.vm.findClass own = some m.cls) (hlocks : meth.locks = false)
    (hpass : ∀ z ∈ c.exceptionTable.toList, covers z pc = false ∨ (z.catchType ≠ 0 ∧ ∃ nm : String, (Cond.classLink own z.catchType nm).before args s = true ∧ va_Nc E nm s)) (hcell : H[q]? = some ce) (hv : ce.vm = .none) (hcl : s.vm.findClass E = some ce.cls)
    (hx : ∀ t : State, t.heap = H → s.vm.Alike t.vm → XC E s t) (hf : ∀ z ∈ locs, free z.base) (hc : cells ≤ mc) (hs : slots ≤ ms) :
    vx_W p l e R s m args below meth c H locs cells slots (vx_MQ below Qc XC args s mc ms free) (F0 m pc ls rest) q := by
  intro T hT X
  have hpl : e.platform.magicAccessors = ({} : Platform).magicAccessors := by rw [X.admits.platform]
  obtain ⟨vm', hW', X', st⟩ := X.outThrough hlocks q (g := F0 m pc ls rest) rfl rfl rfl (cell := ce) (by rw [hT]; exact hcell) (by rw [hv]; rfl)
    (by obtain ⟨k9, h9, -⟩ := Vm.findClass_spec hcl; exact ⟨k9, h9⟩) (fun z hz => by
      rcases hpass z hz with h | ⟨hz0, nm, hl1, hn1⟩
      · exact Or.inl h
      · obtain ⟨c6, hc6, hcl6⟩ := Cond.classLink_spec hown hl1 e.platform hpl
        obtain ⟨a8, b8, h1, h2, h3⟩ := hn1
        cases Option.some.inj (h1.symm.trans hcl)
        cases Option.some.inj (h2.symm.trans hc6)
        exact Or.inr ⟨hz0, _, hcl6, h3⟩)
  obtain ⟨g₀, hfr⟩ := X'.frames_eq
  have hcell9 : ((T.setVm vm').setFrames (.throwing q :: below)).heap[q]? = some ce := by
    show T.heap[q]? = some ce
    rw [hT]; exact hcell
  have hend : Ended ((T.setVm vm').setFrames (.throwing q :: below)) below (.threw q) := State.frames_setFrames _ (State.cur_lt_of_frames hfr)
  refine ⟨(T.setVm vm').setFrames (.throwing q :: below), ?_, .threw q, X'.here.running, hend, Or.inr ⟨q, rfl, E, ce, locs, hx _ hT (X'.ends _).1.alike, hcell9, hv, hcl, (X'.ends _).1, (X'.ends _).2.mono hc hs, hf⟩⟩
  rw [X.pushThrowing_eq]
  exact st
/-- a thing of a world lies in the heap -/
theorem vx_lt {D : va_G} {cl : List vw_C} {ws : va_W} {H1 : Heap} (h : va_P D cl ws H1) {k : Nat} {q : Nat × va_E} (hk : ws[k]? = some q) : q.1 < H1.size := (h k q hk).lt
end VXS
/-! ===== END ===== -/
/-! ===== BEGIN methods with a table of their own: called by a name, returning or throwing ===== -/
section VXH
/-! vx_backW, vx_callVX, vx_callSX, vx_callVW, vx_runVW, vx_runVX, vx_runSX, vx_ofWH follow the same proofs as their sisters above (Free/Laws.lean, Shelf42/LK1.lean); vx_outP calls Shelf42/NT130.lean (outThrough). -/
section
variable {l : Launch} {R : Room} {p : Program} {e : Env} {below : List Frame} {s : State} {sargs : Array Value} {y : MethodName} {len W9 : Nat}
theorem vx_backW {ws : List Cond} {rm : Room} {Pc : Array Value → State → Prop} {Qc : Array Value → State → Outcome → State → Prop} {XC : String → State → State → Prop} {mc ms : Nat} {free : Addr → Prop} {bytes : ByteArray} {maxL : Nat} {ret : Option FieldType} {hh : List (Nat × Nat × Nat × Nat)}
    (hM : vx_Met l y ws rm Pc Qc XC mc ms free) (hblind : FrameBlind Pc) (hrc : rm.cells = mc) (hrs : rm.slots = ms)
    (hframes : rm.frames + 1 ≤ R.frames) (hlocals : W9 + (maxL + 11) + rm.locals ≤ R.locals)
    (hws : ∀ w ∈ ws, ∀ a' U, s.WarmedH U.vm → w.before a' U = true) (hcode : Cond.codeWith y bytes maxL ret hh ∈ ws) (hinit : ∀ a' U, s.WarmedH U.vm → (Cond.initialized y.cls).before a' U = true) :
    vx_Back l R p e below s sargs y len W9 (PreOf R mc ms Pc) (PostOf Qc mc ms free) (vx_Post XC mc ms free) := by
  intro m meth c A g ig mk a X hg hsize hdg hW hn hp
  have h1 : (headSpec ws rm).pre.before a A.U = true := atoms_intro fun w hw => hws w hw _ _ X.warmed
  have h2 : (Cond.codeWith y bytes maxL ret hh).before a A.U = true := hws _ hcode _ _ X.warmed
  have h3 : (Cond.initialized y.cls).before a A.U = true := hinit _ _ X.warmed
  have h4 : A.cells + (headSpec ws rm).room.cells ≤ R.cells := by rw [show (headSpec ws rm).room.cells = mc from hrc]; exact hp.1
  have h5 : A.slots + (headSpec ws rm).room.slots ≤ R.slots := by rw [show (headSpec ws rm).room.slots = ms from hrs]; exact hp.2.1
  have hPc : Pc a (A.U.calling g mk a) := hblind _ _ _ _ hp.2.2
  obtain ⟨U, Ls, c0, s0⟩ := A
  dsimp only [Pt.U, Pt.locs, Pt.cells, Pt.slots] at h1 h2 h3 h4 h5 X hn hPc ⊢
  obtain ⟨m9, methY, cY, hn9, hmY, hcY, -, hlY, -⟩ := Cond.codeWith_spec h2
  cases Option.some.inj (hn9.symm.trans hn)
  obtain ⟨kY, hkY, -⟩ := className_of_methodNamed hn
  have hinitY : kY.init = .initialized := Cond.initialized_spec (findClass_of_methodNamed hn) hkY h3
  have h : At U g.method c below := by rw [hg]; exact X.here
  have hlocals9 : W9 + (maxL + 11) + (headSpec ws rm).room.locals ≤ R.locals := hlocals
  have happ : (headSpec ws rm).appliesLoose y e.platform (U.calling g mk a) = true :=
    Spec.appliesLoose_calling (g := g) h hdg hn hkY hinitY
      (X.room_calling (g := g) (R' := (headSpec ws rm).room) hsize hmY hcY hframes (by rw [hlY]; omega) h4 h5) h1
  obtain ⟨mid, hmid⟩ := h.above
  have hfr : (U.setTop g).frames = (.java g :: mid) ++ below := by rw [State.frames_setTop' g h.top, hmid]; rfl
  obtain ⟨o, s₂, hsteps, -, hend, hq⟩ := Steps.callFree hM p X.admits X.cas X.clock (acts := []) hfr happ hPc trivial
  have hq' : vx_Q Qc XC mc ms free a (U.calling g mk a) o s₂ := hq
  rw [State.frames_setTop' g h.top] at hend
  obtain ⟨g₀, hg0⟩ := Option.isSome_iff_exists.mp h.top
  obtain ⟨r, hr⟩ := State.topJava?_eq_some.mp hg0
  have hr' : (({ U with heap := s₂.heap, slotsUsed := s₂.slotsUsed } : State).setVm s₂.vm).frames = .java g₀ :: r := hr
  rcases hq' with ⟨hqc, L, hfe, hL⟩ | ⟨q, rfl, E, ce, L, hx, hce, hcv, hcl, hW₂, hsm, hL⟩
  · obtain ⟨⟨v, rfl⟩, hW₂, e2, q2, q3, q4, q5, q6⟩ := id hfe
    have e3 : s₂ = ({ (U.calling g mk a).setFrames s₂.frames with heap := s₂.heap, slotsUsed := s₂.slotsUsed } : State).setVm s₂.vm := by
      have : s₂ = ({ s₂ with vm := (U.calling g mk a).vm } : State).setVm s₂.vm := rfl
      rw [e2] at this
      exact this
    obtain ⟨c₂, i₂, len₂, hc₂, hd₂, hf₂⟩ := hend
    have hW' : U.WarmedH s₂.vm := hW₂
    have hcc : c₂ = c := by
      have h1 : s₂.code? g.method = U.code? g.method := by
        rw [State.code?_eq, State.code?_eq, hW'.alike.method?]
      exact Option.some.inj (hc₂.symm.trans (h1.trans h.code))
    subst hcc
    have hlen : len₂ = len := by rw [hdg] at hd₂; cases hd₂; rfl
    subst hlen
    have hs₂ : s₂ = (({ U with heap := s₂.heap, slotsUsed := s₂.slotsUsed } : State).setVm s₂.vm).setTop { g with pc := g.pc + len₂, stack := v.toList ++ g.stack } := by
      refine e3.trans ?_
      rw [hf₂, State.calling_eq h.top, State.setFrames_setFrames, State.setTop_of_frames _ hr', hr]
      rfl
    have hsame : U.sameButNew ({ U with heap := s₂.heap, slotsUsed := s₂.slotsUsed } : State) L mc ms := by
      refine ⟨?_, q2, q3, q4, q5, q6⟩
      obtain ⟨t, ht, -⟩ := State.frames_cons hr
      show ({ U with heap := s₂.heap, slotsUsed := s₂.slotsUsed } : State) = { U.setFrames U.frames with heap := s₂.heap, slotsUsed := s₂.slotsUsed }
      rw [State.setFrames_self ht]
    subst hg
    refine Or.inl ⟨v, ⟨(({ U with heap := s₂.heap, slotsUsed := s₂.slotsUsed } : State).setVm s₂.vm), Ls ++ L, c0 + mc, s0 + ms⟩,
      ⟨X.admits, X.cas, X.clock, X.frames, X.room, X.hears, X.method, X.code, (X.here.setHeapUsed s₂.heap s₂.slotsUsed).setVm hW'.alike, X.tail, State.WarmedH.trans X.warmed hW', X.limits, X.bytes, X.same.trans (hsame.setVm s.vm)⟩,
      ⟨g, mk, s₂, L, rfl, rfl, hqc, rfl, hL, rfl, rfl⟩, ?_⟩
    show Steps p.tables e below _ ((({ U with heap := s₂.heap, slotsUsed := s₂.slotsUsed } : State).setVm s₂.vm).setTop { g with pc := g.pc + len₂, stack := v.toList ++ g.stack })
    rw [← hs₂]
    exact hsteps
  · obtain ⟨e2, q2, q3, q4, q5, q6⟩ := id hsm
    have e3 : s₂ = ({ (U.calling g mk a).setFrames s₂.frames with heap := s₂.heap, slotsUsed := s₂.slotsUsed } : State).setVm s₂.vm := by
      have : s₂ = ({ s₂ with vm := (U.calling g mk a).vm } : State).setVm s₂.vm := rfl
      rw [e2] at this
      exact this
    have hf₂ : s₂.frames = .throwing q :: .java g :: U.frames.tail := hend
    have hW' : U.WarmedH s₂.vm := hW₂
    have hs₂ : s₂ = ((({ U with heap := s₂.heap, slotsUsed := s₂.slotsUsed } : State).setVm s₂.vm).setTop g).pushFrame (.throwing q) := by
      refine e3.trans ?_
      rw [hf₂, State.calling_eq h.top, State.setFrames_setFrames, State.pushFrame, State.frames_setTop _ hr', State.setTop_of_frames _ hr', State.setFrames_setFrames, hr]
      rfl
    have hsame : U.sameButNew ({ U with heap := s₂.heap, slotsUsed := s₂.slotsUsed } : State) L mc ms := by
      refine ⟨?_, q2, q3, q4, q5, q6⟩
      obtain ⟨t, ht, -⟩ := State.frames_cons hr
      show ({ U with heap := s₂.heap, slotsUsed := s₂.slotsUsed } : State) = { U.setFrames U.frames with heap := s₂.heap, slotsUsed := s₂.slotsUsed }
      rw [State.setFrames_self ht]
    subst hg
    refine Or.inr ⟨q, ⟨(({ U with heap := s₂.heap, slotsUsed := s₂.slotsUsed } : State).setVm s₂.vm), Ls ++ L, c0 + mc, s0 + ms⟩,
      ⟨X.admits, X.cas, X.clock, X.frames, X.room, X.hears, X.method, X.code, (X.here.setHeapUsed s₂.heap s₂.slotsUsed).setVm hW'.alike, X.tail, State.WarmedH.trans X.warmed hW', X.limits, X.bytes, X.same.trans (hsame.setVm s.vm)⟩,
      ⟨g, mk, s₂, L, E, ce, rfl, rfl, hx, hce, hcv, hcl, rfl, hL, rfl, rfl⟩, ?_⟩
    show Steps p.tables e below _ (((({ U with heap := s₂.heap, slotsUsed := s₂.slotsUsed } : State).setVm s₂.vm).setTop g).pushFrame (.throwing q))
    rw [← hs₂]
    exact hsteps
end
variable {p : Program} {l : Launch} {e : Env} {R : Room} {s : State} {m : MethodId} {args : Array Value} {below : List Frame} {meth : Method} {c : Code} {T : State} {H : Heap} {locs : List Loc} {cells slots : Nat}
theorem vx_callVX (X : Stand p l e R s m args below meth c T locs cells slots) (hexec : p.tables.exec = Jvm.exec) {own C : String} {index : Nat} {y : MethodName} {bytes : ByteArray} {maxL : Nat} {ret : Option FieldType} {hh : List (Nat × Nat × Nat × Nat)}
    (hown : s.vm.findClass own = some m.cls) (hlink : (Cond.methodLink own index y).before args s = true) (hinst : (Cond.instanceMethod y).before args s = true) (hsel : (Cond.selects C y y).before args s = true)
    (hcode : (Cond.codeWith y bytes maxL ret hh).before args s = true) (hy : y.cls ≠ "java/lang/invoke/MethodHandle" ∧ y.cls ≠ "java/lang/invoke/VarHandle")
    {W9 : Nat} {Pre : Pt → Array Value → Prop} {Post : Pt → Array Value → Option Value → Pt → Prop} {PostX : Pt → Array Value → Addr → Pt → Prop} (hK : vx_Back l R p e below s args y 3 W9 Pre Post PostX)
    {b : Addr} {cellB : Cell} (hcell : T.heap[b]? = some cellB) (hobj : cellB.vm.isStatics = false) (hcls : s.vm.findClass C = some cellB.cls)
    {g : JFrame} (hg : g.method = m) (hsize : g.locals.size = c.maxLocals) {argsL rest : List Value} (hlen : ∀ sig, parseMethodDescriptor y.desc = some sig → argsL.length = sig.parameters.length)
    (hstack : g.stack = argsL.reverse ++ .ref b :: rest) (hW : 2 * g.monitorRoom + (rest.map fun v => v.category).sum ≤ W9) (hdg : decode c.code g.pc = .ok (.invokevirtual index, 3))
    (hpre : ∀ vm₁, s.WarmedH vm₁ → Pre ⟨T.setVm vm₁, locs, cells, slots⟩ (Value.ref b :: argsL).toArray) :
    (∃ (v : Option Value) (vm₁ : Vm) (B : Pt), s.WarmedH vm₁ ∧ Stand p l e R s m args below meth c B.U B.locs B.cells B.slots ∧ Post ⟨T.setVm vm₁, locs, cells, slots⟩ (Value.ref b :: argsL).toArray v B ∧
      ∀ target, Steps p.tables e below (B.U.setTop { g with pc := g.pc + 3, stack := v.toList ++ rest }) target → Steps p.tables e below (T.setTop g) target) ∨
    (∃ (q : Addr) (vm₁ : Vm) (B : Pt), s.WarmedH vm₁ ∧ Stand p l e R s m args below meth c B.U B.locs B.cells B.slots ∧ PostX ⟨T.setVm vm₁, locs, cells, slots⟩ (Value.ref b :: argsL).toArray q B ∧
      Steps p.tables e below (T.setTop g) ((B.U.setTop { g with stack := rest }).pushFrame (.throwing q))) := by
  obtain ⟨mk, methM, hnamed, hmethM, hstM, habM⟩ := Cond.instanceMethod_spec hinst
  obtain ⟨m8, methM', cM, hn8, hmethM', -, -, -, -, -, -, hsigM⟩ := Cond.codeWith_spec hcode
  cases Option.some.inj (hn8.symm.trans hnamed)
  cases hmethM.symm.trans hmethM'
  obtain ⟨c2, r2, m2, q1, q2, q3, q4, kP, hkP, hkPi⟩ := Cond.selects_spec hsel
  cases hcls.symm.trans q1
  cases (State.methodFound?_of_named hnamed hy).symm.trans q2
  cases hnamed.symm.trans q3
  have hselP : selectMethod e.platform s.vm cellB.cls mk = .method mk := by rw [Launch.admits_selectMethod X.admits]; exact q4
  obtain ⟨vm₁, X₁, hstep₁⟩ := X.invokevirtual hexec hown hlink hnamed hmethM hstM hkP hkPi hy (a := b) (cell := cellB) hcell
    (fun z h => by rw [h] at hobj; cases hobj) hselP hmethM habM hkP hkPi (g := g) hg (argsL := argsL) (rest := rest) (hlen _ hsigM) hstack hdg
  rcases hK m meth c ⟨T.setVm vm₁, locs, cells, slots⟩ { g with stack := rest } (.invokevirtual index) mk (Value.ref b :: argsL).toArray X₁ hg hsize hdg hW (X₁.named hnamed) (hpre vm₁ X₁.warmed) with ⟨v, B, X', hpost, hsteps⟩ | ⟨q, B, X', hpost, hsteps⟩
  · exact Or.inl ⟨v, vm₁, B, X₁.warmed, X', hpost, fun target h => hstep₁ _ fun acts => by rw [doInvoke_state]; exact hsteps.trans h⟩
  · exact Or.inr ⟨q, vm₁, B, X₁.warmed, X', hpost, hstep₁ _ fun acts => by rw [doInvoke_state]; exact hsteps⟩
theorem vx_callSX (X : Stand p l e R s m args below meth c T locs cells slots) (hexec : p.tables.exec = Jvm.exec) {own : String} {index : Nat} {y : MethodName} {bytes : ByteArray} {maxL : Nat} {ret : Option FieldType} {hh : List (Nat × Nat × Nat × Nat)}
    (hown : s.vm.findClass own = some m.cls) (hlink : (Cond.methodLink own index y).before args s = true) (hstat : (Cond.static y).before args s = true) (hinit : (Cond.initialized y.cls).before args s = true)
    (hcode : (Cond.codeWith y bytes maxL ret hh).before args s = true) (hy : y.cls ≠ "java/lang/invoke/MethodHandle" ∧ y.cls ≠ "java/lang/invoke/VarHandle")
    {W9 : Nat} {Pre : Pt → Array Value → Prop} {Post : Pt → Array Value → Option Value → Pt → Prop} {PostX : Pt → Array Value → Addr → Pt → Prop} (hK : vx_Back l R p e below s args y 3 W9 Pre Post PostX)
    {g : JFrame} (hg : g.method = m) (hsize : g.locals.size = c.maxLocals) {argsL rest : List Value} (hlen : ∀ sig, parseMethodDescriptor y.desc = some sig → argsL.length = sig.parameters.length)
    (hstack : g.stack = argsL.reverse ++ rest) (hW : 2 * g.monitorRoom + (rest.map fun v => v.category).sum ≤ W9) (hdg : decode c.code g.pc = .ok (.invokestatic index, 3))
    (hpre : ∀ vm₁, s.WarmedH vm₁ → Pre ⟨T.setVm vm₁, locs, cells, slots⟩ argsL.toArray) :
    (∃ (v : Option Value) (vm₁ : Vm) (B : Pt), s.WarmedH vm₁ ∧ Stand p l e R s m args below meth c B.U B.locs B.cells B.slots ∧ Post ⟨T.setVm vm₁, locs, cells, slots⟩ argsL.toArray v B ∧
      ∀ target, Steps p.tables e below (B.U.setTop { g with pc := g.pc + 3, stack := v.toList ++ rest }) target → Steps p.tables e below (T.setTop g) target) ∨
    (∃ (q : Addr) (vm₁ : Vm) (B : Pt), s.WarmedH vm₁ ∧ Stand p l e R s m args below meth c B.U B.locs B.cells B.slots ∧ PostX ⟨T.setVm vm₁, locs, cells, slots⟩ argsL.toArray q B ∧
      Steps p.tables e below (T.setTop g) ((B.U.setTop { g with stack := rest }).pushFrame (.throwing q))) := by
  obtain ⟨mk, methM, cM, hnamed, hmethM, -, -, -, -, -, -, hsigM⟩ := Cond.codeWith_spec hcode
  have hstatic : methM.isStatic = true := Cond.static_spec hnamed hmethM hstat
  obtain ⟨kP, hkP, -⟩ := className_of_methodNamed hnamed
  have hinitP : kP.init = .initialized := Cond.initialized_spec (findClass_of_methodNamed hnamed) hkP hinit
  obtain ⟨vm₁, X₁, hstep₁⟩ := X.invokestatic hexec hown hlink hnamed hmethM hstatic hkP hinitP hy (g := g) hg (argsL := argsL) (rest := rest) (hlen _ hsigM) hstack hdg
  rcases hK m meth c ⟨T.setVm vm₁, locs, cells, slots⟩ { g with stack := rest } (.invokestatic index) mk argsL.toArray X₁ hg hsize hdg hW (X₁.named hnamed) (hpre vm₁ X₁.warmed) with ⟨v, B, X', hpost, hsteps⟩ | ⟨q, B, X', hpost, hsteps⟩
  · exact Or.inl ⟨v, vm₁, B, X₁.warmed, X', hpost, fun target h => hstep₁ _ fun acts => by rw [doInvoke_state]; exact hsteps.trans h⟩
  · exact Or.inr ⟨q, vm₁, B, X₁.warmed, X', hpost, hstep₁ _ fun acts => by rw [doInvoke_state]; exact hsteps⟩
theorem vx_callVW (X : Stand p l e R s m args below meth c T locs cells slots) (hexec : p.tables.exec = Jvm.exec) {own C : String} {index : Nat} {y : MethodName} {bytes : ByteArray} {maxL : Nat} {ret : Option FieldType} {hh : List (Nat × Nat × Nat × Nat)}
    (hown : s.vm.findClass own = some m.cls) (hlink : (Cond.methodLink own index y).before args s = true) (hinst : (Cond.instanceMethod y).before args s = true) (hsel : (Cond.selects C y y).before args s = true)
    (hcode : (Cond.codeWith y bytes maxL ret hh).before args s = true) (hy : y.cls ≠ "java/lang/invoke/MethodHandle" ∧ y.cls ≠ "java/lang/invoke/VarHandle")
    {W9 : Nat} {Pre : Pt → Array Value → Prop} {Post : Pt → Array Value → Option Value → Pt → Prop} (hK : Back l R p e below s args y 3 W9 Pre Post)
    {b : Addr} {cellB : Cell} (hcell : T.heap[b]? = some cellB) (hobj : cellB.vm.isStatics = false) (hcls : s.vm.findClass C = some cellB.cls)
    {g : JFrame} (hg : g.method = m) (hsize : g.locals.size = c.maxLocals) {argsL rest : List Value} (hlen : ∀ sig, parseMethodDescriptor y.desc = some sig → argsL.length = sig.parameters.length)
    (hstack : g.stack = argsL.reverse ++ .ref b :: rest) (hW : 2 * g.monitorRoom + (rest.map fun v => v.category).sum ≤ W9) (hdg : decode c.code g.pc = .ok (.invokevirtual index, 3))
    (hpre : ∀ vm₁, s.WarmedH vm₁ → Pre ⟨T.setVm vm₁, locs, cells, slots⟩ (Value.ref b :: argsL).toArray) :
    ∃ (v : Option Value) (vm₁ : Vm) (B : Pt), s.WarmedH vm₁ ∧ Stand p l e R s m args below meth c B.U B.locs B.cells B.slots ∧ Post ⟨T.setVm vm₁, locs, cells, slots⟩ (Value.ref b :: argsL).toArray v B ∧
      ∀ target, Steps p.tables e below (B.U.setTop { g with pc := g.pc + 3, stack := v.toList ++ rest }) target → Steps p.tables e below (T.setTop g) target := by
  obtain ⟨mk, methM, hnamed, hmethM, hstM, habM⟩ := Cond.instanceMethod_spec hinst
  obtain ⟨m8, methM', cM, hn8, hmethM', -, -, -, -, -, -, hsigM⟩ := Cond.codeWith_spec hcode
  cases Option.some.inj (hn8.symm.trans hnamed)
  cases hmethM.symm.trans hmethM'
  obtain ⟨c2, r2, m2, q1, q2, q3, q4, kP, hkP, hkPi⟩ := Cond.selects_spec hsel
  cases hcls.symm.trans q1
  cases (State.methodFound?_of_named hnamed hy).symm.trans q2
  cases hnamed.symm.trans q3
  have hselP : selectMethod e.platform s.vm cellB.cls mk = .method mk := by rw [Launch.admits_selectMethod X.admits]; exact q4
  obtain ⟨vm₁, X₁, hstep₁⟩ := X.invokevirtual hexec hown hlink hnamed hmethM hstM hkP hkPi hy (a := b) (cell := cellB) hcell
    (fun z h => by rw [h] at hobj; cases hobj) hselP hmethM habM hkP hkPi (g := g) hg (argsL := argsL) (rest := rest) (hlen _ hsigM) hstack hdg
  obtain ⟨v, B, X', hpost, hsteps⟩ := hK m meth c ⟨T.setVm vm₁, locs, cells, slots⟩ { g with stack := rest } (.invokevirtual index) mk (Value.ref b :: argsL).toArray X₁ hg hsize hdg hW (X₁.named hnamed) (hpre vm₁ X₁.warmed)
  exact ⟨v, vm₁, B, X₁.warmed, X', hpost, fun target h => hstep₁ _ fun acts => by rw [doInvoke_state]; exact hsteps.trans h⟩
abbrev vx_CVW (R : Room) (s : State) (args : Array Value) (own C : String) (index : Nat) (y : MethodName) (bytes : ByteArray) (maxL : Nat) (ret : Option FieldType) (hh : List (Nat × Nat × Nat × Nat)) (ws : List Cond) (rm : Room) (mc ms n : Nat) : Prop :=
  (rm.cells = mc ∧ rm.slots = ms ∧ rm.frames + 1 ≤ R.frames ∧ 8 + (maxL + 11) + rm.locals ≤ R.locals ∧ (∀ w ∈ ws, ∀ (a' : Array Value) (U : State), s.WarmedH U.vm → w.before a' U = true) ∧ Cond.codeWith y bytes maxL ret hh ∈ ws) ∧
  (Cond.codeWith y bytes maxL ret hh).before args s = true ∧ (Cond.initialized y.cls).before args s = true ∧ (y.cls ≠ "java/lang/invoke/MethodHandle" ∧ y.cls ≠ "java/lang/invoke/VarHandle") ∧
  (∀ sig, parseMethodDescriptor y.desc = some sig → n = sig.parameters.length) ∧ (Cond.methodLink own index y).before args s = true ∧ (Cond.instanceMethod y).before args s = true ∧ (Cond.selects C y y).before args s = true
theorem vx_cwVW {own C : String} {index maxL mc ms : Nat} {y : MethodName} {bytes : ByteArray} {ret : Option FieldType} {hh : List (Nat × Nat × Nat × Nat)} {Ts ws ws' : List Cond} {rm : Room} (n : Nat) (ht : ∀ w ∈ Ts, w.before args s = true) (hT : GoodIn Ts (wsV own index C y ws)) (hw : ws = Cond.codeWith y bytes maxL ret hh :: ws') (hrc : rm.cells = mc) (hrs : rm.slots = ms)
    (hd : y.cls = C ∧ y.cls ≠ "java/lang/invoke/MethodHandle" ∧ y.cls ≠ "java/lang/invoke/VarHandle" ∧ (parseMethodDescriptor y.desc).map (fun d => d.parameters.length) = some n) (hR : rm.frames + 1 ≤ R.frames ∧ 8 + (maxL + 11) + rm.locals ≤ R.locals) :
    vx_CVW R s args own C index y bytes maxL ret hh ws rm mc ms n := by
  obtain ⟨hC, hd⟩ := hd
  subst hC
  have ok : ∀ w ∈ wsV own index y.cls y ws, w.before args s = true := fun w h => ht w (hT w h).1
  have hG : GoodIn Ts ws := fun w h => hT w (by unfold wsV; exact List.mem_append_right _ h)
  have hc : Cond.codeWith y bytes maxL ret hh ∈ ws := by rw [hw]; exact List.mem_cons_self
  refine ⟨⟨hrc, hrs, hR.1, hR.2, pay_in ht hG, hc⟩, ht _ (hG _ hc).1, ok _ (by simp [wsV]), ⟨hd.1, hd.2.1⟩, fun sig h => ?_, ok _ (by simp [wsV]), ok _ (by simp [wsV]), ok _ (by simp [wsV])⟩
  have h2 := hd.2.2
  rw [h] at h2
  exact (Option.some.inj h2).symm
theorem vx_runVW {y : MethodName} {bytes cc : ByteArray} {maxL nL mc ms n index : Nat} {ret : Option FieldType} {hh : List (Nat × Nat × Nat × Nat)} {ws : List Cond} {rm : Room} {Pc : Array Value → State → Prop} {Qc : Array Value → State → Outcome → State → Prop} {free : Addr → Prop} {Ts : List Cond} {own C : String} {b : Addr} {As rest : List Value} {g : JFrame}
    (S : CallFix p m c cc nL s args Ts own) (hM : Met l y ws rm Pc Qc mc ms free) (cw : vx_CVW R s args own C index y bytes maxL ret hh ws rm mc ms n) (hp : PreV s H C b Pc As)
    (hg : g.method = m) (hn : As.length = n) (hsize : g.locals.size = nL) (hstack : g.stack = As.reverse ++ .ref b :: rest) (hW : 2 * g.monitorRoom + (rest.map fun v => v.category).sum ≤ 8) (hdg : decode cc g.pc = .ok (.invokevirtual index, 3)) (hf : cells + mc ≤ R.cells ∧ slots + ms ≤ R.slots) :
    va_Run p l e R s m args below meth c H locs cells slots mc ms g rest (Qc (Value.ref b :: As).toArray) free := by
  obtain ⟨⟨hrc, hrs, hfr, hlo, hws, hcw⟩, hcode, hini, hy, hlen, hl, hin, hse⟩ := cw
  have hK : Back l R p e below s args y 3 8 (PreOf R mc ms Pc) (PostOf Qc mc ms free) := va_backW (hh := hh) (bytes := bytes) (maxL := maxL) (ret := ret) hM hp.1 hrc hrs hfr hlo hws hcw (fun a' U hW => word_at hW (Or.inl (by first | rfl | simp [Cond.onTables, Cond.keeps, Cond.steady])) hini)
  obtain ⟨hx, hb, hml, ho, -⟩ := S
  obtain ⟨-, ⟨cellB, hcB, hoB, hclB⟩, hPc⟩ := hp
  intro T hT X
  obtain ⟨v, vm₁, ⟨U', l2, c2, s2⟩, hW₁, X', ⟨g', mk, t, L, e1, e2, hq, h1, hL, h2, h3⟩, st⟩ := vx_callVW X hx (C := C) (hh := hh) (bytes := bytes) (maxL := maxL) (ret := ret) ho hl hin hse hcode hy hK (by rw [hT]; exact hcB) hoB hclB hg (hsize.trans hml.symm) (argsL := As) (rest := rest) (fun sig h => hn.trans (hlen sig h)) hstack hW (by rw [hb]; exact hdg)
    (fun vm₁ hW₁ => ⟨hf.1, hf.2, hPc (T.setVm vm₁) hT hW₁⟩)
  dsimp only [Pt.U, Pt.locs, Pt.cells, Pt.slots] at X' e1 e2 h1 h2 h3 st
  subst h1; subst h2; subst h3
  exact ⟨v, (T.setVm vm₁).calling g' mk (Value.ref b :: As).toArray, t, U', L, hT, X', hL, e1, e2, hq, st⟩
section
variable {y : MethodName} {bytes cc : ByteArray} {maxL nL mc ms n index : Nat} {ret : Option FieldType} {ws : List Cond} {rm : Room} {Pc : Array Value → State → Prop} {Qc : Array Value → State → Outcome → State → Prop} {XC : String → State → State → Prop} {free : Addr → Prop} {Ts : List Cond} {own C : String} {b : Addr} {As rest : List Value} {g : JFrame}
theorem vx_runVX {hh : List (Nat × Nat × Nat × Nat)} (S : CallFix p m c cc nL s args Ts own) (hM : vx_Met l y ws rm Pc Qc XC mc ms free) (cw : vx_CVW R s args own C index y bytes maxL ret hh ws rm mc ms n) (hp : PreV s H C b Pc As)
    (hg : g.method = m) (hn : As.length = n) (hsize : g.locals.size = nL) (hstack : g.stack = As.reverse ++ .ref b :: rest) (hW : 2 * g.monitorRoom + (rest.map fun v => v.category).sum ≤ 8) (hdg : decode cc g.pc = .ok (.invokevirtual index, 3)) (hf : cells + mc ≤ R.cells ∧ slots + ms ≤ R.slots) :
    vx_Run p l e R s m args below meth c H locs cells slots mc ms g rest (Qc (Value.ref b :: As).toArray) XC free := by
  obtain ⟨⟨hrc, hrs, hfr, hlo, hws, hcw⟩, hcode, hini, hy, hlen, hl, hin, hse⟩ := cw
  have hK : vx_Back l R p e below s args y 3 8 (PreOf R mc ms Pc) (PostOf Qc mc ms free) (vx_Post XC mc ms free) := vx_backW (hh := hh) (bytes := bytes) (maxL := maxL) (ret := ret) hM hp.1 hrc hrs hfr hlo hws hcw (fun a' U hW => word_at hW (Or.inl (by first | rfl | simp [Cond.onTables, Cond.keeps, Cond.steady])) hini)
  obtain ⟨hx, hb, hml, ho, -⟩ := S
  obtain ⟨-, ⟨cellB, hcB, hoB, hclB⟩, hPc⟩ := hp
  intro T hT X
  rcases vx_callVX X hx (C := C) (hh := hh) (bytes := bytes) (maxL := maxL) (ret := ret) ho hl hin hse hcode hy hK (by rw [hT]; exact hcB) hoB hclB hg (hsize.trans hml.symm) (argsL := As) (rest := rest) (fun sig h => hn.trans (hlen sig h)) hstack hW (by rw [hb]; exact hdg)
    (fun vm₁ hW₁ => ⟨hf.1, hf.2, hPc (T.setVm vm₁) hT hW₁⟩) with ⟨v, vm₁, ⟨U', l2, c2, s2⟩, hW₁, X', ⟨g', mk, t, L, e1, e2, hq, h1, hL, h2, h3⟩, st⟩ | ⟨q, vm₁, ⟨U', l2, c2, s2⟩, hW₁, X', ⟨g', mk, t, L, E, ce, e1, e2, hq, hce, hcv, hcl, h1, hL, h2, h3⟩, st⟩
  · dsimp only [Pt.U, Pt.locs, Pt.cells, Pt.slots] at X' e1 e2 h1 h2 h3 st
    subst h1; subst h2; subst h3
    exact Or.inl ⟨v, (T.setVm vm₁).calling g' mk (Value.ref b :: As).toArray, t, U', L, hT, X', hL, e1, e2, hq, st⟩
  · dsimp only [Pt.U, Pt.locs, Pt.cells, Pt.slots] at X' e1 e2 h1 h2 h3 st hcl
    subst h1; subst h2; subst h3
    exact Or.inr ⟨q, (T.setVm vm₁).calling g' mk (Value.ref b :: As).toArray, t, U', L, E, ce, hT, X', hL, e1, e2, hq, hce, hcv, vx_cls hW₁ hcl, st⟩
theorem vx_runSX {hh : List (Nat × Nat × Nat × Nat)} (S : CallFix p m c cc nL s args Ts own) (hM : vx_Met l y ws rm Pc Qc XC mc ms free) (cw : vx_CSW R s args own index y bytes maxL ret hh ws rm mc ms n) (hp : PreS s H Pc As)
    (hg : g.method = m) (hn : As.length = n) (hsize : g.locals.size = nL) (hstack : g.stack = As.reverse ++ rest) (hW : 2 * g.monitorRoom + (rest.map fun v => v.category).sum ≤ 8) (hdg : decode cc g.pc = .ok (.invokestatic index, 3)) (hf : cells + mc ≤ R.cells ∧ slots + ms ≤ R.slots) :
    vx_Run p l e R s m args below meth c H locs cells slots mc ms g rest (Qc As.toArray) XC free := by
  obtain ⟨⟨hrc, hrs, hfr, hlo, hws, hcw⟩, hcode, hini, hy, hlen, hl, hstt⟩ := cw
  have hK : vx_Back l R p e below s args y 3 8 (PreOf R mc ms Pc) (PostOf Qc mc ms free) (vx_Post XC mc ms free) := vx_backW (hh := hh) (bytes := bytes) (maxL := maxL) (ret := ret) hM hp.1 hrc hrs hfr hlo hws hcw (fun a' U hW => word_at hW (Or.inl (by first | rfl | simp [Cond.onTables, Cond.keeps, Cond.steady])) hini)
  obtain ⟨hx, hb, hml, ho, -⟩ := S
  intro T hT X
  rcases vx_callSX X hx (hh := hh) (bytes := bytes) (maxL := maxL) (ret := ret) ho hl hstt hini hcode hy hK hg (hsize.trans hml.symm) (argsL := As) (rest := rest) (fun sig h => hn.trans (hlen sig h)) hstack hW (by rw [hb]; exact hdg)
    (fun vm₁ hW₁ => ⟨hf.1, hf.2, hp.2 (T.setVm vm₁) hT hW₁⟩) with ⟨v, vm₁, ⟨U', l2, c2, s2⟩, hW₁, X', ⟨g', mk, t, L, e1, e2, hq, h1, hL, h2, h3⟩, st⟩ | ⟨q, vm₁, ⟨U', l2, c2, s2⟩, hW₁, X', ⟨g', mk, t, L, E, ce, e1, e2, hq, hce, hcv, hcl, h1, hL, h2, h3⟩, st⟩
  · dsimp only [Pt.U, Pt.locs, Pt.cells, Pt.slots] at X' e1 e2 h1 h2 h3 st
    subst h1; subst h2; subst h3
    exact Or.inl ⟨v, (T.setVm vm₁).calling g' mk As.toArray, t, U', L, hT, X', hL, e1, e2, hq, st⟩
  · dsimp only [Pt.U, Pt.locs, Pt.cells, Pt.slots] at X' e1 e2 h1 h2 h3 st hcl
    subst h1; subst h2; subst h3
    exact Or.inr ⟨q, (T.setVm vm₁).calling g' mk As.toArray, t, U', L, E, ce, hT, X', hL, e1, e2, hq, hce, hcv, vx_cls hW₁ hcl, st⟩
end
end VXH
theorem vx_ofWH {l : Launch} {y : MethodName} {ws ws' : List Cond} {rm : Room} {Pc : Array Value → State → Prop} {Qc : Array Value → State → Outcome → State → Prop} {XC : String → State → State → Prop} {mc ms : Nat} {free : Addr → Prop} {cc : ByteArray} {maxL : Nat} {ret : Option FieldType} {hh : List (Nat × Nat × Nat × Nat)}
    (hy : plainName y.cls = true) (hw : ws = Cond.codeWith y cc maxL ret hh :: ws')
    (body : ∀ p e s m args below meth c s₁, BodyLoose p l y (headSpec ws rm) cc maxL ret e s m args below meth c s₁ → c.maxLocals = maxL → Pc args s →
      W p l e (headSpec ws rm).room s m args below meth c s.heap [] 0 0 (vx_MQ below Qc XC args s mc ms free) (entryFrame m args maxL)) : vx_Met l y ws rm Pc Qc XC mc ms free := by
  refine MetFree.of_bodyS (code := cc) (maxLocals := maxL) (ret := ret) hy ?_ ?_
  · intro args s m h hn
    obtain ⟨m9, meth, c, hn9, h1, h2, h3, h4, -, h5, h6, -⟩ := Cond.codeWith_spec (atoms_spec (ws := ws) h _ (by rw [hw]; exact List.mem_cons_self))
    cases hn.symm.trans hn9
    exact ⟨meth, c, h1, h2, h3, h4, h5, h6⟩
  · intro p e s m args below meth c s₁ B hml hP _
    have hh0 : s₁.heap = s.heap := by rw [B.state]; rfl
    obtain ⟨t, a1, o, b1, b2, b3⟩ := body p e s m args below meth c s₁ B hml hP s₁ hh0 (Stand.of_body B)
    exact ⟨t, o, a1, b1, b2, b3⟩
/-! ===== END ===== -/
end
section
def RX0 : String := "FloodFerry$Chains"
def TX0 : u_T := fun k => match k with
  | 0 => ("FloodFerry$Chains", "fleet", "LFloodFerry$Fleet;", true)
  | 1 => ("FloodFerry$Chains", "lengths", "LFloodFerry$Row;", true)
  | 2 => ("FloodFerry$Chains", "firstPunts", "LFloodFerry$Row;", true)
  | _ => ("FloodFerry$Chains", "tolls", "LFloodFerry$Row;", true)
def tyX0 : Nat → FieldType := fun k => match k with
  | 0 => .object "FloodFerry$Fleet"
  | 1 => .object "FloodFerry$Row"
  | 2 => .object "FloodFerry$Row"
  | _ => .object "FloodFerry$Row"
abbrev wsX00 : List Cond := u_ws RX0 TX0 4
theorem nmX0 : ∀ a, a < 4 → ∀ b, b < 4 → a ≠ b → (TX0 a).2.1 ≠ (TX0 b).2.1 := by decide +kernel
theorem tyX0_ok : ∀ k, k < 4 → parseFieldDescriptor (TX0 k).2.2.1 = some (tyX0 k) := by decide +kernel
abbrev cX0_init : ByteArray := prog_2_method_1_code
def yX0_init : MethodName := ⟨RX0, "<init>", "(LFloodFerry$Fleet;)V"⟩
abbrev cX0_length : ByteArray := prog_2_method_2_code
def yX0_length : MethodName := ⟨RX0, "length", "(II)I"⟩
abbrev cX0_firstPunt : ByteArray := prog_2_method_3_code
def yX0_firstPunt : MethodName := ⟨RX0, "firstPunt", "(II)I"⟩
abbrev cX0_reckon : ByteArray := prog_2_method_4_code
def yX0_reckon : MethodName := ⟨RX0, "reckon", "()V"⟩
abbrev cX0_lengthenAll : ByteArray := prog_2_method_5_code
def yX0_lengthenAll : MethodName := ⟨RX0, "lengthenAll", "(II)V"⟩
abbrev cX0_lengthen : ByteArray := prog_2_method_6_code
def yX0_lengthen : MethodName := ⟨RX0, "lengthen", "(IIII)V"⟩
abbrev cX0_findFirst : ByteArray := prog_2_method_7_code
def yX0_findFirst : MethodName := ⟨RX0, "findFirst", "(II)I"⟩
abbrev cX0_begins : ByteArray := prog_2_method_8_code
def yX0_begins : MethodName := ⟨RX0, "begins", "(III)Z"⟩
abbrev cX0_leastTolls : ByteArray := prog_2_method_9_code
def yX0_leastTolls : MethodName := ⟨RX0, "leastTolls", "(II)I"⟩
abbrev cX0_cheapestFrom : ByteArray := prog_2_method_10_code
def yX0_cheapestFrom : MethodName := ⟨RX0, "cheapestFrom", "(II)I"⟩
def RX1 : String := "FloodFerry$Charts"
def TX1 : u_T := fun k => match k with
  | 0 => ("FloodFerry$Charts", "plain", "LFloodFerry$Plain;", true)
  | 1 => ("FloodFerry$Charts", "landings", "LFloodFerry$Landings;", true)
  | 2 => ("FloodFerry$Charts", "fleet", "LFloodFerry$Fleet;", true)
  | 3 => ("FloodFerry$Charts", "ways", "LFloodFerry$Row;", true)
  | 4 => ("FloodFerry$Charts", "drawn", "LFloodFerry$Row;", true)
  | _ => ("FloodFerry$Charts", "queue", "LFloodFerry$Row;", true)
def tyX1 : Nat → FieldType := fun k => match k with
  | 0 => .object "FloodFerry$Plain"
  | 1 => .object "FloodFerry$Landings"
  | 2 => .object "FloodFerry$Fleet"
  | 3 => .object "FloodFerry$Row"
  | 4 => .object "FloodFerry$Row"
  | _ => .object "FloodFerry$Row"
abbrev wsX10 : List Cond := u_ws RX1 TX1 6
theorem nmX1 : ∀ a, a < 6 → ∀ b, b < 6 → a ≠ b → (TX1 a).2.1 ≠ (TX1 b).2.1 := by decide +kernel
theorem tyX1_ok : ∀ k, k < 6 → parseFieldDescriptor (TX1 k).2.2.1 = some (tyX1 k) := by decide +kernel
abbrev cX1_init : ByteArray := prog_3_method_1_code
def yX1_init : MethodName := ⟨RX1, "<init>", "(LFloodFerry$Plain;LFloodFerry$Landings;LFloodFerry$Fleet;)V"⟩
abbrev cX1_forget : ByteArray := prog_3_method_2_code
def yX1_forget : MethodName := ⟨RX1, "forget", "()V"⟩
abbrev cX1_chartOf : ByteArray := prog_3_method_3_code
def yX1_chartOf : MethodName := ⟨RX1, "chartOf", "(III)I"⟩
abbrev cX1_way : ByteArray := prog_3_method_4_code
def yX1_way : MethodName := ⟨RX1, "way", "(II)I"⟩
abbrev cX1_nextStep : ByteArray := prog_3_method_5_code
def yX1_nextStep : MethodName := ⟨RX1, "nextStep", "(II)I"⟩
abbrev cX1_draw : ByteArray := prog_3_method_6_code
def yX1_draw : MethodName := ⟨RX1, "draw", "(IIII)V"⟩
def RX2 : String := "FloodFerry$Fleet"
def TX2 : u_T := fun k => match k with
  | 0 => ("FloodFerry$Fleet", "number", "I", false)
  | 1 => ("FloodFerry$Fleet", "home", "LFloodFerry$Row;", true)
  | 2 => ("FloodFerry$Fleet", "goal", "LFloodFerry$Row;", true)
  | 3 => ("FloodFerry$Fleet", "draught", "LFloodFerry$Row;", true)
  | 4 => ("FloodFerry$Fleet", "pole", "LFloodFerry$Row;", true)
  | 5 => ("FloodFerry$Fleet", "room", "LFloodFerry$Row;", true)
  | _ => ("FloodFerry$Fleet", "toll", "LFloodFerry$Row;", true)
def tyX2 : Nat → FieldType := fun k => match k with
  | 0 => .int
  | 1 => .object "FloodFerry$Row"
  | 2 => .object "FloodFerry$Row"
  | 3 => .object "FloodFerry$Row"
  | 4 => .object "FloodFerry$Row"
  | 5 => .object "FloodFerry$Row"
  | _ => .object "FloodFerry$Row"
abbrev wsX20 : List Cond := u_ws RX2 TX2 7
theorem nmX2 : ∀ a, a < 7 → ∀ b, b < 7 → a ≠ b → (TX2 a).2.1 ≠ (TX2 b).2.1 := by decide +kernel
theorem tyX2_ok : ∀ k, k < 7 → parseFieldDescriptor (TX2 k).2.2.1 = some (tyX2 k) := by decide +kernel
abbrev cX2_init : ByteArray := prog_4_method_1_code
def yX2_init : MethodName := ⟨RX2, "<init>", "()V"⟩
abbrev cX2_add : ByteArray := prog_4_method_2_code
def yX2_add : MethodName := ⟨RX2, "add", "(II)I"⟩
abbrev cX2_fitOut : ByteArray := prog_4_method_3_code
def yX2_fitOut : MethodName := ⟨RX2, "fitOut", "(IIIII)V"⟩
abbrev cX2_floats : ByteArray := prog_4_method_4_code
def yX2_floats : MethodName := ⟨RX2, "floats", "(II)Z"⟩
abbrev cX2_goesFrom : ByteArray := prog_4_method_5_code
def yX2_goesFrom : MethodName := ⟨RX2, "goesFrom", "(II)Z"⟩
abbrev cX2_otherEnd : ByteArray := prog_4_method_6_code
def yX2_otherEnd : MethodName := ⟨RX2, "otherEnd", "(II)I"⟩
abbrev cX2_puntsFrom : ByteArray := prog_4_method_7_code
def yX2_puntsFrom : MethodName := ⟨RX2, "puntsFrom", "(I)I"⟩
def RX3 : String := "FloodFerry$Landings"
def TX3 : u_T := fun k => match k with
  | 0 => ("FloodFerry$Landings", "number", "I", false)
  | _ => ("FloodFerry$Landings", "cell", "LFloodFerry$Row;", true)
def tyX3 : Nat → FieldType := fun k => match k with
  | 0 => .int
  | _ => .object "FloodFerry$Row"
abbrev wsX30 : List Cond := u_ws RX3 TX3 2
theorem nmX3 : ∀ a, a < 2 → ∀ b, b < 2 → a ≠ b → (TX3 a).2.1 ≠ (TX3 b).2.1 := by decide +kernel
theorem tyX3_ok : ∀ k, k < 2 → parseFieldDescriptor (TX3 k).2.2.1 = some (tyX3 k) := by decide +kernel
abbrev cX3_init : ByteArray := prog_5_method_1_code
def yX3_init : MethodName := ⟨RX3, "<init>", "()V"⟩
abbrev cX3_add : ByteArray := prog_5_method_2_code
def yX3_add : MethodName := ⟨RX3, "add", "(I)I"⟩
abbrev cX3_on : ByteArray := prog_5_method_3_code
def yX3_on : MethodName := ⟨RX3, "on", "(I)I"⟩
def RX4 : String := "FloodFerry$Plain"
def TX4 : u_T := fun k => match k with
  | 0 => ("FloodFerry$Plain", "ground", "LFloodFerry$Row;", true)
  | 1 => ("FloodFerry$Plain", "stake", "LFloodFerry$Row;", true)
  | _ => ("FloodFerry$Plain", "water", "LFloodFerry$Row;", true)
def tyX4 : Nat → FieldType := fun k => match k with
  | 0 => .object "FloodFerry$Row"
  | 1 => .object "FloodFerry$Row"
  | _ => .object "FloodFerry$Row"
abbrev wsX40 : List Cond := u_ws RX4 TX4 3
theorem nmX4 : ∀ a, a < 3 → ∀ b, b < 3 → a ≠ b → (TX4 a).2.1 ≠ (TX4 b).2.1 := by decide +kernel
theorem tyX4_ok : ∀ k, k < 3 → parseFieldDescriptor (TX4 k).2.2.1 = some (tyX4 k) := by decide +kernel
abbrev cX4_init : ByteArray := prog_6_method_1_code
def yX4_init : MethodName := ⟨RX4, "<init>", "()V"⟩
abbrev cX4_levelAt : ByteArray := prog_6_method_2_code
def yX4_levelAt : MethodName := ⟨RX4, "levelAt", "(I)I"⟩
abbrev cX4_depth : ByteArray := prog_6_method_3_code
def yX4_depth : MethodName := ⟨RX4, "depth", "(II)I"⟩
abbrev cX4_showsStake : ByteArray := prog_6_method_4_code
def yX4_showsStake : MethodName := ⟨RX4, "showsStake", "(II)Z"⟩
abbrev cX4_stakesShown : ByteArray := prog_6_method_5_code
def yX4_stakesShown : MethodName := ⟨RX4, "stakesShown", "(I)I"⟩
abbrev cX4_beside : ByteArray := prog_6_method_6_code
def yX4_beside : MethodName := ⟨RX4, "beside", "(II)I"⟩
def RX5 : String := "FloodFerry$Row"
def TX5 : u_T := fun k => match k with
  | _ => ("FloodFerry$Row", "numbers", "[I", true)
def tyX5 : Nat → FieldType := fun k => match k with
  | _ => .array .int
abbrev wsX50 : List Cond := u_ws RX5 TX5 1
theorem nmX5 : ∀ a, a < 1 → ∀ b, b < 1 → a ≠ b → (TX5 a).2.1 ≠ (TX5 b).2.1 := by decide +kernel
theorem tyX5_ok : ∀ k, k < 1 → parseFieldDescriptor (TX5 k).2.2.1 = some (tyX5 k) := by decide +kernel
abbrev cX5_init : ByteArray := prog_7_method_1_code
def yX5_init : MethodName := ⟨RX5, "<init>", "(I)V"⟩
abbrev cX5_get : ByteArray := prog_7_method_2_code
def yX5_get : MethodName := ⟨RX5, "get", "(I)I"⟩
abbrev cX5_set : ByteArray := prog_7_method_3_code
def yX5_set : MethodName := ⟨RX5, "set", "(II)V"⟩
abbrev cX5_put : ByteArray := prog_7_method_4_code
def yX5_put : MethodName := ⟨RX5, "put", "(II)I"⟩
abbrev cX5_add : ByteArray := prog_7_method_5_code
def yX5_add : MethodName := ⟨RX5, "add", "(II)V"⟩
abbrev cX5_fill : ByteArray := prog_7_method_6_code
def yX5_fill : MethodName := ⟨RX5, "fill", "(I)V"⟩
abbrev cX5_howMany : ByteArray := prog_7_method_7_code
def yX5_howMany : MethodName := ⟨RX5, "howMany", "(II)I"⟩
abbrev cX5_takeOver : ByteArray := prog_7_method_8_code
def yX5_takeOver : MethodName := ⟨RX5, "takeOver", "(LFloodFerry$Row;)V"⟩
def RX6 : String := "FloodFerry$Traffic"
def TX6 : u_T := fun k => match k with
  | 0 => ("FloodFerry$Traffic", "plain", "LFloodFerry$Plain;", true)
  | 1 => ("FloodFerry$Traffic", "landings", "LFloodFerry$Landings;", true)
  | 2 => ("FloodFerry$Traffic", "fleet", "LFloodFerry$Fleet;", true)
  | 3 => ("FloodFerry$Traffic", "chains", "LFloodFerry$Chains;", true)
  | 4 => ("FloodFerry$Traffic", "charts", "LFloodFerry$Charts;", true)
  | 5 => ("FloodFerry$Traffic", "hour", "I", false)
  | 6 => ("FloodFerry$Traffic", "cell", "LFloodFerry$Row;", true)
  | 7 => ("FloodFerry$Traffic", "bound", "LFloodFerry$Row;", true)
  | 8 => ("FloodFerry$Traffic", "takings", "LFloodFerry$Row;", true)
  | 9 => ("FloodFerry$Traffic", "steps", "LFloodFerry$Row;", true)
  | _ => ("FloodFerry$Traffic", "travellers", "LFloodFerry$Travellers;", true)
def tyX6 : Nat → FieldType := fun k => match k with
  | 0 => .object "FloodFerry$Plain"
  | 1 => .object "FloodFerry$Landings"
  | 2 => .object "FloodFerry$Fleet"
  | 3 => .object "FloodFerry$Chains"
  | 4 => .object "FloodFerry$Charts"
  | 5 => .int
  | 6 => .object "FloodFerry$Row"
  | 7 => .object "FloodFerry$Row"
  | 8 => .object "FloodFerry$Row"
  | 9 => .object "FloodFerry$Row"
  | _ => .object "FloodFerry$Travellers"
abbrev wsX60 : List Cond := u_ws RX6 TX6 11
theorem nmX6 : ∀ a, a < 11 → ∀ b, b < 11 → a ≠ b → (TX6 a).2.1 ≠ (TX6 b).2.1 := by decide +kernel
theorem tyX6_ok : ∀ k, k < 11 → parseFieldDescriptor (TX6 k).2.2.1 = some (tyX6 k) := by decide +kernel
abbrev cX6_init : ByteArray := prog_8_method_1_code
def yX6_init : MethodName := ⟨RX6, "<init>", "(LFloodFerry$Plain;LFloodFerry$Landings;LFloodFerry$Fleet;LFloodFerry$Chains;LFloodFerry$Charts;)V"⟩
abbrev cX6_takeOver : ByteArray := prog_8_method_2_code
def yX6_takeOver : MethodName := ⟨RX6, "takeOver", "(LFloodFerry$Traffic;)V"⟩
abbrev cX6_place : ByteArray := prog_8_method_3_code
def yX6_place : MethodName := ⟨RX6, "place", "(III)V"⟩
abbrev cX6_level : ByteArray := prog_8_method_4_code
def yX6_level : MethodName := ⟨RX6, "level", "()I"⟩
abbrev cX6_isAground : ByteArray := prog_8_method_5_code
def yX6_isAground : MethodName := ⟨RX6, "isAground", "(I)Z"⟩
abbrev cX6_wayLeft : ByteArray := prog_8_method_6_code
def yX6_wayLeft : MethodName := ⟨RX6, "wayLeft", "(I)I"⟩
abbrev cX6_puntsAground : ByteArray := prog_8_method_7_code
def yX6_puntsAground : MethodName := ⟨RX6, "puntsAground", "()I"⟩
abbrev cX6_takingsInAll : ByteArray := prog_8_method_8_code
def yX6_takingsInAll : MethodName := ⟨RX6, "takingsInAll", "()I"⟩
abbrev cX6_chainLeft : ByteArray := prog_8_method_9_code
def yX6_chainLeft : MethodName := ⟨RX6, "chainLeft", "(I)I"⟩
abbrev cX6_goOn : ByteArray := prog_8_method_10_code
def yX6_goOn : MethodName := ⟨RX6, "goOn", "()I"⟩
abbrev cX6_hasLanded : ByteArray := prog_8_method_11_code
def yX6_hasLanded : MethodName := ⟨RX6, "hasLanded", "(I)Z"⟩
abbrev cX6_turnRound : ByteArray := prog_8_method_12_code
def yX6_turnRound : MethodName := ⟨RX6, "turnRound", "(I)I"⟩
abbrev cX6_load : ByteArray := prog_8_method_13_code
def yX6_load : MethodName := ⟨RX6, "load", "(II)V"⟩
abbrev cX6_takes : ByteArray := prog_8_method_14_code
def yX6_takes : MethodName := ⟨RX6, "takes", "(III)Z"⟩
abbrev cX6_stepOn : ByteArray := prog_8_method_15_code
def yX6_stepOn : MethodName := ⟨RX6, "stepOn", "(I)V"⟩
def RX7 : String := "FloodFerry$Travellers"
def TX7 : u_T := fun k => match k with
  | 0 => ("FloodFerry$Travellers", "number", "I", false)
  | 1 => ("FloodFerry$Travellers", "wish", "LFloodFerry$Row;", true)
  | 2 => ("FloodFerry$Travellers", "purse", "LFloodFerry$Row;", true)
  | 3 => ("FloodFerry$Travellers", "landing", "LFloodFerry$Row;", true)
  | 4 => ("FloodFerry$Travellers", "punt", "LFloodFerry$Row;", true)
  | _ => ("FloodFerry$Travellers", "cameAt", "LFloodFerry$Row;", true)
def tyX7 : Nat → FieldType := fun k => match k with
  | 0 => .int
  | 1 => .object "FloodFerry$Row"
  | 2 => .object "FloodFerry$Row"
  | 3 => .object "FloodFerry$Row"
  | 4 => .object "FloodFerry$Row"
  | _ => .object "FloodFerry$Row"
abbrev wsX70 : List Cond := u_ws RX7 TX7 6
theorem nmX7 : ∀ a, a < 6 → ∀ b, b < 6 → a ≠ b → (TX7 a).2.1 ≠ (TX7 b).2.1 := by decide +kernel
theorem tyX7_ok : ∀ k, k < 6 → parseFieldDescriptor (TX7 k).2.2.1 = some (tyX7 k) := by decide +kernel
abbrev cX7_init : ByteArray := prog_9_method_1_code
def yX7_init : MethodName := ⟨RX7, "<init>", "()V"⟩
abbrev cX7_takeOver : ByteArray := prog_9_method_2_code
def yX7_takeOver : MethodName := ⟨RX7, "takeOver", "(LFloodFerry$Travellers;)V"⟩
abbrev cX7_add : ByteArray := prog_9_method_3_code
def yX7_add : MethodName := ⟨RX7, "add", "(III)I"⟩
abbrev cX7_hasCome : ByteArray := prog_9_method_4_code
def yX7_hasCome : MethodName := ⟨RX7, "hasCome", "(I)Z"⟩
abbrev cX7_rides : ByteArray := prog_9_method_5_code
def yX7_rides : MethodName := ⟨RX7, "rides", "(I)Z"⟩
abbrev cX7_waitsAt : ByteArray := prog_9_method_6_code
def yX7_waitsAt : MethodName := ⟨RX7, "waitsAt", "(II)Z"⟩
abbrev cX7_getIn : ByteArray := prog_9_method_7_code
def yX7_getIn : MethodName := ⟨RX7, "getIn", "(III)V"⟩
abbrev cX7_getOut : ByteArray := prog_9_method_8_code
def yX7_getOut : MethodName := ⟨RX7, "getOut", "(III)I"⟩
abbrev cX7_waitingAt : ByteArray := prog_9_method_9_code
def yX7_waitingAt : MethodName := ⟨RX7, "waitingAt", "(I)I"⟩
abbrev cX7_comeTo : ByteArray := prog_9_method_10_code
def yX7_comeTo : MethodName := ⟨RX7, "comeTo", "(I)I"⟩
abbrev cX7_riding : ByteArray := prog_9_method_11_code
def yX7_riding : MethodName := ⟨RX7, "riding", "()I"⟩
abbrev cX7_come : ByteArray := prog_9_method_12_code
def yX7_come : MethodName := ⟨RX7, "come", "()I"⟩
abbrev cX7_waiting : ByteArray := prog_9_method_13_code
def yX7_waiting : MethodName := ⟨RX7, "waiting", "()I"⟩
def RX8 : String := "FloodFerry"
def TX8 : u_T := fun k => match k with
  | 0 => ("FloodFerry", "plain", "LFloodFerry$Plain;", true)
  | 1 => ("FloodFerry", "landings", "LFloodFerry$Landings;", true)
  | 2 => ("FloodFerry", "fleet", "LFloodFerry$Fleet;", true)
  | 3 => ("FloodFerry", "chains", "LFloodFerry$Chains;", true)
  | 4 => ("FloodFerry", "charts", "LFloodFerry$Charts;", true)
  | 5 => ("FloodFerry", "now", "LFloodFerry$Traffic;", true)
  | _ => ("FloodFerry", "ahead", "LFloodFerry$Traffic;", true)
def tyX8 : Nat → FieldType := fun k => match k with
  | 0 => .object "FloodFerry$Plain"
  | 1 => .object "FloodFerry$Landings"
  | 2 => .object "FloodFerry$Fleet"
  | 3 => .object "FloodFerry$Chains"
  | 4 => .object "FloodFerry$Charts"
  | 5 => .object "FloodFerry$Traffic"
  | _ => .object "FloodFerry$Traffic"
abbrev wsX80 : List Cond := u_ws RX8 TX8 7
theorem nmX8 : ∀ a, a < 7 → ∀ b, b < 7 → a ≠ b → (TX8 a).2.1 ≠ (TX8 b).2.1 := by decide +kernel
theorem tyX8_ok : ∀ k, k < 7 → parseFieldDescriptor (TX8 k).2.2.1 = some (tyX8 k) := by decide +kernel
abbrev cX8_init : ByteArray := prog_1_method_1_code
def yX8_init : MethodName := ⟨RX8, "<init>", "()V"⟩
abbrev cX8_setGround : ByteArray := prog_1_method_2_code
def yX8_setGround : MethodName := ⟨RX8, "setGround", "(III)I"⟩
abbrev cX8_setWater : ByteArray := prog_1_method_3_code
def yX8_setWater : MethodName := ⟨RX8, "setWater", "(II)I"⟩
abbrev cX8_setStake : ByteArray := prog_1_method_4_code
def yX8_setStake : MethodName := ⟨RX8, "setStake", "(III)I"⟩
abbrev cX8_cell : ByteArray := prog_1_method_5_code
def yX8_cell : MethodName := ⟨RX8, "cell", "(III)I"⟩
abbrev cX8_addLanding : ByteArray := prog_1_method_6_code
def yX8_addLanding : MethodName := ⟨RX8, "addLanding", "(II)I"⟩
abbrev cX8_launch : ByteArray := prog_1_method_7_code
def yX8_launch : MethodName := ⟨RX8, "launch", "(IIIIII)I"⟩
abbrev cX8_setToll : ByteArray := prog_1_method_8_code
def yX8_setToll : MethodName := ⟨RX8, "setToll", "(II)I"⟩
abbrev cX8_punt : ByteArray := prog_1_method_9_code
def yX8_punt : MethodName := ⟨RX8, "punt", "(II)I"⟩
abbrev cX8_tellPunt : ByteArray := prog_1_method_10_code
def yX8_tellPunt : MethodName := ⟨RX8, "tellPunt", "(II)I"⟩
abbrev cX8_addTraveller : ByteArray := prog_1_method_11_code
def yX8_addTraveller : MethodName := ⟨RX8, "addTraveller", "(III)I"⟩
abbrev cX8_traveller : ByteArray := prog_1_method_12_code
def yX8_traveller : MethodName := ⟨RX8, "traveller", "(II)I"⟩
abbrev cX8_tellTraveller : ByteArray := prog_1_method_13_code
def yX8_tellTraveller : MethodName := ⟨RX8, "tellTraveller", "(II)I"⟩
abbrev cX8_landing : ByteArray := prog_1_method_14_code
def yX8_landing : MethodName := ⟨RX8, "landing", "(II)I"⟩
abbrev cX8_tellLanding : ByteArray := prog_1_method_15_code
def yX8_tellLanding : MethodName := ⟨RX8, "tellLanding", "(II)I"⟩
abbrev cX8_pass : ByteArray := prog_1_method_16_code
def yX8_pass : MethodName := ⟨RX8, "pass", "(I)I"⟩
abbrev cX8_count : ByteArray := prog_1_method_17_code
def yX8_count : MethodName := ⟨RX8, "count", "(I)I"⟩
abbrev cX8_tellCount : ByteArray := prog_1_method_18_code
def yX8_tellCount : MethodName := ⟨RX8, "tellCount", "(I)I"⟩
abbrev cX8_crossing : ByteArray := prog_1_method_19_code
def yX8_crossing : MethodName := ⟨RX8, "crossing", "(II)I"⟩
abbrev cX8_crossingAt : ByteArray := prog_1_method_20_code
def yX8_crossingAt : MethodName := ⟨RX8, "crossingAt", "(II)I"⟩
abbrev cX8_opens : ByteArray := prog_1_method_21_code
def yX8_opens : MethodName := ⟨RX8, "opens", "(I)I"⟩
abbrev cX8_chain : ByteArray := prog_1_method_22_code
def yX8_chain : MethodName := ⟨RX8, "chain", "(III)I"⟩
abbrev cX8_aground : ByteArray := prog_1_method_23_code
def yX8_aground : MethodName := ⟨RX8, "aground", "(II)I"⟩
abbrev cX8_arrives : ByteArray := prog_1_method_24_code
def yX8_arrives : MethodName := ⟨RX8, "arrives", "(I)I"⟩
abbrev cX8_mean : ByteArray := prog_1_method_25_code
def yX8_mean : MethodName := ⟨RX8, "mean", "()D"⟩
abbrev cX8_digest : ByteArray := prog_1_method_26_code
def yX8_digest : MethodName := ⟨RX8, "digest", "()J"⟩
abbrev cX8_digestOfCounts : ByteArray := prog_1_method_27_code
def yX8_digestOfCounts : MethodName := ⟨RX8, "digestOfCounts", "(J)J"⟩
abbrev cX8_digestOfPlain : ByteArray := prog_1_method_28_code
def yX8_digestOfPlain : MethodName := ⟨RX8, "digestOfPlain", "(J)J"⟩
abbrev cX8_needIndex : ByteArray := prog_1_method_29_code
def yX8_needIndex : MethodName := ⟨RX8, "needIndex", "(Z)V"⟩
abbrev cX8_needArgument : ByteArray := prog_1_method_30_code
def yX8_needArgument : MethodName := ⟨RX8, "needArgument", "(Z)V"⟩
abbrev cX8_needState : ByteArray := prog_1_method_31_code
def yX8_needState : MethodName := ⟨RX8, "needState", "(Z)V"⟩
abbrev cX8_within : ByteArray := prog_1_method_32_code
def yX8_within : MethodName := ⟨RX8, "within", "(III)Z"⟩
abbrev cX8_isOneOf : ByteArray := prog_1_method_33_code
def yX8_isOneOf : MethodName := ⟨RX8, "isOneOf", "(II)Z"⟩
abbrev cX8_onPlain : ByteArray := prog_1_method_34_code
def yX8_onPlain : MethodName := ⟨RX8, "onPlain", "(II)Z"⟩
abbrev cX8_cellOf : ByteArray := prog_1_method_35_code
def yX8_cellOf : MethodName := ⟨RX8, "cellOf", "(II)I"⟩
abbrev cX8_columnOf : ByteArray := prog_1_method_36_code
def yX8_columnOf : MethodName := ⟨RX8, "columnOf", "(I)I"⟩
abbrev cX8_rowOf : ByteArray := prog_1_method_37_code
def yX8_rowOf : MethodName := ⟨RX8, "rowOf", "(I)I"⟩
def RX9 : String := "FloodFerryModel"
def TX9 : u_T := fun k => match k with
  | 0 => ("FloodFerryModel", "thrown", "I", false)
  | 1 => ("FloodFerryModel", "ground", "[I", true)
  | 2 => ("FloodFerryModel", "stakes", "[I", true)
  | 3 => ("FloodFerryModel", "water", "[I", true)
  | 4 => ("FloodFerryModel", "landings", "I", false)
  | 5 => ("FloodFerryModel", "cells", "[I", true)
  | 6 => ("FloodFerryModel", "punts", "I", false)
  | 7 => ("FloodFerryModel", "made", "[I", true)
  | 8 => ("FloodFerryModel", "travellers", "I", false)
  | 9 => ("FloodFerryModel", "hour", "I", false)
  | 10 => ("FloodFerryModel", "going", "[I", false)
  | 11 => ("FloodFerryModel", "people", "[I", false)
  | 12 => ("FloodFerryModel", "wave", "[I", true)
  | 13 => ("FloodFerryModel", "few", "[I", true)
  | _ => ("FloodFerryModel", "tolls", "[I", true)
def tyX9 : Nat → FieldType := fun k => match k with
  | 0 => .int
  | 1 => .array .int
  | 2 => .array .int
  | 3 => .array .int
  | 4 => .int
  | 5 => .array .int
  | 6 => .int
  | 7 => .array .int
  | 8 => .int
  | 9 => .int
  | 10 => .array .int
  | 11 => .array .int
  | 12 => .array .int
  | 13 => .array .int
  | _ => .array .int
abbrev wsX90 : List Cond := u_ws RX9 TX9 15
theorem nmX9 : ∀ a, a < 15 → ∀ b, b < 15 → a ≠ b → (TX9 a).2.1 ≠ (TX9 b).2.1 := by decide +kernel
theorem tyX9_ok : ∀ k, k < 15 → parseFieldDescriptor (TX9 k).2.2.1 = some (tyX9 k) := by decide +kernel
abbrev cX9_init : ByteArray := prog_11_method_1_code
def yX9_init : MethodName := ⟨RX9, "<init>", "()V"⟩
abbrev cX9_thrown : ByteArray := prog_11_method_2_code
def yX9_thrown : MethodName := ⟨RX9, "thrown", "()I"⟩
abbrev cX9_fail : ByteArray := prog_11_method_3_code
def yX9_fail : MethodName := ⟨RX9, "fail", "(I)I"⟩
abbrev cX9_isIn : ByteArray := prog_11_method_4_code
def yX9_isIn : MethodName := ⟨RX9, "isIn", "(III)Z"⟩
abbrev cX9_isCell : ByteArray := prog_11_method_5_code
def yX9_isCell : MethodName := ⟨RX9, "isCell", "(II)Z"⟩
abbrev cX9_isLanding : ByteArray := prog_11_method_6_code
def yX9_isLanding : MethodName := ⟨RX9, "isLanding", "(I)Z"⟩
abbrev cX9_isPunt : ByteArray := prog_11_method_7_code
def yX9_isPunt : MethodName := ⟨RX9, "isPunt", "(I)Z"⟩
abbrev cX9_pu : ByteArray := prog_11_method_8_code
def yX9_pu : MethodName := ⟨RX9, "pu", "(II)I"⟩
abbrev cX9_go : ByteArray := prog_11_method_9_code
def yX9_go : MethodName := ⟨RX9, "go", "(II)I"⟩
abbrev cX9_setGo : ByteArray := prog_11_method_10_code
def yX9_setGo : MethodName := ⟨RX9, "setGo", "(III)V"⟩
abbrev cX9_who : ByteArray := prog_11_method_11_code
def yX9_who : MethodName := ⟨RX9, "who", "(II)I"⟩
abbrev cX9_setWho : ByteArray := prog_11_method_12_code
def yX9_setWho : MethodName := ⟨RX9, "setWho", "(III)V"⟩
abbrev cX9_level : ByteArray := prog_11_method_13_code
def yX9_level : MethodName := ⟨RX9, "level", "()I"⟩
abbrev cX9_depth : ByteArray := prog_11_method_14_code
def yX9_depth : MethodName := ⟨RX9, "depth", "(II)I"⟩
abbrev cX9_floats : ByteArray := prog_11_method_15_code
def yX9_floats : MethodName := ⟨RX9, "floats", "(III)Z"⟩
abbrev cX9_beside : ByteArray := prog_11_method_16_code
def yX9_beside : MethodName := ⟨RX9, "beside", "(II)I"⟩
abbrev cX9_setGround : ByteArray := prog_11_method_17_code
def yX9_setGround : MethodName := ⟨RX9, "setGround", "(III)I"⟩
abbrev cX9_setWater : ByteArray := prog_11_method_18_code
def yX9_setWater : MethodName := ⟨RX9, "setWater", "(II)I"⟩
abbrev cX9_setStake : ByteArray := prog_11_method_19_code
def yX9_setStake : MethodName := ⟨RX9, "setStake", "(III)I"⟩
abbrev cX9_landingAt : ByteArray := prog_11_method_20_code
def yX9_landingAt : MethodName := ⟨RX9, "landingAt", "(I)I"⟩
abbrev cX9_cellTold : ByteArray := prog_11_method_21_code
def yX9_cellTold : MethodName := ⟨RX9, "cellTold", "(II)I"⟩
abbrev cX9_cell : ByteArray := prog_11_method_22_code
def yX9_cell : MethodName := ⟨RX9, "cell", "(III)I"⟩
abbrev cX9_addLanding : ByteArray := prog_11_method_23_code
def yX9_addLanding : MethodName := ⟨RX9, "addLanding", "(II)I"⟩
abbrev cX9_launch : ByteArray := prog_11_method_24_code
def yX9_launch : MethodName := ⟨RX9, "launch", "(IIIIII)I"⟩
abbrev cX9_setToll : ByteArray := prog_11_method_25_code
def yX9_setToll : MethodName := ⟨RX9, "setToll", "(II)I"⟩
abbrev cX9_look : ByteArray := prog_11_method_26_code
def yX9_look : MethodName := ⟨RX9, "look", "(III)V"⟩
abbrev cX9_boundCell : ByteArray := prog_11_method_27_code
def yX9_boundCell : MethodName := ⟨RX9, "boundCell", "(I)I"⟩
abbrev cX9_isAground : ByteArray := prog_11_method_28_code
def yX9_isAground : MethodName := ⟨RX9, "isAground", "(I)Z"⟩
abbrev cX9_ridersOf : ByteArray := prog_11_method_29_code
def yX9_ridersOf : MethodName := ⟨RX9, "ridersOf", "(I)I"⟩
abbrev cX9_puntTold : ByteArray := prog_11_method_30_code
def yX9_puntTold : MethodName := ⟨RX9, "puntTold", "(II)I"⟩
abbrev cX9_punt : ByteArray := prog_11_method_31_code
def yX9_punt : MethodName := ⟨RX9, "punt", "(II)I"⟩
abbrev cX9_addTraveller : ByteArray := prog_11_method_32_code
def yX9_addTraveller : MethodName := ⟨RX9, "addTraveller", "(III)I"⟩
abbrev cX9_across : ByteArray := prog_11_method_33_code
def yX9_across : MethodName := ⟨RX9, "across", "(II)I"⟩
abbrev cX9_link : ByteArray := prog_11_method_34_code
def yX9_link : MethodName := ⟨RX9, "link", "(I)V"⟩
abbrev cX9_takes : ByteArray := prog_11_method_35_code
def yX9_takes : MethodName := ⟨RX9, "takes", "(II)I"⟩
abbrev cX9_chainFrom : ByteArray := prog_11_method_36_code
def yX9_chainFrom : MethodName := ⟨RX9, "chainFrom", "(II)I"⟩
abbrev cX9_hasCome : ByteArray := prog_11_method_37_code
def yX9_hasCome : MethodName := ⟨RX9, "hasCome", "(I)Z"⟩
abbrev cX9_travellerTold : ByteArray := prog_11_method_38_code
def yX9_travellerTold : MethodName := ⟨RX9, "travellerTold", "(II)I"⟩
abbrev cX9_traveller : ByteArray := prog_11_method_39_code
def yX9_traveller : MethodName := ⟨RX9, "traveller", "(II)I"⟩
abbrev cX9_landingTold : ByteArray := prog_11_method_40_code
def yX9_landingTold : MethodName := ⟨RX9, "landingTold", "(II)I"⟩
abbrev cX9_landing : ByteArray := prog_11_method_41_code
def yX9_landing : MethodName := ⟨RX9, "landing", "(II)I"⟩
abbrev cX9_land : ByteArray := prog_11_method_42_code
def yX9_land : MethodName := ⟨RX9, "land", "(I)I"⟩
abbrev cX9_step : ByteArray := prog_11_method_43_code
def yX9_step : MethodName := ⟨RX9, "step", "(I)V"⟩
abbrev cX9_hourOn : ByteArray := prog_11_method_44_code
def yX9_hourOn : MethodName := ⟨RX9, "hourOn", "()I"⟩
abbrev cX9_pass : ByteArray := prog_11_method_45_code
def yX9_pass : MethodName := ⟨RX9, "pass", "(I)I"⟩
abbrev cX9_counted : ByteArray := prog_11_method_46_code
def yX9_counted : MethodName := ⟨RX9, "counted", "(I)I"⟩
abbrev cX9_count : ByteArray := prog_11_method_47_code
def yX9_count : MethodName := ⟨RX9, "count", "(I)I"⟩
abbrev cX9_crossingAt : ByteArray := prog_11_method_48_code
def yX9_crossingAt : MethodName := ⟨RX9, "crossingAt", "(II)I"⟩
abbrev cX9_crossing : ByteArray := prog_11_method_49_code
def yX9_crossing : MethodName := ⟨RX9, "crossing", "(II)I"⟩
abbrev cX9_opens : ByteArray := prog_11_method_50_code
def yX9_opens : MethodName := ⟨RX9, "opens", "(I)I"⟩
abbrev cX9_chain : ByteArray := prog_11_method_51_code
def yX9_chain : MethodName := ⟨RX9, "chain", "(III)I"⟩
abbrev cX9_kept : ByteArray := prog_11_method_52_code
def yX9_kept : MethodName := ⟨RX9, "kept", "()[[I"⟩
abbrev cX9_bringBack : ByteArray := prog_11_method_53_code
def yX9_bringBack : MethodName := ⟨RX9, "bringBack", "([[I)V"⟩
abbrev cX9_aground : ByteArray := prog_11_method_54_code
def yX9_aground : MethodName := ⟨RX9, "aground", "(II)I"⟩
abbrev cX9_arrives : ByteArray := prog_11_method_55_code
def yX9_arrives : MethodName := ⟨RX9, "arrives", "(I)I"⟩
abbrev cX9_mean : ByteArray := prog_11_method_56_code
def yX9_mean : MethodName := ⟨RX9, "mean", "()D"⟩
abbrev cX9_digest : ByteArray := prog_11_method_57_code
def yX9_digest : MethodName := ⟨RX9, "digest", "()J"⟩
def RJx145de : String := "java/io/Serializable"
def TJx145de : u_T := fun k => match k with
  | _ => ("", "", "", false)
def tyJx145de : Nat → FieldType := fun k => match k with
  | _ => .int
theorem nmJx145de : ∀ a, a < 0 → ∀ b, b < 0 → a ≠ b → (TJx145de a).2.1 ≠ (TJx145de b).2.1 := by decide +kernel
theorem tyJx145de_ok : ∀ k, k < 0 → parseFieldDescriptor (TJx145de k).2.2.1 = some (tyJx145de k) := by decide +kernel
def RJx8e188 : String := "java/lang/Cloneable"
def TJx8e188 : u_T := fun k => match k with
  | _ => ("", "", "", false)
def tyJx8e188 : Nat → FieldType := fun k => match k with
  | _ => .int
theorem nmJx8e188 : ∀ a, a < 0 → ∀ b, b < 0 → a ≠ b → (TJx8e188 a).2.1 ≠ (TJx8e188 b).2.1 := by decide +kernel
theorem tyJx8e188_ok : ∀ k, k < 0 → parseFieldDescriptor (TJx8e188 k).2.2.1 = some (tyJx8e188 k) := by decide +kernel
def RJ9 : String := "java/lang/Math"
def TJ9 : u_T := fun k => match k with
  | _ => ("", "", "", false)
def tyJ9 : Nat → FieldType := fun k => match k with
  | _ => .int
theorem nmJ9 : ∀ a, a < 0 → ∀ b, b < 0 → a ≠ b → (TJ9 a).2.1 ≠ (TJ9 b).2.1 := by decide +kernel
theorem tyJ9_ok : ∀ k, k < 0 → parseFieldDescriptor (TJ9 k).2.2.1 = some (tyJ9 k) := by decide +kernel
abbrev cJ9_max_7cf53 : ByteArray := prog_17_method_65_code
def yJ9_max_7cf53 : MethodName := ⟨RJ9, "max", "(II)I"⟩
abbrev cJ9_min_7cf53 : ByteArray := prog_17_method_69_code
def yJ9_min_7cf53 : MethodName := ⟨RJ9, "min", "(II)I"⟩
def RJ0 : String := "java/lang/String"
def TJ0 : u_T := fun k => match k with
  | _ => ("", "", "", false)
def tyJ0 : Nat → FieldType := fun k => match k with
  | _ => .int
theorem nmJ0 : ∀ a, a < 0 → ∀ b, b < 0 → a ≠ b → (TJ0 a).2.1 ≠ (TJ0 b).2.1 := by decide +kernel
theorem tyJ0_ok : ∀ k, k < 0 → parseFieldDescriptor (TJ0 k).2.2.1 = some (tyJ0 k) := by decide +kernel
def RJ10 : String := "java/lang/System"
def TJ10 : u_T := fun k => match k with
  | _ => ("", "", "", false)
def tyJ10 : Nat → FieldType := fun k => match k with
  | _ => .int
theorem nmJ10 : ∀ a, a < 0 → ∀ b, b < 0 → a ≠ b → (TJ10 a).2.1 ≠ (TJ10 b).2.1 := by decide +kernel
theorem tyJ10_ok : ∀ k, k < 0 → parseFieldDescriptor (TJ10 k).2.2.1 = some (tyJ10 k) := by decide +kernel
def RJ7 : String := "java/util/Arrays"
def TJ7 : u_T := fun k => match k with
  | _ => ("", "", "", false)
def tyJ7 : Nat → FieldType := fun k => match k with
  | _ => .int
theorem nmJ7 : ∀ a, a < 0 → ∀ b, b < 0 → a ≠ b → (TJ7 a).2.1 ≠ (TJ7 b).2.1 := by decide +kernel
theorem tyJ7_ok : ∀ k, k < 0 → parseFieldDescriptor (TJ7 k).2.2.1 = some (tyJ7 k) := by decide +kernel
abbrev cJ7_fill_53178 : ByteArray := prog_22_method_103_code
def yJ7_fill_53178 : MethodName := ⟨RJ7, "fill", "([II)V"⟩
def RL : String := "FloodFerryLaw"
abbrev cL_setGround : ByteArray := method_3_code
def yL_setGround : MethodName := ⟨RL, "setGround", "(LFloodFerry;III[J)I"⟩
abbrev cL_setWater : ByteArray := method_4_code
def yL_setWater : MethodName := ⟨RL, "setWater", "(LFloodFerry;II[J)I"⟩
abbrev cL_setStake : ByteArray := method_5_code
def yL_setStake : MethodName := ⟨RL, "setStake", "(LFloodFerry;III[J)I"⟩
abbrev cL_cell : ByteArray := method_6_code
def yL_cell : MethodName := ⟨RL, "cell", "(LFloodFerry;III[J)I"⟩
abbrev cL_addLanding : ByteArray := method_7_code
def yL_addLanding : MethodName := ⟨RL, "addLanding", "(LFloodFerry;II[J)I"⟩
abbrev cL_launch : ByteArray := method_8_code
def yL_launch : MethodName := ⟨RL, "launch", "(LFloodFerry;IIIIII[J)I"⟩
abbrev cL_setToll : ByteArray := method_9_code
def yL_setToll : MethodName := ⟨RL, "setToll", "(LFloodFerry;II[J)I"⟩
abbrev cL_punt : ByteArray := method_10_code
def yL_punt : MethodName := ⟨RL, "punt", "(LFloodFerry;II[J)I"⟩
abbrev cL_addTraveller : ByteArray := method_11_code
def yL_addTraveller : MethodName := ⟨RL, "addTraveller", "(LFloodFerry;III[J)I"⟩
abbrev cL_traveller : ByteArray := method_12_code
def yL_traveller : MethodName := ⟨RL, "traveller", "(LFloodFerry;II[J)I"⟩
abbrev cL_landing : ByteArray := method_13_code
def yL_landing : MethodName := ⟨RL, "landing", "(LFloodFerry;II[J)I"⟩
abbrev cL_pass : ByteArray := method_14_code
def yL_pass : MethodName := ⟨RL, "pass", "(LFloodFerry;I[J)I"⟩
abbrev cL_count : ByteArray := method_15_code
def yL_count : MethodName := ⟨RL, "count", "(LFloodFerry;I[J)I"⟩
abbrev cL_crossing : ByteArray := method_16_code
def yL_crossing : MethodName := ⟨RL, "crossing", "(LFloodFerry;II[J)I"⟩
abbrev cL_opens : ByteArray := method_17_code
def yL_opens : MethodName := ⟨RL, "opens", "(LFloodFerry;I[J)I"⟩
abbrev cL_chain : ByteArray := method_18_code
def yL_chain : MethodName := ⟨RL, "chain", "(LFloodFerry;III[J)I"⟩
abbrev cL_aground : ByteArray := method_19_code
def yL_aground : MethodName := ⟨RL, "aground", "(LFloodFerry;II[J)I"⟩
abbrev cL_arrives : ByteArray := method_20_code
def yL_arrives : MethodName := ⟨RL, "arrives", "(LFloodFerry;I[J)I"⟩
abbrev cL_law : ByteArray := code
def yL_law : MethodName := ⟨RL, "law", "([I)Z"⟩
abbrev vwCl : List vw_C := [(RX0, TX0, 4), (RX1, TX1, 6), (RX2, TX2, 7), (RX3, TX3, 2), (RX4, TX4, 3), (RX5, TX5, 1), (RX6, TX6, 11), (RX7, TX7, 6), (RX8, TX8, 7), (RX9, TX9, 15)]
end
section
theorem dX0_init_0 : decode cX0_init 0 = .ok (.aload_n 0, 1) := by decide +kernel
theorem dX0_init_1 : decode cX0_init 1 = .ok (.invokespecial 3, 3) := by decide +kernel
theorem dX0_init_4 : decode cX0_init 4 = .ok (.aload_n 0, 1) := by decide +kernel
theorem dX0_init_5 : decode cX0_init 5 = .ok (.new 9, 3) := by decide +kernel
theorem dX0_init_8 : decode cX0_init 8 = .ok (.dup, 1) := by decide +kernel
theorem dX0_init_9 : decode cX0_init 9 = .ok (.bipush 64, 2) := by decide +kernel
theorem dX0_init_11 : decode cX0_init 11 = .ok (.invokespecial 11, 3) := by decide +kernel
theorem dX0_init_14 : decode cX0_init 14 = .ok (.putfield 14, 3) := by decide +kernel
theorem dX0_init_17 : decode cX0_init 17 = .ok (.aload_n 0, 1) := by decide +kernel
theorem dX0_init_18 : decode cX0_init 18 = .ok (.new 9, 3) := by decide +kernel
theorem dX0_init_21 : decode cX0_init 21 = .ok (.dup, 1) := by decide +kernel
theorem dX0_init_22 : decode cX0_init 22 = .ok (.bipush 64, 2) := by decide +kernel
theorem dX0_init_24 : decode cX0_init 24 = .ok (.invokespecial 11, 3) := by decide +kernel
theorem dX0_init_27 : decode cX0_init 27 = .ok (.putfield 20, 3) := by decide +kernel
theorem dX0_init_30 : decode cX0_init 30 = .ok (.aload_n 0, 1) := by decide +kernel
theorem dX0_init_31 : decode cX0_init 31 = .ok (.new 9, 3) := by decide +kernel
theorem dX0_init_34 : decode cX0_init 34 = .ok (.dup, 1) := by decide +kernel
theorem dX0_init_35 : decode cX0_init 35 = .ok (.bipush 8, 2) := by decide +kernel
theorem dX0_init_37 : decode cX0_init 37 = .ok (.invokespecial 11, 3) := by decide +kernel
theorem dX0_init_40 : decode cX0_init 40 = .ok (.putfield 23, 3) := by decide +kernel
theorem dX0_init_43 : decode cX0_init 43 = .ok (.aload_n 0, 1) := by decide +kernel
theorem dX0_init_44 : decode cX0_init 44 = .ok (.aload_n 1, 1) := by decide +kernel
theorem dX0_init_45 : decode cX0_init 45 = .ok (.putfield 26, 3) := by decide +kernel
theorem dX0_init_48 : decode cX0_init 48 = .ok (.aload_n 0, 1) := by decide +kernel
theorem dX0_init_49 : decode cX0_init 49 = .ok (.invokevirtual 30, 3) := by decide +kernel
theorem dX0_init_52 : decode cX0_init 52 = .ok (.return_, 1) := by decide +kernel
theorem dX0_length_0 : decode cX0_length 0 = .ok (.aload_n 0, 1) := by decide +kernel
theorem dX0_length_1 : decode cX0_length 1 = .ok (.getfield 14, 3) := by decide +kernel
theorem dX0_length_4 : decode cX0_length 4 = .ok (.iload_n 1, 1) := by decide +kernel
theorem dX0_length_5 : decode cX0_length 5 = .ok (.bipush 8, 2) := by decide +kernel
theorem dX0_length_7 : decode cX0_length 7 = .ok (.imul, 1) := by decide +kernel
theorem dX0_length_8 : decode cX0_length 8 = .ok (.iload_n 2, 1) := by decide +kernel
theorem dX0_length_9 : decode cX0_length 9 = .ok (.iadd, 1) := by decide +kernel
theorem dX0_length_10 : decode cX0_length 10 = .ok (.invokevirtual 33, 3) := by decide +kernel
theorem dX0_length_13 : decode cX0_length 13 = .ok (.ireturn, 1) := by decide +kernel
theorem dX0_firstPunt_0 : decode cX0_firstPunt 0 = .ok (.aload_n 0, 1) := by decide +kernel
theorem dX0_firstPunt_1 : decode cX0_firstPunt 1 = .ok (.getfield 20, 3) := by decide +kernel
theorem dX0_firstPunt_4 : decode cX0_firstPunt 4 = .ok (.iload_n 1, 1) := by decide +kernel
theorem dX0_firstPunt_5 : decode cX0_firstPunt 5 = .ok (.bipush 8, 2) := by decide +kernel
theorem dX0_firstPunt_7 : decode cX0_firstPunt 7 = .ok (.imul, 1) := by decide +kernel
theorem dX0_firstPunt_8 : decode cX0_firstPunt 8 = .ok (.iload_n 2, 1) := by decide +kernel
theorem dX0_firstPunt_9 : decode cX0_firstPunt 9 = .ok (.iadd, 1) := by decide +kernel
theorem dX0_firstPunt_10 : decode cX0_firstPunt 10 = .ok (.invokevirtual 33, 3) := by decide +kernel
theorem dX0_firstPunt_13 : decode cX0_firstPunt 13 = .ok (.ireturn, 1) := by decide +kernel
theorem dX0_reckon_0 : decode cX0_reckon 0 = .ok (.aload_n 0, 1) := by decide +kernel
theorem dX0_reckon_1 : decode cX0_reckon 1 = .ok (.getfield 14, 3) := by decide +kernel
theorem dX0_reckon_4 : decode cX0_reckon 4 = .ok (.iconst (-1), 1) := by decide +kernel
theorem dX0_reckon_5 : decode cX0_reckon 5 = .ok (.invokevirtual 37, 3) := by decide +kernel
theorem dX0_reckon_8 : decode cX0_reckon 8 = .ok (.iconst 0, 1) := by decide +kernel
theorem dX0_reckon_9 : decode cX0_reckon 9 = .ok (.istore_n 1, 1) := by decide +kernel
theorem dX0_reckon_10 : decode cX0_reckon 10 = .ok (.iload_n 1, 1) := by decide +kernel
theorem dX0_reckon_11 : decode cX0_reckon 11 = .ok (.bipush 8, 2) := by decide +kernel
theorem dX0_reckon_13 : decode cX0_reckon 13 = .ok (.if_icmp .ge 76, 3) := by decide +kernel
theorem dX0_reckon_16 : decode cX0_reckon 16 = .ok (.aload_n 0, 1) := by decide +kernel
theorem dX0_reckon_17 : decode cX0_reckon 17 = .ok (.getfield 14, 3) := by decide +kernel
theorem dX0_reckon_20 : decode cX0_reckon 20 = .ok (.iload_n 1, 1) := by decide +kernel
theorem dX0_reckon_21 : decode cX0_reckon 21 = .ok (.bipush 8, 2) := by decide +kernel
theorem dX0_reckon_23 : decode cX0_reckon 23 = .ok (.imul, 1) := by decide +kernel
theorem dX0_reckon_24 : decode cX0_reckon 24 = .ok (.iload_n 1, 1) := by decide +kernel
theorem dX0_reckon_25 : decode cX0_reckon 25 = .ok (.iadd, 1) := by decide +kernel
theorem dX0_reckon_26 : decode cX0_reckon 26 = .ok (.iconst 0, 1) := by decide +kernel
theorem dX0_reckon_27 : decode cX0_reckon 27 = .ok (.invokevirtual 40, 3) := by decide +kernel
theorem dX0_reckon_30 : decode cX0_reckon 30 = .ok (.iconst 0, 1) := by decide +kernel
theorem dX0_reckon_31 : decode cX0_reckon 31 = .ok (.istore_n 2, 1) := by decide +kernel
theorem dX0_reckon_32 : decode cX0_reckon 32 = .ok (.iload_n 2, 1) := by decide +kernel
theorem dX0_reckon_33 : decode cX0_reckon 33 = .ok (.bipush 6, 2) := by decide +kernel
theorem dX0_reckon_35 : decode cX0_reckon 35 = .ok (.if_icmp .ge 15, 3) := by decide +kernel
theorem dX0_reckon_38 : decode cX0_reckon 38 = .ok (.aload_n 0, 1) := by decide +kernel
theorem dX0_reckon_39 : decode cX0_reckon 39 = .ok (.iload_n 1, 1) := by decide +kernel
theorem dX0_reckon_40 : decode cX0_reckon 40 = .ok (.iload_n 2, 1) := by decide +kernel
theorem dX0_reckon_41 : decode cX0_reckon 41 = .ok (.invokevirtual 44, 3) := by decide +kernel
theorem dX0_reckon_44 : decode cX0_reckon 44 = .ok (.iinc 2 1, 3) := by decide +kernel
theorem dX0_reckon_47 : decode cX0_reckon 47 = .ok (.goto (-15), 3) := by decide +kernel
theorem dX0_reckon_50 : decode cX0_reckon 50 = .ok (.iconst 0, 1) := by decide +kernel
theorem dX0_reckon_51 : decode cX0_reckon 51 = .ok (.istore_n 2, 1) := by decide +kernel
theorem dX0_reckon_52 : decode cX0_reckon 52 = .ok (.iload_n 2, 1) := by decide +kernel
theorem dX0_reckon_53 : decode cX0_reckon 53 = .ok (.bipush 8, 2) := by decide +kernel
theorem dX0_reckon_55 : decode cX0_reckon 55 = .ok (.if_icmp .ge 28, 3) := by decide +kernel
theorem dX0_reckon_58 : decode cX0_reckon 58 = .ok (.aload_n 0, 1) := by decide +kernel
theorem dX0_reckon_59 : decode cX0_reckon 59 = .ok (.getfield 20, 3) := by decide +kernel
theorem dX0_reckon_62 : decode cX0_reckon 62 = .ok (.iload_n 2, 1) := by decide +kernel
theorem dX0_reckon_63 : decode cX0_reckon 63 = .ok (.bipush 8, 2) := by decide +kernel
theorem dX0_reckon_65 : decode cX0_reckon 65 = .ok (.imul, 1) := by decide +kernel
theorem dX0_reckon_66 : decode cX0_reckon 66 = .ok (.iload_n 1, 1) := by decide +kernel
theorem dX0_reckon_67 : decode cX0_reckon 67 = .ok (.iadd, 1) := by decide +kernel
theorem dX0_reckon_68 : decode cX0_reckon 68 = .ok (.aload_n 0, 1) := by decide +kernel
theorem dX0_reckon_69 : decode cX0_reckon 69 = .ok (.iload_n 2, 1) := by decide +kernel
theorem dX0_reckon_70 : decode cX0_reckon 70 = .ok (.iload_n 1, 1) := by decide +kernel
theorem dX0_reckon_71 : decode cX0_reckon 71 = .ok (.invokevirtual 47, 3) := by decide +kernel
theorem dX0_reckon_74 : decode cX0_reckon 74 = .ok (.invokevirtual 40, 3) := by decide +kernel
theorem dX0_reckon_77 : decode cX0_reckon 77 = .ok (.iinc 2 1, 3) := by decide +kernel
theorem dX0_reckon_80 : decode cX0_reckon 80 = .ok (.goto (-28), 3) := by decide +kernel
theorem dX0_reckon_83 : decode cX0_reckon 83 = .ok (.iinc 1 1, 3) := by decide +kernel
theorem dX0_reckon_86 : decode cX0_reckon 86 = .ok (.goto (-76), 3) := by decide +kernel
theorem dX0_reckon_89 : decode cX0_reckon 89 = .ok (.return_, 1) := by decide +kernel
theorem dX0_lengthenAll_0 : decode cX0_lengthenAll 0 = .ok (.iconst 0, 1) := by decide +kernel
theorem dX0_lengthenAll_1 : decode cX0_lengthenAll 1 = .ok (.istore_n 3, 1) := by decide +kernel
theorem dX0_lengthenAll_2 : decode cX0_lengthenAll 2 = .ok (.iload_n 3, 1) := by decide +kernel
theorem dX0_lengthenAll_3 : decode cX0_lengthenAll 3 = .ok (.aload_n 0, 1) := by decide +kernel
theorem dX0_lengthenAll_4 : decode cX0_lengthenAll 4 = .ok (.getfield 26, 3) := by decide +kernel
theorem dX0_lengthenAll_7 : decode cX0_lengthenAll 7 = .ok (.getfield 51, 3) := by decide +kernel
theorem dX0_lengthenAll_10 : decode cX0_lengthenAll 10 = .ok (.if_icmp .ge 65, 3) := by decide +kernel
theorem dX0_lengthenAll_13 : decode cX0_lengthenAll 13 = .ok (.aload_n 0, 1) := by decide +kernel
theorem dX0_lengthenAll_14 : decode cX0_lengthenAll 14 = .ok (.aload_n 0, 1) := by decide +kernel
theorem dX0_lengthenAll_15 : decode cX0_lengthenAll 15 = .ok (.getfield 26, 3) := by decide +kernel
theorem dX0_lengthenAll_18 : decode cX0_lengthenAll 18 = .ok (.getfield 57, 3) := by decide +kernel
theorem dX0_lengthenAll_21 : decode cX0_lengthenAll 21 = .ok (.iload_n 3, 1) := by decide +kernel
theorem dX0_lengthenAll_22 : decode cX0_lengthenAll 22 = .ok (.invokevirtual 33, 3) := by decide +kernel
theorem dX0_lengthenAll_25 : decode cX0_lengthenAll 25 = .ok (.aload_n 0, 1) := by decide +kernel
theorem dX0_lengthenAll_26 : decode cX0_lengthenAll 26 = .ok (.getfield 26, 3) := by decide +kernel
theorem dX0_lengthenAll_29 : decode cX0_lengthenAll 29 = .ok (.getfield 60, 3) := by decide +kernel
theorem dX0_lengthenAll_32 : decode cX0_lengthenAll 32 = .ok (.iload_n 3, 1) := by decide +kernel
theorem dX0_lengthenAll_33 : decode cX0_lengthenAll 33 = .ok (.invokevirtual 33, 3) := by decide +kernel
theorem dX0_lengthenAll_36 : decode cX0_lengthenAll 36 = .ok (.iload_n 1, 1) := by decide +kernel
theorem dX0_lengthenAll_37 : decode cX0_lengthenAll 37 = .ok (.iload_n 2, 1) := by decide +kernel
theorem dX0_lengthenAll_38 : decode cX0_lengthenAll 38 = .ok (.invokevirtual 63, 3) := by decide +kernel
theorem dX0_lengthenAll_41 : decode cX0_lengthenAll 41 = .ok (.aload_n 0, 1) := by decide +kernel
theorem dX0_lengthenAll_42 : decode cX0_lengthenAll 42 = .ok (.aload_n 0, 1) := by decide +kernel
theorem dX0_lengthenAll_43 : decode cX0_lengthenAll 43 = .ok (.getfield 26, 3) := by decide +kernel
theorem dX0_lengthenAll_46 : decode cX0_lengthenAll 46 = .ok (.getfield 60, 3) := by decide +kernel
theorem dX0_lengthenAll_49 : decode cX0_lengthenAll 49 = .ok (.iload_n 3, 1) := by decide +kernel
theorem dX0_lengthenAll_50 : decode cX0_lengthenAll 50 = .ok (.invokevirtual 33, 3) := by decide +kernel
theorem dX0_lengthenAll_53 : decode cX0_lengthenAll 53 = .ok (.aload_n 0, 1) := by decide +kernel
theorem dX0_lengthenAll_54 : decode cX0_lengthenAll 54 = .ok (.getfield 26, 3) := by decide +kernel
theorem dX0_lengthenAll_57 : decode cX0_lengthenAll 57 = .ok (.getfield 57, 3) := by decide +kernel
theorem dX0_lengthenAll_60 : decode cX0_lengthenAll 60 = .ok (.iload_n 3, 1) := by decide +kernel
theorem dX0_lengthenAll_61 : decode cX0_lengthenAll 61 = .ok (.invokevirtual 33, 3) := by decide +kernel
theorem dX0_lengthenAll_64 : decode cX0_lengthenAll 64 = .ok (.iload_n 1, 1) := by decide +kernel
theorem dX0_lengthenAll_65 : decode cX0_lengthenAll 65 = .ok (.iload_n 2, 1) := by decide +kernel
theorem dX0_lengthenAll_66 : decode cX0_lengthenAll 66 = .ok (.invokevirtual 63, 3) := by decide +kernel
theorem dX0_lengthenAll_69 : decode cX0_lengthenAll 69 = .ok (.iinc 3 1, 3) := by decide +kernel
theorem dX0_lengthenAll_72 : decode cX0_lengthenAll 72 = .ok (.goto (-70), 3) := by decide +kernel
theorem dX0_lengthenAll_75 : decode cX0_lengthenAll 75 = .ok (.return_, 1) := by decide +kernel
theorem dX0_lengthen_0 : decode cX0_lengthen 0 = .ok (.aload_n 0, 1) := by decide +kernel
theorem dX0_lengthen_1 : decode cX0_lengthen 1 = .ok (.iload_n 2, 1) := by decide +kernel
theorem dX0_lengthen_2 : decode cX0_lengthen 2 = .ok (.iload_n 3, 1) := by decide +kernel
theorem dX0_lengthen_3 : decode cX0_lengthen 3 = .ok (.invokevirtual 67, 3) := by decide +kernel
theorem dX0_lengthen_6 : decode cX0_lengthen 6 = .ok (.iload 4, 2) := by decide +kernel
theorem dX0_lengthen_8 : decode cX0_lengthen 8 = .ok (.if_icmp .ne 30, 3) := by decide +kernel
theorem dX0_lengthen_11 : decode cX0_lengthen 11 = .ok (.aload_n 0, 1) := by decide +kernel
theorem dX0_lengthen_12 : decode cX0_lengthen 12 = .ok (.iload_n 1, 1) := by decide +kernel
theorem dX0_lengthen_13 : decode cX0_lengthen 13 = .ok (.iload_n 3, 1) := by decide +kernel
theorem dX0_lengthen_14 : decode cX0_lengthen 14 = .ok (.invokevirtual 67, 3) := by decide +kernel
theorem dX0_lengthen_17 : decode cX0_lengthen 17 = .ok (.iconst (-1), 1) := by decide +kernel
theorem dX0_lengthen_18 : decode cX0_lengthen 18 = .ok (.if_icmp .ne 20, 3) := by decide +kernel
theorem dX0_lengthen_21 : decode cX0_lengthen 21 = .ok (.aload_n 0, 1) := by decide +kernel
theorem dX0_lengthen_22 : decode cX0_lengthen 22 = .ok (.getfield 14, 3) := by decide +kernel
theorem dX0_lengthen_25 : decode cX0_lengthen 25 = .ok (.iload_n 1, 1) := by decide +kernel
theorem dX0_lengthen_26 : decode cX0_lengthen 26 = .ok (.bipush 8, 2) := by decide +kernel
theorem dX0_lengthen_28 : decode cX0_lengthen 28 = .ok (.imul, 1) := by decide +kernel
theorem dX0_lengthen_29 : decode cX0_lengthen 29 = .ok (.iload_n 3, 1) := by decide +kernel
theorem dX0_lengthen_30 : decode cX0_lengthen 30 = .ok (.iadd, 1) := by decide +kernel
theorem dX0_lengthen_31 : decode cX0_lengthen 31 = .ok (.iload 4, 2) := by decide +kernel
theorem dX0_lengthen_33 : decode cX0_lengthen 33 = .ok (.iconst 1, 1) := by decide +kernel
theorem dX0_lengthen_34 : decode cX0_lengthen 34 = .ok (.iadd, 1) := by decide +kernel
theorem dX0_lengthen_35 : decode cX0_lengthen 35 = .ok (.invokevirtual 40, 3) := by decide +kernel
theorem dX0_lengthen_38 : decode cX0_lengthen 38 = .ok (.return_, 1) := by decide +kernel
theorem dX0_findFirst_0 : decode cX0_findFirst 0 = .ok (.iconst 0, 1) := by decide +kernel
theorem dX0_findFirst_1 : decode cX0_findFirst 1 = .ok (.istore_n 3, 1) := by decide +kernel
theorem dX0_findFirst_2 : decode cX0_findFirst 2 = .ok (.iload_n 3, 1) := by decide +kernel
theorem dX0_findFirst_3 : decode cX0_findFirst 3 = .ok (.aload_n 0, 1) := by decide +kernel
theorem dX0_findFirst_4 : decode cX0_findFirst 4 = .ok (.getfield 26, 3) := by decide +kernel
theorem dX0_findFirst_7 : decode cX0_findFirst 7 = .ok (.getfield 51, 3) := by decide +kernel
theorem dX0_findFirst_10 : decode cX0_findFirst 10 = .ok (.if_icmp .ge 21, 3) := by decide +kernel
theorem dX0_findFirst_13 : decode cX0_findFirst 13 = .ok (.aload_n 0, 1) := by decide +kernel
theorem dX0_findFirst_14 : decode cX0_findFirst 14 = .ok (.iload_n 3, 1) := by decide +kernel
theorem dX0_findFirst_15 : decode cX0_findFirst 15 = .ok (.iload_n 1, 1) := by decide +kernel
theorem dX0_findFirst_16 : decode cX0_findFirst 16 = .ok (.iload_n 2, 1) := by decide +kernel
theorem dX0_findFirst_17 : decode cX0_findFirst 17 = .ok (.invokevirtual 70, 3) := by decide +kernel
theorem dX0_findFirst_20 : decode cX0_findFirst 20 = .ok (.ifCond .eq 5, 3) := by decide +kernel
theorem dX0_findFirst_23 : decode cX0_findFirst 23 = .ok (.iload_n 3, 1) := by decide +kernel
theorem dX0_findFirst_24 : decode cX0_findFirst 24 = .ok (.ireturn, 1) := by decide +kernel
theorem dX0_findFirst_25 : decode cX0_findFirst 25 = .ok (.iinc 3 1, 3) := by decide +kernel
theorem dX0_findFirst_28 : decode cX0_findFirst 28 = .ok (.goto (-26), 3) := by decide +kernel
theorem dX0_findFirst_31 : decode cX0_findFirst 31 = .ok (.iconst (-1), 1) := by decide +kernel
theorem dX0_findFirst_32 : decode cX0_findFirst 32 = .ok (.ireturn, 1) := by decide +kernel
theorem dX0_begins_0 : decode cX0_begins 0 = .ok (.aload_n 0, 1) := by decide +kernel
theorem dX0_begins_1 : decode cX0_begins 1 = .ok (.iload_n 2, 1) := by decide +kernel
theorem dX0_begins_2 : decode cX0_begins 2 = .ok (.iload_n 3, 1) := by decide +kernel
theorem dX0_begins_3 : decode cX0_begins 3 = .ok (.invokevirtual 67, 3) := by decide +kernel
theorem dX0_begins_6 : decode cX0_begins 6 = .ok (.ifCond .le 44, 3) := by decide +kernel
theorem dX0_begins_9 : decode cX0_begins 9 = .ok (.aload_n 0, 1) := by decide +kernel
theorem dX0_begins_10 : decode cX0_begins 10 = .ok (.getfield 26, 3) := by decide +kernel
theorem dX0_begins_13 : decode cX0_begins 13 = .ok (.iload_n 1, 1) := by decide +kernel
theorem dX0_begins_14 : decode cX0_begins 14 = .ok (.iload_n 2, 1) := by decide +kernel
theorem dX0_begins_15 : decode cX0_begins 15 = .ok (.invokevirtual 74, 3) := by decide +kernel
theorem dX0_begins_18 : decode cX0_begins 18 = .ok (.ifCond .eq 32, 3) := by decide +kernel
theorem dX0_begins_21 : decode cX0_begins 21 = .ok (.aload_n 0, 1) := by decide +kernel
theorem dX0_begins_22 : decode cX0_begins 22 = .ok (.aload_n 0, 1) := by decide +kernel
theorem dX0_begins_23 : decode cX0_begins 23 = .ok (.getfield 26, 3) := by decide +kernel
theorem dX0_begins_26 : decode cX0_begins 26 = .ok (.iload_n 1, 1) := by decide +kernel
theorem dX0_begins_27 : decode cX0_begins 27 = .ok (.iload_n 2, 1) := by decide +kernel
theorem dX0_begins_28 : decode cX0_begins 28 = .ok (.invokevirtual 78, 3) := by decide +kernel
theorem dX0_begins_31 : decode cX0_begins 31 = .ok (.iload_n 3, 1) := by decide +kernel
theorem dX0_begins_32 : decode cX0_begins 32 = .ok (.invokevirtual 67, 3) := by decide +kernel
theorem dX0_begins_35 : decode cX0_begins 35 = .ok (.aload_n 0, 1) := by decide +kernel
theorem dX0_begins_36 : decode cX0_begins 36 = .ok (.iload_n 2, 1) := by decide +kernel
theorem dX0_begins_37 : decode cX0_begins 37 = .ok (.iload_n 3, 1) := by decide +kernel
theorem dX0_begins_38 : decode cX0_begins 38 = .ok (.invokevirtual 67, 3) := by decide +kernel
theorem dX0_begins_41 : decode cX0_begins 41 = .ok (.iconst 1, 1) := by decide +kernel
theorem dX0_begins_42 : decode cX0_begins 42 = .ok (.isub, 1) := by decide +kernel
theorem dX0_begins_43 : decode cX0_begins 43 = .ok (.if_icmp .ne 7, 3) := by decide +kernel
theorem dX0_begins_46 : decode cX0_begins 46 = .ok (.iconst 1, 1) := by decide +kernel
theorem dX0_begins_47 : decode cX0_begins 47 = .ok (.goto 4, 3) := by decide +kernel
theorem dX0_begins_50 : decode cX0_begins 50 = .ok (.iconst 0, 1) := by decide +kernel
theorem dX0_begins_51 : decode cX0_begins 51 = .ok (.ireturn, 1) := by decide +kernel
theorem dX0_leastTolls_0 : decode cX0_leastTolls 0 = .ok (.aload_n 0, 1) := by decide +kernel
theorem dX0_leastTolls_1 : decode cX0_leastTolls 1 = .ok (.iload_n 1, 1) := by decide +kernel
theorem dX0_leastTolls_2 : decode cX0_leastTolls 2 = .ok (.iload_n 2, 1) := by decide +kernel
theorem dX0_leastTolls_3 : decode cX0_leastTolls 3 = .ok (.invokevirtual 67, 3) := by decide +kernel
theorem dX0_leastTolls_6 : decode cX0_leastTolls 6 = .ok (.istore_n 3, 1) := by decide +kernel
theorem dX0_leastTolls_7 : decode cX0_leastTolls 7 = .ok (.iload_n 3, 1) := by decide +kernel
theorem dX0_leastTolls_8 : decode cX0_leastTolls 8 = .ok (.iconst (-1), 1) := by decide +kernel
theorem dX0_leastTolls_9 : decode cX0_leastTolls 9 = .ok (.if_icmp .ne 5, 3) := by decide +kernel
theorem dX0_leastTolls_12 : decode cX0_leastTolls 12 = .ok (.iconst (-1), 1) := by decide +kernel
theorem dX0_leastTolls_13 : decode cX0_leastTolls 13 = .ok (.ireturn, 1) := by decide +kernel
theorem dX0_leastTolls_14 : decode cX0_leastTolls 14 = .ok (.aload_n 0, 1) := by decide +kernel
theorem dX0_leastTolls_15 : decode cX0_leastTolls 15 = .ok (.getfield 23, 3) := by decide +kernel
theorem dX0_leastTolls_18 : decode cX0_leastTolls 18 = .ok (.iload_n 2, 1) := by decide +kernel
theorem dX0_leastTolls_19 : decode cX0_leastTolls 19 = .ok (.iconst 0, 1) := by decide +kernel
theorem dX0_leastTolls_20 : decode cX0_leastTolls 20 = .ok (.invokevirtual 40, 3) := by decide +kernel
theorem dX0_leastTolls_23 : decode cX0_leastTolls 23 = .ok (.iconst 1, 1) := by decide +kernel
theorem dX0_leastTolls_24 : decode cX0_leastTolls 24 = .ok (.istore 4, 2) := by decide +kernel
theorem dX0_leastTolls_26 : decode cX0_leastTolls 26 = .ok (.iload 4, 2) := by decide +kernel
theorem dX0_leastTolls_28 : decode cX0_leastTolls 28 = .ok (.iload_n 3, 1) := by decide +kernel
theorem dX0_leastTolls_29 : decode cX0_leastTolls 29 = .ok (.if_icmp .gt 53, 3) := by decide +kernel
theorem dX0_leastTolls_32 : decode cX0_leastTolls 32 = .ok (.iconst 0, 1) := by decide +kernel
theorem dX0_leastTolls_33 : decode cX0_leastTolls 33 = .ok (.istore 5, 2) := by decide +kernel
theorem dX0_leastTolls_35 : decode cX0_leastTolls 35 = .ok (.iload 5, 2) := by decide +kernel
theorem dX0_leastTolls_37 : decode cX0_leastTolls 37 = .ok (.bipush 8, 2) := by decide +kernel
theorem dX0_leastTolls_39 : decode cX0_leastTolls 39 = .ok (.if_icmp .ge 37, 3) := by decide +kernel
theorem dX0_leastTolls_42 : decode cX0_leastTolls 42 = .ok (.aload_n 0, 1) := by decide +kernel
theorem dX0_leastTolls_43 : decode cX0_leastTolls 43 = .ok (.iload 5, 2) := by decide +kernel
theorem dX0_leastTolls_45 : decode cX0_leastTolls 45 = .ok (.iload_n 2, 1) := by decide +kernel
theorem dX0_leastTolls_46 : decode cX0_leastTolls 46 = .ok (.invokevirtual 67, 3) := by decide +kernel
theorem dX0_leastTolls_49 : decode cX0_leastTolls 49 = .ok (.iload 4, 2) := by decide +kernel
theorem dX0_leastTolls_51 : decode cX0_leastTolls 51 = .ok (.if_icmp .ne 19, 3) := by decide +kernel
theorem dX0_leastTolls_54 : decode cX0_leastTolls 54 = .ok (.aload_n 0, 1) := by decide +kernel
theorem dX0_leastTolls_55 : decode cX0_leastTolls 55 = .ok (.getfield 23, 3) := by decide +kernel
theorem dX0_leastTolls_58 : decode cX0_leastTolls 58 = .ok (.iload 5, 2) := by decide +kernel
theorem dX0_leastTolls_60 : decode cX0_leastTolls 60 = .ok (.aload_n 0, 1) := by decide +kernel
theorem dX0_leastTolls_61 : decode cX0_leastTolls 61 = .ok (.iload 5, 2) := by decide +kernel
theorem dX0_leastTolls_63 : decode cX0_leastTolls 63 = .ok (.iload_n 2, 1) := by decide +kernel
theorem dX0_leastTolls_64 : decode cX0_leastTolls 64 = .ok (.invokevirtual 81, 3) := by decide +kernel
theorem dX0_leastTolls_67 : decode cX0_leastTolls 67 = .ok (.invokevirtual 40, 3) := by decide +kernel
theorem dX0_leastTolls_70 : decode cX0_leastTolls 70 = .ok (.iinc 5 1, 3) := by decide +kernel
theorem dX0_leastTolls_73 : decode cX0_leastTolls 73 = .ok (.goto (-38), 3) := by decide +kernel
theorem dX0_leastTolls_76 : decode cX0_leastTolls 76 = .ok (.iinc 4 1, 3) := by decide +kernel
theorem dX0_leastTolls_79 : decode cX0_leastTolls 79 = .ok (.goto (-53), 3) := by decide +kernel
theorem dX0_leastTolls_82 : decode cX0_leastTolls 82 = .ok (.aload_n 0, 1) := by decide +kernel
theorem dX0_leastTolls_83 : decode cX0_leastTolls 83 = .ok (.getfield 23, 3) := by decide +kernel
theorem dX0_leastTolls_86 : decode cX0_leastTolls 86 = .ok (.iload_n 1, 1) := by decide +kernel
theorem dX0_leastTolls_87 : decode cX0_leastTolls 87 = .ok (.invokevirtual 33, 3) := by decide +kernel
theorem dX0_leastTolls_90 : decode cX0_leastTolls 90 = .ok (.ireturn, 1) := by decide +kernel
theorem dX0_cheapestFrom_0 : decode cX0_cheapestFrom 0 = .ok (.sipush 300, 3) := by decide +kernel
theorem dX0_cheapestFrom_3 : decode cX0_cheapestFrom 3 = .ok (.istore_n 3, 1) := by decide +kernel
theorem dX0_cheapestFrom_4 : decode cX0_cheapestFrom 4 = .ok (.iconst 0, 1) := by decide +kernel
theorem dX0_cheapestFrom_5 : decode cX0_cheapestFrom 5 = .ok (.istore 4, 2) := by decide +kernel
theorem dX0_cheapestFrom_7 : decode cX0_cheapestFrom 7 = .ok (.iload 4, 2) := by decide +kernel
theorem dX0_cheapestFrom_9 : decode cX0_cheapestFrom 9 = .ok (.aload_n 0, 1) := by decide +kernel
theorem dX0_cheapestFrom_10 : decode cX0_cheapestFrom 10 = .ok (.getfield 26, 3) := by decide +kernel
theorem dX0_cheapestFrom_13 : decode cX0_cheapestFrom 13 = .ok (.getfield 51, 3) := by decide +kernel
theorem dX0_cheapestFrom_16 : decode cX0_cheapestFrom 16 = .ok (.if_icmp .ge 59, 3) := by decide +kernel
theorem dX0_cheapestFrom_19 : decode cX0_cheapestFrom 19 = .ok (.aload_n 0, 1) := by decide +kernel
theorem dX0_cheapestFrom_20 : decode cX0_cheapestFrom 20 = .ok (.iload 4, 2) := by decide +kernel
theorem dX0_cheapestFrom_22 : decode cX0_cheapestFrom 22 = .ok (.iload_n 1, 1) := by decide +kernel
theorem dX0_cheapestFrom_23 : decode cX0_cheapestFrom 23 = .ok (.iload_n 2, 1) := by decide +kernel
theorem dX0_cheapestFrom_24 : decode cX0_cheapestFrom 24 = .ok (.invokevirtual 70, 3) := by decide +kernel
theorem dX0_cheapestFrom_27 : decode cX0_cheapestFrom 27 = .ok (.ifCond .eq 42, 3) := by decide +kernel
theorem dX0_cheapestFrom_30 : decode cX0_cheapestFrom 30 = .ok (.aload_n 0, 1) := by decide +kernel
theorem dX0_cheapestFrom_31 : decode cX0_cheapestFrom 31 = .ok (.getfield 26, 3) := by decide +kernel
theorem dX0_cheapestFrom_34 : decode cX0_cheapestFrom 34 = .ok (.getfield 84, 3) := by decide +kernel
theorem dX0_cheapestFrom_37 : decode cX0_cheapestFrom 37 = .ok (.iload 4, 2) := by decide +kernel
theorem dX0_cheapestFrom_39 : decode cX0_cheapestFrom 39 = .ok (.invokevirtual 33, 3) := by decide +kernel
theorem dX0_cheapestFrom_42 : decode cX0_cheapestFrom 42 = .ok (.aload_n 0, 1) := by decide +kernel
theorem dX0_cheapestFrom_43 : decode cX0_cheapestFrom 43 = .ok (.getfield 23, 3) := by decide +kernel
theorem dX0_cheapestFrom_46 : decode cX0_cheapestFrom 46 = .ok (.aload_n 0, 1) := by decide +kernel
theorem dX0_cheapestFrom_47 : decode cX0_cheapestFrom 47 = .ok (.getfield 26, 3) := by decide +kernel
theorem dX0_cheapestFrom_50 : decode cX0_cheapestFrom 50 = .ok (.iload 4, 2) := by decide +kernel
theorem dX0_cheapestFrom_52 : decode cX0_cheapestFrom 52 = .ok (.iload_n 1, 1) := by decide +kernel
theorem dX0_cheapestFrom_53 : decode cX0_cheapestFrom 53 = .ok (.invokevirtual 78, 3) := by decide +kernel
theorem dX0_cheapestFrom_56 : decode cX0_cheapestFrom 56 = .ok (.invokevirtual 33, 3) := by decide +kernel
theorem dX0_cheapestFrom_59 : decode cX0_cheapestFrom 59 = .ok (.iadd, 1) := by decide +kernel
theorem dX0_cheapestFrom_60 : decode cX0_cheapestFrom 60 = .ok (.istore 5, 2) := by decide +kernel
theorem dX0_cheapestFrom_62 : decode cX0_cheapestFrom 62 = .ok (.iload_n 3, 1) := by decide +kernel
theorem dX0_cheapestFrom_63 : decode cX0_cheapestFrom 63 = .ok (.iload 5, 2) := by decide +kernel
theorem dX0_cheapestFrom_65 : decode cX0_cheapestFrom 65 = .ok (.invokestatic 87, 3) := by decide +kernel
theorem dX0_cheapestFrom_68 : decode cX0_cheapestFrom 68 = .ok (.istore_n 3, 1) := by decide +kernel
theorem dX0_cheapestFrom_69 : decode cX0_cheapestFrom 69 = .ok (.iinc 4 1, 3) := by decide +kernel
theorem dX0_cheapestFrom_72 : decode cX0_cheapestFrom 72 = .ok (.goto (-65), 3) := by decide +kernel
theorem dX0_cheapestFrom_75 : decode cX0_cheapestFrom 75 = .ok (.iload_n 3, 1) := by decide +kernel
theorem dX0_cheapestFrom_76 : decode cX0_cheapestFrom 76 = .ok (.ireturn, 1) := by decide +kernel
theorem dX1_init_0 : decode cX1_init 0 = .ok (.aload_n 0, 1) := by decide +kernel
theorem dX1_init_1 : decode cX1_init 1 = .ok (.invokespecial 3, 3) := by decide +kernel
theorem dX1_init_4 : decode cX1_init 4 = .ok (.aload_n 0, 1) := by decide +kernel
theorem dX1_init_5 : decode cX1_init 5 = .ok (.new 9, 3) := by decide +kernel
theorem dX1_init_8 : decode cX1_init 8 = .ok (.dup, 1) := by decide +kernel
theorem dX1_init_9 : decode cX1_init 9 = .ok (.ldc 13, 2) := by decide +kernel
theorem dX1_init_11 : decode cX1_init 11 = .ok (.invokespecial 14, 3) := by decide +kernel
theorem dX1_init_14 : decode cX1_init 14 = .ok (.putfield 17, 3) := by decide +kernel
theorem dX1_init_17 : decode cX1_init 17 = .ok (.aload_n 0, 1) := by decide +kernel
theorem dX1_init_18 : decode cX1_init 18 = .ok (.new 9, 3) := by decide +kernel
theorem dX1_init_21 : decode cX1_init 21 = .ok (.dup, 1) := by decide +kernel
theorem dX1_init_22 : decode cX1_init 22 = .ok (.sipush 300, 3) := by decide +kernel
theorem dX1_init_25 : decode cX1_init 25 = .ok (.invokespecial 14, 3) := by decide +kernel
theorem dX1_init_28 : decode cX1_init 28 = .ok (.putfield 21, 3) := by decide +kernel
theorem dX1_init_31 : decode cX1_init 31 = .ok (.aload_n 0, 1) := by decide +kernel
theorem dX1_init_32 : decode cX1_init 32 = .ok (.new 9, 3) := by decide +kernel
theorem dX1_init_35 : decode cX1_init 35 = .ok (.dup, 1) := by decide +kernel
theorem dX1_init_36 : decode cX1_init 36 = .ok (.sipush 196, 3) := by decide +kernel
theorem dX1_init_39 : decode cX1_init 39 = .ok (.invokespecial 14, 3) := by decide +kernel
theorem dX1_init_42 : decode cX1_init 42 = .ok (.putfield 24, 3) := by decide +kernel
theorem dX1_init_45 : decode cX1_init 45 = .ok (.aload_n 0, 1) := by decide +kernel
theorem dX1_init_46 : decode cX1_init 46 = .ok (.aload_n 1, 1) := by decide +kernel
theorem dX1_init_47 : decode cX1_init 47 = .ok (.putfield 27, 3) := by decide +kernel
theorem dX1_init_50 : decode cX1_init 50 = .ok (.aload_n 0, 1) := by decide +kernel
theorem dX1_init_51 : decode cX1_init 51 = .ok (.aload_n 2, 1) := by decide +kernel
theorem dX1_init_52 : decode cX1_init 52 = .ok (.putfield 31, 3) := by decide +kernel
theorem dX1_init_55 : decode cX1_init 55 = .ok (.aload_n 0, 1) := by decide +kernel
theorem dX1_init_56 : decode cX1_init 56 = .ok (.aload_n 3, 1) := by decide +kernel
theorem dX1_init_57 : decode cX1_init 57 = .ok (.putfield 35, 3) := by decide +kernel
theorem dX1_init_60 : decode cX1_init 60 = .ok (.return_, 1) := by decide +kernel
theorem dX1_forget_0 : decode cX1_forget 0 = .ok (.aload_n 0, 1) := by decide +kernel
theorem dX1_forget_1 : decode cX1_forget 1 = .ok (.getfield 21, 3) := by decide +kernel
theorem dX1_forget_4 : decode cX1_forget 4 = .ok (.iconst 0, 1) := by decide +kernel
theorem dX1_forget_5 : decode cX1_forget 5 = .ok (.invokevirtual 39, 3) := by decide +kernel
theorem dX1_forget_8 : decode cX1_forget 8 = .ok (.return_, 1) := by decide +kernel
theorem dX1_chartOf_0 : decode cX1_chartOf 0 = .ok (.aload_n 0, 1) := by decide +kernel
theorem dX1_chartOf_1 : decode cX1_chartOf 1 = .ok (.getfield 35, 3) := by decide +kernel
theorem dX1_chartOf_4 : decode cX1_chartOf 4 = .ok (.getfield 42, 3) := by decide +kernel
theorem dX1_chartOf_7 : decode cX1_chartOf 7 = .ok (.iload_n 1, 1) := by decide +kernel
theorem dX1_chartOf_8 : decode cX1_chartOf 8 = .ok (.invokevirtual 47, 3) := by decide +kernel
theorem dX1_chartOf_11 : decode cX1_chartOf 11 = .ok (.iload_n 2, 1) := by decide +kernel
theorem dX1_chartOf_12 : decode cX1_chartOf 12 = .ok (.if_icmp .ne 7, 3) := by decide +kernel
theorem dX1_chartOf_15 : decode cX1_chartOf 15 = .ok (.iconst 0, 1) := by decide +kernel
theorem dX1_chartOf_16 : decode cX1_chartOf 16 = .ok (.goto 4, 3) := by decide +kernel
theorem dX1_chartOf_19 : decode cX1_chartOf 19 = .ok (.iconst 1, 1) := by decide +kernel
theorem dX1_chartOf_20 : decode cX1_chartOf 20 = .ok (.istore 4, 2) := by decide +kernel
theorem dX1_chartOf_22 : decode cX1_chartOf 22 = .ok (.iload_n 1, 1) := by decide +kernel
theorem dX1_chartOf_23 : decode cX1_chartOf 23 = .ok (.iconst 2, 1) := by decide +kernel
theorem dX1_chartOf_24 : decode cX1_chartOf 24 = .ok (.imul, 1) := by decide +kernel
theorem dX1_chartOf_25 : decode cX1_chartOf 25 = .ok (.iload 4, 2) := by decide +kernel
theorem dX1_chartOf_27 : decode cX1_chartOf 27 = .ok (.iadd, 1) := by decide +kernel
theorem dX1_chartOf_28 : decode cX1_chartOf 28 = .ok (.bipush 25, 2) := by decide +kernel
theorem dX1_chartOf_30 : decode cX1_chartOf 30 = .ok (.imul, 1) := by decide +kernel
theorem dX1_chartOf_31 : decode cX1_chartOf 31 = .ok (.iload_n 3, 1) := by decide +kernel
theorem dX1_chartOf_32 : decode cX1_chartOf 32 = .ok (.iadd, 1) := by decide +kernel
theorem dX1_chartOf_33 : decode cX1_chartOf 33 = .ok (.istore 5, 2) := by decide +kernel
theorem dX1_chartOf_35 : decode cX1_chartOf 35 = .ok (.iload 5, 2) := by decide +kernel
theorem dX1_chartOf_37 : decode cX1_chartOf 37 = .ok (.sipush 196, 3) := by decide +kernel
theorem dX1_chartOf_40 : decode cX1_chartOf 40 = .ok (.imul, 1) := by decide +kernel
theorem dX1_chartOf_41 : decode cX1_chartOf 41 = .ok (.istore 6, 2) := by decide +kernel
theorem dX1_chartOf_43 : decode cX1_chartOf 43 = .ok (.aload_n 0, 1) := by decide +kernel
theorem dX1_chartOf_44 : decode cX1_chartOf 44 = .ok (.getfield 21, 3) := by decide +kernel
theorem dX1_chartOf_47 : decode cX1_chartOf 47 = .ok (.iload 5, 2) := by decide +kernel
theorem dX1_chartOf_49 : decode cX1_chartOf 49 = .ok (.iconst 1, 1) := by decide +kernel
theorem dX1_chartOf_50 : decode cX1_chartOf 50 = .ok (.invokevirtual 51, 3) := by decide +kernel
theorem dX1_chartOf_53 : decode cX1_chartOf 53 = .ok (.ifCond .ne 22, 3) := by decide +kernel
theorem dX1_chartOf_56 : decode cX1_chartOf 56 = .ok (.aload_n 0, 1) := by decide +kernel
theorem dX1_chartOf_57 : decode cX1_chartOf 57 = .ok (.iload 6, 2) := by decide +kernel
theorem dX1_chartOf_59 : decode cX1_chartOf 59 = .ok (.iload_n 1, 1) := by decide +kernel
theorem dX1_chartOf_60 : decode cX1_chartOf 60 = .ok (.aload_n 0, 1) := by decide +kernel
theorem dX1_chartOf_61 : decode cX1_chartOf 61 = .ok (.getfield 31, 3) := by decide +kernel
theorem dX1_chartOf_64 : decode cX1_chartOf 64 = .ok (.getfield 55, 3) := by decide +kernel
theorem dX1_chartOf_67 : decode cX1_chartOf 67 = .ok (.iload_n 2, 1) := by decide +kernel
theorem dX1_chartOf_68 : decode cX1_chartOf 68 = .ok (.invokevirtual 47, 3) := by decide +kernel
theorem dX1_chartOf_71 : decode cX1_chartOf 71 = .ok (.iload_n 3, 1) := by decide +kernel
theorem dX1_chartOf_72 : decode cX1_chartOf 72 = .ok (.invokevirtual 60, 3) := by decide +kernel
theorem dX1_chartOf_75 : decode cX1_chartOf 75 = .ok (.iload 6, 2) := by decide +kernel
theorem dX1_chartOf_77 : decode cX1_chartOf 77 = .ok (.ireturn, 1) := by decide +kernel
theorem dX1_way_0 : decode cX1_way 0 = .ok (.aload_n 0, 1) := by decide +kernel
theorem dX1_way_1 : decode cX1_way 1 = .ok (.getfield 17, 3) := by decide +kernel
theorem dX1_way_4 : decode cX1_way 4 = .ok (.iload_n 1, 1) := by decide +kernel
theorem dX1_way_5 : decode cX1_way 5 = .ok (.iload_n 2, 1) := by decide +kernel
theorem dX1_way_6 : decode cX1_way 6 = .ok (.iadd, 1) := by decide +kernel
theorem dX1_way_7 : decode cX1_way 7 = .ok (.invokevirtual 47, 3) := by decide +kernel
theorem dX1_way_10 : decode cX1_way 10 = .ok (.ireturn, 1) := by decide +kernel
theorem dX1_nextStep_0 : decode cX1_nextStep 0 = .ok (.aload_n 0, 1) := by decide +kernel
theorem dX1_nextStep_1 : decode cX1_nextStep 1 = .ok (.iload_n 1, 1) := by decide +kernel
theorem dX1_nextStep_2 : decode cX1_nextStep 2 = .ok (.iload_n 2, 1) := by decide +kernel
theorem dX1_nextStep_3 : decode cX1_nextStep 3 = .ok (.invokevirtual 64, 3) := by decide +kernel
theorem dX1_nextStep_6 : decode cX1_nextStep 6 = .ok (.istore_n 3, 1) := by decide +kernel
theorem dX1_nextStep_7 : decode cX1_nextStep 7 = .ok (.iconst 0, 1) := by decide +kernel
theorem dX1_nextStep_8 : decode cX1_nextStep 8 = .ok (.istore 4, 2) := by decide +kernel
theorem dX1_nextStep_10 : decode cX1_nextStep 10 = .ok (.iload_n 3, 1) := by decide +kernel
theorem dX1_nextStep_11 : decode cX1_nextStep 11 = .ok (.ifCond .le 45, 3) := by decide +kernel
theorem dX1_nextStep_14 : decode cX1_nextStep 14 = .ok (.iload 4, 2) := by decide +kernel
theorem dX1_nextStep_16 : decode cX1_nextStep 16 = .ok (.iconst 4, 1) := by decide +kernel
theorem dX1_nextStep_17 : decode cX1_nextStep 17 = .ok (.if_icmp .ge 39, 3) := by decide +kernel
theorem dX1_nextStep_20 : decode cX1_nextStep 20 = .ok (.iload_n 2, 1) := by decide +kernel
theorem dX1_nextStep_21 : decode cX1_nextStep 21 = .ok (.iload 4, 2) := by decide +kernel
theorem dX1_nextStep_23 : decode cX1_nextStep 23 = .ok (.invokestatic 67, 3) := by decide +kernel
theorem dX1_nextStep_26 : decode cX1_nextStep 26 = .ok (.istore 5, 2) := by decide +kernel
theorem dX1_nextStep_28 : decode cX1_nextStep 28 = .ok (.iload 5, 2) := by decide +kernel
theorem dX1_nextStep_30 : decode cX1_nextStep 30 = .ok (.iconst (-1), 1) := by decide +kernel
theorem dX1_nextStep_31 : decode cX1_nextStep 31 = .ok (.if_icmp .eq 19, 3) := by decide +kernel
theorem dX1_nextStep_34 : decode cX1_nextStep 34 = .ok (.aload_n 0, 1) := by decide +kernel
theorem dX1_nextStep_35 : decode cX1_nextStep 35 = .ok (.iload_n 1, 1) := by decide +kernel
theorem dX1_nextStep_36 : decode cX1_nextStep 36 = .ok (.iload 5, 2) := by decide +kernel
theorem dX1_nextStep_38 : decode cX1_nextStep 38 = .ok (.invokevirtual 64, 3) := by decide +kernel
theorem dX1_nextStep_41 : decode cX1_nextStep 41 = .ok (.iload_n 3, 1) := by decide +kernel
theorem dX1_nextStep_42 : decode cX1_nextStep 42 = .ok (.iconst 1, 1) := by decide +kernel
theorem dX1_nextStep_43 : decode cX1_nextStep 43 = .ok (.isub, 1) := by decide +kernel
theorem dX1_nextStep_44 : decode cX1_nextStep 44 = .ok (.if_icmp .ne 6, 3) := by decide +kernel
theorem dX1_nextStep_47 : decode cX1_nextStep 47 = .ok (.iload 5, 2) := by decide +kernel
theorem dX1_nextStep_49 : decode cX1_nextStep 49 = .ok (.ireturn, 1) := by decide +kernel
theorem dX1_nextStep_50 : decode cX1_nextStep 50 = .ok (.iinc 4 1, 3) := by decide +kernel
theorem dX1_nextStep_53 : decode cX1_nextStep 53 = .ok (.goto (-43), 3) := by decide +kernel
theorem dX1_nextStep_56 : decode cX1_nextStep 56 = .ok (.iconst (-1), 1) := by decide +kernel
theorem dX1_nextStep_57 : decode cX1_nextStep 57 = .ok (.ireturn, 1) := by decide +kernel
theorem dX1_draw_0 : decode cX1_draw 0 = .ok (.iconst 0, 1) := by decide +kernel
theorem dX1_draw_1 : decode cX1_draw 1 = .ok (.istore 5, 2) := by decide +kernel
theorem dX1_draw_3 : decode cX1_draw 3 = .ok (.iload 5, 2) := by decide +kernel
theorem dX1_draw_5 : decode cX1_draw 5 = .ok (.sipush 196, 3) := by decide +kernel
theorem dX1_draw_8 : decode cX1_draw 8 = .ok (.if_icmp .ge 21, 3) := by decide +kernel
theorem dX1_draw_11 : decode cX1_draw 11 = .ok (.aload_n 0, 1) := by decide +kernel
theorem dX1_draw_12 : decode cX1_draw 12 = .ok (.getfield 17, 3) := by decide +kernel
theorem dX1_draw_15 : decode cX1_draw 15 = .ok (.iload_n 1, 1) := by decide +kernel
theorem dX1_draw_16 : decode cX1_draw 16 = .ok (.iload 5, 2) := by decide +kernel
theorem dX1_draw_18 : decode cX1_draw 18 = .ok (.iadd, 1) := by decide +kernel
theorem dX1_draw_19 : decode cX1_draw 19 = .ok (.iconst (-1), 1) := by decide +kernel
theorem dX1_draw_20 : decode cX1_draw 20 = .ok (.invokevirtual 72, 3) := by decide +kernel
theorem dX1_draw_23 : decode cX1_draw 23 = .ok (.iinc 5 1, 3) := by decide +kernel
theorem dX1_draw_26 : decode cX1_draw 26 = .ok (.goto (-23), 3) := by decide +kernel
theorem dX1_draw_29 : decode cX1_draw 29 = .ok (.aload_n 0, 1) := by decide +kernel
theorem dX1_draw_30 : decode cX1_draw 30 = .ok (.getfield 35, 3) := by decide +kernel
theorem dX1_draw_33 : decode cX1_draw 33 = .ok (.iload_n 2, 1) := by decide +kernel
theorem dX1_draw_34 : decode cX1_draw 34 = .ok (.aload_n 0, 1) := by decide +kernel
theorem dX1_draw_35 : decode cX1_draw 35 = .ok (.getfield 27, 3) := by decide +kernel
theorem dX1_draw_38 : decode cX1_draw 38 = .ok (.iload_n 3, 1) := by decide +kernel
theorem dX1_draw_39 : decode cX1_draw 39 = .ok (.iload 4, 2) := by decide +kernel
theorem dX1_draw_41 : decode cX1_draw 41 = .ok (.invokevirtual 76, 3) := by decide +kernel
theorem dX1_draw_44 : decode cX1_draw 44 = .ok (.invokevirtual 79, 3) := by decide +kernel
theorem dX1_draw_47 : decode cX1_draw 47 = .ok (.ifCond .ne 4, 3) := by decide +kernel
theorem dX1_draw_50 : decode cX1_draw 50 = .ok (.return_, 1) := by decide +kernel
theorem dX1_draw_51 : decode cX1_draw 51 = .ok (.aload_n 0, 1) := by decide +kernel
theorem dX1_draw_52 : decode cX1_draw 52 = .ok (.getfield 17, 3) := by decide +kernel
theorem dX1_draw_55 : decode cX1_draw 55 = .ok (.iload_n 1, 1) := by decide +kernel
theorem dX1_draw_56 : decode cX1_draw 56 = .ok (.iload_n 3, 1) := by decide +kernel
theorem dX1_draw_57 : decode cX1_draw 57 = .ok (.iadd, 1) := by decide +kernel
theorem dX1_draw_58 : decode cX1_draw 58 = .ok (.iconst 0, 1) := by decide +kernel
theorem dX1_draw_59 : decode cX1_draw 59 = .ok (.invokevirtual 72, 3) := by decide +kernel
theorem dX1_draw_62 : decode cX1_draw 62 = .ok (.aload_n 0, 1) := by decide +kernel
theorem dX1_draw_63 : decode cX1_draw 63 = .ok (.getfield 24, 3) := by decide +kernel
theorem dX1_draw_66 : decode cX1_draw 66 = .ok (.iconst 0, 1) := by decide +kernel
theorem dX1_draw_67 : decode cX1_draw 67 = .ok (.iload_n 3, 1) := by decide +kernel
theorem dX1_draw_68 : decode cX1_draw 68 = .ok (.invokevirtual 72, 3) := by decide +kernel
theorem dX1_draw_71 : decode cX1_draw 71 = .ok (.iconst 1, 1) := by decide +kernel
theorem dX1_draw_72 : decode cX1_draw 72 = .ok (.istore 5, 2) := by decide +kernel
theorem dX1_draw_74 : decode cX1_draw 74 = .ok (.iconst 0, 1) := by decide +kernel
theorem dX1_draw_75 : decode cX1_draw 75 = .ok (.istore 6, 2) := by decide +kernel
theorem dX1_draw_77 : decode cX1_draw 77 = .ok (.iload 6, 2) := by decide +kernel
theorem dX1_draw_79 : decode cX1_draw 79 = .ok (.iload 5, 2) := by decide +kernel
theorem dX1_draw_81 : decode cX1_draw 81 = .ok (.if_icmp .ge 133, 3) := by decide +kernel
theorem dX1_draw_84 : decode cX1_draw 84 = .ok (.iload 6, 2) := by decide +kernel
theorem dX1_draw_86 : decode cX1_draw 86 = .ok (.sipush 196, 3) := by decide +kernel
theorem dX1_draw_89 : decode cX1_draw 89 = .ok (.if_icmp .ge 125, 3) := by decide +kernel
theorem dX1_draw_92 : decode cX1_draw 92 = .ok (.aload_n 0, 1) := by decide +kernel
theorem dX1_draw_93 : decode cX1_draw 93 = .ok (.getfield 24, 3) := by decide +kernel
theorem dX1_draw_96 : decode cX1_draw 96 = .ok (.iload 6, 2) := by decide +kernel
theorem dX1_draw_98 : decode cX1_draw 98 = .ok (.invokevirtual 47, 3) := by decide +kernel
theorem dX1_draw_101 : decode cX1_draw 101 = .ok (.istore 7, 2) := by decide +kernel
theorem dX1_draw_103 : decode cX1_draw 103 = .ok (.iconst 0, 1) := by decide +kernel
theorem dX1_draw_104 : decode cX1_draw 104 = .ok (.istore 8, 2) := by decide +kernel
theorem dX1_draw_106 : decode cX1_draw 106 = .ok (.iload 8, 2) := by decide +kernel
theorem dX1_draw_108 : decode cX1_draw 108 = .ok (.iconst 4, 1) := by decide +kernel
theorem dX1_draw_109 : decode cX1_draw 109 = .ok (.if_icmp .ge 99, 3) := by decide +kernel
theorem dX1_draw_112 : decode cX1_draw 112 = .ok (.iload 7, 2) := by decide +kernel
theorem dX1_draw_114 : decode cX1_draw 114 = .ok (.iload 8, 2) := by decide +kernel
theorem dX1_draw_116 : decode cX1_draw 116 = .ok (.invokestatic 67, 3) := by decide +kernel
theorem dX1_draw_119 : decode cX1_draw 119 = .ok (.istore 9, 2) := by decide +kernel
theorem dX1_draw_121 : decode cX1_draw 121 = .ok (.iload 9, 2) := by decide +kernel
theorem dX1_draw_123 : decode cX1_draw 123 = .ok (.iconst (-1), 1) := by decide +kernel
theorem dX1_draw_124 : decode cX1_draw 124 = .ok (.if_icmp .eq 78, 3) := by decide +kernel
theorem dX1_draw_127 : decode cX1_draw 127 = .ok (.aload_n 0, 1) := by decide +kernel
theorem dX1_draw_128 : decode cX1_draw 128 = .ok (.getfield 17, 3) := by decide +kernel
theorem dX1_draw_131 : decode cX1_draw 131 = .ok (.iload_n 1, 1) := by decide +kernel
theorem dX1_draw_132 : decode cX1_draw 132 = .ok (.iload 9, 2) := by decide +kernel
theorem dX1_draw_134 : decode cX1_draw 134 = .ok (.iadd, 1) := by decide +kernel
theorem dX1_draw_135 : decode cX1_draw 135 = .ok (.invokevirtual 47, 3) := by decide +kernel
theorem dX1_draw_138 : decode cX1_draw 138 = .ok (.iconst (-1), 1) := by decide +kernel
theorem dX1_draw_139 : decode cX1_draw 139 = .ok (.if_icmp .ne 63, 3) := by decide +kernel
theorem dX1_draw_142 : decode cX1_draw 142 = .ok (.aload_n 0, 1) := by decide +kernel
theorem dX1_draw_143 : decode cX1_draw 143 = .ok (.getfield 35, 3) := by decide +kernel
theorem dX1_draw_146 : decode cX1_draw 146 = .ok (.iload_n 2, 1) := by decide +kernel
theorem dX1_draw_147 : decode cX1_draw 147 = .ok (.aload_n 0, 1) := by decide +kernel
theorem dX1_draw_148 : decode cX1_draw 148 = .ok (.getfield 27, 3) := by decide +kernel
theorem dX1_draw_151 : decode cX1_draw 151 = .ok (.iload 9, 2) := by decide +kernel
theorem dX1_draw_153 : decode cX1_draw 153 = .ok (.iload 4, 2) := by decide +kernel
theorem dX1_draw_155 : decode cX1_draw 155 = .ok (.invokevirtual 76, 3) := by decide +kernel
theorem dX1_draw_158 : decode cX1_draw 158 = .ok (.invokevirtual 79, 3) := by decide +kernel
theorem dX1_draw_161 : decode cX1_draw 161 = .ok (.ifCond .eq 41, 3) := by decide +kernel
theorem dX1_draw_164 : decode cX1_draw 164 = .ok (.aload_n 0, 1) := by decide +kernel
theorem dX1_draw_165 : decode cX1_draw 165 = .ok (.getfield 17, 3) := by decide +kernel
theorem dX1_draw_168 : decode cX1_draw 168 = .ok (.iload_n 1, 1) := by decide +kernel
theorem dX1_draw_169 : decode cX1_draw 169 = .ok (.iload 9, 2) := by decide +kernel
theorem dX1_draw_171 : decode cX1_draw 171 = .ok (.iadd, 1) := by decide +kernel
theorem dX1_draw_172 : decode cX1_draw 172 = .ok (.aload_n 0, 1) := by decide +kernel
theorem dX1_draw_173 : decode cX1_draw 173 = .ok (.getfield 17, 3) := by decide +kernel
theorem dX1_draw_176 : decode cX1_draw 176 = .ok (.iload_n 1, 1) := by decide +kernel
theorem dX1_draw_177 : decode cX1_draw 177 = .ok (.iload 7, 2) := by decide +kernel
theorem dX1_draw_179 : decode cX1_draw 179 = .ok (.iadd, 1) := by decide +kernel
theorem dX1_draw_180 : decode cX1_draw 180 = .ok (.invokevirtual 47, 3) := by decide +kernel
theorem dX1_draw_183 : decode cX1_draw 183 = .ok (.iconst 1, 1) := by decide +kernel
theorem dX1_draw_184 : decode cX1_draw 184 = .ok (.iadd, 1) := by decide +kernel
theorem dX1_draw_185 : decode cX1_draw 185 = .ok (.invokevirtual 72, 3) := by decide +kernel
theorem dX1_draw_188 : decode cX1_draw 188 = .ok (.aload_n 0, 1) := by decide +kernel
theorem dX1_draw_189 : decode cX1_draw 189 = .ok (.getfield 24, 3) := by decide +kernel
theorem dX1_draw_192 : decode cX1_draw 192 = .ok (.iload 5, 2) := by decide +kernel
theorem dX1_draw_194 : decode cX1_draw 194 = .ok (.iload 9, 2) := by decide +kernel
theorem dX1_draw_196 : decode cX1_draw 196 = .ok (.invokevirtual 72, 3) := by decide +kernel
theorem dX1_draw_199 : decode cX1_draw 199 = .ok (.iinc 5 1, 3) := by decide +kernel
theorem dX1_draw_202 : decode cX1_draw 202 = .ok (.iinc 8 1, 3) := by decide +kernel
theorem dX1_draw_205 : decode cX1_draw 205 = .ok (.goto (-99), 3) := by decide +kernel
theorem dX1_draw_208 : decode cX1_draw 208 = .ok (.iinc 6 1, 3) := by decide +kernel
theorem dX1_draw_211 : decode cX1_draw 211 = .ok (.goto (-134), 3) := by decide +kernel
theorem dX1_draw_214 : decode cX1_draw 214 = .ok (.return_, 1) := by decide +kernel
theorem dX2_init_0 : decode cX2_init 0 = .ok (.aload_n 0, 1) := by decide +kernel
theorem dX2_init_1 : decode cX2_init 1 = .ok (.invokespecial 3, 3) := by decide +kernel
theorem dX2_init_4 : decode cX2_init 4 = .ok (.aload_n 0, 1) := by decide +kernel
theorem dX2_init_5 : decode cX2_init 5 = .ok (.new 9, 3) := by decide +kernel
theorem dX2_init_8 : decode cX2_init 8 = .ok (.dup, 1) := by decide +kernel
theorem dX2_init_9 : decode cX2_init 9 = .ok (.bipush 6, 2) := by decide +kernel
theorem dX2_init_11 : decode cX2_init 11 = .ok (.invokespecial 11, 3) := by decide +kernel
theorem dX2_init_14 : decode cX2_init 14 = .ok (.putfield 14, 3) := by decide +kernel
theorem dX2_init_17 : decode cX2_init 17 = .ok (.aload_n 0, 1) := by decide +kernel
theorem dX2_init_18 : decode cX2_init 18 = .ok (.new 9, 3) := by decide +kernel
theorem dX2_init_21 : decode cX2_init 21 = .ok (.dup, 1) := by decide +kernel
theorem dX2_init_22 : decode cX2_init 22 = .ok (.bipush 6, 2) := by decide +kernel
theorem dX2_init_24 : decode cX2_init 24 = .ok (.invokespecial 11, 3) := by decide +kernel
theorem dX2_init_27 : decode cX2_init 27 = .ok (.putfield 20, 3) := by decide +kernel
theorem dX2_init_30 : decode cX2_init 30 = .ok (.aload_n 0, 1) := by decide +kernel
theorem dX2_init_31 : decode cX2_init 31 = .ok (.new 9, 3) := by decide +kernel
theorem dX2_init_34 : decode cX2_init 34 = .ok (.dup, 1) := by decide +kernel
theorem dX2_init_35 : decode cX2_init 35 = .ok (.bipush 6, 2) := by decide +kernel
theorem dX2_init_37 : decode cX2_init 37 = .ok (.invokespecial 11, 3) := by decide +kernel
theorem dX2_init_40 : decode cX2_init 40 = .ok (.putfield 23, 3) := by decide +kernel
theorem dX2_init_43 : decode cX2_init 43 = .ok (.aload_n 0, 1) := by decide +kernel
theorem dX2_init_44 : decode cX2_init 44 = .ok (.new 9, 3) := by decide +kernel
theorem dX2_init_47 : decode cX2_init 47 = .ok (.dup, 1) := by decide +kernel
theorem dX2_init_48 : decode cX2_init 48 = .ok (.bipush 6, 2) := by decide +kernel
theorem dX2_init_50 : decode cX2_init 50 = .ok (.invokespecial 11, 3) := by decide +kernel
theorem dX2_init_53 : decode cX2_init 53 = .ok (.putfield 26, 3) := by decide +kernel
theorem dX2_init_56 : decode cX2_init 56 = .ok (.aload_n 0, 1) := by decide +kernel
theorem dX2_init_57 : decode cX2_init 57 = .ok (.new 9, 3) := by decide +kernel
theorem dX2_init_60 : decode cX2_init 60 = .ok (.dup, 1) := by decide +kernel
theorem dX2_init_61 : decode cX2_init 61 = .ok (.bipush 6, 2) := by decide +kernel
theorem dX2_init_63 : decode cX2_init 63 = .ok (.invokespecial 11, 3) := by decide +kernel
theorem dX2_init_66 : decode cX2_init 66 = .ok (.putfield 29, 3) := by decide +kernel
theorem dX2_init_69 : decode cX2_init 69 = .ok (.aload_n 0, 1) := by decide +kernel
theorem dX2_init_70 : decode cX2_init 70 = .ok (.new 9, 3) := by decide +kernel
theorem dX2_init_73 : decode cX2_init 73 = .ok (.dup, 1) := by decide +kernel
theorem dX2_init_74 : decode cX2_init 74 = .ok (.bipush 6, 2) := by decide +kernel
theorem dX2_init_76 : decode cX2_init 76 = .ok (.invokespecial 11, 3) := by decide +kernel
theorem dX2_init_79 : decode cX2_init 79 = .ok (.putfield 32, 3) := by decide +kernel
theorem dX2_init_82 : decode cX2_init 82 = .ok (.return_, 1) := by decide +kernel
theorem dX2_add_0 : decode cX2_add 0 = .ok (.aload_n 0, 1) := by decide +kernel
theorem dX2_add_1 : decode cX2_add 1 = .ok (.getfield 35, 3) := by decide +kernel
theorem dX2_add_4 : decode cX2_add 4 = .ok (.istore_n 3, 1) := by decide +kernel
theorem dX2_add_5 : decode cX2_add 5 = .ok (.aload_n 0, 1) := by decide +kernel
theorem dX2_add_6 : decode cX2_add 6 = .ok (.getfield 14, 3) := by decide +kernel
theorem dX2_add_9 : decode cX2_add 9 = .ok (.iload_n 3, 1) := by decide +kernel
theorem dX2_add_10 : decode cX2_add 10 = .ok (.iload_n 1, 1) := by decide +kernel
theorem dX2_add_11 : decode cX2_add 11 = .ok (.invokevirtual 39, 3) := by decide +kernel
theorem dX2_add_14 : decode cX2_add 14 = .ok (.aload_n 0, 1) := by decide +kernel
theorem dX2_add_15 : decode cX2_add 15 = .ok (.getfield 20, 3) := by decide +kernel
theorem dX2_add_18 : decode cX2_add 18 = .ok (.iload_n 3, 1) := by decide +kernel
theorem dX2_add_19 : decode cX2_add 19 = .ok (.iload_n 2, 1) := by decide +kernel
theorem dX2_add_20 : decode cX2_add 20 = .ok (.invokevirtual 39, 3) := by decide +kernel
theorem dX2_add_23 : decode cX2_add 23 = .ok (.aload_n 0, 1) := by decide +kernel
theorem dX2_add_24 : decode cX2_add 24 = .ok (.dup, 1) := by decide +kernel
theorem dX2_add_25 : decode cX2_add 25 = .ok (.getfield 35, 3) := by decide +kernel
theorem dX2_add_28 : decode cX2_add 28 = .ok (.iconst 1, 1) := by decide +kernel
theorem dX2_add_29 : decode cX2_add 29 = .ok (.iadd, 1) := by decide +kernel
theorem dX2_add_30 : decode cX2_add 30 = .ok (.putfield 35, 3) := by decide +kernel
theorem dX2_add_33 : decode cX2_add 33 = .ok (.iload_n 3, 1) := by decide +kernel
theorem dX2_add_34 : decode cX2_add 34 = .ok (.ireturn, 1) := by decide +kernel
theorem dX2_fitOut_0 : decode cX2_fitOut 0 = .ok (.aload_n 0, 1) := by decide +kernel
theorem dX2_fitOut_1 : decode cX2_fitOut 1 = .ok (.getfield 23, 3) := by decide +kernel
theorem dX2_fitOut_4 : decode cX2_fitOut 4 = .ok (.iload_n 1, 1) := by decide +kernel
theorem dX2_fitOut_5 : decode cX2_fitOut 5 = .ok (.iload_n 2, 1) := by decide +kernel
theorem dX2_fitOut_6 : decode cX2_fitOut 6 = .ok (.invokevirtual 39, 3) := by decide +kernel
theorem dX2_fitOut_9 : decode cX2_fitOut 9 = .ok (.aload_n 0, 1) := by decide +kernel
theorem dX2_fitOut_10 : decode cX2_fitOut 10 = .ok (.getfield 26, 3) := by decide +kernel
theorem dX2_fitOut_13 : decode cX2_fitOut 13 = .ok (.iload_n 1, 1) := by decide +kernel
theorem dX2_fitOut_14 : decode cX2_fitOut 14 = .ok (.iload_n 3, 1) := by decide +kernel
theorem dX2_fitOut_15 : decode cX2_fitOut 15 = .ok (.invokevirtual 39, 3) := by decide +kernel
theorem dX2_fitOut_18 : decode cX2_fitOut 18 = .ok (.aload_n 0, 1) := by decide +kernel
theorem dX2_fitOut_19 : decode cX2_fitOut 19 = .ok (.getfield 29, 3) := by decide +kernel
theorem dX2_fitOut_22 : decode cX2_fitOut 22 = .ok (.iload_n 1, 1) := by decide +kernel
theorem dX2_fitOut_23 : decode cX2_fitOut 23 = .ok (.iload 4, 2) := by decide +kernel
theorem dX2_fitOut_25 : decode cX2_fitOut 25 = .ok (.invokevirtual 39, 3) := by decide +kernel
theorem dX2_fitOut_28 : decode cX2_fitOut 28 = .ok (.aload_n 0, 1) := by decide +kernel
theorem dX2_fitOut_29 : decode cX2_fitOut 29 = .ok (.getfield 32, 3) := by decide +kernel
theorem dX2_fitOut_32 : decode cX2_fitOut 32 = .ok (.iload_n 1, 1) := by decide +kernel
theorem dX2_fitOut_33 : decode cX2_fitOut 33 = .ok (.iload 5, 2) := by decide +kernel
theorem dX2_fitOut_35 : decode cX2_fitOut 35 = .ok (.invokevirtual 39, 3) := by decide +kernel
theorem dX2_fitOut_38 : decode cX2_fitOut 38 = .ok (.return_, 1) := by decide +kernel
theorem dX2_floats_0 : decode cX2_floats 0 = .ok (.iload_n 2, 1) := by decide +kernel
theorem dX2_floats_1 : decode cX2_floats 1 = .ok (.aload_n 0, 1) := by decide +kernel
theorem dX2_floats_2 : decode cX2_floats 2 = .ok (.getfield 23, 3) := by decide +kernel
theorem dX2_floats_5 : decode cX2_floats 5 = .ok (.iload_n 1, 1) := by decide +kernel
theorem dX2_floats_6 : decode cX2_floats 6 = .ok (.invokevirtual 43, 3) := by decide +kernel
theorem dX2_floats_9 : decode cX2_floats 9 = .ok (.if_icmp .lt 19, 3) := by decide +kernel
theorem dX2_floats_12 : decode cX2_floats 12 = .ok (.iload_n 2, 1) := by decide +kernel
theorem dX2_floats_13 : decode cX2_floats 13 = .ok (.aload_n 0, 1) := by decide +kernel
theorem dX2_floats_14 : decode cX2_floats 14 = .ok (.getfield 26, 3) := by decide +kernel
theorem dX2_floats_17 : decode cX2_floats 17 = .ok (.iload_n 1, 1) := by decide +kernel
theorem dX2_floats_18 : decode cX2_floats 18 = .ok (.invokevirtual 43, 3) := by decide +kernel
theorem dX2_floats_21 : decode cX2_floats 21 = .ok (.if_icmp .gt 7, 3) := by decide +kernel
theorem dX2_floats_24 : decode cX2_floats 24 = .ok (.iconst 1, 1) := by decide +kernel
theorem dX2_floats_25 : decode cX2_floats 25 = .ok (.goto 4, 3) := by decide +kernel
theorem dX2_floats_28 : decode cX2_floats 28 = .ok (.iconst 0, 1) := by decide +kernel
theorem dX2_floats_29 : decode cX2_floats 29 = .ok (.ireturn, 1) := by decide +kernel
theorem dX2_goesFrom_0 : decode cX2_goesFrom 0 = .ok (.aload_n 0, 1) := by decide +kernel
theorem dX2_goesFrom_1 : decode cX2_goesFrom 1 = .ok (.getfield 14, 3) := by decide +kernel
theorem dX2_goesFrom_4 : decode cX2_goesFrom 4 = .ok (.iload_n 1, 1) := by decide +kernel
theorem dX2_goesFrom_5 : decode cX2_goesFrom 5 = .ok (.invokevirtual 43, 3) := by decide +kernel
theorem dX2_goesFrom_8 : decode cX2_goesFrom 8 = .ok (.iload_n 2, 1) := by decide +kernel
theorem dX2_goesFrom_9 : decode cX2_goesFrom 9 = .ok (.if_icmp .eq 15, 3) := by decide +kernel
theorem dX2_goesFrom_12 : decode cX2_goesFrom 12 = .ok (.aload_n 0, 1) := by decide +kernel
theorem dX2_goesFrom_13 : decode cX2_goesFrom 13 = .ok (.getfield 20, 3) := by decide +kernel
theorem dX2_goesFrom_16 : decode cX2_goesFrom 16 = .ok (.iload_n 1, 1) := by decide +kernel
theorem dX2_goesFrom_17 : decode cX2_goesFrom 17 = .ok (.invokevirtual 43, 3) := by decide +kernel
theorem dX2_goesFrom_20 : decode cX2_goesFrom 20 = .ok (.iload_n 2, 1) := by decide +kernel
theorem dX2_goesFrom_21 : decode cX2_goesFrom 21 = .ok (.if_icmp .ne 7, 3) := by decide +kernel
theorem dX2_goesFrom_24 : decode cX2_goesFrom 24 = .ok (.iconst 1, 1) := by decide +kernel
theorem dX2_goesFrom_25 : decode cX2_goesFrom 25 = .ok (.goto 4, 3) := by decide +kernel
theorem dX2_goesFrom_28 : decode cX2_goesFrom 28 = .ok (.iconst 0, 1) := by decide +kernel
theorem dX2_goesFrom_29 : decode cX2_goesFrom 29 = .ok (.ireturn, 1) := by decide +kernel
theorem dX2_otherEnd_0 : decode cX2_otherEnd 0 = .ok (.aload_n 0, 1) := by decide +kernel
theorem dX2_otherEnd_1 : decode cX2_otherEnd 1 = .ok (.getfield 14, 3) := by decide +kernel
theorem dX2_otherEnd_4 : decode cX2_otherEnd 4 = .ok (.iload_n 1, 1) := by decide +kernel
theorem dX2_otherEnd_5 : decode cX2_otherEnd 5 = .ok (.invokevirtual 43, 3) := by decide +kernel
theorem dX2_otherEnd_8 : decode cX2_otherEnd 8 = .ok (.iload_n 2, 1) := by decide +kernel
theorem dX2_otherEnd_9 : decode cX2_otherEnd 9 = .ok (.if_icmp .ne 14, 3) := by decide +kernel
theorem dX2_otherEnd_12 : decode cX2_otherEnd 12 = .ok (.aload_n 0, 1) := by decide +kernel
theorem dX2_otherEnd_13 : decode cX2_otherEnd 13 = .ok (.getfield 20, 3) := by decide +kernel
theorem dX2_otherEnd_16 : decode cX2_otherEnd 16 = .ok (.iload_n 1, 1) := by decide +kernel
theorem dX2_otherEnd_17 : decode cX2_otherEnd 17 = .ok (.invokevirtual 43, 3) := by decide +kernel
theorem dX2_otherEnd_20 : decode cX2_otherEnd 20 = .ok (.goto 11, 3) := by decide +kernel
theorem dX2_otherEnd_23 : decode cX2_otherEnd 23 = .ok (.aload_n 0, 1) := by decide +kernel
theorem dX2_otherEnd_24 : decode cX2_otherEnd 24 = .ok (.getfield 14, 3) := by decide +kernel
theorem dX2_otherEnd_27 : decode cX2_otherEnd 27 = .ok (.iload_n 1, 1) := by decide +kernel
theorem dX2_otherEnd_28 : decode cX2_otherEnd 28 = .ok (.invokevirtual 43, 3) := by decide +kernel
theorem dX2_otherEnd_31 : decode cX2_otherEnd 31 = .ok (.ireturn, 1) := by decide +kernel
theorem dX2_puntsFrom_0 : decode cX2_puntsFrom 0 = .ok (.aload_n 0, 1) := by decide +kernel
theorem dX2_puntsFrom_1 : decode cX2_puntsFrom 1 = .ok (.getfield 14, 3) := by decide +kernel
theorem dX2_puntsFrom_4 : decode cX2_puntsFrom 4 = .ok (.iload_n 1, 1) := by decide +kernel
theorem dX2_puntsFrom_5 : decode cX2_puntsFrom 5 = .ok (.aload_n 0, 1) := by decide +kernel
theorem dX2_puntsFrom_6 : decode cX2_puntsFrom 6 = .ok (.getfield 35, 3) := by decide +kernel
theorem dX2_puntsFrom_9 : decode cX2_puntsFrom 9 = .ok (.invokevirtual 47, 3) := by decide +kernel
theorem dX2_puntsFrom_12 : decode cX2_puntsFrom 12 = .ok (.aload_n 0, 1) := by decide +kernel
theorem dX2_puntsFrom_13 : decode cX2_puntsFrom 13 = .ok (.getfield 20, 3) := by decide +kernel
theorem dX2_puntsFrom_16 : decode cX2_puntsFrom 16 = .ok (.iload_n 1, 1) := by decide +kernel
theorem dX2_puntsFrom_17 : decode cX2_puntsFrom 17 = .ok (.aload_n 0, 1) := by decide +kernel
theorem dX2_puntsFrom_18 : decode cX2_puntsFrom 18 = .ok (.getfield 35, 3) := by decide +kernel
theorem dX2_puntsFrom_21 : decode cX2_puntsFrom 21 = .ok (.invokevirtual 47, 3) := by decide +kernel
theorem dX2_puntsFrom_24 : decode cX2_puntsFrom 24 = .ok (.iadd, 1) := by decide +kernel
theorem dX2_puntsFrom_25 : decode cX2_puntsFrom 25 = .ok (.ireturn, 1) := by decide +kernel
theorem dX3_init_0 : decode cX3_init 0 = .ok (.aload_n 0, 1) := by decide +kernel
theorem dX3_init_1 : decode cX3_init 1 = .ok (.invokespecial 3, 3) := by decide +kernel
theorem dX3_init_4 : decode cX3_init 4 = .ok (.aload_n 0, 1) := by decide +kernel
theorem dX3_init_5 : decode cX3_init 5 = .ok (.new 9, 3) := by decide +kernel
theorem dX3_init_8 : decode cX3_init 8 = .ok (.dup, 1) := by decide +kernel
theorem dX3_init_9 : decode cX3_init 9 = .ok (.bipush 8, 2) := by decide +kernel
theorem dX3_init_11 : decode cX3_init 11 = .ok (.invokespecial 11, 3) := by decide +kernel
theorem dX3_init_14 : decode cX3_init 14 = .ok (.putfield 14, 3) := by decide +kernel
theorem dX3_init_17 : decode cX3_init 17 = .ok (.return_, 1) := by decide +kernel
theorem dX3_add_0 : decode cX3_add 0 = .ok (.aload_n 0, 1) := by decide +kernel
theorem dX3_add_1 : decode cX3_add 1 = .ok (.getfield 20, 3) := by decide +kernel
theorem dX3_add_4 : decode cX3_add 4 = .ok (.istore_n 2, 1) := by decide +kernel
theorem dX3_add_5 : decode cX3_add 5 = .ok (.aload_n 0, 1) := by decide +kernel
theorem dX3_add_6 : decode cX3_add 6 = .ok (.getfield 14, 3) := by decide +kernel
theorem dX3_add_9 : decode cX3_add 9 = .ok (.iload_n 2, 1) := by decide +kernel
theorem dX3_add_10 : decode cX3_add 10 = .ok (.iload_n 1, 1) := by decide +kernel
theorem dX3_add_11 : decode cX3_add 11 = .ok (.invokevirtual 24, 3) := by decide +kernel
theorem dX3_add_14 : decode cX3_add 14 = .ok (.aload_n 0, 1) := by decide +kernel
theorem dX3_add_15 : decode cX3_add 15 = .ok (.dup, 1) := by decide +kernel
theorem dX3_add_16 : decode cX3_add 16 = .ok (.getfield 20, 3) := by decide +kernel
theorem dX3_add_19 : decode cX3_add 19 = .ok (.iconst 1, 1) := by decide +kernel
theorem dX3_add_20 : decode cX3_add 20 = .ok (.iadd, 1) := by decide +kernel
theorem dX3_add_21 : decode cX3_add 21 = .ok (.putfield 20, 3) := by decide +kernel
theorem dX3_add_24 : decode cX3_add 24 = .ok (.iload_n 2, 1) := by decide +kernel
theorem dX3_add_25 : decode cX3_add 25 = .ok (.ireturn, 1) := by decide +kernel
theorem dX3_on_0 : decode cX3_on 0 = .ok (.iconst 0, 1) := by decide +kernel
theorem dX3_on_1 : decode cX3_on 1 = .ok (.istore_n 2, 1) := by decide +kernel
theorem dX3_on_2 : decode cX3_on 2 = .ok (.iload_n 2, 1) := by decide +kernel
theorem dX3_on_3 : decode cX3_on 3 = .ok (.aload_n 0, 1) := by decide +kernel
theorem dX3_on_4 : decode cX3_on 4 = .ok (.getfield 20, 3) := by decide +kernel
theorem dX3_on_7 : decode cX3_on 7 = .ok (.if_icmp .ge 23, 3) := by decide +kernel
theorem dX3_on_10 : decode cX3_on 10 = .ok (.aload_n 0, 1) := by decide +kernel
theorem dX3_on_11 : decode cX3_on 11 = .ok (.getfield 14, 3) := by decide +kernel
theorem dX3_on_14 : decode cX3_on 14 = .ok (.iload_n 2, 1) := by decide +kernel
theorem dX3_on_15 : decode cX3_on 15 = .ok (.invokevirtual 28, 3) := by decide +kernel
theorem dX3_on_18 : decode cX3_on 18 = .ok (.iload_n 1, 1) := by decide +kernel
theorem dX3_on_19 : decode cX3_on 19 = .ok (.if_icmp .ne 5, 3) := by decide +kernel
theorem dX3_on_22 : decode cX3_on 22 = .ok (.iload_n 2, 1) := by decide +kernel
theorem dX3_on_23 : decode cX3_on 23 = .ok (.ireturn, 1) := by decide +kernel
theorem dX3_on_24 : decode cX3_on 24 = .ok (.iinc 2 1, 3) := by decide +kernel
theorem dX3_on_27 : decode cX3_on 27 = .ok (.goto (-25), 3) := by decide +kernel
theorem dX3_on_30 : decode cX3_on 30 = .ok (.iconst (-1), 1) := by decide +kernel
theorem dX3_on_31 : decode cX3_on 31 = .ok (.ireturn, 1) := by decide +kernel
theorem dX4_init_0 : decode cX4_init 0 = .ok (.aload_n 0, 1) := by decide +kernel
theorem dX4_init_1 : decode cX4_init 1 = .ok (.invokespecial 3, 3) := by decide +kernel
theorem dX4_init_4 : decode cX4_init 4 = .ok (.aload_n 0, 1) := by decide +kernel
theorem dX4_init_5 : decode cX4_init 5 = .ok (.new 9, 3) := by decide +kernel
theorem dX4_init_8 : decode cX4_init 8 = .ok (.dup, 1) := by decide +kernel
theorem dX4_init_9 : decode cX4_init 9 = .ok (.sipush 196, 3) := by decide +kernel
theorem dX4_init_12 : decode cX4_init 12 = .ok (.invokespecial 11, 3) := by decide +kernel
theorem dX4_init_15 : decode cX4_init 15 = .ok (.putfield 14, 3) := by decide +kernel
theorem dX4_init_18 : decode cX4_init 18 = .ok (.aload_n 0, 1) := by decide +kernel
theorem dX4_init_19 : decode cX4_init 19 = .ok (.new 9, 3) := by decide +kernel
theorem dX4_init_22 : decode cX4_init 22 = .ok (.dup, 1) := by decide +kernel
theorem dX4_init_23 : decode cX4_init 23 = .ok (.sipush 196, 3) := by decide +kernel
theorem dX4_init_26 : decode cX4_init 26 = .ok (.invokespecial 11, 3) := by decide +kernel
theorem dX4_init_29 : decode cX4_init 29 = .ok (.putfield 20, 3) := by decide +kernel
theorem dX4_init_32 : decode cX4_init 32 = .ok (.aload_n 0, 1) := by decide +kernel
theorem dX4_init_33 : decode cX4_init 33 = .ok (.new 9, 3) := by decide +kernel
theorem dX4_init_36 : decode cX4_init 36 = .ok (.dup, 1) := by decide +kernel
theorem dX4_init_37 : decode cX4_init 37 = .ok (.bipush 12, 2) := by decide +kernel
theorem dX4_init_39 : decode cX4_init 39 = .ok (.invokespecial 11, 3) := by decide +kernel
theorem dX4_init_42 : decode cX4_init 42 = .ok (.putfield 23, 3) := by decide +kernel
theorem dX4_init_45 : decode cX4_init 45 = .ok (.aload_n 0, 1) := by decide +kernel
theorem dX4_init_46 : decode cX4_init 46 = .ok (.getfield 14, 3) := by decide +kernel
theorem dX4_init_49 : decode cX4_init 49 = .ok (.iconst 5, 1) := by decide +kernel
theorem dX4_init_50 : decode cX4_init 50 = .ok (.invokevirtual 26, 3) := by decide +kernel
theorem dX4_init_53 : decode cX4_init 53 = .ok (.aload_n 0, 1) := by decide +kernel
theorem dX4_init_54 : decode cX4_init 54 = .ok (.getfield 23, 3) := by decide +kernel
theorem dX4_init_57 : decode cX4_init 57 = .ok (.bipush 8, 2) := by decide +kernel
theorem dX4_init_59 : decode cX4_init 59 = .ok (.invokevirtual 26, 3) := by decide +kernel
theorem dX4_init_62 : decode cX4_init 62 = .ok (.return_, 1) := by decide +kernel
theorem dX4_levelAt_0 : decode cX4_levelAt 0 = .ok (.aload_n 0, 1) := by decide +kernel
theorem dX4_levelAt_1 : decode cX4_levelAt 1 = .ok (.getfield 23, 3) := by decide +kernel
theorem dX4_levelAt_4 : decode cX4_levelAt 4 = .ok (.iload_n 1, 1) := by decide +kernel
theorem dX4_levelAt_5 : decode cX4_levelAt 5 = .ok (.bipush 12, 2) := by decide +kernel
theorem dX4_levelAt_7 : decode cX4_levelAt 7 = .ok (.irem, 1) := by decide +kernel
theorem dX4_levelAt_8 : decode cX4_levelAt 8 = .ok (.invokevirtual 29, 3) := by decide +kernel
theorem dX4_levelAt_11 : decode cX4_levelAt 11 = .ok (.ireturn, 1) := by decide +kernel
theorem dX4_depth_0 : decode cX4_depth 0 = .ok (.iconst 0, 1) := by decide +kernel
theorem dX4_depth_1 : decode cX4_depth 1 = .ok (.iload_n 2, 1) := by decide +kernel
theorem dX4_depth_2 : decode cX4_depth 2 = .ok (.aload_n 0, 1) := by decide +kernel
theorem dX4_depth_3 : decode cX4_depth 3 = .ok (.getfield 14, 3) := by decide +kernel
theorem dX4_depth_6 : decode cX4_depth 6 = .ok (.iload_n 1, 1) := by decide +kernel
theorem dX4_depth_7 : decode cX4_depth 7 = .ok (.invokevirtual 29, 3) := by decide +kernel
theorem dX4_depth_10 : decode cX4_depth 10 = .ok (.isub, 1) := by decide +kernel
theorem dX4_depth_11 : decode cX4_depth 11 = .ok (.invokestatic 33, 3) := by decide +kernel
theorem dX4_depth_14 : decode cX4_depth 14 = .ok (.ireturn, 1) := by decide +kernel
theorem dX4_showsStake_0 : decode cX4_showsStake 0 = .ok (.aload_n 0, 1) := by decide +kernel
theorem dX4_showsStake_1 : decode cX4_showsStake 1 = .ok (.iload_n 1, 1) := by decide +kernel
theorem dX4_showsStake_2 : decode cX4_showsStake 2 = .ok (.iload_n 2, 1) := by decide +kernel
theorem dX4_showsStake_3 : decode cX4_showsStake 3 = .ok (.invokevirtual 39, 3) := by decide +kernel
theorem dX4_showsStake_6 : decode cX4_showsStake 6 = .ok (.aload_n 0, 1) := by decide +kernel
theorem dX4_showsStake_7 : decode cX4_showsStake 7 = .ok (.getfield 20, 3) := by decide +kernel
theorem dX4_showsStake_10 : decode cX4_showsStake 10 = .ok (.iload_n 1, 1) := by decide +kernel
theorem dX4_showsStake_11 : decode cX4_showsStake 11 = .ok (.invokevirtual 29, 3) := by decide +kernel
theorem dX4_showsStake_14 : decode cX4_showsStake 14 = .ok (.if_icmp .ge 7, 3) := by decide +kernel
theorem dX4_showsStake_17 : decode cX4_showsStake 17 = .ok (.iconst 1, 1) := by decide +kernel
theorem dX4_showsStake_18 : decode cX4_showsStake 18 = .ok (.goto 4, 3) := by decide +kernel
theorem dX4_showsStake_21 : decode cX4_showsStake 21 = .ok (.iconst 0, 1) := by decide +kernel
theorem dX4_showsStake_22 : decode cX4_showsStake 22 = .ok (.ireturn, 1) := by decide +kernel
theorem dX4_stakesShown_0 : decode cX4_stakesShown 0 = .ok (.iconst 0, 1) := by decide +kernel
theorem dX4_stakesShown_1 : decode cX4_stakesShown 1 = .ok (.istore_n 2, 1) := by decide +kernel
theorem dX4_stakesShown_2 : decode cX4_stakesShown 2 = .ok (.iconst 0, 1) := by decide +kernel
theorem dX4_stakesShown_3 : decode cX4_stakesShown 3 = .ok (.istore_n 3, 1) := by decide +kernel
theorem dX4_stakesShown_4 : decode cX4_stakesShown 4 = .ok (.iload_n 3, 1) := by decide +kernel
theorem dX4_stakesShown_5 : decode cX4_stakesShown 5 = .ok (.sipush 196, 3) := by decide +kernel
theorem dX4_stakesShown_8 : decode cX4_stakesShown 8 = .ok (.if_icmp .ge 21, 3) := by decide +kernel
theorem dX4_stakesShown_11 : decode cX4_stakesShown 11 = .ok (.aload_n 0, 1) := by decide +kernel
theorem dX4_stakesShown_12 : decode cX4_stakesShown 12 = .ok (.iload_n 3, 1) := by decide +kernel
theorem dX4_stakesShown_13 : decode cX4_stakesShown 13 = .ok (.iload_n 1, 1) := by decide +kernel
theorem dX4_stakesShown_14 : decode cX4_stakesShown 14 = .ok (.invokevirtual 42, 3) := by decide +kernel
theorem dX4_stakesShown_17 : decode cX4_stakesShown 17 = .ok (.ifCond .eq 6, 3) := by decide +kernel
theorem dX4_stakesShown_20 : decode cX4_stakesShown 20 = .ok (.iinc 2 1, 3) := by decide +kernel
theorem dX4_stakesShown_23 : decode cX4_stakesShown 23 = .ok (.iinc 3 1, 3) := by decide +kernel
theorem dX4_stakesShown_26 : decode cX4_stakesShown 26 = .ok (.goto (-22), 3) := by decide +kernel
theorem dX4_stakesShown_29 : decode cX4_stakesShown 29 = .ok (.iload_n 2, 1) := by decide +kernel
theorem dX4_stakesShown_30 : decode cX4_stakesShown 30 = .ok (.ireturn, 1) := by decide +kernel
theorem dX4_beside_0 : decode cX4_beside 0 = .ok (.iload_n 1, 1) := by decide +kernel
theorem dX4_beside_1 : decode cX4_beside 1 = .ok (.tableswitch 75 0 2 #[27, 43, 58], 27) := by decide +kernel
theorem dX4_beside_28 : decode cX4_beside 28 = .ok (.iload_n 0, 1) := by decide +kernel
theorem dX4_beside_29 : decode cX4_beside 29 = .ok (.invokestatic 46, 3) := by decide +kernel
theorem dX4_beside_32 : decode cX4_beside 32 = .ok (.ifCond .ne 7, 3) := by decide +kernel
theorem dX4_beside_35 : decode cX4_beside 35 = .ok (.iconst (-1), 1) := by decide +kernel
theorem dX4_beside_36 : decode cX4_beside 36 = .ok (.goto 7, 3) := by decide +kernel
theorem dX4_beside_39 : decode cX4_beside 39 = .ok (.iload_n 0, 1) := by decide +kernel
theorem dX4_beside_40 : decode cX4_beside 40 = .ok (.bipush 14, 2) := by decide +kernel
theorem dX4_beside_42 : decode cX4_beside 42 = .ok (.isub, 1) := by decide +kernel
theorem dX4_beside_43 : decode cX4_beside 43 = .ok (.ireturn, 1) := by decide +kernel
theorem dX4_beside_44 : decode cX4_beside 44 = .ok (.iload_n 0, 1) := by decide +kernel
theorem dX4_beside_45 : decode cX4_beside 45 = .ok (.invokestatic 49, 3) := by decide +kernel
theorem dX4_beside_48 : decode cX4_beside 48 = .ok (.ifCond .ne 7, 3) := by decide +kernel
theorem dX4_beside_51 : decode cX4_beside 51 = .ok (.iconst (-1), 1) := by decide +kernel
theorem dX4_beside_52 : decode cX4_beside 52 = .ok (.goto 6, 3) := by decide +kernel
theorem dX4_beside_55 : decode cX4_beside 55 = .ok (.iload_n 0, 1) := by decide +kernel
theorem dX4_beside_56 : decode cX4_beside 56 = .ok (.iconst 1, 1) := by decide +kernel
theorem dX4_beside_57 : decode cX4_beside 57 = .ok (.isub, 1) := by decide +kernel
theorem dX4_beside_58 : decode cX4_beside 58 = .ok (.ireturn, 1) := by decide +kernel
theorem dX4_beside_59 : decode cX4_beside 59 = .ok (.iload_n 0, 1) := by decide +kernel
theorem dX4_beside_60 : decode cX4_beside 60 = .ok (.invokestatic 49, 3) := by decide +kernel
theorem dX4_beside_63 : decode cX4_beside 63 = .ok (.bipush 13, 2) := by decide +kernel
theorem dX4_beside_65 : decode cX4_beside 65 = .ok (.if_icmp .ne 7, 3) := by decide +kernel
theorem dX4_beside_68 : decode cX4_beside 68 = .ok (.iconst (-1), 1) := by decide +kernel
theorem dX4_beside_69 : decode cX4_beside 69 = .ok (.goto 6, 3) := by decide +kernel
theorem dX4_beside_72 : decode cX4_beside 72 = .ok (.iload_n 0, 1) := by decide +kernel
theorem dX4_beside_73 : decode cX4_beside 73 = .ok (.iconst 1, 1) := by decide +kernel
theorem dX4_beside_74 : decode cX4_beside 74 = .ok (.iadd, 1) := by decide +kernel
theorem dX4_beside_75 : decode cX4_beside 75 = .ok (.ireturn, 1) := by decide +kernel
theorem dX4_beside_76 : decode cX4_beside 76 = .ok (.iload_n 0, 1) := by decide +kernel
theorem dX4_beside_77 : decode cX4_beside 77 = .ok (.invokestatic 46, 3) := by decide +kernel
theorem dX4_beside_80 : decode cX4_beside 80 = .ok (.bipush 13, 2) := by decide +kernel
theorem dX4_beside_82 : decode cX4_beside 82 = .ok (.if_icmp .ne 7, 3) := by decide +kernel
theorem dX4_beside_85 : decode cX4_beside 85 = .ok (.iconst (-1), 1) := by decide +kernel
theorem dX4_beside_86 : decode cX4_beside 86 = .ok (.goto 7, 3) := by decide +kernel
theorem dX4_beside_89 : decode cX4_beside 89 = .ok (.iload_n 0, 1) := by decide +kernel
theorem dX4_beside_90 : decode cX4_beside 90 = .ok (.bipush 14, 2) := by decide +kernel
theorem dX4_beside_92 : decode cX4_beside 92 = .ok (.iadd, 1) := by decide +kernel
theorem dX4_beside_93 : decode cX4_beside 93 = .ok (.ireturn, 1) := by decide +kernel
theorem dX5_init_0 : decode cX5_init 0 = .ok (.aload_n 0, 1) := by decide +kernel
theorem dX5_init_1 : decode cX5_init 1 = .ok (.invokespecial 1, 3) := by decide +kernel
theorem dX5_init_4 : decode cX5_init 4 = .ok (.aload_n 0, 1) := by decide +kernel
theorem dX5_init_5 : decode cX5_init 5 = .ok (.iload_n 1, 1) := by decide +kernel
theorem dX5_init_6 : decode cX5_init 6 = .ok (.ifCond .ge 7, 3) := by decide +kernel
theorem dX5_init_9 : decode cX5_init 9 = .ok (.iconst 0, 1) := by decide +kernel
theorem dX5_init_10 : decode cX5_init 10 = .ok (.goto 4, 3) := by decide +kernel
theorem dX5_init_13 : decode cX5_init 13 = .ok (.iload_n 1, 1) := by decide +kernel
theorem dX5_init_14 : decode cX5_init 14 = .ok (.newarray .int, 2) := by decide +kernel
theorem dX5_init_16 : decode cX5_init 16 = .ok (.putfield 7, 3) := by decide +kernel
theorem dX5_init_19 : decode cX5_init 19 = .ok (.return_, 1) := by decide +kernel
theorem dX5_get_0 : decode cX5_get 0 = .ok (.iload_n 1, 1) := by decide +kernel
theorem dX5_get_1 : decode cX5_get 1 = .ok (.ifCond .lt 21, 3) := by decide +kernel
theorem dX5_get_4 : decode cX5_get 4 = .ok (.iload_n 1, 1) := by decide +kernel
theorem dX5_get_5 : decode cX5_get 5 = .ok (.aload_n 0, 1) := by decide +kernel
theorem dX5_get_6 : decode cX5_get 6 = .ok (.getfield 7, 3) := by decide +kernel
theorem dX5_get_9 : decode cX5_get 9 = .ok (.arraylength, 1) := by decide +kernel
theorem dX5_get_10 : decode cX5_get 10 = .ok (.if_icmp .ge 12, 3) := by decide +kernel
theorem dX5_get_13 : decode cX5_get 13 = .ok (.aload_n 0, 1) := by decide +kernel
theorem dX5_get_14 : decode cX5_get 14 = .ok (.getfield 7, 3) := by decide +kernel
theorem dX5_get_17 : decode cX5_get 17 = .ok (.iload_n 1, 1) := by decide +kernel
theorem dX5_get_18 : decode cX5_get 18 = .ok (.iaload, 1) := by decide +kernel
theorem dX5_get_19 : decode cX5_get 19 = .ok (.goto 4, 3) := by decide +kernel
theorem dX5_get_22 : decode cX5_get 22 = .ok (.iconst 0, 1) := by decide +kernel
theorem dX5_get_23 : decode cX5_get 23 = .ok (.ireturn, 1) := by decide +kernel
theorem dX5_set_0 : decode cX5_set 0 = .ok (.iload_n 1, 1) := by decide +kernel
theorem dX5_set_1 : decode cX5_set 1 = .ok (.ifCond .lt 19, 3) := by decide +kernel
theorem dX5_set_4 : decode cX5_set 4 = .ok (.iload_n 1, 1) := by decide +kernel
theorem dX5_set_5 : decode cX5_set 5 = .ok (.aload_n 0, 1) := by decide +kernel
theorem dX5_set_6 : decode cX5_set 6 = .ok (.getfield 7, 3) := by decide +kernel
theorem dX5_set_9 : decode cX5_set 9 = .ok (.arraylength, 1) := by decide +kernel
theorem dX5_set_10 : decode cX5_set 10 = .ok (.if_icmp .ge 10, 3) := by decide +kernel
theorem dX5_set_13 : decode cX5_set 13 = .ok (.aload_n 0, 1) := by decide +kernel
theorem dX5_set_14 : decode cX5_set 14 = .ok (.getfield 7, 3) := by decide +kernel
theorem dX5_set_17 : decode cX5_set 17 = .ok (.iload_n 1, 1) := by decide +kernel
theorem dX5_set_18 : decode cX5_set 18 = .ok (.iload_n 2, 1) := by decide +kernel
theorem dX5_set_19 : decode cX5_set 19 = .ok (.iastore, 1) := by decide +kernel
theorem dX5_set_20 : decode cX5_set 20 = .ok (.return_, 1) := by decide +kernel
theorem dX5_put_0 : decode cX5_put 0 = .ok (.aload_n 0, 1) := by decide +kernel
theorem dX5_put_1 : decode cX5_put 1 = .ok (.iload_n 1, 1) := by decide +kernel
theorem dX5_put_2 : decode cX5_put 2 = .ok (.invokevirtual 13, 3) := by decide +kernel
theorem dX5_put_5 : decode cX5_put 5 = .ok (.istore_n 3, 1) := by decide +kernel
theorem dX5_put_6 : decode cX5_put 6 = .ok (.aload_n 0, 1) := by decide +kernel
theorem dX5_put_7 : decode cX5_put 7 = .ok (.iload_n 1, 1) := by decide +kernel
theorem dX5_put_8 : decode cX5_put 8 = .ok (.iload_n 2, 1) := by decide +kernel
theorem dX5_put_9 : decode cX5_put 9 = .ok (.invokevirtual 17, 3) := by decide +kernel
theorem dX5_put_12 : decode cX5_put 12 = .ok (.iload_n 3, 1) := by decide +kernel
theorem dX5_put_13 : decode cX5_put 13 = .ok (.ireturn, 1) := by decide +kernel
theorem dX5_add_0 : decode cX5_add 0 = .ok (.aload_n 0, 1) := by decide +kernel
theorem dX5_add_1 : decode cX5_add 1 = .ok (.iload_n 1, 1) := by decide +kernel
theorem dX5_add_2 : decode cX5_add 2 = .ok (.aload_n 0, 1) := by decide +kernel
theorem dX5_add_3 : decode cX5_add 3 = .ok (.iload_n 1, 1) := by decide +kernel
theorem dX5_add_4 : decode cX5_add 4 = .ok (.invokevirtual 13, 3) := by decide +kernel
theorem dX5_add_7 : decode cX5_add 7 = .ok (.iload_n 2, 1) := by decide +kernel
theorem dX5_add_8 : decode cX5_add 8 = .ok (.iadd, 1) := by decide +kernel
theorem dX5_add_9 : decode cX5_add 9 = .ok (.invokevirtual 17, 3) := by decide +kernel
theorem dX5_add_12 : decode cX5_add 12 = .ok (.return_, 1) := by decide +kernel
theorem dX5_fill_0 : decode cX5_fill 0 = .ok (.aload_n 0, 1) := by decide +kernel
theorem dX5_fill_1 : decode cX5_fill 1 = .ok (.getfield 7, 3) := by decide +kernel
theorem dX5_fill_4 : decode cX5_fill 4 = .ok (.iload_n 1, 1) := by decide +kernel
theorem dX5_fill_5 : decode cX5_fill 5 = .ok (.invokestatic 21, 3) := by decide +kernel
theorem dX5_fill_8 : decode cX5_fill 8 = .ok (.return_, 1) := by decide +kernel
theorem dX5_howMany_0 : decode cX5_howMany 0 = .ok (.iconst 0, 1) := by decide +kernel
theorem dX5_howMany_1 : decode cX5_howMany 1 = .ok (.istore_n 3, 1) := by decide +kernel
theorem dX5_howMany_2 : decode cX5_howMany 2 = .ok (.iconst 0, 1) := by decide +kernel
theorem dX5_howMany_3 : decode cX5_howMany 3 = .ok (.istore 4, 2) := by decide +kernel
theorem dX5_howMany_5 : decode cX5_howMany 5 = .ok (.iload 4, 2) := by decide +kernel
theorem dX5_howMany_7 : decode cX5_howMany 7 = .ok (.iload_n 2, 1) := by decide +kernel
theorem dX5_howMany_8 : decode cX5_howMany 8 = .ok (.if_icmp .ge 33, 3) := by decide +kernel
theorem dX5_howMany_11 : decode cX5_howMany 11 = .ok (.iload 4, 2) := by decide +kernel
theorem dX5_howMany_13 : decode cX5_howMany 13 = .ok (.aload_n 0, 1) := by decide +kernel
theorem dX5_howMany_14 : decode cX5_howMany 14 = .ok (.getfield 7, 3) := by decide +kernel
theorem dX5_howMany_17 : decode cX5_howMany 17 = .ok (.arraylength, 1) := by decide +kernel
theorem dX5_howMany_18 : decode cX5_howMany 18 = .ok (.if_icmp .ge 23, 3) := by decide +kernel
theorem dX5_howMany_21 : decode cX5_howMany 21 = .ok (.aload_n 0, 1) := by decide +kernel
theorem dX5_howMany_22 : decode cX5_howMany 22 = .ok (.getfield 7, 3) := by decide +kernel
theorem dX5_howMany_25 : decode cX5_howMany 25 = .ok (.iload 4, 2) := by decide +kernel
theorem dX5_howMany_27 : decode cX5_howMany 27 = .ok (.iaload, 1) := by decide +kernel
theorem dX5_howMany_28 : decode cX5_howMany 28 = .ok (.iload_n 1, 1) := by decide +kernel
theorem dX5_howMany_29 : decode cX5_howMany 29 = .ok (.if_icmp .ne 6, 3) := by decide +kernel
theorem dX5_howMany_32 : decode cX5_howMany 32 = .ok (.iinc 3 1, 3) := by decide +kernel
theorem dX5_howMany_35 : decode cX5_howMany 35 = .ok (.iinc 4 1, 3) := by decide +kernel
theorem dX5_howMany_38 : decode cX5_howMany 38 = .ok (.goto (-33), 3) := by decide +kernel
theorem dX5_howMany_41 : decode cX5_howMany 41 = .ok (.iload_n 3, 1) := by decide +kernel
theorem dX5_howMany_42 : decode cX5_howMany 42 = .ok (.ireturn, 1) := by decide +kernel
theorem dX5_takeOver_0 : decode cX5_takeOver 0 = .ok (.iconst 0, 1) := by decide +kernel
theorem dX5_takeOver_1 : decode cX5_takeOver 1 = .ok (.istore_n 2, 1) := by decide +kernel
theorem dX5_takeOver_2 : decode cX5_takeOver 2 = .ok (.iload_n 2, 1) := by decide +kernel
theorem dX5_takeOver_3 : decode cX5_takeOver 3 = .ok (.aload_n 0, 1) := by decide +kernel
theorem dX5_takeOver_4 : decode cX5_takeOver 4 = .ok (.getfield 7, 3) := by decide +kernel
theorem dX5_takeOver_7 : decode cX5_takeOver 7 = .ok (.arraylength, 1) := by decide +kernel
theorem dX5_takeOver_8 : decode cX5_takeOver 8 = .ok (.if_icmp .ge 20, 3) := by decide +kernel
theorem dX5_takeOver_11 : decode cX5_takeOver 11 = .ok (.aload_n 0, 1) := by decide +kernel
theorem dX5_takeOver_12 : decode cX5_takeOver 12 = .ok (.getfield 7, 3) := by decide +kernel
theorem dX5_takeOver_15 : decode cX5_takeOver 15 = .ok (.iload_n 2, 1) := by decide +kernel
theorem dX5_takeOver_16 : decode cX5_takeOver 16 = .ok (.aload_n 1, 1) := by decide +kernel
theorem dX5_takeOver_17 : decode cX5_takeOver 17 = .ok (.iload_n 2, 1) := by decide +kernel
theorem dX5_takeOver_18 : decode cX5_takeOver 18 = .ok (.invokevirtual 13, 3) := by decide +kernel
theorem dX5_takeOver_21 : decode cX5_takeOver 21 = .ok (.iastore, 1) := by decide +kernel
theorem dX5_takeOver_22 : decode cX5_takeOver 22 = .ok (.iinc 2 1, 3) := by decide +kernel
theorem dX5_takeOver_25 : decode cX5_takeOver 25 = .ok (.goto (-23), 3) := by decide +kernel
theorem dX5_takeOver_28 : decode cX5_takeOver 28 = .ok (.return_, 1) := by decide +kernel
theorem dX6_init_0 : decode cX6_init 0 = .ok (.aload_n 0, 1) := by decide +kernel
theorem dX6_init_1 : decode cX6_init 1 = .ok (.invokespecial 3, 3) := by decide +kernel
theorem dX6_init_4 : decode cX6_init 4 = .ok (.aload_n 0, 1) := by decide +kernel
theorem dX6_init_5 : decode cX6_init 5 = .ok (.new 9, 3) := by decide +kernel
theorem dX6_init_8 : decode cX6_init 8 = .ok (.dup, 1) := by decide +kernel
theorem dX6_init_9 : decode cX6_init 9 = .ok (.bipush 6, 2) := by decide +kernel
theorem dX6_init_11 : decode cX6_init 11 = .ok (.invokespecial 11, 3) := by decide +kernel
theorem dX6_init_14 : decode cX6_init 14 = .ok (.putfield 14, 3) := by decide +kernel
theorem dX6_init_17 : decode cX6_init 17 = .ok (.aload_n 0, 1) := by decide +kernel
theorem dX6_init_18 : decode cX6_init 18 = .ok (.new 9, 3) := by decide +kernel
theorem dX6_init_21 : decode cX6_init 21 = .ok (.dup, 1) := by decide +kernel
theorem dX6_init_22 : decode cX6_init 22 = .ok (.bipush 6, 2) := by decide +kernel
theorem dX6_init_24 : decode cX6_init 24 = .ok (.invokespecial 11, 3) := by decide +kernel
theorem dX6_init_27 : decode cX6_init 27 = .ok (.putfield 20, 3) := by decide +kernel
theorem dX6_init_30 : decode cX6_init 30 = .ok (.aload_n 0, 1) := by decide +kernel
theorem dX6_init_31 : decode cX6_init 31 = .ok (.new 9, 3) := by decide +kernel
theorem dX6_init_34 : decode cX6_init 34 = .ok (.dup, 1) := by decide +kernel
theorem dX6_init_35 : decode cX6_init 35 = .ok (.bipush 6, 2) := by decide +kernel
theorem dX6_init_37 : decode cX6_init 37 = .ok (.invokespecial 11, 3) := by decide +kernel
theorem dX6_init_40 : decode cX6_init 40 = .ok (.putfield 23, 3) := by decide +kernel
theorem dX6_init_43 : decode cX6_init 43 = .ok (.aload_n 0, 1) := by decide +kernel
theorem dX6_init_44 : decode cX6_init 44 = .ok (.new 9, 3) := by decide +kernel
theorem dX6_init_47 : decode cX6_init 47 = .ok (.dup, 1) := by decide +kernel
theorem dX6_init_48 : decode cX6_init 48 = .ok (.bipush 6, 2) := by decide +kernel
theorem dX6_init_50 : decode cX6_init 50 = .ok (.invokespecial 11, 3) := by decide +kernel
theorem dX6_init_53 : decode cX6_init 53 = .ok (.putfield 26, 3) := by decide +kernel
theorem dX6_init_56 : decode cX6_init 56 = .ok (.aload_n 0, 1) := by decide +kernel
theorem dX6_init_57 : decode cX6_init 57 = .ok (.new 29, 3) := by decide +kernel
theorem dX6_init_60 : decode cX6_init 60 = .ok (.dup, 1) := by decide +kernel
theorem dX6_init_61 : decode cX6_init 61 = .ok (.invokespecial 31, 3) := by decide +kernel
theorem dX6_init_64 : decode cX6_init 64 = .ok (.putfield 32, 3) := by decide +kernel
theorem dX6_init_67 : decode cX6_init 67 = .ok (.aload_n 0, 1) := by decide +kernel
theorem dX6_init_68 : decode cX6_init 68 = .ok (.aload_n 1, 1) := by decide +kernel
theorem dX6_init_69 : decode cX6_init 69 = .ok (.putfield 36, 3) := by decide +kernel
theorem dX6_init_72 : decode cX6_init 72 = .ok (.aload_n 0, 1) := by decide +kernel
theorem dX6_init_73 : decode cX6_init 73 = .ok (.aload_n 2, 1) := by decide +kernel
theorem dX6_init_74 : decode cX6_init 74 = .ok (.putfield 40, 3) := by decide +kernel
theorem dX6_init_77 : decode cX6_init 77 = .ok (.aload_n 0, 1) := by decide +kernel
theorem dX6_init_78 : decode cX6_init 78 = .ok (.aload_n 3, 1) := by decide +kernel
theorem dX6_init_79 : decode cX6_init 79 = .ok (.putfield 44, 3) := by decide +kernel
theorem dX6_init_82 : decode cX6_init 82 = .ok (.aload_n 0, 1) := by decide +kernel
theorem dX6_init_83 : decode cX6_init 83 = .ok (.aload 4, 2) := by decide +kernel
theorem dX6_init_85 : decode cX6_init 85 = .ok (.putfield 48, 3) := by decide +kernel
theorem dX6_init_88 : decode cX6_init 88 = .ok (.aload_n 0, 1) := by decide +kernel
theorem dX6_init_89 : decode cX6_init 89 = .ok (.aload 5, 2) := by decide +kernel
theorem dX6_init_91 : decode cX6_init 91 = .ok (.putfield 52, 3) := by decide +kernel
theorem dX6_init_94 : decode cX6_init 94 = .ok (.return_, 1) := by decide +kernel
theorem dX6_takeOver_0 : decode cX6_takeOver 0 = .ok (.aload_n 0, 1) := by decide +kernel
theorem dX6_takeOver_1 : decode cX6_takeOver 1 = .ok (.aload_n 1, 1) := by decide +kernel
theorem dX6_takeOver_2 : decode cX6_takeOver 2 = .ok (.getfield 56, 3) := by decide +kernel
theorem dX6_takeOver_5 : decode cX6_takeOver 5 = .ok (.putfield 56, 3) := by decide +kernel
theorem dX6_takeOver_8 : decode cX6_takeOver 8 = .ok (.aload_n 0, 1) := by decide +kernel
theorem dX6_takeOver_9 : decode cX6_takeOver 9 = .ok (.getfield 14, 3) := by decide +kernel
theorem dX6_takeOver_12 : decode cX6_takeOver 12 = .ok (.aload_n 1, 1) := by decide +kernel
theorem dX6_takeOver_13 : decode cX6_takeOver 13 = .ok (.getfield 14, 3) := by decide +kernel
theorem dX6_takeOver_16 : decode cX6_takeOver 16 = .ok (.invokevirtual 60, 3) := by decide +kernel
theorem dX6_takeOver_19 : decode cX6_takeOver 19 = .ok (.aload_n 0, 1) := by decide +kernel
theorem dX6_takeOver_20 : decode cX6_takeOver 20 = .ok (.getfield 20, 3) := by decide +kernel
theorem dX6_takeOver_23 : decode cX6_takeOver 23 = .ok (.aload_n 1, 1) := by decide +kernel
theorem dX6_takeOver_24 : decode cX6_takeOver 24 = .ok (.getfield 20, 3) := by decide +kernel
theorem dX6_takeOver_27 : decode cX6_takeOver 27 = .ok (.invokevirtual 60, 3) := by decide +kernel
theorem dX6_takeOver_30 : decode cX6_takeOver 30 = .ok (.aload_n 0, 1) := by decide +kernel
theorem dX6_takeOver_31 : decode cX6_takeOver 31 = .ok (.getfield 23, 3) := by decide +kernel
theorem dX6_takeOver_34 : decode cX6_takeOver 34 = .ok (.aload_n 1, 1) := by decide +kernel
theorem dX6_takeOver_35 : decode cX6_takeOver 35 = .ok (.getfield 23, 3) := by decide +kernel
theorem dX6_takeOver_38 : decode cX6_takeOver 38 = .ok (.invokevirtual 60, 3) := by decide +kernel
theorem dX6_takeOver_41 : decode cX6_takeOver 41 = .ok (.aload_n 0, 1) := by decide +kernel
theorem dX6_takeOver_42 : decode cX6_takeOver 42 = .ok (.getfield 26, 3) := by decide +kernel
theorem dX6_takeOver_45 : decode cX6_takeOver 45 = .ok (.aload_n 1, 1) := by decide +kernel
theorem dX6_takeOver_46 : decode cX6_takeOver 46 = .ok (.getfield 26, 3) := by decide +kernel
theorem dX6_takeOver_49 : decode cX6_takeOver 49 = .ok (.invokevirtual 60, 3) := by decide +kernel
theorem dX6_takeOver_52 : decode cX6_takeOver 52 = .ok (.aload_n 0, 1) := by decide +kernel
theorem dX6_takeOver_53 : decode cX6_takeOver 53 = .ok (.getfield 32, 3) := by decide +kernel
theorem dX6_takeOver_56 : decode cX6_takeOver 56 = .ok (.aload_n 1, 1) := by decide +kernel
theorem dX6_takeOver_57 : decode cX6_takeOver 57 = .ok (.getfield 32, 3) := by decide +kernel
theorem dX6_takeOver_60 : decode cX6_takeOver 60 = .ok (.invokevirtual 64, 3) := by decide +kernel
theorem dX6_takeOver_63 : decode cX6_takeOver 63 = .ok (.return_, 1) := by decide +kernel
theorem dX6_place_0 : decode cX6_place 0 = .ok (.aload_n 0, 1) := by decide +kernel
theorem dX6_place_1 : decode cX6_place 1 = .ok (.getfield 14, 3) := by decide +kernel
theorem dX6_place_4 : decode cX6_place 4 = .ok (.iload_n 1, 1) := by decide +kernel
theorem dX6_place_5 : decode cX6_place 5 = .ok (.iload_n 2, 1) := by decide +kernel
theorem dX6_place_6 : decode cX6_place 6 = .ok (.invokevirtual 67, 3) := by decide +kernel
theorem dX6_place_9 : decode cX6_place 9 = .ok (.aload_n 0, 1) := by decide +kernel
theorem dX6_place_10 : decode cX6_place 10 = .ok (.getfield 20, 3) := by decide +kernel
theorem dX6_place_13 : decode cX6_place 13 = .ok (.iload_n 1, 1) := by decide +kernel
theorem dX6_place_14 : decode cX6_place 14 = .ok (.iload_n 3, 1) := by decide +kernel
theorem dX6_place_15 : decode cX6_place 15 = .ok (.invokevirtual 67, 3) := by decide +kernel
theorem dX6_place_18 : decode cX6_place 18 = .ok (.return_, 1) := by decide +kernel
theorem dX6_level_0 : decode cX6_level 0 = .ok (.aload_n 0, 1) := by decide +kernel
theorem dX6_level_1 : decode cX6_level 1 = .ok (.getfield 36, 3) := by decide +kernel
theorem dX6_level_4 : decode cX6_level 4 = .ok (.aload_n 0, 1) := by decide +kernel
theorem dX6_level_5 : decode cX6_level 5 = .ok (.getfield 56, 3) := by decide +kernel
theorem dX6_level_8 : decode cX6_level 8 = .ok (.invokevirtual 71, 3) := by decide +kernel
theorem dX6_level_11 : decode cX6_level 11 = .ok (.ireturn, 1) := by decide +kernel
theorem dX6_isAground_0 : decode cX6_isAground 0 = .ok (.aload_n 0, 1) := by decide +kernel
theorem dX6_isAground_1 : decode cX6_isAground 1 = .ok (.getfield 44, 3) := by decide +kernel
theorem dX6_isAground_4 : decode cX6_isAground 4 = .ok (.iload_n 1, 1) := by decide +kernel
theorem dX6_isAground_5 : decode cX6_isAground 5 = .ok (.aload_n 0, 1) := by decide +kernel
theorem dX6_isAground_6 : decode cX6_isAground 6 = .ok (.getfield 36, 3) := by decide +kernel
theorem dX6_isAground_9 : decode cX6_isAground 9 = .ok (.aload_n 0, 1) := by decide +kernel
theorem dX6_isAground_10 : decode cX6_isAground 10 = .ok (.getfield 14, 3) := by decide +kernel
theorem dX6_isAground_13 : decode cX6_isAground 13 = .ok (.iload_n 1, 1) := by decide +kernel
theorem dX6_isAground_14 : decode cX6_isAground 14 = .ok (.invokevirtual 77, 3) := by decide +kernel
theorem dX6_isAground_17 : decode cX6_isAground 17 = .ok (.aload_n 0, 1) := by decide +kernel
theorem dX6_isAground_18 : decode cX6_isAground 18 = .ok (.invokevirtual 80, 3) := by decide +kernel
theorem dX6_isAground_21 : decode cX6_isAground 21 = .ok (.invokevirtual 84, 3) := by decide +kernel
theorem dX6_isAground_24 : decode cX6_isAground 24 = .ok (.invokevirtual 88, 3) := by decide +kernel
theorem dX6_isAground_27 : decode cX6_isAground 27 = .ok (.ifCond .ne 7, 3) := by decide +kernel
theorem dX6_isAground_30 : decode cX6_isAground 30 = .ok (.iconst 1, 1) := by decide +kernel
theorem dX6_isAground_31 : decode cX6_isAground 31 = .ok (.goto 4, 3) := by decide +kernel
theorem dX6_isAground_34 : decode cX6_isAground 34 = .ok (.iconst 0, 1) := by decide +kernel
theorem dX6_isAground_35 : decode cX6_isAground 35 = .ok (.ireturn, 1) := by decide +kernel
theorem dX6_wayLeft_0 : decode cX6_wayLeft 0 = .ok (.aload_n 0, 1) := by decide +kernel
theorem dX6_wayLeft_1 : decode cX6_wayLeft 1 = .ok (.getfield 52, 3) := by decide +kernel
theorem dX6_wayLeft_4 : decode cX6_wayLeft 4 = .ok (.aload_n 0, 1) := by decide +kernel
theorem dX6_wayLeft_5 : decode cX6_wayLeft 5 = .ok (.getfield 52, 3) := by decide +kernel
theorem dX6_wayLeft_8 : decode cX6_wayLeft 8 = .ok (.iload_n 1, 1) := by decide +kernel
theorem dX6_wayLeft_9 : decode cX6_wayLeft 9 = .ok (.aload_n 0, 1) := by decide +kernel
theorem dX6_wayLeft_10 : decode cX6_wayLeft 10 = .ok (.getfield 20, 3) := by decide +kernel
theorem dX6_wayLeft_13 : decode cX6_wayLeft 13 = .ok (.iload_n 1, 1) := by decide +kernel
theorem dX6_wayLeft_14 : decode cX6_wayLeft 14 = .ok (.invokevirtual 77, 3) := by decide +kernel
theorem dX6_wayLeft_17 : decode cX6_wayLeft 17 = .ok (.aload_n 0, 1) := by decide +kernel
theorem dX6_wayLeft_18 : decode cX6_wayLeft 18 = .ok (.invokevirtual 80, 3) := by decide +kernel
theorem dX6_wayLeft_21 : decode cX6_wayLeft 21 = .ok (.invokevirtual 94, 3) := by decide +kernel
theorem dX6_wayLeft_24 : decode cX6_wayLeft 24 = .ok (.aload_n 0, 1) := by decide +kernel
theorem dX6_wayLeft_25 : decode cX6_wayLeft 25 = .ok (.getfield 14, 3) := by decide +kernel
theorem dX6_wayLeft_28 : decode cX6_wayLeft 28 = .ok (.iload_n 1, 1) := by decide +kernel
theorem dX6_wayLeft_29 : decode cX6_wayLeft 29 = .ok (.invokevirtual 77, 3) := by decide +kernel
theorem dX6_wayLeft_32 : decode cX6_wayLeft 32 = .ok (.invokevirtual 100, 3) := by decide +kernel
theorem dX6_wayLeft_35 : decode cX6_wayLeft 35 = .ok (.ireturn, 1) := by decide +kernel
theorem dX6_puntsAground_0 : decode cX6_puntsAground 0 = .ok (.iconst 0, 1) := by decide +kernel
theorem dX6_puntsAground_1 : decode cX6_puntsAground 1 = .ok (.istore_n 1, 1) := by decide +kernel
theorem dX6_puntsAground_2 : decode cX6_puntsAground 2 = .ok (.iconst 0, 1) := by decide +kernel
theorem dX6_puntsAground_3 : decode cX6_puntsAground 3 = .ok (.istore_n 2, 1) := by decide +kernel
theorem dX6_puntsAground_4 : decode cX6_puntsAground 4 = .ok (.iload_n 2, 1) := by decide +kernel
theorem dX6_puntsAground_5 : decode cX6_puntsAground 5 = .ok (.aload_n 0, 1) := by decide +kernel
theorem dX6_puntsAground_6 : decode cX6_puntsAground 6 = .ok (.getfield 44, 3) := by decide +kernel
theorem dX6_puntsAground_9 : decode cX6_puntsAground 9 = .ok (.getfield 103, 3) := by decide +kernel
theorem dX6_puntsAground_12 : decode cX6_puntsAground 12 = .ok (.if_icmp .ge 20, 3) := by decide +kernel
theorem dX6_puntsAground_15 : decode cX6_puntsAground 15 = .ok (.aload_n 0, 1) := by decide +kernel
theorem dX6_puntsAground_16 : decode cX6_puntsAground 16 = .ok (.iload_n 2, 1) := by decide +kernel
theorem dX6_puntsAground_17 : decode cX6_puntsAground 17 = .ok (.invokevirtual 106, 3) := by decide +kernel
theorem dX6_puntsAground_20 : decode cX6_puntsAground 20 = .ok (.ifCond .eq 6, 3) := by decide +kernel
theorem dX6_puntsAground_23 : decode cX6_puntsAground 23 = .ok (.iinc 1 1, 3) := by decide +kernel
theorem dX6_puntsAground_26 : decode cX6_puntsAground 26 = .ok (.iinc 2 1, 3) := by decide +kernel
theorem dX6_puntsAground_29 : decode cX6_puntsAground 29 = .ok (.goto (-25), 3) := by decide +kernel
theorem dX6_puntsAground_32 : decode cX6_puntsAground 32 = .ok (.iload_n 1, 1) := by decide +kernel
theorem dX6_puntsAground_33 : decode cX6_puntsAground 33 = .ok (.ireturn, 1) := by decide +kernel
theorem dX6_takingsInAll_0 : decode cX6_takingsInAll 0 = .ok (.iconst 0, 1) := by decide +kernel
theorem dX6_takingsInAll_1 : decode cX6_takingsInAll 1 = .ok (.istore_n 1, 1) := by decide +kernel
theorem dX6_takingsInAll_2 : decode cX6_takingsInAll 2 = .ok (.iconst 0, 1) := by decide +kernel
theorem dX6_takingsInAll_3 : decode cX6_takingsInAll 3 = .ok (.istore_n 2, 1) := by decide +kernel
theorem dX6_takingsInAll_4 : decode cX6_takingsInAll 4 = .ok (.iload_n 2, 1) := by decide +kernel
theorem dX6_takingsInAll_5 : decode cX6_takingsInAll 5 = .ok (.aload_n 0, 1) := by decide +kernel
theorem dX6_takingsInAll_6 : decode cX6_takingsInAll 6 = .ok (.getfield 44, 3) := by decide +kernel
theorem dX6_takingsInAll_9 : decode cX6_takingsInAll 9 = .ok (.getfield 103, 3) := by decide +kernel
theorem dX6_takingsInAll_12 : decode cX6_takingsInAll 12 = .ok (.if_icmp .ge 20, 3) := by decide +kernel
theorem dX6_takingsInAll_15 : decode cX6_takingsInAll 15 = .ok (.iload_n 1, 1) := by decide +kernel
theorem dX6_takingsInAll_16 : decode cX6_takingsInAll 16 = .ok (.aload_n 0, 1) := by decide +kernel
theorem dX6_takingsInAll_17 : decode cX6_takingsInAll 17 = .ok (.getfield 23, 3) := by decide +kernel
theorem dX6_takingsInAll_20 : decode cX6_takingsInAll 20 = .ok (.iload_n 2, 1) := by decide +kernel
theorem dX6_takingsInAll_21 : decode cX6_takingsInAll 21 = .ok (.invokevirtual 77, 3) := by decide +kernel
theorem dX6_takingsInAll_24 : decode cX6_takingsInAll 24 = .ok (.iadd, 1) := by decide +kernel
theorem dX6_takingsInAll_25 : decode cX6_takingsInAll 25 = .ok (.istore_n 1, 1) := by decide +kernel
theorem dX6_takingsInAll_26 : decode cX6_takingsInAll 26 = .ok (.iinc 2 1, 3) := by decide +kernel
theorem dX6_takingsInAll_29 : decode cX6_takingsInAll 29 = .ok (.goto (-25), 3) := by decide +kernel
theorem dX6_takingsInAll_32 : decode cX6_takingsInAll 32 = .ok (.iload_n 1, 1) := by decide +kernel
theorem dX6_takingsInAll_33 : decode cX6_takingsInAll 33 = .ok (.ireturn, 1) := by decide +kernel
theorem dX6_chainLeft_0 : decode cX6_chainLeft 0 = .ok (.aload_n 0, 1) := by decide +kernel
theorem dX6_chainLeft_1 : decode cX6_chainLeft 1 = .ok (.getfield 32, 3) := by decide +kernel
theorem dX6_chainLeft_4 : decode cX6_chainLeft 4 = .ok (.getfield 110, 3) := by decide +kernel
theorem dX6_chainLeft_7 : decode cX6_chainLeft 7 = .ok (.iload_n 1, 1) := by decide +kernel
theorem dX6_chainLeft_8 : decode cX6_chainLeft 8 = .ok (.invokevirtual 77, 3) := by decide +kernel
theorem dX6_chainLeft_11 : decode cX6_chainLeft 11 = .ok (.istore_n 2, 1) := by decide +kernel
theorem dX6_chainLeft_12 : decode cX6_chainLeft 12 = .ok (.aload_n 0, 1) := by decide +kernel
theorem dX6_chainLeft_13 : decode cX6_chainLeft 13 = .ok (.getfield 32, 3) := by decide +kernel
theorem dX6_chainLeft_16 : decode cX6_chainLeft 16 = .ok (.iload_n 1, 1) := by decide +kernel
theorem dX6_chainLeft_17 : decode cX6_chainLeft 17 = .ok (.invokevirtual 113, 3) := by decide +kernel
theorem dX6_chainLeft_20 : decode cX6_chainLeft 20 = .ok (.ifCond .ne 23, 3) := by decide +kernel
theorem dX6_chainLeft_23 : decode cX6_chainLeft 23 = .ok (.aload_n 0, 1) := by decide +kernel
theorem dX6_chainLeft_24 : decode cX6_chainLeft 24 = .ok (.getfield 48, 3) := by decide +kernel
theorem dX6_chainLeft_27 : decode cX6_chainLeft 27 = .ok (.aload_n 0, 1) := by decide +kernel
theorem dX6_chainLeft_28 : decode cX6_chainLeft 28 = .ok (.getfield 32, 3) := by decide +kernel
theorem dX6_chainLeft_31 : decode cX6_chainLeft 31 = .ok (.getfield 116, 3) := by decide +kernel
theorem dX6_chainLeft_34 : decode cX6_chainLeft 34 = .ok (.iload_n 1, 1) := by decide +kernel
theorem dX6_chainLeft_35 : decode cX6_chainLeft 35 = .ok (.invokevirtual 77, 3) := by decide +kernel
theorem dX6_chainLeft_38 : decode cX6_chainLeft 38 = .ok (.iload_n 2, 1) := by decide +kernel
theorem dX6_chainLeft_39 : decode cX6_chainLeft 39 = .ok (.invokevirtual 119, 3) := by decide +kernel
theorem dX6_chainLeft_42 : decode cX6_chainLeft 42 = .ok (.ireturn, 1) := by decide +kernel
theorem dX6_chainLeft_43 : decode cX6_chainLeft 43 = .ok (.aload_n 0, 1) := by decide +kernel
theorem dX6_chainLeft_44 : decode cX6_chainLeft 44 = .ok (.getfield 48, 3) := by decide +kernel
theorem dX6_chainLeft_47 : decode cX6_chainLeft 47 = .ok (.aload_n 0, 1) := by decide +kernel
theorem dX6_chainLeft_48 : decode cX6_chainLeft 48 = .ok (.getfield 20, 3) := by decide +kernel
theorem dX6_chainLeft_51 : decode cX6_chainLeft 51 = .ok (.aload_n 0, 1) := by decide +kernel
theorem dX6_chainLeft_52 : decode cX6_chainLeft 52 = .ok (.getfield 32, 3) := by decide +kernel
theorem dX6_chainLeft_55 : decode cX6_chainLeft 55 = .ok (.getfield 124, 3) := by decide +kernel
theorem dX6_chainLeft_58 : decode cX6_chainLeft 58 = .ok (.iload_n 1, 1) := by decide +kernel
theorem dX6_chainLeft_59 : decode cX6_chainLeft 59 = .ok (.invokevirtual 77, 3) := by decide +kernel
theorem dX6_chainLeft_62 : decode cX6_chainLeft 62 = .ok (.invokevirtual 77, 3) := by decide +kernel
theorem dX6_chainLeft_65 : decode cX6_chainLeft 65 = .ok (.iload_n 2, 1) := by decide +kernel
theorem dX6_chainLeft_66 : decode cX6_chainLeft 66 = .ok (.invokevirtual 119, 3) := by decide +kernel
theorem dX6_chainLeft_69 : decode cX6_chainLeft 69 = .ok (.istore_n 3, 1) := by decide +kernel
theorem dX6_chainLeft_70 : decode cX6_chainLeft 70 = .ok (.iload_n 3, 1) := by decide +kernel
theorem dX6_chainLeft_71 : decode cX6_chainLeft 71 = .ok (.iconst (-1), 1) := by decide +kernel
theorem dX6_chainLeft_72 : decode cX6_chainLeft 72 = .ok (.if_icmp .ne 7, 3) := by decide +kernel
theorem dX6_chainLeft_75 : decode cX6_chainLeft 75 = .ok (.iconst (-1), 1) := by decide +kernel
theorem dX6_chainLeft_76 : decode cX6_chainLeft 76 = .ok (.goto 6, 3) := by decide +kernel
theorem dX6_chainLeft_79 : decode cX6_chainLeft 79 = .ok (.iload_n 3, 1) := by decide +kernel
theorem dX6_chainLeft_80 : decode cX6_chainLeft 80 = .ok (.iconst 1, 1) := by decide +kernel
theorem dX6_chainLeft_81 : decode cX6_chainLeft 81 = .ok (.iadd, 1) := by decide +kernel
theorem dX6_chainLeft_82 : decode cX6_chainLeft 82 = .ok (.ireturn, 1) := by decide +kernel
theorem dX6_goOn_0 : decode cX6_goOn 0 = .ok (.iconst 0, 1) := by decide +kernel
theorem dX6_goOn_1 : decode cX6_goOn 1 = .ok (.istore_n 1, 1) := by decide +kernel
theorem dX6_goOn_2 : decode cX6_goOn 2 = .ok (.iconst 0, 1) := by decide +kernel
theorem dX6_goOn_3 : decode cX6_goOn 3 = .ok (.istore_n 2, 1) := by decide +kernel
theorem dX6_goOn_4 : decode cX6_goOn 4 = .ok (.iload_n 2, 1) := by decide +kernel
theorem dX6_goOn_5 : decode cX6_goOn 5 = .ok (.aload_n 0, 1) := by decide +kernel
theorem dX6_goOn_6 : decode cX6_goOn 6 = .ok (.getfield 44, 3) := by decide +kernel
theorem dX6_goOn_9 : decode cX6_goOn 9 = .ok (.getfield 103, 3) := by decide +kernel
theorem dX6_goOn_12 : decode cX6_goOn 12 = .ok (.if_icmp .ge 25, 3) := by decide +kernel
theorem dX6_goOn_15 : decode cX6_goOn 15 = .ok (.aload_n 0, 1) := by decide +kernel
theorem dX6_goOn_16 : decode cX6_goOn 16 = .ok (.iload_n 2, 1) := by decide +kernel
theorem dX6_goOn_17 : decode cX6_goOn 17 = .ok (.invokevirtual 127, 3) := by decide +kernel
theorem dX6_goOn_20 : decode cX6_goOn 20 = .ok (.ifCond .eq 11, 3) := by decide +kernel
theorem dX6_goOn_23 : decode cX6_goOn 23 = .ok (.iload_n 1, 1) := by decide +kernel
theorem dX6_goOn_24 : decode cX6_goOn 24 = .ok (.aload_n 0, 1) := by decide +kernel
theorem dX6_goOn_25 : decode cX6_goOn 25 = .ok (.iload_n 2, 1) := by decide +kernel
theorem dX6_goOn_26 : decode cX6_goOn 26 = .ok (.invokevirtual 130, 3) := by decide +kernel
theorem dX6_goOn_29 : decode cX6_goOn 29 = .ok (.iadd, 1) := by decide +kernel
theorem dX6_goOn_30 : decode cX6_goOn 30 = .ok (.istore_n 1, 1) := by decide +kernel
theorem dX6_goOn_31 : decode cX6_goOn 31 = .ok (.iinc 2 1, 3) := by decide +kernel
theorem dX6_goOn_34 : decode cX6_goOn 34 = .ok (.goto (-30), 3) := by decide +kernel
theorem dX6_goOn_37 : decode cX6_goOn 37 = .ok (.iconst 0, 1) := by decide +kernel
theorem dX6_goOn_38 : decode cX6_goOn 38 = .ok (.istore_n 2, 1) := by decide +kernel
theorem dX6_goOn_39 : decode cX6_goOn 39 = .ok (.iload_n 2, 1) := by decide +kernel
theorem dX6_goOn_40 : decode cX6_goOn 40 = .ok (.aload_n 0, 1) := by decide +kernel
theorem dX6_goOn_41 : decode cX6_goOn 41 = .ok (.getfield 44, 3) := by decide +kernel
theorem dX6_goOn_44 : decode cX6_goOn 44 = .ok (.getfield 103, 3) := by decide +kernel
theorem dX6_goOn_47 : decode cX6_goOn 47 = .ok (.if_icmp .ge 14, 3) := by decide +kernel
theorem dX6_goOn_50 : decode cX6_goOn 50 = .ok (.aload_n 0, 1) := by decide +kernel
theorem dX6_goOn_51 : decode cX6_goOn 51 = .ok (.iload_n 2, 1) := by decide +kernel
theorem dX6_goOn_52 : decode cX6_goOn 52 = .ok (.invokevirtual 133, 3) := by decide +kernel
theorem dX6_goOn_55 : decode cX6_goOn 55 = .ok (.iinc 2 1, 3) := by decide +kernel
theorem dX6_goOn_58 : decode cX6_goOn 58 = .ok (.goto (-19), 3) := by decide +kernel
theorem dX6_goOn_61 : decode cX6_goOn 61 = .ok (.aload_n 0, 1) := by decide +kernel
theorem dX6_goOn_62 : decode cX6_goOn 62 = .ok (.dup, 1) := by decide +kernel
theorem dX6_goOn_63 : decode cX6_goOn 63 = .ok (.getfield 56, 3) := by decide +kernel
theorem dX6_goOn_66 : decode cX6_goOn 66 = .ok (.iconst 1, 1) := by decide +kernel
theorem dX6_goOn_67 : decode cX6_goOn 67 = .ok (.iadd, 1) := by decide +kernel
theorem dX6_goOn_68 : decode cX6_goOn 68 = .ok (.putfield 56, 3) := by decide +kernel
theorem dX6_goOn_71 : decode cX6_goOn 71 = .ok (.iload_n 1, 1) := by decide +kernel
theorem dX6_goOn_72 : decode cX6_goOn 72 = .ok (.ireturn, 1) := by decide +kernel
theorem dX6_hasLanded_0 : decode cX6_hasLanded 0 = .ok (.aload_n 0, 1) := by decide +kernel
theorem dX6_hasLanded_1 : decode cX6_hasLanded 1 = .ok (.getfield 14, 3) := by decide +kernel
theorem dX6_hasLanded_4 : decode cX6_hasLanded 4 = .ok (.iload_n 1, 1) := by decide +kernel
theorem dX6_hasLanded_5 : decode cX6_hasLanded 5 = .ok (.invokevirtual 77, 3) := by decide +kernel
theorem dX6_hasLanded_8 : decode cX6_hasLanded 8 = .ok (.aload_n 0, 1) := by decide +kernel
theorem dX6_hasLanded_9 : decode cX6_hasLanded 9 = .ok (.getfield 40, 3) := by decide +kernel
theorem dX6_hasLanded_12 : decode cX6_hasLanded 12 = .ok (.getfield 136, 3) := by decide +kernel
theorem dX6_hasLanded_15 : decode cX6_hasLanded 15 = .ok (.aload_n 0, 1) := by decide +kernel
theorem dX6_hasLanded_16 : decode cX6_hasLanded 16 = .ok (.getfield 20, 3) := by decide +kernel
theorem dX6_hasLanded_19 : decode cX6_hasLanded 19 = .ok (.iload_n 1, 1) := by decide +kernel
theorem dX6_hasLanded_20 : decode cX6_hasLanded 20 = .ok (.invokevirtual 77, 3) := by decide +kernel
theorem dX6_hasLanded_23 : decode cX6_hasLanded 23 = .ok (.invokevirtual 77, 3) := by decide +kernel
theorem dX6_hasLanded_26 : decode cX6_hasLanded 26 = .ok (.if_icmp .ne 7, 3) := by decide +kernel
theorem dX6_hasLanded_29 : decode cX6_hasLanded 29 = .ok (.iconst 1, 1) := by decide +kernel
theorem dX6_hasLanded_30 : decode cX6_hasLanded 30 = .ok (.goto 4, 3) := by decide +kernel
theorem dX6_hasLanded_33 : decode cX6_hasLanded 33 = .ok (.iconst 0, 1) := by decide +kernel
theorem dX6_hasLanded_34 : decode cX6_hasLanded 34 = .ok (.ireturn, 1) := by decide +kernel
theorem dX6_turnRound_0 : decode cX6_turnRound 0 = .ok (.aload_n 0, 1) := by decide +kernel
theorem dX6_turnRound_1 : decode cX6_turnRound 1 = .ok (.getfield 20, 3) := by decide +kernel
theorem dX6_turnRound_4 : decode cX6_turnRound 4 = .ok (.iload_n 1, 1) := by decide +kernel
theorem dX6_turnRound_5 : decode cX6_turnRound 5 = .ok (.invokevirtual 77, 3) := by decide +kernel
theorem dX6_turnRound_8 : decode cX6_turnRound 8 = .ok (.istore_n 2, 1) := by decide +kernel
theorem dX6_turnRound_9 : decode cX6_turnRound 9 = .ok (.aload_n 0, 1) := by decide +kernel
theorem dX6_turnRound_10 : decode cX6_turnRound 10 = .ok (.getfield 32, 3) := by decide +kernel
theorem dX6_turnRound_13 : decode cX6_turnRound 13 = .ok (.iload_n 1, 1) := by decide +kernel
theorem dX6_turnRound_14 : decode cX6_turnRound 14 = .ok (.iload_n 2, 1) := by decide +kernel
theorem dX6_turnRound_15 : decode cX6_turnRound 15 = .ok (.aload_n 0, 1) := by decide +kernel
theorem dX6_turnRound_16 : decode cX6_turnRound 16 = .ok (.getfield 56, 3) := by decide +kernel
theorem dX6_turnRound_19 : decode cX6_turnRound 19 = .ok (.invokevirtual 139, 3) := by decide +kernel
theorem dX6_turnRound_22 : decode cX6_turnRound 22 = .ok (.istore_n 3, 1) := by decide +kernel
theorem dX6_turnRound_23 : decode cX6_turnRound 23 = .ok (.aload_n 0, 1) := by decide +kernel
theorem dX6_turnRound_24 : decode cX6_turnRound 24 = .ok (.getfield 20, 3) := by decide +kernel
theorem dX6_turnRound_27 : decode cX6_turnRound 27 = .ok (.iload_n 1, 1) := by decide +kernel
theorem dX6_turnRound_28 : decode cX6_turnRound 28 = .ok (.aload_n 0, 1) := by decide +kernel
theorem dX6_turnRound_29 : decode cX6_turnRound 29 = .ok (.getfield 44, 3) := by decide +kernel
theorem dX6_turnRound_32 : decode cX6_turnRound 32 = .ok (.iload_n 1, 1) := by decide +kernel
theorem dX6_turnRound_33 : decode cX6_turnRound 33 = .ok (.iload_n 2, 1) := by decide +kernel
theorem dX6_turnRound_34 : decode cX6_turnRound 34 = .ok (.invokevirtual 142, 3) := by decide +kernel
theorem dX6_turnRound_37 : decode cX6_turnRound 37 = .ok (.invokevirtual 67, 3) := by decide +kernel
theorem dX6_turnRound_40 : decode cX6_turnRound 40 = .ok (.aload_n 0, 1) := by decide +kernel
theorem dX6_turnRound_41 : decode cX6_turnRound 41 = .ok (.iload_n 1, 1) := by decide +kernel
theorem dX6_turnRound_42 : decode cX6_turnRound 42 = .ok (.iload_n 2, 1) := by decide +kernel
theorem dX6_turnRound_43 : decode cX6_turnRound 43 = .ok (.invokevirtual 145, 3) := by decide +kernel
theorem dX6_turnRound_46 : decode cX6_turnRound 46 = .ok (.iload_n 3, 1) := by decide +kernel
theorem dX6_turnRound_47 : decode cX6_turnRound 47 = .ok (.ireturn, 1) := by decide +kernel
theorem dX6_load_0 : decode cX6_load 0 = .ok (.aload_n 0, 1) := by decide +kernel
theorem dX6_load_1 : decode cX6_load 1 = .ok (.getfield 44, 3) := by decide +kernel
theorem dX6_load_4 : decode cX6_load 4 = .ok (.getfield 148, 3) := by decide +kernel
theorem dX6_load_7 : decode cX6_load 7 = .ok (.iload_n 1, 1) := by decide +kernel
theorem dX6_load_8 : decode cX6_load 8 = .ok (.invokevirtual 77, 3) := by decide +kernel
theorem dX6_load_11 : decode cX6_load 11 = .ok (.istore_n 3, 1) := by decide +kernel
theorem dX6_load_12 : decode cX6_load 12 = .ok (.aload_n 0, 1) := by decide +kernel
theorem dX6_load_13 : decode cX6_load 13 = .ok (.getfield 44, 3) := by decide +kernel
theorem dX6_load_16 : decode cX6_load 16 = .ok (.getfield 151, 3) := by decide +kernel
theorem dX6_load_19 : decode cX6_load 19 = .ok (.iload_n 1, 1) := by decide +kernel
theorem dX6_load_20 : decode cX6_load 20 = .ok (.invokevirtual 77, 3) := by decide +kernel
theorem dX6_load_23 : decode cX6_load 23 = .ok (.istore 4, 2) := by decide +kernel
theorem dX6_load_25 : decode cX6_load 25 = .ok (.iconst 0, 1) := by decide +kernel
theorem dX6_load_26 : decode cX6_load 26 = .ok (.istore 5, 2) := by decide +kernel
theorem dX6_load_28 : decode cX6_load 28 = .ok (.iload 5, 2) := by decide +kernel
theorem dX6_load_30 : decode cX6_load 30 = .ok (.aload_n 0, 1) := by decide +kernel
theorem dX6_load_31 : decode cX6_load 31 = .ok (.getfield 32, 3) := by decide +kernel
theorem dX6_load_34 : decode cX6_load 34 = .ok (.getfield 154, 3) := by decide +kernel
theorem dX6_load_37 : decode cX6_load 37 = .ok (.if_icmp .ge 64, 3) := by decide +kernel
theorem dX6_load_40 : decode cX6_load 40 = .ok (.iload 4, 2) := by decide +kernel
theorem dX6_load_42 : decode cX6_load 42 = .ok (.ifCond .le 59, 3) := by decide +kernel
theorem dX6_load_45 : decode cX6_load 45 = .ok (.aload_n 0, 1) := by decide +kernel
theorem dX6_load_46 : decode cX6_load 46 = .ok (.iload 5, 2) := by decide +kernel
theorem dX6_load_48 : decode cX6_load 48 = .ok (.iload_n 1, 1) := by decide +kernel
theorem dX6_load_49 : decode cX6_load 49 = .ok (.iload_n 2, 1) := by decide +kernel
theorem dX6_load_50 : decode cX6_load 50 = .ok (.invokevirtual 155, 3) := by decide +kernel
theorem dX6_load_53 : decode cX6_load 53 = .ok (.ifCond .eq 42, 3) := by decide +kernel
theorem dX6_load_56 : decode cX6_load 56 = .ok (.aload_n 0, 1) := by decide +kernel
theorem dX6_load_57 : decode cX6_load 57 = .ok (.getfield 32, 3) := by decide +kernel
theorem dX6_load_60 : decode cX6_load 60 = .ok (.getfield 159, 3) := by decide +kernel
theorem dX6_load_63 : decode cX6_load 63 = .ok (.iload 5, 2) := by decide +kernel
theorem dX6_load_65 : decode cX6_load 65 = .ok (.invokevirtual 77, 3) := by decide +kernel
theorem dX6_load_68 : decode cX6_load 68 = .ok (.iload_n 3, 1) := by decide +kernel
theorem dX6_load_69 : decode cX6_load 69 = .ok (.if_icmp .lt 26, 3) := by decide +kernel
theorem dX6_load_72 : decode cX6_load 72 = .ok (.aload_n 0, 1) := by decide +kernel
theorem dX6_load_73 : decode cX6_load 73 = .ok (.getfield 32, 3) := by decide +kernel
theorem dX6_load_76 : decode cX6_load 76 = .ok (.iload 5, 2) := by decide +kernel
theorem dX6_load_78 : decode cX6_load 78 = .ok (.iload_n 1, 1) := by decide +kernel
theorem dX6_load_79 : decode cX6_load 79 = .ok (.iload_n 3, 1) := by decide +kernel
theorem dX6_load_80 : decode cX6_load 80 = .ok (.invokevirtual 162, 3) := by decide +kernel
theorem dX6_load_83 : decode cX6_load 83 = .ok (.aload_n 0, 1) := by decide +kernel
theorem dX6_load_84 : decode cX6_load 84 = .ok (.getfield 23, 3) := by decide +kernel
theorem dX6_load_87 : decode cX6_load 87 = .ok (.iload_n 1, 1) := by decide +kernel
theorem dX6_load_88 : decode cX6_load 88 = .ok (.iload_n 3, 1) := by decide +kernel
theorem dX6_load_89 : decode cX6_load 89 = .ok (.invokevirtual 166, 3) := by decide +kernel
theorem dX6_load_92 : decode cX6_load 92 = .ok (.iinc 4 (-1), 3) := by decide +kernel
theorem dX6_load_95 : decode cX6_load 95 = .ok (.iinc 5 1, 3) := by decide +kernel
theorem dX6_load_98 : decode cX6_load 98 = .ok (.goto (-70), 3) := by decide +kernel
theorem dX6_load_101 : decode cX6_load 101 = .ok (.return_, 1) := by decide +kernel
theorem dX6_takes_0 : decode cX6_takes 0 = .ok (.aload_n 0, 1) := by decide +kernel
theorem dX6_takes_1 : decode cX6_takes 1 = .ok (.getfield 32, 3) := by decide +kernel
theorem dX6_takes_4 : decode cX6_takes 4 = .ok (.iload_n 1, 1) := by decide +kernel
theorem dX6_takes_5 : decode cX6_takes 5 = .ok (.iload_n 3, 1) := by decide +kernel
theorem dX6_takes_6 : decode cX6_takes 6 = .ok (.invokevirtual 169, 3) := by decide +kernel
theorem dX6_takes_9 : decode cX6_takes 9 = .ok (.ifCond .eq 30, 3) := by decide +kernel
theorem dX6_takes_12 : decode cX6_takes 12 = .ok (.aload_n 0, 1) := by decide +kernel
theorem dX6_takes_13 : decode cX6_takes 13 = .ok (.getfield 48, 3) := by decide +kernel
theorem dX6_takes_16 : decode cX6_takes 16 = .ok (.iload_n 3, 1) := by decide +kernel
theorem dX6_takes_17 : decode cX6_takes 17 = .ok (.aload_n 0, 1) := by decide +kernel
theorem dX6_takes_18 : decode cX6_takes 18 = .ok (.getfield 32, 3) := by decide +kernel
theorem dX6_takes_21 : decode cX6_takes 21 = .ok (.getfield 110, 3) := by decide +kernel
theorem dX6_takes_24 : decode cX6_takes 24 = .ok (.iload_n 1, 1) := by decide +kernel
theorem dX6_takes_25 : decode cX6_takes 25 = .ok (.invokevirtual 77, 3) := by decide +kernel
theorem dX6_takes_28 : decode cX6_takes 28 = .ok (.invokevirtual 172, 3) := by decide +kernel
theorem dX6_takes_31 : decode cX6_takes 31 = .ok (.iload_n 2, 1) := by decide +kernel
theorem dX6_takes_32 : decode cX6_takes 32 = .ok (.if_icmp .ne 7, 3) := by decide +kernel
theorem dX6_takes_35 : decode cX6_takes 35 = .ok (.iconst 1, 1) := by decide +kernel
theorem dX6_takes_36 : decode cX6_takes 36 = .ok (.goto 4, 3) := by decide +kernel
theorem dX6_takes_39 : decode cX6_takes 39 = .ok (.iconst 0, 1) := by decide +kernel
theorem dX6_takes_40 : decode cX6_takes 40 = .ok (.ireturn, 1) := by decide +kernel
theorem dX6_stepOn_0 : decode cX6_stepOn 0 = .ok (.aload_n 0, 1) := by decide +kernel
theorem dX6_stepOn_1 : decode cX6_stepOn 1 = .ok (.getfield 52, 3) := by decide +kernel
theorem dX6_stepOn_4 : decode cX6_stepOn 4 = .ok (.iload_n 1, 1) := by decide +kernel
theorem dX6_stepOn_5 : decode cX6_stepOn 5 = .ok (.aload_n 0, 1) := by decide +kernel
theorem dX6_stepOn_6 : decode cX6_stepOn 6 = .ok (.getfield 20, 3) := by decide +kernel
theorem dX6_stepOn_9 : decode cX6_stepOn 9 = .ok (.iload_n 1, 1) := by decide +kernel
theorem dX6_stepOn_10 : decode cX6_stepOn 10 = .ok (.invokevirtual 77, 3) := by decide +kernel
theorem dX6_stepOn_13 : decode cX6_stepOn 13 = .ok (.aload_n 0, 1) := by decide +kernel
theorem dX6_stepOn_14 : decode cX6_stepOn 14 = .ok (.invokevirtual 80, 3) := by decide +kernel
theorem dX6_stepOn_17 : decode cX6_stepOn 17 = .ok (.invokevirtual 94, 3) := by decide +kernel
theorem dX6_stepOn_20 : decode cX6_stepOn 20 = .ok (.istore_n 2, 1) := by decide +kernel
theorem dX6_stepOn_21 : decode cX6_stepOn 21 = .ok (.aload_n 0, 1) := by decide +kernel
theorem dX6_stepOn_22 : decode cX6_stepOn 22 = .ok (.getfield 52, 3) := by decide +kernel
theorem dX6_stepOn_25 : decode cX6_stepOn 25 = .ok (.iload_n 2, 1) := by decide +kernel
theorem dX6_stepOn_26 : decode cX6_stepOn 26 = .ok (.aload_n 0, 1) := by decide +kernel
theorem dX6_stepOn_27 : decode cX6_stepOn 27 = .ok (.getfield 14, 3) := by decide +kernel
theorem dX6_stepOn_30 : decode cX6_stepOn 30 = .ok (.iload_n 1, 1) := by decide +kernel
theorem dX6_stepOn_31 : decode cX6_stepOn 31 = .ok (.invokevirtual 77, 3) := by decide +kernel
theorem dX6_stepOn_34 : decode cX6_stepOn 34 = .ok (.invokevirtual 175, 3) := by decide +kernel
theorem dX6_stepOn_37 : decode cX6_stepOn 37 = .ok (.istore_n 3, 1) := by decide +kernel
theorem dX6_stepOn_38 : decode cX6_stepOn 38 = .ok (.iload_n 3, 1) := by decide +kernel
theorem dX6_stepOn_39 : decode cX6_stepOn 39 = .ok (.iconst (-1), 1) := by decide +kernel
theorem dX6_stepOn_40 : decode cX6_stepOn 40 = .ok (.if_icmp .eq 21, 3) := by decide +kernel
theorem dX6_stepOn_43 : decode cX6_stepOn 43 = .ok (.aload_n 0, 1) := by decide +kernel
theorem dX6_stepOn_44 : decode cX6_stepOn 44 = .ok (.getfield 14, 3) := by decide +kernel
theorem dX6_stepOn_47 : decode cX6_stepOn 47 = .ok (.iload_n 1, 1) := by decide +kernel
theorem dX6_stepOn_48 : decode cX6_stepOn 48 = .ok (.iload_n 3, 1) := by decide +kernel
theorem dX6_stepOn_49 : decode cX6_stepOn 49 = .ok (.invokevirtual 67, 3) := by decide +kernel
theorem dX6_stepOn_52 : decode cX6_stepOn 52 = .ok (.aload_n 0, 1) := by decide +kernel
theorem dX6_stepOn_53 : decode cX6_stepOn 53 = .ok (.getfield 26, 3) := by decide +kernel
theorem dX6_stepOn_56 : decode cX6_stepOn 56 = .ok (.iload_n 1, 1) := by decide +kernel
theorem dX6_stepOn_57 : decode cX6_stepOn 57 = .ok (.iconst 1, 1) := by decide +kernel
theorem dX6_stepOn_58 : decode cX6_stepOn 58 = .ok (.invokevirtual 166, 3) := by decide +kernel
theorem dX6_stepOn_61 : decode cX6_stepOn 61 = .ok (.return_, 1) := by decide +kernel
theorem dX7_init_0 : decode cX7_init 0 = .ok (.aload_n 0, 1) := by decide +kernel
theorem dX7_init_1 : decode cX7_init 1 = .ok (.invokespecial 3, 3) := by decide +kernel
theorem dX7_init_4 : decode cX7_init 4 = .ok (.aload_n 0, 1) := by decide +kernel
theorem dX7_init_5 : decode cX7_init 5 = .ok (.new 9, 3) := by decide +kernel
theorem dX7_init_8 : decode cX7_init 8 = .ok (.dup, 1) := by decide +kernel
theorem dX7_init_9 : decode cX7_init 9 = .ok (.bipush 30, 2) := by decide +kernel
theorem dX7_init_11 : decode cX7_init 11 = .ok (.invokespecial 11, 3) := by decide +kernel
theorem dX7_init_14 : decode cX7_init 14 = .ok (.putfield 14, 3) := by decide +kernel
theorem dX7_init_17 : decode cX7_init 17 = .ok (.aload_n 0, 1) := by decide +kernel
theorem dX7_init_18 : decode cX7_init 18 = .ok (.new 9, 3) := by decide +kernel
theorem dX7_init_21 : decode cX7_init 21 = .ok (.dup, 1) := by decide +kernel
theorem dX7_init_22 : decode cX7_init 22 = .ok (.bipush 30, 2) := by decide +kernel
theorem dX7_init_24 : decode cX7_init 24 = .ok (.invokespecial 11, 3) := by decide +kernel
theorem dX7_init_27 : decode cX7_init 27 = .ok (.putfield 20, 3) := by decide +kernel
theorem dX7_init_30 : decode cX7_init 30 = .ok (.aload_n 0, 1) := by decide +kernel
theorem dX7_init_31 : decode cX7_init 31 = .ok (.new 9, 3) := by decide +kernel
theorem dX7_init_34 : decode cX7_init 34 = .ok (.dup, 1) := by decide +kernel
theorem dX7_init_35 : decode cX7_init 35 = .ok (.bipush 30, 2) := by decide +kernel
theorem dX7_init_37 : decode cX7_init 37 = .ok (.invokespecial 11, 3) := by decide +kernel
theorem dX7_init_40 : decode cX7_init 40 = .ok (.putfield 23, 3) := by decide +kernel
theorem dX7_init_43 : decode cX7_init 43 = .ok (.aload_n 0, 1) := by decide +kernel
theorem dX7_init_44 : decode cX7_init 44 = .ok (.new 9, 3) := by decide +kernel
theorem dX7_init_47 : decode cX7_init 47 = .ok (.dup, 1) := by decide +kernel
theorem dX7_init_48 : decode cX7_init 48 = .ok (.bipush 30, 2) := by decide +kernel
theorem dX7_init_50 : decode cX7_init 50 = .ok (.invokespecial 11, 3) := by decide +kernel
theorem dX7_init_53 : decode cX7_init 53 = .ok (.putfield 26, 3) := by decide +kernel
theorem dX7_init_56 : decode cX7_init 56 = .ok (.aload_n 0, 1) := by decide +kernel
theorem dX7_init_57 : decode cX7_init 57 = .ok (.new 9, 3) := by decide +kernel
theorem dX7_init_60 : decode cX7_init 60 = .ok (.dup, 1) := by decide +kernel
theorem dX7_init_61 : decode cX7_init 61 = .ok (.bipush 30, 2) := by decide +kernel
theorem dX7_init_63 : decode cX7_init 63 = .ok (.invokespecial 11, 3) := by decide +kernel
theorem dX7_init_66 : decode cX7_init 66 = .ok (.putfield 29, 3) := by decide +kernel
theorem dX7_init_69 : decode cX7_init 69 = .ok (.return_, 1) := by decide +kernel
theorem dX7_takeOver_0 : decode cX7_takeOver 0 = .ok (.aload_n 0, 1) := by decide +kernel
theorem dX7_takeOver_1 : decode cX7_takeOver 1 = .ok (.aload_n 1, 1) := by decide +kernel
theorem dX7_takeOver_2 : decode cX7_takeOver 2 = .ok (.getfield 32, 3) := by decide +kernel
theorem dX7_takeOver_5 : decode cX7_takeOver 5 = .ok (.putfield 32, 3) := by decide +kernel
theorem dX7_takeOver_8 : decode cX7_takeOver 8 = .ok (.aload_n 0, 1) := by decide +kernel
theorem dX7_takeOver_9 : decode cX7_takeOver 9 = .ok (.getfield 14, 3) := by decide +kernel
theorem dX7_takeOver_12 : decode cX7_takeOver 12 = .ok (.aload_n 1, 1) := by decide +kernel
theorem dX7_takeOver_13 : decode cX7_takeOver 13 = .ok (.getfield 14, 3) := by decide +kernel
theorem dX7_takeOver_16 : decode cX7_takeOver 16 = .ok (.invokevirtual 36, 3) := by decide +kernel
theorem dX7_takeOver_19 : decode cX7_takeOver 19 = .ok (.aload_n 0, 1) := by decide +kernel
theorem dX7_takeOver_20 : decode cX7_takeOver 20 = .ok (.getfield 20, 3) := by decide +kernel
theorem dX7_takeOver_23 : decode cX7_takeOver 23 = .ok (.aload_n 1, 1) := by decide +kernel
theorem dX7_takeOver_24 : decode cX7_takeOver 24 = .ok (.getfield 20, 3) := by decide +kernel
theorem dX7_takeOver_27 : decode cX7_takeOver 27 = .ok (.invokevirtual 36, 3) := by decide +kernel
theorem dX7_takeOver_30 : decode cX7_takeOver 30 = .ok (.aload_n 0, 1) := by decide +kernel
theorem dX7_takeOver_31 : decode cX7_takeOver 31 = .ok (.getfield 23, 3) := by decide +kernel
theorem dX7_takeOver_34 : decode cX7_takeOver 34 = .ok (.aload_n 1, 1) := by decide +kernel
theorem dX7_takeOver_35 : decode cX7_takeOver 35 = .ok (.getfield 23, 3) := by decide +kernel
theorem dX7_takeOver_38 : decode cX7_takeOver 38 = .ok (.invokevirtual 36, 3) := by decide +kernel
theorem dX7_takeOver_41 : decode cX7_takeOver 41 = .ok (.aload_n 0, 1) := by decide +kernel
theorem dX7_takeOver_42 : decode cX7_takeOver 42 = .ok (.getfield 26, 3) := by decide +kernel
theorem dX7_takeOver_45 : decode cX7_takeOver 45 = .ok (.aload_n 1, 1) := by decide +kernel
theorem dX7_takeOver_46 : decode cX7_takeOver 46 = .ok (.getfield 26, 3) := by decide +kernel
theorem dX7_takeOver_49 : decode cX7_takeOver 49 = .ok (.invokevirtual 36, 3) := by decide +kernel
theorem dX7_takeOver_52 : decode cX7_takeOver 52 = .ok (.aload_n 0, 1) := by decide +kernel
theorem dX7_takeOver_53 : decode cX7_takeOver 53 = .ok (.getfield 29, 3) := by decide +kernel
theorem dX7_takeOver_56 : decode cX7_takeOver 56 = .ok (.aload_n 1, 1) := by decide +kernel
theorem dX7_takeOver_57 : decode cX7_takeOver 57 = .ok (.getfield 29, 3) := by decide +kernel
theorem dX7_takeOver_60 : decode cX7_takeOver 60 = .ok (.invokevirtual 36, 3) := by decide +kernel
theorem dX7_takeOver_63 : decode cX7_takeOver 63 = .ok (.return_, 1) := by decide +kernel
theorem dX7_add_0 : decode cX7_add 0 = .ok (.aload_n 0, 1) := by decide +kernel
theorem dX7_add_1 : decode cX7_add 1 = .ok (.getfield 32, 3) := by decide +kernel
theorem dX7_add_4 : decode cX7_add 4 = .ok (.istore 4, 2) := by decide +kernel
theorem dX7_add_6 : decode cX7_add 6 = .ok (.aload_n 0, 1) := by decide +kernel
theorem dX7_add_7 : decode cX7_add 7 = .ok (.getfield 14, 3) := by decide +kernel
theorem dX7_add_10 : decode cX7_add 10 = .ok (.iload 4, 2) := by decide +kernel
theorem dX7_add_12 : decode cX7_add 12 = .ok (.iload_n 2, 1) := by decide +kernel
theorem dX7_add_13 : decode cX7_add 13 = .ok (.invokevirtual 40, 3) := by decide +kernel
theorem dX7_add_16 : decode cX7_add 16 = .ok (.aload_n 0, 1) := by decide +kernel
theorem dX7_add_17 : decode cX7_add 17 = .ok (.getfield 20, 3) := by decide +kernel
theorem dX7_add_20 : decode cX7_add 20 = .ok (.iload 4, 2) := by decide +kernel
theorem dX7_add_22 : decode cX7_add 22 = .ok (.iload_n 3, 1) := by decide +kernel
theorem dX7_add_23 : decode cX7_add 23 = .ok (.invokevirtual 40, 3) := by decide +kernel
theorem dX7_add_26 : decode cX7_add 26 = .ok (.aload_n 0, 1) := by decide +kernel
theorem dX7_add_27 : decode cX7_add 27 = .ok (.getfield 23, 3) := by decide +kernel
theorem dX7_add_30 : decode cX7_add 30 = .ok (.iload 4, 2) := by decide +kernel
theorem dX7_add_32 : decode cX7_add 32 = .ok (.iload_n 1, 1) := by decide +kernel
theorem dX7_add_33 : decode cX7_add 33 = .ok (.invokevirtual 40, 3) := by decide +kernel
theorem dX7_add_36 : decode cX7_add 36 = .ok (.aload_n 0, 1) := by decide +kernel
theorem dX7_add_37 : decode cX7_add 37 = .ok (.getfield 26, 3) := by decide +kernel
theorem dX7_add_40 : decode cX7_add 40 = .ok (.iload 4, 2) := by decide +kernel
theorem dX7_add_42 : decode cX7_add 42 = .ok (.iconst (-1), 1) := by decide +kernel
theorem dX7_add_43 : decode cX7_add 43 = .ok (.invokevirtual 40, 3) := by decide +kernel
theorem dX7_add_46 : decode cX7_add 46 = .ok (.aload_n 0, 1) := by decide +kernel
theorem dX7_add_47 : decode cX7_add 47 = .ok (.getfield 29, 3) := by decide +kernel
theorem dX7_add_50 : decode cX7_add 50 = .ok (.iload 4, 2) := by decide +kernel
theorem dX7_add_52 : decode cX7_add 52 = .ok (.iconst (-1), 1) := by decide +kernel
theorem dX7_add_53 : decode cX7_add 53 = .ok (.invokevirtual 40, 3) := by decide +kernel
theorem dX7_add_56 : decode cX7_add 56 = .ok (.aload_n 0, 1) := by decide +kernel
theorem dX7_add_57 : decode cX7_add 57 = .ok (.dup, 1) := by decide +kernel
theorem dX7_add_58 : decode cX7_add 58 = .ok (.getfield 32, 3) := by decide +kernel
theorem dX7_add_61 : decode cX7_add 61 = .ok (.iconst 1, 1) := by decide +kernel
theorem dX7_add_62 : decode cX7_add 62 = .ok (.iadd, 1) := by decide +kernel
theorem dX7_add_63 : decode cX7_add 63 = .ok (.putfield 32, 3) := by decide +kernel
theorem dX7_add_66 : decode cX7_add 66 = .ok (.iload 4, 2) := by decide +kernel
theorem dX7_add_68 : decode cX7_add 68 = .ok (.ireturn, 1) := by decide +kernel
theorem dX7_hasCome_0 : decode cX7_hasCome 0 = .ok (.aload_n 0, 1) := by decide +kernel
theorem dX7_hasCome_1 : decode cX7_hasCome 1 = .ok (.getfield 29, 3) := by decide +kernel
theorem dX7_hasCome_4 : decode cX7_hasCome 4 = .ok (.iload_n 1, 1) := by decide +kernel
theorem dX7_hasCome_5 : decode cX7_hasCome 5 = .ok (.invokevirtual 44, 3) := by decide +kernel
theorem dX7_hasCome_8 : decode cX7_hasCome 8 = .ok (.iconst (-1), 1) := by decide +kernel
theorem dX7_hasCome_9 : decode cX7_hasCome 9 = .ok (.if_icmp .eq 7, 3) := by decide +kernel
theorem dX7_hasCome_12 : decode cX7_hasCome 12 = .ok (.iconst 1, 1) := by decide +kernel
theorem dX7_hasCome_13 : decode cX7_hasCome 13 = .ok (.goto 4, 3) := by decide +kernel
theorem dX7_hasCome_16 : decode cX7_hasCome 16 = .ok (.iconst 0, 1) := by decide +kernel
theorem dX7_hasCome_17 : decode cX7_hasCome 17 = .ok (.ireturn, 1) := by decide +kernel
theorem dX7_rides_0 : decode cX7_rides 0 = .ok (.aload_n 0, 1) := by decide +kernel
theorem dX7_rides_1 : decode cX7_rides 1 = .ok (.getfield 26, 3) := by decide +kernel
theorem dX7_rides_4 : decode cX7_rides 4 = .ok (.iload_n 1, 1) := by decide +kernel
theorem dX7_rides_5 : decode cX7_rides 5 = .ok (.invokevirtual 44, 3) := by decide +kernel
theorem dX7_rides_8 : decode cX7_rides 8 = .ok (.iconst (-1), 1) := by decide +kernel
theorem dX7_rides_9 : decode cX7_rides 9 = .ok (.if_icmp .eq 7, 3) := by decide +kernel
theorem dX7_rides_12 : decode cX7_rides 12 = .ok (.iconst 1, 1) := by decide +kernel
theorem dX7_rides_13 : decode cX7_rides 13 = .ok (.goto 4, 3) := by decide +kernel
theorem dX7_rides_16 : decode cX7_rides 16 = .ok (.iconst 0, 1) := by decide +kernel
theorem dX7_rides_17 : decode cX7_rides 17 = .ok (.ireturn, 1) := by decide +kernel
theorem dX7_waitsAt_0 : decode cX7_waitsAt 0 = .ok (.aload_n 0, 1) := by decide +kernel
theorem dX7_waitsAt_1 : decode cX7_waitsAt 1 = .ok (.getfield 23, 3) := by decide +kernel
theorem dX7_waitsAt_4 : decode cX7_waitsAt 4 = .ok (.iload_n 1, 1) := by decide +kernel
theorem dX7_waitsAt_5 : decode cX7_waitsAt 5 = .ok (.invokevirtual 44, 3) := by decide +kernel
theorem dX7_waitsAt_8 : decode cX7_waitsAt 8 = .ok (.iload_n 2, 1) := by decide +kernel
theorem dX7_waitsAt_9 : decode cX7_waitsAt 9 = .ok (.if_icmp .ne 19, 3) := by decide +kernel
theorem dX7_waitsAt_12 : decode cX7_waitsAt 12 = .ok (.aload_n 0, 1) := by decide +kernel
theorem dX7_waitsAt_13 : decode cX7_waitsAt 13 = .ok (.getfield 29, 3) := by decide +kernel
theorem dX7_waitsAt_16 : decode cX7_waitsAt 16 = .ok (.iload_n 1, 1) := by decide +kernel
theorem dX7_waitsAt_17 : decode cX7_waitsAt 17 = .ok (.invokevirtual 44, 3) := by decide +kernel
theorem dX7_waitsAt_20 : decode cX7_waitsAt 20 = .ok (.iconst (-1), 1) := by decide +kernel
theorem dX7_waitsAt_21 : decode cX7_waitsAt 21 = .ok (.if_icmp .ne 7, 3) := by decide +kernel
theorem dX7_waitsAt_24 : decode cX7_waitsAt 24 = .ok (.iconst 1, 1) := by decide +kernel
theorem dX7_waitsAt_25 : decode cX7_waitsAt 25 = .ok (.goto 4, 3) := by decide +kernel
theorem dX7_waitsAt_28 : decode cX7_waitsAt 28 = .ok (.iconst 0, 1) := by decide +kernel
theorem dX7_waitsAt_29 : decode cX7_waitsAt 29 = .ok (.ireturn, 1) := by decide +kernel
theorem dX7_getIn_0 : decode cX7_getIn 0 = .ok (.aload_n 0, 1) := by decide +kernel
theorem dX7_getIn_1 : decode cX7_getIn 1 = .ok (.getfield 20, 3) := by decide +kernel
theorem dX7_getIn_4 : decode cX7_getIn 4 = .ok (.iload_n 1, 1) := by decide +kernel
theorem dX7_getIn_5 : decode cX7_getIn 5 = .ok (.iload_n 3, 1) := by decide +kernel
theorem dX7_getIn_6 : decode cX7_getIn 6 = .ok (.ineg, 1) := by decide +kernel
theorem dX7_getIn_7 : decode cX7_getIn 7 = .ok (.invokevirtual 48, 3) := by decide +kernel
theorem dX7_getIn_10 : decode cX7_getIn 10 = .ok (.aload_n 0, 1) := by decide +kernel
theorem dX7_getIn_11 : decode cX7_getIn 11 = .ok (.getfield 23, 3) := by decide +kernel
theorem dX7_getIn_14 : decode cX7_getIn 14 = .ok (.iload_n 1, 1) := by decide +kernel
theorem dX7_getIn_15 : decode cX7_getIn 15 = .ok (.iconst (-1), 1) := by decide +kernel
theorem dX7_getIn_16 : decode cX7_getIn 16 = .ok (.invokevirtual 40, 3) := by decide +kernel
theorem dX7_getIn_19 : decode cX7_getIn 19 = .ok (.aload_n 0, 1) := by decide +kernel
theorem dX7_getIn_20 : decode cX7_getIn 20 = .ok (.getfield 26, 3) := by decide +kernel
theorem dX7_getIn_23 : decode cX7_getIn 23 = .ok (.iload_n 1, 1) := by decide +kernel
theorem dX7_getIn_24 : decode cX7_getIn 24 = .ok (.iload_n 2, 1) := by decide +kernel
theorem dX7_getIn_25 : decode cX7_getIn 25 = .ok (.invokevirtual 40, 3) := by decide +kernel
theorem dX7_getIn_28 : decode cX7_getIn 28 = .ok (.return_, 1) := by decide +kernel
theorem dX7_getOut_0 : decode cX7_getOut 0 = .ok (.iconst 0, 1) := by decide +kernel
theorem dX7_getOut_1 : decode cX7_getOut 1 = .ok (.istore 4, 2) := by decide +kernel
theorem dX7_getOut_3 : decode cX7_getOut 3 = .ok (.iconst 0, 1) := by decide +kernel
theorem dX7_getOut_4 : decode cX7_getOut 4 = .ok (.istore 5, 2) := by decide +kernel
theorem dX7_getOut_6 : decode cX7_getOut 6 = .ok (.iload 5, 2) := by decide +kernel
theorem dX7_getOut_8 : decode cX7_getOut 8 = .ok (.aload_n 0, 1) := by decide +kernel
theorem dX7_getOut_9 : decode cX7_getOut 9 = .ok (.getfield 32, 3) := by decide +kernel
theorem dX7_getOut_12 : decode cX7_getOut 12 = .ok (.if_icmp .ge 68, 3) := by decide +kernel
theorem dX7_getOut_15 : decode cX7_getOut 15 = .ok (.aload_n 0, 1) := by decide +kernel
theorem dX7_getOut_16 : decode cX7_getOut 16 = .ok (.getfield 26, 3) := by decide +kernel
theorem dX7_getOut_19 : decode cX7_getOut 19 = .ok (.iload 5, 2) := by decide +kernel
theorem dX7_getOut_21 : decode cX7_getOut 21 = .ok (.invokevirtual 44, 3) := by decide +kernel
theorem dX7_getOut_24 : decode cX7_getOut 24 = .ok (.iload_n 1, 1) := by decide +kernel
theorem dX7_getOut_25 : decode cX7_getOut 25 = .ok (.if_icmp .ne 49, 3) := by decide +kernel
theorem dX7_getOut_28 : decode cX7_getOut 28 = .ok (.aload_n 0, 1) := by decide +kernel
theorem dX7_getOut_29 : decode cX7_getOut 29 = .ok (.getfield 26, 3) := by decide +kernel
theorem dX7_getOut_32 : decode cX7_getOut 32 = .ok (.iload 5, 2) := by decide +kernel
theorem dX7_getOut_34 : decode cX7_getOut 34 = .ok (.iconst (-1), 1) := by decide +kernel
theorem dX7_getOut_35 : decode cX7_getOut 35 = .ok (.invokevirtual 40, 3) := by decide +kernel
theorem dX7_getOut_38 : decode cX7_getOut 38 = .ok (.aload_n 0, 1) := by decide +kernel
theorem dX7_getOut_39 : decode cX7_getOut 39 = .ok (.getfield 23, 3) := by decide +kernel
theorem dX7_getOut_42 : decode cX7_getOut 42 = .ok (.iload 5, 2) := by decide +kernel
theorem dX7_getOut_44 : decode cX7_getOut 44 = .ok (.iload_n 2, 1) := by decide +kernel
theorem dX7_getOut_45 : decode cX7_getOut 45 = .ok (.invokevirtual 40, 3) := by decide +kernel
theorem dX7_getOut_48 : decode cX7_getOut 48 = .ok (.aload_n 0, 1) := by decide +kernel
theorem dX7_getOut_49 : decode cX7_getOut 49 = .ok (.getfield 14, 3) := by decide +kernel
theorem dX7_getOut_52 : decode cX7_getOut 52 = .ok (.iload 5, 2) := by decide +kernel
theorem dX7_getOut_54 : decode cX7_getOut 54 = .ok (.invokevirtual 44, 3) := by decide +kernel
theorem dX7_getOut_57 : decode cX7_getOut 57 = .ok (.iload_n 2, 1) := by decide +kernel
theorem dX7_getOut_58 : decode cX7_getOut 58 = .ok (.if_icmp .ne 16, 3) := by decide +kernel
theorem dX7_getOut_61 : decode cX7_getOut 61 = .ok (.aload_n 0, 1) := by decide +kernel
theorem dX7_getOut_62 : decode cX7_getOut 62 = .ok (.getfield 29, 3) := by decide +kernel
theorem dX7_getOut_65 : decode cX7_getOut 65 = .ok (.iload 5, 2) := by decide +kernel
theorem dX7_getOut_67 : decode cX7_getOut 67 = .ok (.iload_n 3, 1) := by decide +kernel
theorem dX7_getOut_68 : decode cX7_getOut 68 = .ok (.invokevirtual 40, 3) := by decide +kernel
theorem dX7_getOut_71 : decode cX7_getOut 71 = .ok (.iinc 4 1, 3) := by decide +kernel
theorem dX7_getOut_74 : decode cX7_getOut 74 = .ok (.iinc 5 1, 3) := by decide +kernel
theorem dX7_getOut_77 : decode cX7_getOut 77 = .ok (.goto (-71), 3) := by decide +kernel
theorem dX7_getOut_80 : decode cX7_getOut 80 = .ok (.iload 4, 2) := by decide +kernel
theorem dX7_getOut_82 : decode cX7_getOut 82 = .ok (.ireturn, 1) := by decide +kernel
theorem dX7_waitingAt_0 : decode cX7_waitingAt 0 = .ok (.iconst 0, 1) := by decide +kernel
theorem dX7_waitingAt_1 : decode cX7_waitingAt 1 = .ok (.istore_n 2, 1) := by decide +kernel
theorem dX7_waitingAt_2 : decode cX7_waitingAt 2 = .ok (.iconst 0, 1) := by decide +kernel
theorem dX7_waitingAt_3 : decode cX7_waitingAt 3 = .ok (.istore_n 3, 1) := by decide +kernel
theorem dX7_waitingAt_4 : decode cX7_waitingAt 4 = .ok (.iload_n 3, 1) := by decide +kernel
theorem dX7_waitingAt_5 : decode cX7_waitingAt 5 = .ok (.aload_n 0, 1) := by decide +kernel
theorem dX7_waitingAt_6 : decode cX7_waitingAt 6 = .ok (.getfield 32, 3) := by decide +kernel
theorem dX7_waitingAt_9 : decode cX7_waitingAt 9 = .ok (.if_icmp .ge 21, 3) := by decide +kernel
theorem dX7_waitingAt_12 : decode cX7_waitingAt 12 = .ok (.aload_n 0, 1) := by decide +kernel
theorem dX7_waitingAt_13 : decode cX7_waitingAt 13 = .ok (.iload_n 3, 1) := by decide +kernel
theorem dX7_waitingAt_14 : decode cX7_waitingAt 14 = .ok (.iload_n 1, 1) := by decide +kernel
theorem dX7_waitingAt_15 : decode cX7_waitingAt 15 = .ok (.invokevirtual 51, 3) := by decide +kernel
theorem dX7_waitingAt_18 : decode cX7_waitingAt 18 = .ok (.ifCond .eq 6, 3) := by decide +kernel
theorem dX7_waitingAt_21 : decode cX7_waitingAt 21 = .ok (.iinc 2 1, 3) := by decide +kernel
theorem dX7_waitingAt_24 : decode cX7_waitingAt 24 = .ok (.iinc 3 1, 3) := by decide +kernel
theorem dX7_waitingAt_27 : decode cX7_waitingAt 27 = .ok (.goto (-23), 3) := by decide +kernel
theorem dX7_waitingAt_30 : decode cX7_waitingAt 30 = .ok (.iload_n 2, 1) := by decide +kernel
theorem dX7_waitingAt_31 : decode cX7_waitingAt 31 = .ok (.ireturn, 1) := by decide +kernel
theorem dX7_comeTo_0 : decode cX7_comeTo 0 = .ok (.aload_n 0, 1) := by decide +kernel
theorem dX7_comeTo_1 : decode cX7_comeTo 1 = .ok (.getfield 23, 3) := by decide +kernel
theorem dX7_comeTo_4 : decode cX7_comeTo 4 = .ok (.iload_n 1, 1) := by decide +kernel
theorem dX7_comeTo_5 : decode cX7_comeTo 5 = .ok (.aload_n 0, 1) := by decide +kernel
theorem dX7_comeTo_6 : decode cX7_comeTo 6 = .ok (.getfield 32, 3) := by decide +kernel
theorem dX7_comeTo_9 : decode cX7_comeTo 9 = .ok (.invokevirtual 55, 3) := by decide +kernel
theorem dX7_comeTo_12 : decode cX7_comeTo 12 = .ok (.aload_n 0, 1) := by decide +kernel
theorem dX7_comeTo_13 : decode cX7_comeTo 13 = .ok (.iload_n 1, 1) := by decide +kernel
theorem dX7_comeTo_14 : decode cX7_comeTo 14 = .ok (.invokevirtual 59, 3) := by decide +kernel
theorem dX7_comeTo_17 : decode cX7_comeTo 17 = .ok (.isub, 1) := by decide +kernel
theorem dX7_comeTo_18 : decode cX7_comeTo 18 = .ok (.ireturn, 1) := by decide +kernel
theorem dX7_riding_0 : decode cX7_riding 0 = .ok (.aload_n 0, 1) := by decide +kernel
theorem dX7_riding_1 : decode cX7_riding 1 = .ok (.getfield 32, 3) := by decide +kernel
theorem dX7_riding_4 : decode cX7_riding 4 = .ok (.aload_n 0, 1) := by decide +kernel
theorem dX7_riding_5 : decode cX7_riding 5 = .ok (.getfield 26, 3) := by decide +kernel
theorem dX7_riding_8 : decode cX7_riding 8 = .ok (.iconst (-1), 1) := by decide +kernel
theorem dX7_riding_9 : decode cX7_riding 9 = .ok (.aload_n 0, 1) := by decide +kernel
theorem dX7_riding_10 : decode cX7_riding 10 = .ok (.getfield 32, 3) := by decide +kernel
theorem dX7_riding_13 : decode cX7_riding 13 = .ok (.invokevirtual 55, 3) := by decide +kernel
theorem dX7_riding_16 : decode cX7_riding 16 = .ok (.isub, 1) := by decide +kernel
theorem dX7_riding_17 : decode cX7_riding 17 = .ok (.ireturn, 1) := by decide +kernel
theorem dX7_come_0 : decode cX7_come 0 = .ok (.aload_n 0, 1) := by decide +kernel
theorem dX7_come_1 : decode cX7_come 1 = .ok (.getfield 32, 3) := by decide +kernel
theorem dX7_come_4 : decode cX7_come 4 = .ok (.aload_n 0, 1) := by decide +kernel
theorem dX7_come_5 : decode cX7_come 5 = .ok (.getfield 29, 3) := by decide +kernel
theorem dX7_come_8 : decode cX7_come 8 = .ok (.iconst (-1), 1) := by decide +kernel
theorem dX7_come_9 : decode cX7_come 9 = .ok (.aload_n 0, 1) := by decide +kernel
theorem dX7_come_10 : decode cX7_come 10 = .ok (.getfield 32, 3) := by decide +kernel
theorem dX7_come_13 : decode cX7_come 13 = .ok (.invokevirtual 55, 3) := by decide +kernel
theorem dX7_come_16 : decode cX7_come 16 = .ok (.isub, 1) := by decide +kernel
theorem dX7_come_17 : decode cX7_come 17 = .ok (.ireturn, 1) := by decide +kernel
theorem dX7_waiting_0 : decode cX7_waiting 0 = .ok (.aload_n 0, 1) := by decide +kernel
theorem dX7_waiting_1 : decode cX7_waiting 1 = .ok (.getfield 32, 3) := by decide +kernel
theorem dX7_waiting_4 : decode cX7_waiting 4 = .ok (.aload_n 0, 1) := by decide +kernel
theorem dX7_waiting_5 : decode cX7_waiting 5 = .ok (.invokevirtual 62, 3) := by decide +kernel
theorem dX7_waiting_8 : decode cX7_waiting 8 = .ok (.isub, 1) := by decide +kernel
theorem dX7_waiting_9 : decode cX7_waiting 9 = .ok (.aload_n 0, 1) := by decide +kernel
theorem dX7_waiting_10 : decode cX7_waiting 10 = .ok (.invokevirtual 66, 3) := by decide +kernel
theorem dX7_waiting_13 : decode cX7_waiting 13 = .ok (.isub, 1) := by decide +kernel
theorem dX7_waiting_14 : decode cX7_waiting 14 = .ok (.ireturn, 1) := by decide +kernel
theorem dX8_init_0 : decode cX8_init 0 = .ok (.aload_n 0, 1) := by decide +kernel
theorem dX8_init_1 : decode cX8_init 1 = .ok (.invokespecial 3, 3) := by decide +kernel
theorem dX8_init_4 : decode cX8_init 4 = .ok (.aload_n 0, 1) := by decide +kernel
theorem dX8_init_5 : decode cX8_init 5 = .ok (.new 9, 3) := by decide +kernel
theorem dX8_init_8 : decode cX8_init 8 = .ok (.dup, 1) := by decide +kernel
theorem dX8_init_9 : decode cX8_init 9 = .ok (.invokespecial 11, 3) := by decide +kernel
theorem dX8_init_12 : decode cX8_init 12 = .ok (.putfield 12, 3) := by decide +kernel
theorem dX8_init_15 : decode cX8_init 15 = .ok (.aload_n 0, 1) := by decide +kernel
theorem dX8_init_16 : decode cX8_init 16 = .ok (.new 16, 3) := by decide +kernel
theorem dX8_init_19 : decode cX8_init 19 = .ok (.dup, 1) := by decide +kernel
theorem dX8_init_20 : decode cX8_init 20 = .ok (.invokespecial 18, 3) := by decide +kernel
theorem dX8_init_23 : decode cX8_init 23 = .ok (.putfield 19, 3) := by decide +kernel
theorem dX8_init_26 : decode cX8_init 26 = .ok (.aload_n 0, 1) := by decide +kernel
theorem dX8_init_27 : decode cX8_init 27 = .ok (.new 23, 3) := by decide +kernel
theorem dX8_init_30 : decode cX8_init 30 = .ok (.dup, 1) := by decide +kernel
theorem dX8_init_31 : decode cX8_init 31 = .ok (.invokespecial 25, 3) := by decide +kernel
theorem dX8_init_34 : decode cX8_init 34 = .ok (.putfield 26, 3) := by decide +kernel
theorem dX8_init_37 : decode cX8_init 37 = .ok (.aload_n 0, 1) := by decide +kernel
theorem dX8_init_38 : decode cX8_init 38 = .ok (.new 30, 3) := by decide +kernel
theorem dX8_init_41 : decode cX8_init 41 = .ok (.dup, 1) := by decide +kernel
theorem dX8_init_42 : decode cX8_init 42 = .ok (.aload_n 0, 1) := by decide +kernel
theorem dX8_init_43 : decode cX8_init 43 = .ok (.getfield 26, 3) := by decide +kernel
theorem dX8_init_46 : decode cX8_init 46 = .ok (.invokespecial 32, 3) := by decide +kernel
theorem dX8_init_49 : decode cX8_init 49 = .ok (.putfield 35, 3) := by decide +kernel
theorem dX8_init_52 : decode cX8_init 52 = .ok (.aload_n 0, 1) := by decide +kernel
theorem dX8_init_53 : decode cX8_init 53 = .ok (.new 39, 3) := by decide +kernel
theorem dX8_init_56 : decode cX8_init 56 = .ok (.dup, 1) := by decide +kernel
theorem dX8_init_57 : decode cX8_init 57 = .ok (.aload_n 0, 1) := by decide +kernel
theorem dX8_init_58 : decode cX8_init 58 = .ok (.getfield 12, 3) := by decide +kernel
end
section
theorem dX8_init_61 : decode cX8_init 61 = .ok (.aload_n 0, 1) := by decide +kernel
theorem dX8_init_62 : decode cX8_init 62 = .ok (.getfield 19, 3) := by decide +kernel
theorem dX8_init_65 : decode cX8_init 65 = .ok (.aload_n 0, 1) := by decide +kernel
theorem dX8_init_66 : decode cX8_init 66 = .ok (.getfield 26, 3) := by decide +kernel
theorem dX8_init_69 : decode cX8_init 69 = .ok (.invokespecial 41, 3) := by decide +kernel
theorem dX8_init_72 : decode cX8_init 72 = .ok (.putfield 44, 3) := by decide +kernel
theorem dX8_init_75 : decode cX8_init 75 = .ok (.aload_n 0, 1) := by decide +kernel
theorem dX8_init_76 : decode cX8_init 76 = .ok (.new 48, 3) := by decide +kernel
theorem dX8_init_79 : decode cX8_init 79 = .ok (.dup, 1) := by decide +kernel
theorem dX8_init_80 : decode cX8_init 80 = .ok (.aload_n 0, 1) := by decide +kernel
theorem dX8_init_81 : decode cX8_init 81 = .ok (.getfield 12, 3) := by decide +kernel
theorem dX8_init_84 : decode cX8_init 84 = .ok (.aload_n 0, 1) := by decide +kernel
theorem dX8_init_85 : decode cX8_init 85 = .ok (.getfield 19, 3) := by decide +kernel
theorem dX8_init_88 : decode cX8_init 88 = .ok (.aload_n 0, 1) := by decide +kernel
theorem dX8_init_89 : decode cX8_init 89 = .ok (.getfield 26, 3) := by decide +kernel
theorem dX8_init_92 : decode cX8_init 92 = .ok (.aload_n 0, 1) := by decide +kernel
theorem dX8_init_93 : decode cX8_init 93 = .ok (.getfield 35, 3) := by decide +kernel
theorem dX8_init_96 : decode cX8_init 96 = .ok (.aload_n 0, 1) := by decide +kernel
theorem dX8_init_97 : decode cX8_init 97 = .ok (.getfield 44, 3) := by decide +kernel
theorem dX8_init_100 : decode cX8_init 100 = .ok (.invokespecial 50, 3) := by decide +kernel
theorem dX8_init_103 : decode cX8_init 103 = .ok (.putfield 53, 3) := by decide +kernel
theorem dX8_init_106 : decode cX8_init 106 = .ok (.aload_n 0, 1) := by decide +kernel
theorem dX8_init_107 : decode cX8_init 107 = .ok (.new 48, 3) := by decide +kernel
theorem dX8_init_110 : decode cX8_init 110 = .ok (.dup, 1) := by decide +kernel
theorem dX8_init_111 : decode cX8_init 111 = .ok (.aload_n 0, 1) := by decide +kernel
theorem dX8_init_112 : decode cX8_init 112 = .ok (.getfield 12, 3) := by decide +kernel
theorem dX8_init_115 : decode cX8_init 115 = .ok (.aload_n 0, 1) := by decide +kernel
theorem dX8_init_116 : decode cX8_init 116 = .ok (.getfield 19, 3) := by decide +kernel
theorem dX8_init_119 : decode cX8_init 119 = .ok (.aload_n 0, 1) := by decide +kernel
theorem dX8_init_120 : decode cX8_init 120 = .ok (.getfield 26, 3) := by decide +kernel
theorem dX8_init_123 : decode cX8_init 123 = .ok (.aload_n 0, 1) := by decide +kernel
theorem dX8_init_124 : decode cX8_init 124 = .ok (.getfield 35, 3) := by decide +kernel
theorem dX8_init_127 : decode cX8_init 127 = .ok (.aload_n 0, 1) := by decide +kernel
theorem dX8_init_128 : decode cX8_init 128 = .ok (.getfield 44, 3) := by decide +kernel
theorem dX8_init_131 : decode cX8_init 131 = .ok (.invokespecial 50, 3) := by decide +kernel
theorem dX8_init_134 : decode cX8_init 134 = .ok (.putfield 57, 3) := by decide +kernel
theorem dX8_init_137 : decode cX8_init 137 = .ok (.return_, 1) := by decide +kernel
theorem dX8_setGround_0 : decode cX8_setGround 0 = .ok (.iload_n 1, 1) := by decide +kernel
theorem dX8_setGround_1 : decode cX8_setGround 1 = .ok (.iload_n 2, 1) := by decide +kernel
theorem dX8_setGround_2 : decode cX8_setGround 2 = .ok (.invokestatic 60, 3) := by decide +kernel
theorem dX8_setGround_5 : decode cX8_setGround 5 = .ok (.invokestatic 64, 3) := by decide +kernel
theorem dX8_setGround_8 : decode cX8_setGround 8 = .ok (.iload_n 3, 1) := by decide +kernel
theorem dX8_setGround_9 : decode cX8_setGround 9 = .ok (.iconst 0, 1) := by decide +kernel
theorem dX8_setGround_10 : decode cX8_setGround 10 = .ok (.bipush 20, 2) := by decide +kernel
theorem dX8_setGround_12 : decode cX8_setGround 12 = .ok (.invokestatic 68, 3) := by decide +kernel
theorem dX8_setGround_15 : decode cX8_setGround 15 = .ok (.invokestatic 72, 3) := by decide +kernel
theorem dX8_setGround_18 : decode cX8_setGround 18 = .ok (.aload_n 0, 1) := by decide +kernel
theorem dX8_setGround_19 : decode cX8_setGround 19 = .ok (.getfield 12, 3) := by decide +kernel
theorem dX8_setGround_22 : decode cX8_setGround 22 = .ok (.getfield 75, 3) := by decide +kernel
theorem dX8_setGround_25 : decode cX8_setGround 25 = .ok (.iload_n 1, 1) := by decide +kernel
theorem dX8_setGround_26 : decode cX8_setGround 26 = .ok (.iload_n 2, 1) := by decide +kernel
theorem dX8_setGround_27 : decode cX8_setGround 27 = .ok (.invokestatic 79, 3) := by decide +kernel
theorem dX8_setGround_30 : decode cX8_setGround 30 = .ok (.iload_n 3, 1) := by decide +kernel
theorem dX8_setGround_31 : decode cX8_setGround 31 = .ok (.invokevirtual 83, 3) := by decide +kernel
theorem dX8_setGround_34 : decode cX8_setGround 34 = .ok (.istore 4, 2) := by decide +kernel
theorem dX8_setGround_36 : decode cX8_setGround 36 = .ok (.aload_n 0, 1) := by decide +kernel
theorem dX8_setGround_37 : decode cX8_setGround 37 = .ok (.getfield 44, 3) := by decide +kernel
theorem dX8_setGround_40 : decode cX8_setGround 40 = .ok (.invokevirtual 88, 3) := by decide +kernel
theorem dX8_setGround_43 : decode cX8_setGround 43 = .ok (.iload 4, 2) := by decide +kernel
theorem dX8_setGround_45 : decode cX8_setGround 45 = .ok (.ireturn, 1) := by decide +kernel
theorem dX8_setWater_0 : decode cX8_setWater 0 = .ok (.iload_n 1, 1) := by decide +kernel
theorem dX8_setWater_1 : decode cX8_setWater 1 = .ok (.bipush 12, 2) := by decide +kernel
theorem dX8_setWater_3 : decode cX8_setWater 3 = .ok (.invokestatic 91, 3) := by decide +kernel
theorem dX8_setWater_6 : decode cX8_setWater 6 = .ok (.invokestatic 64, 3) := by decide +kernel
theorem dX8_setWater_9 : decode cX8_setWater 9 = .ok (.iload_n 2, 1) := by decide +kernel
theorem dX8_setWater_10 : decode cX8_setWater 10 = .ok (.iconst 0, 1) := by decide +kernel
theorem dX8_setWater_11 : decode cX8_setWater 11 = .ok (.bipush 24, 2) := by decide +kernel
theorem dX8_setWater_13 : decode cX8_setWater 13 = .ok (.invokestatic 68, 3) := by decide +kernel
theorem dX8_setWater_16 : decode cX8_setWater 16 = .ok (.invokestatic 72, 3) := by decide +kernel
theorem dX8_setWater_19 : decode cX8_setWater 19 = .ok (.aload_n 0, 1) := by decide +kernel
theorem dX8_setWater_20 : decode cX8_setWater 20 = .ok (.getfield 12, 3) := by decide +kernel
theorem dX8_setWater_23 : decode cX8_setWater 23 = .ok (.getfield 94, 3) := by decide +kernel
theorem dX8_setWater_26 : decode cX8_setWater 26 = .ok (.iload_n 1, 1) := by decide +kernel
theorem dX8_setWater_27 : decode cX8_setWater 27 = .ok (.iload_n 2, 1) := by decide +kernel
theorem dX8_setWater_28 : decode cX8_setWater 28 = .ok (.invokevirtual 83, 3) := by decide +kernel
theorem dX8_setWater_31 : decode cX8_setWater 31 = .ok (.ireturn, 1) := by decide +kernel
theorem dX8_setStake_0 : decode cX8_setStake 0 = .ok (.iload_n 1, 1) := by decide +kernel
theorem dX8_setStake_1 : decode cX8_setStake 1 = .ok (.iload_n 2, 1) := by decide +kernel
theorem dX8_setStake_2 : decode cX8_setStake 2 = .ok (.invokestatic 60, 3) := by decide +kernel
theorem dX8_setStake_5 : decode cX8_setStake 5 = .ok (.invokestatic 64, 3) := by decide +kernel
theorem dX8_setStake_8 : decode cX8_setStake 8 = .ok (.iload_n 3, 1) := by decide +kernel
theorem dX8_setStake_9 : decode cX8_setStake 9 = .ok (.iconst 0, 1) := by decide +kernel
theorem dX8_setStake_10 : decode cX8_setStake 10 = .ok (.bipush 9, 2) := by decide +kernel
theorem dX8_setStake_12 : decode cX8_setStake 12 = .ok (.invokestatic 68, 3) := by decide +kernel
theorem dX8_setStake_15 : decode cX8_setStake 15 = .ok (.invokestatic 72, 3) := by decide +kernel
theorem dX8_setStake_18 : decode cX8_setStake 18 = .ok (.aload_n 0, 1) := by decide +kernel
theorem dX8_setStake_19 : decode cX8_setStake 19 = .ok (.getfield 12, 3) := by decide +kernel
theorem dX8_setStake_22 : decode cX8_setStake 22 = .ok (.getfield 97, 3) := by decide +kernel
theorem dX8_setStake_25 : decode cX8_setStake 25 = .ok (.iload_n 1, 1) := by decide +kernel
theorem dX8_setStake_26 : decode cX8_setStake 26 = .ok (.iload_n 2, 1) := by decide +kernel
theorem dX8_setStake_27 : decode cX8_setStake 27 = .ok (.invokestatic 79, 3) := by decide +kernel
theorem dX8_setStake_30 : decode cX8_setStake 30 = .ok (.iload_n 3, 1) := by decide +kernel
theorem dX8_setStake_31 : decode cX8_setStake 31 = .ok (.invokevirtual 83, 3) := by decide +kernel
theorem dX8_setStake_34 : decode cX8_setStake 34 = .ok (.ireturn, 1) := by decide +kernel
theorem dX8_cell_0 : decode cX8_cell 0 = .ok (.iload_n 1, 1) := by decide +kernel
theorem dX8_cell_1 : decode cX8_cell 1 = .ok (.iload_n 2, 1) := by decide +kernel
theorem dX8_cell_2 : decode cX8_cell 2 = .ok (.invokestatic 60, 3) := by decide +kernel
theorem dX8_cell_5 : decode cX8_cell 5 = .ok (.ifCond .eq 16, 3) := by decide +kernel
theorem dX8_cell_8 : decode cX8_cell 8 = .ok (.iload_n 3, 1) := by decide +kernel
theorem dX8_cell_9 : decode cX8_cell 9 = .ok (.bipush 6, 2) := by decide +kernel
theorem dX8_cell_11 : decode cX8_cell 11 = .ok (.invokestatic 91, 3) := by decide +kernel
theorem dX8_cell_14 : decode cX8_cell 14 = .ok (.ifCond .eq 7, 3) := by decide +kernel
theorem dX8_cell_17 : decode cX8_cell 17 = .ok (.iconst 1, 1) := by decide +kernel
theorem dX8_cell_18 : decode cX8_cell 18 = .ok (.goto 4, 3) := by decide +kernel
theorem dX8_cell_21 : decode cX8_cell 21 = .ok (.iconst 0, 1) := by decide +kernel
theorem dX8_cell_22 : decode cX8_cell 22 = .ok (.invokestatic 64, 3) := by decide +kernel
theorem dX8_cell_25 : decode cX8_cell 25 = .ok (.iload_n 1, 1) := by decide +kernel
theorem dX8_cell_26 : decode cX8_cell 26 = .ok (.iload_n 2, 1) := by decide +kernel
theorem dX8_cell_27 : decode cX8_cell 27 = .ok (.invokestatic 79, 3) := by decide +kernel
theorem dX8_cell_30 : decode cX8_cell 30 = .ok (.istore 4, 2) := by decide +kernel
theorem dX8_cell_32 : decode cX8_cell 32 = .ok (.aload_n 0, 1) := by decide +kernel
theorem dX8_cell_33 : decode cX8_cell 33 = .ok (.getfield 53, 3) := by decide +kernel
theorem dX8_cell_36 : decode cX8_cell 36 = .ok (.invokevirtual 100, 3) := by decide +kernel
theorem dX8_cell_39 : decode cX8_cell 39 = .ok (.istore 5, 2) := by decide +kernel
theorem dX8_cell_41 : decode cX8_cell 41 = .ok (.iload_n 3, 1) := by decide +kernel
theorem dX8_cell_42 : decode cX8_cell 42 = .ok (.tableswitch 102 0 4 #[34, 47, 59, 72, 92], 34) := by decide +kernel
theorem dX8_cell_76 : decode cX8_cell 76 = .ok (.aload_n 0, 1) := by decide +kernel
theorem dX8_cell_77 : decode cX8_cell 77 = .ok (.getfield 12, 3) := by decide +kernel
theorem dX8_cell_80 : decode cX8_cell 80 = .ok (.getfield 75, 3) := by decide +kernel
theorem dX8_cell_83 : decode cX8_cell 83 = .ok (.iload 4, 2) := by decide +kernel
theorem dX8_cell_85 : decode cX8_cell 85 = .ok (.invokevirtual 104, 3) := by decide +kernel
theorem dX8_cell_88 : decode cX8_cell 88 = .ok (.ireturn, 1) := by decide +kernel
theorem dX8_cell_89 : decode cX8_cell 89 = .ok (.aload_n 0, 1) := by decide +kernel
theorem dX8_cell_90 : decode cX8_cell 90 = .ok (.getfield 12, 3) := by decide +kernel
theorem dX8_cell_93 : decode cX8_cell 93 = .ok (.iload 4, 2) := by decide +kernel
theorem dX8_cell_95 : decode cX8_cell 95 = .ok (.iload 5, 2) := by decide +kernel
theorem dX8_cell_97 : decode cX8_cell 97 = .ok (.invokevirtual 108, 3) := by decide +kernel
theorem dX8_cell_100 : decode cX8_cell 100 = .ok (.ireturn, 1) := by decide +kernel
theorem dX8_cell_101 : decode cX8_cell 101 = .ok (.aload_n 0, 1) := by decide +kernel
theorem dX8_cell_102 : decode cX8_cell 102 = .ok (.getfield 12, 3) := by decide +kernel
theorem dX8_cell_105 : decode cX8_cell 105 = .ok (.getfield 97, 3) := by decide +kernel
theorem dX8_cell_108 : decode cX8_cell 108 = .ok (.iload 4, 2) := by decide +kernel
theorem dX8_cell_110 : decode cX8_cell 110 = .ok (.invokevirtual 104, 3) := by decide +kernel
theorem dX8_cell_113 : decode cX8_cell 113 = .ok (.ireturn, 1) := by decide +kernel
theorem dX8_cell_114 : decode cX8_cell 114 = .ok (.aload_n 0, 1) := by decide +kernel
theorem dX8_cell_115 : decode cX8_cell 115 = .ok (.getfield 12, 3) := by decide +kernel
theorem dX8_cell_118 : decode cX8_cell 118 = .ok (.iload 4, 2) := by decide +kernel
theorem dX8_cell_120 : decode cX8_cell 120 = .ok (.iload 5, 2) := by decide +kernel
theorem dX8_cell_122 : decode cX8_cell 122 = .ok (.invokevirtual 111, 3) := by decide +kernel
theorem dX8_cell_125 : decode cX8_cell 125 = .ok (.ifCond .eq 7, 3) := by decide +kernel
theorem dX8_cell_128 : decode cX8_cell 128 = .ok (.iconst 1, 1) := by decide +kernel
theorem dX8_cell_129 : decode cX8_cell 129 = .ok (.goto 4, 3) := by decide +kernel
theorem dX8_cell_132 : decode cX8_cell 132 = .ok (.iconst 0, 1) := by decide +kernel
theorem dX8_cell_133 : decode cX8_cell 133 = .ok (.ireturn, 1) := by decide +kernel
theorem dX8_cell_134 : decode cX8_cell 134 = .ok (.aload_n 0, 1) := by decide +kernel
theorem dX8_cell_135 : decode cX8_cell 135 = .ok (.getfield 19, 3) := by decide +kernel
theorem dX8_cell_138 : decode cX8_cell 138 = .ok (.iload 4, 2) := by decide +kernel
theorem dX8_cell_140 : decode cX8_cell 140 = .ok (.invokevirtual 114, 3) := by decide +kernel
theorem dX8_cell_143 : decode cX8_cell 143 = .ok (.ireturn, 1) := by decide +kernel
theorem dX8_cell_144 : decode cX8_cell 144 = .ok (.aload_n 0, 1) := by decide +kernel
theorem dX8_cell_145 : decode cX8_cell 145 = .ok (.getfield 53, 3) := by decide +kernel
theorem dX8_cell_148 : decode cX8_cell 148 = .ok (.getfield 117, 3) := by decide +kernel
theorem dX8_cell_151 : decode cX8_cell 151 = .ok (.iload 4, 2) := by decide +kernel
theorem dX8_cell_153 : decode cX8_cell 153 = .ok (.aload_n 0, 1) := by decide +kernel
theorem dX8_cell_154 : decode cX8_cell 154 = .ok (.getfield 26, 3) := by decide +kernel
theorem dX8_cell_157 : decode cX8_cell 157 = .ok (.getfield 120, 3) := by decide +kernel
theorem dX8_cell_160 : decode cX8_cell 160 = .ok (.invokevirtual 124, 3) := by decide +kernel
theorem dX8_cell_163 : decode cX8_cell 163 = .ok (.ireturn, 1) := by decide +kernel
theorem dX8_addLanding_0 : decode cX8_addLanding 0 = .ok (.iload_n 1, 1) := by decide +kernel
theorem dX8_addLanding_1 : decode cX8_addLanding 1 = .ok (.iload_n 2, 1) := by decide +kernel
theorem dX8_addLanding_2 : decode cX8_addLanding 2 = .ok (.invokestatic 60, 3) := by decide +kernel
theorem dX8_addLanding_5 : decode cX8_addLanding 5 = .ok (.invokestatic 64, 3) := by decide +kernel
theorem dX8_addLanding_8 : decode cX8_addLanding 8 = .ok (.iload_n 1, 1) := by decide +kernel
theorem dX8_addLanding_9 : decode cX8_addLanding 9 = .ok (.iload_n 2, 1) := by decide +kernel
theorem dX8_addLanding_10 : decode cX8_addLanding 10 = .ok (.invokestatic 79, 3) := by decide +kernel
theorem dX8_addLanding_13 : decode cX8_addLanding 13 = .ok (.istore_n 3, 1) := by decide +kernel
theorem dX8_addLanding_14 : decode cX8_addLanding 14 = .ok (.aload_n 0, 1) := by decide +kernel
theorem dX8_addLanding_15 : decode cX8_addLanding 15 = .ok (.getfield 19, 3) := by decide +kernel
theorem dX8_addLanding_18 : decode cX8_addLanding 18 = .ok (.iload_n 3, 1) := by decide +kernel
theorem dX8_addLanding_19 : decode cX8_addLanding 19 = .ok (.invokevirtual 114, 3) := by decide +kernel
theorem dX8_addLanding_22 : decode cX8_addLanding 22 = .ok (.iconst (-1), 1) := by decide +kernel
theorem dX8_addLanding_23 : decode cX8_addLanding 23 = .ok (.if_icmp .ne 19, 3) := by decide +kernel
theorem dX8_addLanding_26 : decode cX8_addLanding 26 = .ok (.aload_n 0, 1) := by decide +kernel
theorem dX8_addLanding_27 : decode cX8_addLanding 27 = .ok (.getfield 19, 3) := by decide +kernel
theorem dX8_addLanding_30 : decode cX8_addLanding 30 = .ok (.getfield 127, 3) := by decide +kernel
theorem dX8_addLanding_33 : decode cX8_addLanding 33 = .ok (.bipush 8, 2) := by decide +kernel
theorem dX8_addLanding_35 : decode cX8_addLanding 35 = .ok (.if_icmp .ge 7, 3) := by decide +kernel
theorem dX8_addLanding_38 : decode cX8_addLanding 38 = .ok (.iconst 1, 1) := by decide +kernel
theorem dX8_addLanding_39 : decode cX8_addLanding 39 = .ok (.goto 4, 3) := by decide +kernel
theorem dX8_addLanding_42 : decode cX8_addLanding 42 = .ok (.iconst 0, 1) := by decide +kernel
theorem dX8_addLanding_43 : decode cX8_addLanding 43 = .ok (.invokestatic 128, 3) := by decide +kernel
theorem dX8_addLanding_46 : decode cX8_addLanding 46 = .ok (.aload_n 0, 1) := by decide +kernel
theorem dX8_addLanding_47 : decode cX8_addLanding 47 = .ok (.getfield 19, 3) := by decide +kernel
theorem dX8_addLanding_50 : decode cX8_addLanding 50 = .ok (.iload_n 3, 1) := by decide +kernel
theorem dX8_addLanding_51 : decode cX8_addLanding 51 = .ok (.invokevirtual 131, 3) := by decide +kernel
theorem dX8_addLanding_54 : decode cX8_addLanding 54 = .ok (.ireturn, 1) := by decide +kernel
theorem dX8_launch_0 : decode cX8_launch 0 = .ok (.iload_n 1, 1) := by decide +kernel
theorem dX8_launch_1 : decode cX8_launch 1 = .ok (.aload_n 0, 1) := by decide +kernel
theorem dX8_launch_2 : decode cX8_launch 2 = .ok (.getfield 19, 3) := by decide +kernel
theorem dX8_launch_5 : decode cX8_launch 5 = .ok (.getfield 127, 3) := by decide +kernel
theorem dX8_launch_8 : decode cX8_launch 8 = .ok (.invokestatic 91, 3) := by decide +kernel
theorem dX8_launch_11 : decode cX8_launch 11 = .ok (.ifCond .eq 21, 3) := by decide +kernel
theorem dX8_launch_14 : decode cX8_launch 14 = .ok (.iload_n 2, 1) := by decide +kernel
theorem dX8_launch_15 : decode cX8_launch 15 = .ok (.aload_n 0, 1) := by decide +kernel
theorem dX8_launch_16 : decode cX8_launch 16 = .ok (.getfield 19, 3) := by decide +kernel
theorem dX8_launch_19 : decode cX8_launch 19 = .ok (.getfield 127, 3) := by decide +kernel
theorem dX8_launch_22 : decode cX8_launch 22 = .ok (.invokestatic 91, 3) := by decide +kernel
theorem dX8_launch_25 : decode cX8_launch 25 = .ok (.ifCond .eq 7, 3) := by decide +kernel
theorem dX8_launch_28 : decode cX8_launch 28 = .ok (.iconst 1, 1) := by decide +kernel
theorem dX8_launch_29 : decode cX8_launch 29 = .ok (.goto 4, 3) := by decide +kernel
theorem dX8_launch_32 : decode cX8_launch 32 = .ok (.iconst 0, 1) := by decide +kernel
theorem dX8_launch_33 : decode cX8_launch 33 = .ok (.invokestatic 64, 3) := by decide +kernel
theorem dX8_launch_36 : decode cX8_launch 36 = .ok (.iload_n 1, 1) := by decide +kernel
theorem dX8_launch_37 : decode cX8_launch 37 = .ok (.iload_n 2, 1) := by decide +kernel
theorem dX8_launch_38 : decode cX8_launch 38 = .ok (.if_icmp .eq 7, 3) := by decide +kernel
theorem dX8_launch_41 : decode cX8_launch 41 = .ok (.iconst 1, 1) := by decide +kernel
theorem dX8_launch_42 : decode cX8_launch 42 = .ok (.goto 4, 3) := by decide +kernel
theorem dX8_launch_45 : decode cX8_launch 45 = .ok (.iconst 0, 1) := by decide +kernel
theorem dX8_launch_46 : decode cX8_launch 46 = .ok (.invokestatic 72, 3) := by decide +kernel
theorem dX8_launch_49 : decode cX8_launch 49 = .ok (.iload_n 3, 1) := by decide +kernel
theorem dX8_launch_50 : decode cX8_launch 50 = .ok (.iconst 1, 1) := by decide +kernel
theorem dX8_launch_51 : decode cX8_launch 51 = .ok (.iconst 4, 1) := by decide +kernel
theorem dX8_launch_52 : decode cX8_launch 52 = .ok (.invokestatic 68, 3) := by decide +kernel
theorem dX8_launch_55 : decode cX8_launch 55 = .ok (.invokestatic 72, 3) := by decide +kernel
theorem dX8_launch_58 : decode cX8_launch 58 = .ok (.iload 4, 2) := by decide +kernel
theorem dX8_launch_60 : decode cX8_launch 60 = .ok (.iconst 2, 1) := by decide +kernel
theorem dX8_launch_61 : decode cX8_launch 61 = .ok (.bipush 12, 2) := by decide +kernel
theorem dX8_launch_63 : decode cX8_launch 63 = .ok (.invokestatic 68, 3) := by decide +kernel
theorem dX8_launch_66 : decode cX8_launch 66 = .ok (.invokestatic 72, 3) := by decide +kernel
theorem dX8_launch_69 : decode cX8_launch 69 = .ok (.iload 5, 2) := by decide +kernel
theorem dX8_launch_71 : decode cX8_launch 71 = .ok (.iconst 1, 1) := by decide +kernel
theorem dX8_launch_72 : decode cX8_launch 72 = .ok (.bipush 6, 2) := by decide +kernel
theorem dX8_launch_74 : decode cX8_launch 74 = .ok (.invokestatic 68, 3) := by decide +kernel
theorem dX8_launch_77 : decode cX8_launch 77 = .ok (.invokestatic 72, 3) := by decide +kernel
theorem dX8_launch_80 : decode cX8_launch 80 = .ok (.iload 6, 2) := by decide +kernel
theorem dX8_launch_82 : decode cX8_launch 82 = .ok (.iconst 0, 1) := by decide +kernel
theorem dX8_launch_83 : decode cX8_launch 83 = .ok (.bipush 50, 2) := by decide +kernel
theorem dX8_launch_85 : decode cX8_launch 85 = .ok (.invokestatic 68, 3) := by decide +kernel
theorem dX8_launch_88 : decode cX8_launch 88 = .ok (.invokestatic 72, 3) := by decide +kernel
theorem dX8_launch_91 : decode cX8_launch 91 = .ok (.aload_n 0, 1) := by decide +kernel
theorem dX8_launch_92 : decode cX8_launch 92 = .ok (.getfield 26, 3) := by decide +kernel
theorem dX8_launch_95 : decode cX8_launch 95 = .ok (.getfield 120, 3) := by decide +kernel
theorem dX8_launch_98 : decode cX8_launch 98 = .ok (.bipush 6, 2) := by decide +kernel
theorem dX8_launch_100 : decode cX8_launch 100 = .ok (.if_icmp .ge 7, 3) := by decide +kernel
theorem dX8_launch_103 : decode cX8_launch 103 = .ok (.iconst 1, 1) := by decide +kernel
theorem dX8_launch_104 : decode cX8_launch 104 = .ok (.goto 4, 3) := by decide +kernel
theorem dX8_launch_107 : decode cX8_launch 107 = .ok (.iconst 0, 1) := by decide +kernel
theorem dX8_launch_108 : decode cX8_launch 108 = .ok (.invokestatic 128, 3) := by decide +kernel
theorem dX8_launch_111 : decode cX8_launch 111 = .ok (.aload_n 0, 1) := by decide +kernel
theorem dX8_launch_112 : decode cX8_launch 112 = .ok (.getfield 26, 3) := by decide +kernel
theorem dX8_launch_115 : decode cX8_launch 115 = .ok (.iload_n 1, 1) := by decide +kernel
theorem dX8_launch_116 : decode cX8_launch 116 = .ok (.iload_n 2, 1) := by decide +kernel
theorem dX8_launch_117 : decode cX8_launch 117 = .ok (.invokevirtual 134, 3) := by decide +kernel
theorem dX8_launch_120 : decode cX8_launch 120 = .ok (.istore 7, 2) := by decide +kernel
theorem dX8_launch_122 : decode cX8_launch 122 = .ok (.aload_n 0, 1) := by decide +kernel
theorem dX8_launch_123 : decode cX8_launch 123 = .ok (.getfield 26, 3) := by decide +kernel
theorem dX8_launch_126 : decode cX8_launch 126 = .ok (.iload 7, 2) := by decide +kernel
theorem dX8_launch_128 : decode cX8_launch 128 = .ok (.iload_n 3, 1) := by decide +kernel
theorem dX8_launch_129 : decode cX8_launch 129 = .ok (.iload 4, 2) := by decide +kernel
theorem dX8_launch_131 : decode cX8_launch 131 = .ok (.iload 5, 2) := by decide +kernel
theorem dX8_launch_133 : decode cX8_launch 133 = .ok (.iload 6, 2) := by decide +kernel
theorem dX8_launch_135 : decode cX8_launch 135 = .ok (.invokevirtual 136, 3) := by decide +kernel
theorem dX8_launch_138 : decode cX8_launch 138 = .ok (.aload_n 0, 1) := by decide +kernel
theorem dX8_launch_139 : decode cX8_launch 139 = .ok (.getfield 53, 3) := by decide +kernel
theorem dX8_launch_142 : decode cX8_launch 142 = .ok (.iload 7, 2) := by decide +kernel
theorem dX8_launch_144 : decode cX8_launch 144 = .ok (.aload_n 0, 1) := by decide +kernel
theorem dX8_launch_145 : decode cX8_launch 145 = .ok (.getfield 19, 3) := by decide +kernel
theorem dX8_launch_148 : decode cX8_launch 148 = .ok (.getfield 140, 3) := by decide +kernel
theorem dX8_launch_151 : decode cX8_launch 151 = .ok (.iload_n 1, 1) := by decide +kernel
theorem dX8_launch_152 : decode cX8_launch 152 = .ok (.invokevirtual 104, 3) := by decide +kernel
theorem dX8_launch_155 : decode cX8_launch 155 = .ok (.iload_n 2, 1) := by decide +kernel
theorem dX8_launch_156 : decode cX8_launch 156 = .ok (.invokevirtual 141, 3) := by decide +kernel
theorem dX8_launch_159 : decode cX8_launch 159 = .ok (.aload_n 0, 1) := by decide +kernel
theorem dX8_launch_160 : decode cX8_launch 160 = .ok (.getfield 35, 3) := by decide +kernel
theorem dX8_launch_163 : decode cX8_launch 163 = .ok (.invokevirtual 145, 3) := by decide +kernel
theorem dX8_launch_166 : decode cX8_launch 166 = .ok (.iload 7, 2) := by decide +kernel
theorem dX8_launch_168 : decode cX8_launch 168 = .ok (.ireturn, 1) := by decide +kernel
theorem dX8_setToll_0 : decode cX8_setToll 0 = .ok (.iload_n 1, 1) := by decide +kernel
theorem dX8_setToll_1 : decode cX8_setToll 1 = .ok (.aload_n 0, 1) := by decide +kernel
theorem dX8_setToll_2 : decode cX8_setToll 2 = .ok (.getfield 26, 3) := by decide +kernel
theorem dX8_setToll_5 : decode cX8_setToll 5 = .ok (.getfield 120, 3) := by decide +kernel
theorem dX8_setToll_8 : decode cX8_setToll 8 = .ok (.invokestatic 91, 3) := by decide +kernel
theorem dX8_setToll_11 : decode cX8_setToll 11 = .ok (.invokestatic 64, 3) := by decide +kernel
theorem dX8_setToll_14 : decode cX8_setToll 14 = .ok (.iload_n 2, 1) := by decide +kernel
theorem dX8_setToll_15 : decode cX8_setToll 15 = .ok (.iconst 0, 1) := by decide +kernel
theorem dX8_setToll_16 : decode cX8_setToll 16 = .ok (.bipush 50, 2) := by decide +kernel
theorem dX8_setToll_18 : decode cX8_setToll 18 = .ok (.invokestatic 68, 3) := by decide +kernel
theorem dX8_setToll_21 : decode cX8_setToll 21 = .ok (.invokestatic 72, 3) := by decide +kernel
theorem dX8_setToll_24 : decode cX8_setToll 24 = .ok (.aload_n 0, 1) := by decide +kernel
theorem dX8_setToll_25 : decode cX8_setToll 25 = .ok (.getfield 26, 3) := by decide +kernel
theorem dX8_setToll_28 : decode cX8_setToll 28 = .ok (.getfield 148, 3) := by decide +kernel
theorem dX8_setToll_31 : decode cX8_setToll 31 = .ok (.iload_n 1, 1) := by decide +kernel
theorem dX8_setToll_32 : decode cX8_setToll 32 = .ok (.iload_n 2, 1) := by decide +kernel
theorem dX8_setToll_33 : decode cX8_setToll 33 = .ok (.invokevirtual 83, 3) := by decide +kernel
theorem dX8_setToll_36 : decode cX8_setToll 36 = .ok (.ireturn, 1) := by decide +kernel
theorem dX8_punt_0 : decode cX8_punt 0 = .ok (.iload_n 1, 1) := by decide +kernel
theorem dX8_punt_1 : decode cX8_punt 1 = .ok (.aload_n 0, 1) := by decide +kernel
theorem dX8_punt_2 : decode cX8_punt 2 = .ok (.getfield 26, 3) := by decide +kernel
theorem dX8_punt_5 : decode cX8_punt 5 = .ok (.getfield 120, 3) := by decide +kernel
theorem dX8_punt_8 : decode cX8_punt 8 = .ok (.invokestatic 91, 3) := by decide +kernel
theorem dX8_punt_11 : decode cX8_punt 11 = .ok (.ifCond .eq 16, 3) := by decide +kernel
theorem dX8_punt_14 : decode cX8_punt 14 = .ok (.iload_n 2, 1) := by decide +kernel
theorem dX8_punt_15 : decode cX8_punt 15 = .ok (.bipush 9, 2) := by decide +kernel
theorem dX8_punt_17 : decode cX8_punt 17 = .ok (.invokestatic 91, 3) := by decide +kernel
theorem dX8_punt_20 : decode cX8_punt 20 = .ok (.ifCond .eq 7, 3) := by decide +kernel
theorem dX8_punt_23 : decode cX8_punt 23 = .ok (.iconst 1, 1) := by decide +kernel
theorem dX8_punt_24 : decode cX8_punt 24 = .ok (.goto 4, 3) := by decide +kernel
theorem dX8_punt_27 : decode cX8_punt 27 = .ok (.iconst 0, 1) := by decide +kernel
theorem dX8_punt_28 : decode cX8_punt 28 = .ok (.invokestatic 64, 3) := by decide +kernel
theorem dX8_punt_31 : decode cX8_punt 31 = .ok (.aload_n 0, 1) := by decide +kernel
theorem dX8_punt_32 : decode cX8_punt 32 = .ok (.iload_n 1, 1) := by decide +kernel
theorem dX8_punt_33 : decode cX8_punt 33 = .ok (.iload_n 2, 1) := by decide +kernel
theorem dX8_punt_34 : decode cX8_punt 34 = .ok (.invokevirtual 151, 3) := by decide +kernel
theorem dX8_punt_37 : decode cX8_punt 37 = .ok (.ireturn, 1) := by decide +kernel
theorem dX8_tellPunt_0 : decode cX8_tellPunt 0 = .ok (.iload_n 2, 1) := by decide +kernel
theorem dX8_tellPunt_1 : decode cX8_tellPunt 1 = .ok (.tableswitch 164 0 7 #[47, 62, 77, 89, 114, 126, 143, 152], 47) := by decide +kernel
theorem dX8_tellPunt_48 : decode cX8_tellPunt 48 = .ok (.aload_n 0, 1) := by decide +kernel
theorem dX8_tellPunt_49 : decode cX8_tellPunt 49 = .ok (.getfield 53, 3) := by decide +kernel
theorem dX8_tellPunt_52 : decode cX8_tellPunt 52 = .ok (.getfield 117, 3) := by decide +kernel
theorem dX8_tellPunt_55 : decode cX8_tellPunt 55 = .ok (.iload_n 1, 1) := by decide +kernel
theorem dX8_tellPunt_56 : decode cX8_tellPunt 56 = .ok (.invokevirtual 104, 3) := by decide +kernel
theorem dX8_tellPunt_59 : decode cX8_tellPunt 59 = .ok (.invokestatic 154, 3) := by decide +kernel
theorem dX8_tellPunt_62 : decode cX8_tellPunt 62 = .ok (.ireturn, 1) := by decide +kernel
theorem dX8_tellPunt_63 : decode cX8_tellPunt 63 = .ok (.aload_n 0, 1) := by decide +kernel
theorem dX8_tellPunt_64 : decode cX8_tellPunt 64 = .ok (.getfield 53, 3) := by decide +kernel
theorem dX8_tellPunt_67 : decode cX8_tellPunt 67 = .ok (.getfield 117, 3) := by decide +kernel
theorem dX8_tellPunt_70 : decode cX8_tellPunt 70 = .ok (.iload_n 1, 1) := by decide +kernel
theorem dX8_tellPunt_71 : decode cX8_tellPunt 71 = .ok (.invokevirtual 104, 3) := by decide +kernel
theorem dX8_tellPunt_74 : decode cX8_tellPunt 74 = .ok (.invokestatic 157, 3) := by decide +kernel
theorem dX8_tellPunt_77 : decode cX8_tellPunt 77 = .ok (.ireturn, 1) := by decide +kernel
theorem dX8_tellPunt_78 : decode cX8_tellPunt 78 = .ok (.aload_n 0, 1) := by decide +kernel
theorem dX8_tellPunt_79 : decode cX8_tellPunt 79 = .ok (.getfield 53, 3) := by decide +kernel
theorem dX8_tellPunt_82 : decode cX8_tellPunt 82 = .ok (.getfield 160, 3) := by decide +kernel
theorem dX8_tellPunt_85 : decode cX8_tellPunt 85 = .ok (.iload_n 1, 1) := by decide +kernel
theorem dX8_tellPunt_86 : decode cX8_tellPunt 86 = .ok (.invokevirtual 104, 3) := by decide +kernel
theorem dX8_tellPunt_89 : decode cX8_tellPunt 89 = .ok (.ireturn, 1) := by decide +kernel
theorem dX8_tellPunt_90 : decode cX8_tellPunt 90 = .ok (.aload_n 0, 1) := by decide +kernel
theorem dX8_tellPunt_91 : decode cX8_tellPunt 91 = .ok (.getfield 53, 3) := by decide +kernel
theorem dX8_tellPunt_94 : decode cX8_tellPunt 94 = .ok (.getfield 163, 3) := by decide +kernel
theorem dX8_tellPunt_97 : decode cX8_tellPunt 97 = .ok (.getfield 167, 3) := by decide +kernel
theorem dX8_tellPunt_100 : decode cX8_tellPunt 100 = .ok (.iload_n 1, 1) := by decide +kernel
theorem dX8_tellPunt_101 : decode cX8_tellPunt 101 = .ok (.aload_n 0, 1) := by decide +kernel
theorem dX8_tellPunt_102 : decode cX8_tellPunt 102 = .ok (.getfield 53, 3) := by decide +kernel
theorem dX8_tellPunt_105 : decode cX8_tellPunt 105 = .ok (.getfield 163, 3) := by decide +kernel
theorem dX8_tellPunt_108 : decode cX8_tellPunt 108 = .ok (.getfield 172, 3) := by decide +kernel
theorem dX8_tellPunt_111 : decode cX8_tellPunt 111 = .ok (.invokevirtual 124, 3) := by decide +kernel
theorem dX8_tellPunt_114 : decode cX8_tellPunt 114 = .ok (.ireturn, 1) := by decide +kernel
theorem dX8_tellPunt_115 : decode cX8_tellPunt 115 = .ok (.aload_n 0, 1) := by decide +kernel
theorem dX8_tellPunt_116 : decode cX8_tellPunt 116 = .ok (.getfield 26, 3) := by decide +kernel
theorem dX8_tellPunt_119 : decode cX8_tellPunt 119 = .ok (.getfield 148, 3) := by decide +kernel
theorem dX8_tellPunt_122 : decode cX8_tellPunt 122 = .ok (.iload_n 1, 1) := by decide +kernel
theorem dX8_tellPunt_123 : decode cX8_tellPunt 123 = .ok (.invokevirtual 104, 3) := by decide +kernel
theorem dX8_tellPunt_126 : decode cX8_tellPunt 126 = .ok (.ireturn, 1) := by decide +kernel
theorem dX8_tellPunt_127 : decode cX8_tellPunt 127 = .ok (.aload_n 0, 1) := by decide +kernel
theorem dX8_tellPunt_128 : decode cX8_tellPunt 128 = .ok (.getfield 53, 3) := by decide +kernel
theorem dX8_tellPunt_131 : decode cX8_tellPunt 131 = .ok (.iload_n 1, 1) := by decide +kernel
theorem dX8_tellPunt_132 : decode cX8_tellPunt 132 = .ok (.invokevirtual 173, 3) := by decide +kernel
theorem dX8_tellPunt_135 : decode cX8_tellPunt 135 = .ok (.ifCond .eq 7, 3) := by decide +kernel
theorem dX8_tellPunt_138 : decode cX8_tellPunt 138 = .ok (.iconst 1, 1) := by decide +kernel
theorem dX8_tellPunt_139 : decode cX8_tellPunt 139 = .ok (.goto 4, 3) := by decide +kernel
theorem dX8_tellPunt_142 : decode cX8_tellPunt 142 = .ok (.iconst 0, 1) := by decide +kernel
theorem dX8_tellPunt_143 : decode cX8_tellPunt 143 = .ok (.ireturn, 1) := by decide +kernel
theorem dX8_tellPunt_144 : decode cX8_tellPunt 144 = .ok (.aload_n 0, 1) := by decide +kernel
theorem dX8_tellPunt_145 : decode cX8_tellPunt 145 = .ok (.getfield 53, 3) := by decide +kernel
theorem dX8_tellPunt_148 : decode cX8_tellPunt 148 = .ok (.iload_n 1, 1) := by decide +kernel
theorem dX8_tellPunt_149 : decode cX8_tellPunt 149 = .ok (.invokevirtual 177, 3) := by decide +kernel
theorem dX8_tellPunt_152 : decode cX8_tellPunt 152 = .ok (.ireturn, 1) := by decide +kernel
theorem dX8_tellPunt_153 : decode cX8_tellPunt 153 = .ok (.aload_n 0, 1) := by decide +kernel
theorem dX8_tellPunt_154 : decode cX8_tellPunt 154 = .ok (.getfield 53, 3) := by decide +kernel
theorem dX8_tellPunt_157 : decode cX8_tellPunt 157 = .ok (.getfield 180, 3) := by decide +kernel
theorem dX8_tellPunt_160 : decode cX8_tellPunt 160 = .ok (.iload_n 1, 1) := by decide +kernel
theorem dX8_tellPunt_161 : decode cX8_tellPunt 161 = .ok (.invokevirtual 104, 3) := by decide +kernel
theorem dX8_tellPunt_164 : decode cX8_tellPunt 164 = .ok (.ireturn, 1) := by decide +kernel
theorem dX8_tellPunt_165 : decode cX8_tellPunt 165 = .ok (.aload_n 0, 1) := by decide +kernel
theorem dX8_tellPunt_166 : decode cX8_tellPunt 166 = .ok (.getfield 53, 3) := by decide +kernel
theorem dX8_tellPunt_169 : decode cX8_tellPunt 169 = .ok (.getfield 183, 3) := by decide +kernel
theorem dX8_tellPunt_172 : decode cX8_tellPunt 172 = .ok (.iload_n 1, 1) := by decide +kernel
theorem dX8_tellPunt_173 : decode cX8_tellPunt 173 = .ok (.invokevirtual 104, 3) := by decide +kernel
theorem dX8_tellPunt_176 : decode cX8_tellPunt 176 = .ok (.ireturn, 1) := by decide +kernel
theorem dX8_addTraveller_0 : decode cX8_addTraveller 0 = .ok (.iload_n 1, 1) := by decide +kernel
theorem dX8_addTraveller_1 : decode cX8_addTraveller 1 = .ok (.aload_n 0, 1) := by decide +kernel
theorem dX8_addTraveller_2 : decode cX8_addTraveller 2 = .ok (.getfield 19, 3) := by decide +kernel
theorem dX8_addTraveller_5 : decode cX8_addTraveller 5 = .ok (.getfield 127, 3) := by decide +kernel
theorem dX8_addTraveller_8 : decode cX8_addTraveller 8 = .ok (.invokestatic 91, 3) := by decide +kernel
theorem dX8_addTraveller_11 : decode cX8_addTraveller 11 = .ok (.ifCond .eq 21, 3) := by decide +kernel
theorem dX8_addTraveller_14 : decode cX8_addTraveller 14 = .ok (.iload_n 2, 1) := by decide +kernel
theorem dX8_addTraveller_15 : decode cX8_addTraveller 15 = .ok (.aload_n 0, 1) := by decide +kernel
theorem dX8_addTraveller_16 : decode cX8_addTraveller 16 = .ok (.getfield 19, 3) := by decide +kernel
theorem dX8_addTraveller_19 : decode cX8_addTraveller 19 = .ok (.getfield 127, 3) := by decide +kernel
theorem dX8_addTraveller_22 : decode cX8_addTraveller 22 = .ok (.invokestatic 91, 3) := by decide +kernel
theorem dX8_addTraveller_25 : decode cX8_addTraveller 25 = .ok (.ifCond .eq 7, 3) := by decide +kernel
theorem dX8_addTraveller_28 : decode cX8_addTraveller 28 = .ok (.iconst 1, 1) := by decide +kernel
theorem dX8_addTraveller_29 : decode cX8_addTraveller 29 = .ok (.goto 4, 3) := by decide +kernel
theorem dX8_addTraveller_32 : decode cX8_addTraveller 32 = .ok (.iconst 0, 1) := by decide +kernel
theorem dX8_addTraveller_33 : decode cX8_addTraveller 33 = .ok (.invokestatic 64, 3) := by decide +kernel
theorem dX8_addTraveller_36 : decode cX8_addTraveller 36 = .ok (.iload_n 1, 1) := by decide +kernel
theorem dX8_addTraveller_37 : decode cX8_addTraveller 37 = .ok (.iload_n 2, 1) := by decide +kernel
theorem dX8_addTraveller_38 : decode cX8_addTraveller 38 = .ok (.if_icmp .eq 7, 3) := by decide +kernel
theorem dX8_addTraveller_41 : decode cX8_addTraveller 41 = .ok (.iconst 1, 1) := by decide +kernel
theorem dX8_addTraveller_42 : decode cX8_addTraveller 42 = .ok (.goto 4, 3) := by decide +kernel
theorem dX8_addTraveller_45 : decode cX8_addTraveller 45 = .ok (.iconst 0, 1) := by decide +kernel
theorem dX8_addTraveller_46 : decode cX8_addTraveller 46 = .ok (.invokestatic 72, 3) := by decide +kernel
theorem dX8_addTraveller_49 : decode cX8_addTraveller 49 = .ok (.iload_n 3, 1) := by decide +kernel
theorem dX8_addTraveller_50 : decode cX8_addTraveller 50 = .ok (.iconst 0, 1) := by decide +kernel
theorem dX8_addTraveller_51 : decode cX8_addTraveller 51 = .ok (.sipush 1000, 3) := by decide +kernel
theorem dX8_addTraveller_54 : decode cX8_addTraveller 54 = .ok (.invokestatic 68, 3) := by decide +kernel
theorem dX8_addTraveller_57 : decode cX8_addTraveller 57 = .ok (.invokestatic 72, 3) := by decide +kernel
theorem dX8_addTraveller_60 : decode cX8_addTraveller 60 = .ok (.aload_n 0, 1) := by decide +kernel
theorem dX8_addTraveller_61 : decode cX8_addTraveller 61 = .ok (.getfield 53, 3) := by decide +kernel
theorem dX8_addTraveller_64 : decode cX8_addTraveller 64 = .ok (.getfield 163, 3) := by decide +kernel
theorem dX8_addTraveller_67 : decode cX8_addTraveller 67 = .ok (.getfield 172, 3) := by decide +kernel
theorem dX8_addTraveller_70 : decode cX8_addTraveller 70 = .ok (.bipush 30, 2) := by decide +kernel
theorem dX8_addTraveller_72 : decode cX8_addTraveller 72 = .ok (.if_icmp .ge 7, 3) := by decide +kernel
theorem dX8_addTraveller_75 : decode cX8_addTraveller 75 = .ok (.iconst 1, 1) := by decide +kernel
theorem dX8_addTraveller_76 : decode cX8_addTraveller 76 = .ok (.goto 4, 3) := by decide +kernel
theorem dX8_addTraveller_79 : decode cX8_addTraveller 79 = .ok (.iconst 0, 1) := by decide +kernel
theorem dX8_addTraveller_80 : decode cX8_addTraveller 80 = .ok (.invokestatic 128, 3) := by decide +kernel
theorem dX8_addTraveller_83 : decode cX8_addTraveller 83 = .ok (.aload_n 0, 1) := by decide +kernel
theorem dX8_addTraveller_84 : decode cX8_addTraveller 84 = .ok (.getfield 53, 3) := by decide +kernel
theorem dX8_addTraveller_87 : decode cX8_addTraveller 87 = .ok (.getfield 163, 3) := by decide +kernel
theorem dX8_addTraveller_90 : decode cX8_addTraveller 90 = .ok (.iload_n 1, 1) := by decide +kernel
theorem dX8_addTraveller_91 : decode cX8_addTraveller 91 = .ok (.iload_n 2, 1) := by decide +kernel
theorem dX8_addTraveller_92 : decode cX8_addTraveller 92 = .ok (.iload_n 3, 1) := by decide +kernel
theorem dX8_addTraveller_93 : decode cX8_addTraveller 93 = .ok (.invokevirtual 186, 3) := by decide +kernel
theorem dX8_addTraveller_96 : decode cX8_addTraveller 96 = .ok (.ireturn, 1) := by decide +kernel
theorem dX8_traveller_0 : decode cX8_traveller 0 = .ok (.iload_n 1, 1) := by decide +kernel
theorem dX8_traveller_1 : decode cX8_traveller 1 = .ok (.aload_n 0, 1) := by decide +kernel
theorem dX8_traveller_2 : decode cX8_traveller 2 = .ok (.getfield 53, 3) := by decide +kernel
theorem dX8_traveller_5 : decode cX8_traveller 5 = .ok (.getfield 163, 3) := by decide +kernel
theorem dX8_traveller_8 : decode cX8_traveller 8 = .ok (.getfield 172, 3) := by decide +kernel
theorem dX8_traveller_11 : decode cX8_traveller 11 = .ok (.invokestatic 91, 3) := by decide +kernel
theorem dX8_traveller_14 : decode cX8_traveller 14 = .ok (.ifCond .eq 16, 3) := by decide +kernel
theorem dX8_traveller_17 : decode cX8_traveller 17 = .ok (.iload_n 2, 1) := by decide +kernel
theorem dX8_traveller_18 : decode cX8_traveller 18 = .ok (.bipush 7, 2) := by decide +kernel
theorem dX8_traveller_20 : decode cX8_traveller 20 = .ok (.invokestatic 91, 3) := by decide +kernel
theorem dX8_traveller_23 : decode cX8_traveller 23 = .ok (.ifCond .eq 7, 3) := by decide +kernel
theorem dX8_traveller_26 : decode cX8_traveller 26 = .ok (.iconst 1, 1) := by decide +kernel
theorem dX8_traveller_27 : decode cX8_traveller 27 = .ok (.goto 4, 3) := by decide +kernel
theorem dX8_traveller_30 : decode cX8_traveller 30 = .ok (.iconst 0, 1) := by decide +kernel
theorem dX8_traveller_31 : decode cX8_traveller 31 = .ok (.invokestatic 64, 3) := by decide +kernel
theorem dX8_traveller_34 : decode cX8_traveller 34 = .ok (.aload_n 0, 1) := by decide +kernel
theorem dX8_traveller_35 : decode cX8_traveller 35 = .ok (.iload_n 1, 1) := by decide +kernel
theorem dX8_traveller_36 : decode cX8_traveller 36 = .ok (.iload_n 2, 1) := by decide +kernel
theorem dX8_traveller_37 : decode cX8_traveller 37 = .ok (.invokevirtual 189, 3) := by decide +kernel
theorem dX8_traveller_40 : decode cX8_traveller 40 = .ok (.ireturn, 1) := by decide +kernel
theorem dX8_tellTraveller_0 : decode cX8_tellTraveller 0 = .ok (.aload_n 0, 1) := by decide +kernel
theorem dX8_tellTraveller_1 : decode cX8_tellTraveller 1 = .ok (.getfield 53, 3) := by decide +kernel
theorem dX8_tellTraveller_4 : decode cX8_tellTraveller 4 = .ok (.getfield 163, 3) := by decide +kernel
theorem dX8_tellTraveller_7 : decode cX8_tellTraveller 7 = .ok (.astore_n 3, 1) := by decide +kernel
theorem dX8_tellTraveller_8 : decode cX8_tellTraveller 8 = .ok (.iload_n 2, 1) := by decide +kernel
theorem dX8_tellTraveller_9 : decode cX8_tellTraveller 9 = .ok (.tableswitch 98 0 5 #[39, 48, 57, 66, 75, 89], 39) := by decide +kernel
theorem dX8_tellTraveller_48 : decode cX8_tellTraveller 48 = .ok (.aload_n 3, 1) := by decide +kernel
theorem dX8_tellTraveller_49 : decode cX8_tellTraveller 49 = .ok (.getfield 192, 3) := by decide +kernel
theorem dX8_tellTraveller_52 : decode cX8_tellTraveller 52 = .ok (.iload_n 1, 1) := by decide +kernel
theorem dX8_tellTraveller_53 : decode cX8_tellTraveller 53 = .ok (.invokevirtual 104, 3) := by decide +kernel
theorem dX8_tellTraveller_56 : decode cX8_tellTraveller 56 = .ok (.ireturn, 1) := by decide +kernel
theorem dX8_tellTraveller_57 : decode cX8_tellTraveller 57 = .ok (.aload_n 3, 1) := by decide +kernel
theorem dX8_tellTraveller_58 : decode cX8_tellTraveller 58 = .ok (.getfield 195, 3) := by decide +kernel
theorem dX8_tellTraveller_61 : decode cX8_tellTraveller 61 = .ok (.iload_n 1, 1) := by decide +kernel
theorem dX8_tellTraveller_62 : decode cX8_tellTraveller 62 = .ok (.invokevirtual 104, 3) := by decide +kernel
theorem dX8_tellTraveller_65 : decode cX8_tellTraveller 65 = .ok (.ireturn, 1) := by decide +kernel
theorem dX8_tellTraveller_66 : decode cX8_tellTraveller 66 = .ok (.aload_n 3, 1) := by decide +kernel
theorem dX8_tellTraveller_67 : decode cX8_tellTraveller 67 = .ok (.getfield 198, 3) := by decide +kernel
theorem dX8_tellTraveller_70 : decode cX8_tellTraveller 70 = .ok (.iload_n 1, 1) := by decide +kernel
theorem dX8_tellTraveller_71 : decode cX8_tellTraveller 71 = .ok (.invokevirtual 104, 3) := by decide +kernel
theorem dX8_tellTraveller_74 : decode cX8_tellTraveller 74 = .ok (.ireturn, 1) := by decide +kernel
theorem dX8_tellTraveller_75 : decode cX8_tellTraveller 75 = .ok (.aload_n 3, 1) := by decide +kernel
theorem dX8_tellTraveller_76 : decode cX8_tellTraveller 76 = .ok (.getfield 167, 3) := by decide +kernel
theorem dX8_tellTraveller_79 : decode cX8_tellTraveller 79 = .ok (.iload_n 1, 1) := by decide +kernel
theorem dX8_tellTraveller_80 : decode cX8_tellTraveller 80 = .ok (.invokevirtual 104, 3) := by decide +kernel
theorem dX8_tellTraveller_83 : decode cX8_tellTraveller 83 = .ok (.ireturn, 1) := by decide +kernel
theorem dX8_tellTraveller_84 : decode cX8_tellTraveller 84 = .ok (.aload_n 3, 1) := by decide +kernel
theorem dX8_tellTraveller_85 : decode cX8_tellTraveller 85 = .ok (.iload_n 1, 1) := by decide +kernel
theorem dX8_tellTraveller_86 : decode cX8_tellTraveller 86 = .ok (.invokevirtual 201, 3) := by decide +kernel
theorem dX8_tellTraveller_89 : decode cX8_tellTraveller 89 = .ok (.ifCond .eq 7, 3) := by decide +kernel
theorem dX8_tellTraveller_92 : decode cX8_tellTraveller 92 = .ok (.iconst 1, 1) := by decide +kernel
theorem dX8_tellTraveller_93 : decode cX8_tellTraveller 93 = .ok (.goto 4, 3) := by decide +kernel
theorem dX8_tellTraveller_96 : decode cX8_tellTraveller 96 = .ok (.iconst 0, 1) := by decide +kernel
theorem dX8_tellTraveller_97 : decode cX8_tellTraveller 97 = .ok (.ireturn, 1) := by decide +kernel
theorem dX8_tellTraveller_98 : decode cX8_tellTraveller 98 = .ok (.aload_n 0, 1) := by decide +kernel
theorem dX8_tellTraveller_99 : decode cX8_tellTraveller 99 = .ok (.getfield 53, 3) := by decide +kernel
theorem dX8_tellTraveller_102 : decode cX8_tellTraveller 102 = .ok (.iload_n 1, 1) := by decide +kernel
theorem dX8_tellTraveller_103 : decode cX8_tellTraveller 103 = .ok (.invokevirtual 204, 3) := by decide +kernel
theorem dX8_tellTraveller_106 : decode cX8_tellTraveller 106 = .ok (.ireturn, 1) := by decide +kernel
theorem dX8_tellTraveller_107 : decode cX8_tellTraveller 107 = .ok (.aload_n 3, 1) := by decide +kernel
theorem dX8_tellTraveller_108 : decode cX8_tellTraveller 108 = .ok (.getfield 207, 3) := by decide +kernel
theorem dX8_tellTraveller_111 : decode cX8_tellTraveller 111 = .ok (.iload_n 1, 1) := by decide +kernel
theorem dX8_tellTraveller_112 : decode cX8_tellTraveller 112 = .ok (.invokevirtual 104, 3) := by decide +kernel
theorem dX8_tellTraveller_115 : decode cX8_tellTraveller 115 = .ok (.ireturn, 1) := by decide +kernel
theorem dX8_landing_0 : decode cX8_landing 0 = .ok (.iload_n 1, 1) := by decide +kernel
theorem dX8_landing_1 : decode cX8_landing 1 = .ok (.aload_n 0, 1) := by decide +kernel
theorem dX8_landing_2 : decode cX8_landing 2 = .ok (.getfield 19, 3) := by decide +kernel
theorem dX8_landing_5 : decode cX8_landing 5 = .ok (.getfield 127, 3) := by decide +kernel
theorem dX8_landing_8 : decode cX8_landing 8 = .ok (.invokestatic 91, 3) := by decide +kernel
theorem dX8_landing_11 : decode cX8_landing 11 = .ok (.ifCond .eq 15, 3) := by decide +kernel
theorem dX8_landing_14 : decode cX8_landing 14 = .ok (.iload_n 2, 1) := by decide +kernel
theorem dX8_landing_15 : decode cX8_landing 15 = .ok (.iconst 5, 1) := by decide +kernel
theorem dX8_landing_16 : decode cX8_landing 16 = .ok (.invokestatic 91, 3) := by decide +kernel
theorem dX8_landing_19 : decode cX8_landing 19 = .ok (.ifCond .eq 7, 3) := by decide +kernel
theorem dX8_landing_22 : decode cX8_landing 22 = .ok (.iconst 1, 1) := by decide +kernel
theorem dX8_landing_23 : decode cX8_landing 23 = .ok (.goto 4, 3) := by decide +kernel
theorem dX8_landing_26 : decode cX8_landing 26 = .ok (.iconst 0, 1) := by decide +kernel
theorem dX8_landing_27 : decode cX8_landing 27 = .ok (.invokestatic 64, 3) := by decide +kernel
theorem dX8_landing_30 : decode cX8_landing 30 = .ok (.aload_n 0, 1) := by decide +kernel
theorem dX8_landing_31 : decode cX8_landing 31 = .ok (.iload_n 1, 1) := by decide +kernel
theorem dX8_landing_32 : decode cX8_landing 32 = .ok (.iload_n 2, 1) := by decide +kernel
theorem dX8_landing_33 : decode cX8_landing 33 = .ok (.invokevirtual 210, 3) := by decide +kernel
theorem dX8_landing_36 : decode cX8_landing 36 = .ok (.ireturn, 1) := by decide +kernel
theorem dX8_tellLanding_0 : decode cX8_tellLanding 0 = .ok (.iload_n 2, 1) := by decide +kernel
theorem dX8_tellLanding_1 : decode cX8_tellLanding 1 = .ok (.tableswitch 85 0 3 #[31, 46, 61, 73], 31) := by decide +kernel
theorem dX8_tellLanding_32 : decode cX8_tellLanding 32 = .ok (.aload_n 0, 1) := by decide +kernel
theorem dX8_tellLanding_33 : decode cX8_tellLanding 33 = .ok (.getfield 19, 3) := by decide +kernel
theorem dX8_tellLanding_36 : decode cX8_tellLanding 36 = .ok (.getfield 140, 3) := by decide +kernel
theorem dX8_tellLanding_39 : decode cX8_tellLanding 39 = .ok (.iload_n 1, 1) := by decide +kernel
theorem dX8_tellLanding_40 : decode cX8_tellLanding 40 = .ok (.invokevirtual 104, 3) := by decide +kernel
theorem dX8_tellLanding_43 : decode cX8_tellLanding 43 = .ok (.invokestatic 154, 3) := by decide +kernel
theorem dX8_tellLanding_46 : decode cX8_tellLanding 46 = .ok (.ireturn, 1) := by decide +kernel
theorem dX8_tellLanding_47 : decode cX8_tellLanding 47 = .ok (.aload_n 0, 1) := by decide +kernel
theorem dX8_tellLanding_48 : decode cX8_tellLanding 48 = .ok (.getfield 19, 3) := by decide +kernel
theorem dX8_tellLanding_51 : decode cX8_tellLanding 51 = .ok (.getfield 140, 3) := by decide +kernel
theorem dX8_tellLanding_54 : decode cX8_tellLanding 54 = .ok (.iload_n 1, 1) := by decide +kernel
theorem dX8_tellLanding_55 : decode cX8_tellLanding 55 = .ok (.invokevirtual 104, 3) := by decide +kernel
theorem dX8_tellLanding_58 : decode cX8_tellLanding 58 = .ok (.invokestatic 157, 3) := by decide +kernel
theorem dX8_tellLanding_61 : decode cX8_tellLanding 61 = .ok (.ireturn, 1) := by decide +kernel
theorem dX8_tellLanding_62 : decode cX8_tellLanding 62 = .ok (.aload_n 0, 1) := by decide +kernel
theorem dX8_tellLanding_63 : decode cX8_tellLanding 63 = .ok (.getfield 53, 3) := by decide +kernel
theorem dX8_tellLanding_66 : decode cX8_tellLanding 66 = .ok (.getfield 163, 3) := by decide +kernel
theorem dX8_tellLanding_69 : decode cX8_tellLanding 69 = .ok (.iload_n 1, 1) := by decide +kernel
theorem dX8_tellLanding_70 : decode cX8_tellLanding 70 = .ok (.invokevirtual 213, 3) := by decide +kernel
theorem dX8_tellLanding_73 : decode cX8_tellLanding 73 = .ok (.ireturn, 1) := by decide +kernel
theorem dX8_tellLanding_74 : decode cX8_tellLanding 74 = .ok (.aload_n 0, 1) := by decide +kernel
theorem dX8_tellLanding_75 : decode cX8_tellLanding 75 = .ok (.getfield 53, 3) := by decide +kernel
theorem dX8_tellLanding_78 : decode cX8_tellLanding 78 = .ok (.getfield 163, 3) := by decide +kernel
theorem dX8_tellLanding_81 : decode cX8_tellLanding 81 = .ok (.iload_n 1, 1) := by decide +kernel
theorem dX8_tellLanding_82 : decode cX8_tellLanding 82 = .ok (.invokevirtual 216, 3) := by decide +kernel
theorem dX8_tellLanding_85 : decode cX8_tellLanding 85 = .ok (.ireturn, 1) := by decide +kernel
theorem dX8_tellLanding_86 : decode cX8_tellLanding 86 = .ok (.aload_n 0, 1) := by decide +kernel
theorem dX8_tellLanding_87 : decode cX8_tellLanding 87 = .ok (.getfield 26, 3) := by decide +kernel
theorem dX8_tellLanding_90 : decode cX8_tellLanding 90 = .ok (.iload_n 1, 1) := by decide +kernel
theorem dX8_tellLanding_91 : decode cX8_tellLanding 91 = .ok (.invokevirtual 219, 3) := by decide +kernel
theorem dX8_tellLanding_94 : decode cX8_tellLanding 94 = .ok (.ireturn, 1) := by decide +kernel
theorem dX8_pass_0 : decode cX8_pass 0 = .ok (.iload_n 1, 1) := by decide +kernel
theorem dX8_pass_1 : decode cX8_pass 1 = .ok (.iconst 1, 1) := by decide +kernel
theorem dX8_pass_2 : decode cX8_pass 2 = .ok (.bipush 100, 2) := by decide +kernel
theorem dX8_pass_4 : decode cX8_pass 4 = .ok (.invokestatic 68, 3) := by decide +kernel
theorem dX8_pass_7 : decode cX8_pass 7 = .ok (.invokestatic 72, 3) := by decide +kernel
theorem dX8_pass_10 : decode cX8_pass 10 = .ok (.iconst 0, 1) := by decide +kernel
theorem dX8_pass_11 : decode cX8_pass 11 = .ok (.istore_n 2, 1) := by decide +kernel
theorem dX8_pass_12 : decode cX8_pass 12 = .ok (.iconst 0, 1) := by decide +kernel
theorem dX8_pass_13 : decode cX8_pass 13 = .ok (.istore_n 3, 1) := by decide +kernel
theorem dX8_pass_14 : decode cX8_pass 14 = .ok (.iload_n 3, 1) := by decide +kernel
theorem dX8_pass_15 : decode cX8_pass 15 = .ok (.iload_n 1, 1) := by decide +kernel
theorem dX8_pass_16 : decode cX8_pass 16 = .ok (.if_icmp .ge 19, 3) := by decide +kernel
theorem dX8_pass_19 : decode cX8_pass 19 = .ok (.iload_n 2, 1) := by decide +kernel
theorem dX8_pass_20 : decode cX8_pass 20 = .ok (.aload_n 0, 1) := by decide +kernel
theorem dX8_pass_21 : decode cX8_pass 21 = .ok (.getfield 53, 3) := by decide +kernel
theorem dX8_pass_24 : decode cX8_pass 24 = .ok (.invokevirtual 222, 3) := by decide +kernel
theorem dX8_pass_27 : decode cX8_pass 27 = .ok (.iadd, 1) := by decide +kernel
theorem dX8_pass_28 : decode cX8_pass 28 = .ok (.istore_n 2, 1) := by decide +kernel
theorem dX8_pass_29 : decode cX8_pass 29 = .ok (.iinc 3 1, 3) := by decide +kernel
theorem dX8_pass_32 : decode cX8_pass 32 = .ok (.goto (-18), 3) := by decide +kernel
theorem dX8_pass_35 : decode cX8_pass 35 = .ok (.iload_n 2, 1) := by decide +kernel
theorem dX8_pass_36 : decode cX8_pass 36 = .ok (.ireturn, 1) := by decide +kernel
theorem dX8_count_0 : decode cX8_count 0 = .ok (.iload_n 1, 1) := by decide +kernel
theorem dX8_count_1 : decode cX8_count 1 = .ok (.bipush 11, 2) := by decide +kernel
theorem dX8_count_3 : decode cX8_count 3 = .ok (.invokestatic 91, 3) := by decide +kernel
theorem dX8_count_6 : decode cX8_count 6 = .ok (.invokestatic 64, 3) := by decide +kernel
theorem dX8_count_9 : decode cX8_count 9 = .ok (.aload_n 0, 1) := by decide +kernel
theorem dX8_count_10 : decode cX8_count 10 = .ok (.iload_n 1, 1) := by decide +kernel
theorem dX8_count_11 : decode cX8_count 11 = .ok (.invokevirtual 225, 3) := by decide +kernel
theorem dX8_count_14 : decode cX8_count 14 = .ok (.ireturn, 1) := by decide +kernel
theorem dX8_tellCount_0 : decode cX8_tellCount 0 = .ok (.iload_n 1, 1) := by decide +kernel
theorem dX8_tellCount_1 : decode cX8_tellCount 1 = .ok (.tableswitch 147 0 9 #[55, 63, 71, 79, 87, 98, 109, 120, 131, 139], 55) := by decide +kernel
theorem dX8_tellCount_56 : decode cX8_tellCount 56 = .ok (.aload_n 0, 1) := by decide +kernel
theorem dX8_tellCount_57 : decode cX8_tellCount 57 = .ok (.getfield 53, 3) := by decide +kernel
theorem dX8_tellCount_60 : decode cX8_tellCount 60 = .ok (.getfield 228, 3) := by decide +kernel
theorem dX8_tellCount_63 : decode cX8_tellCount 63 = .ok (.ireturn, 1) := by decide +kernel
theorem dX8_tellCount_64 : decode cX8_tellCount 64 = .ok (.aload_n 0, 1) := by decide +kernel
theorem dX8_tellCount_65 : decode cX8_tellCount 65 = .ok (.getfield 53, 3) := by decide +kernel
theorem dX8_tellCount_68 : decode cX8_tellCount 68 = .ok (.invokevirtual 100, 3) := by decide +kernel
theorem dX8_tellCount_71 : decode cX8_tellCount 71 = .ok (.ireturn, 1) := by decide +kernel
theorem dX8_tellCount_72 : decode cX8_tellCount 72 = .ok (.aload_n 0, 1) := by decide +kernel
theorem dX8_tellCount_73 : decode cX8_tellCount 73 = .ok (.getfield 19, 3) := by decide +kernel
theorem dX8_tellCount_76 : decode cX8_tellCount 76 = .ok (.getfield 127, 3) := by decide +kernel
theorem dX8_tellCount_79 : decode cX8_tellCount 79 = .ok (.ireturn, 1) := by decide +kernel
theorem dX8_tellCount_80 : decode cX8_tellCount 80 = .ok (.aload_n 0, 1) := by decide +kernel
theorem dX8_tellCount_81 : decode cX8_tellCount 81 = .ok (.getfield 26, 3) := by decide +kernel
theorem dX8_tellCount_84 : decode cX8_tellCount 84 = .ok (.getfield 120, 3) := by decide +kernel
theorem dX8_tellCount_87 : decode cX8_tellCount 87 = .ok (.ireturn, 1) := by decide +kernel
theorem dX8_tellCount_88 : decode cX8_tellCount 88 = .ok (.aload_n 0, 1) := by decide +kernel
theorem dX8_tellCount_89 : decode cX8_tellCount 89 = .ok (.getfield 53, 3) := by decide +kernel
theorem dX8_tellCount_92 : decode cX8_tellCount 92 = .ok (.getfield 163, 3) := by decide +kernel
theorem dX8_tellCount_95 : decode cX8_tellCount 95 = .ok (.getfield 172, 3) := by decide +kernel
theorem dX8_tellCount_98 : decode cX8_tellCount 98 = .ok (.ireturn, 1) := by decide +kernel
theorem dX8_tellCount_99 : decode cX8_tellCount 99 = .ok (.aload_n 0, 1) := by decide +kernel
theorem dX8_tellCount_100 : decode cX8_tellCount 100 = .ok (.getfield 53, 3) := by decide +kernel
theorem dX8_tellCount_103 : decode cX8_tellCount 103 = .ok (.getfield 163, 3) := by decide +kernel
theorem dX8_tellCount_106 : decode cX8_tellCount 106 = .ok (.invokevirtual 231, 3) := by decide +kernel
theorem dX8_tellCount_109 : decode cX8_tellCount 109 = .ok (.ireturn, 1) := by decide +kernel
theorem dX8_tellCount_110 : decode cX8_tellCount 110 = .ok (.aload_n 0, 1) := by decide +kernel
theorem dX8_tellCount_111 : decode cX8_tellCount 111 = .ok (.getfield 53, 3) := by decide +kernel
theorem dX8_tellCount_114 : decode cX8_tellCount 114 = .ok (.getfield 163, 3) := by decide +kernel
theorem dX8_tellCount_117 : decode cX8_tellCount 117 = .ok (.invokevirtual 234, 3) := by decide +kernel
theorem dX8_tellCount_120 : decode cX8_tellCount 120 = .ok (.ireturn, 1) := by decide +kernel
theorem dX8_tellCount_121 : decode cX8_tellCount 121 = .ok (.aload_n 0, 1) := by decide +kernel
theorem dX8_tellCount_122 : decode cX8_tellCount 122 = .ok (.getfield 53, 3) := by decide +kernel
theorem dX8_tellCount_125 : decode cX8_tellCount 125 = .ok (.getfield 163, 3) := by decide +kernel
theorem dX8_tellCount_128 : decode cX8_tellCount 128 = .ok (.invokevirtual 237, 3) := by decide +kernel
theorem dX8_tellCount_131 : decode cX8_tellCount 131 = .ok (.ireturn, 1) := by decide +kernel
theorem dX8_tellCount_132 : decode cX8_tellCount 132 = .ok (.aload_n 0, 1) := by decide +kernel
theorem dX8_tellCount_133 : decode cX8_tellCount 133 = .ok (.getfield 53, 3) := by decide +kernel
theorem dX8_tellCount_136 : decode cX8_tellCount 136 = .ok (.invokevirtual 240, 3) := by decide +kernel
theorem dX8_tellCount_139 : decode cX8_tellCount 139 = .ok (.ireturn, 1) := by decide +kernel
theorem dX8_tellCount_140 : decode cX8_tellCount 140 = .ok (.aload_n 0, 1) := by decide +kernel
theorem dX8_tellCount_141 : decode cX8_tellCount 141 = .ok (.getfield 53, 3) := by decide +kernel
theorem dX8_tellCount_144 : decode cX8_tellCount 144 = .ok (.invokevirtual 243, 3) := by decide +kernel
theorem dX8_tellCount_147 : decode cX8_tellCount 147 = .ok (.ireturn, 1) := by decide +kernel
theorem dX8_tellCount_148 : decode cX8_tellCount 148 = .ok (.aload_n 0, 1) := by decide +kernel
theorem dX8_tellCount_149 : decode cX8_tellCount 149 = .ok (.getfield 12, 3) := by decide +kernel
theorem dX8_tellCount_152 : decode cX8_tellCount 152 = .ok (.aload_n 0, 1) := by decide +kernel
theorem dX8_tellCount_153 : decode cX8_tellCount 153 = .ok (.getfield 53, 3) := by decide +kernel
theorem dX8_tellCount_156 : decode cX8_tellCount 156 = .ok (.invokevirtual 100, 3) := by decide +kernel
theorem dX8_tellCount_159 : decode cX8_tellCount 159 = .ok (.invokevirtual 246, 3) := by decide +kernel
theorem dX8_tellCount_162 : decode cX8_tellCount 162 = .ok (.ireturn, 1) := by decide +kernel
theorem dX8_crossing_0 : decode cX8_crossing 0 = .ok (.iload_n 1, 1) := by decide +kernel
theorem dX8_crossing_1 : decode cX8_crossing 1 = .ok (.aload_n 0, 1) := by decide +kernel
theorem dX8_crossing_2 : decode cX8_crossing 2 = .ok (.getfield 26, 3) := by decide +kernel
theorem dX8_crossing_5 : decode cX8_crossing 5 = .ok (.getfield 120, 3) := by decide +kernel
theorem dX8_crossing_8 : decode cX8_crossing 8 = .ok (.invokestatic 91, 3) := by decide +kernel
theorem dX8_crossing_11 : decode cX8_crossing 11 = .ok (.invokestatic 64, 3) := by decide +kernel
theorem dX8_crossing_14 : decode cX8_crossing 14 = .ok (.iload_n 2, 1) := by decide +kernel
theorem dX8_crossing_15 : decode cX8_crossing 15 = .ok (.iconst 0, 1) := by decide +kernel
theorem dX8_crossing_16 : decode cX8_crossing 16 = .ok (.bipush 24, 2) := by decide +kernel
theorem dX8_crossing_18 : decode cX8_crossing 18 = .ok (.invokestatic 68, 3) := by decide +kernel
theorem dX8_crossing_21 : decode cX8_crossing 21 = .ok (.invokestatic 72, 3) := by decide +kernel
theorem dX8_crossing_24 : decode cX8_crossing 24 = .ok (.aload_n 0, 1) := by decide +kernel
theorem dX8_crossing_25 : decode cX8_crossing 25 = .ok (.iload_n 1, 1) := by decide +kernel
theorem dX8_crossing_26 : decode cX8_crossing 26 = .ok (.iload_n 2, 1) := by decide +kernel
theorem dX8_crossing_27 : decode cX8_crossing 27 = .ok (.invokevirtual 249, 3) := by decide +kernel
theorem dX8_crossing_30 : decode cX8_crossing 30 = .ok (.ireturn, 1) := by decide +kernel
theorem dX8_crossingAt_0 : decode cX8_crossingAt 0 = .ok (.aload_n 0, 1) := by decide +kernel
theorem dX8_crossingAt_1 : decode cX8_crossingAt 1 = .ok (.getfield 44, 3) := by decide +kernel
theorem dX8_crossingAt_4 : decode cX8_crossingAt 4 = .ok (.iload_n 1, 1) := by decide +kernel
theorem dX8_crossingAt_5 : decode cX8_crossingAt 5 = .ok (.aload_n 0, 1) := by decide +kernel
theorem dX8_crossingAt_6 : decode cX8_crossingAt 6 = .ok (.getfield 26, 3) := by decide +kernel
theorem dX8_crossingAt_9 : decode cX8_crossingAt 9 = .ok (.getfield 252, 3) := by decide +kernel
theorem dX8_crossingAt_12 : decode cX8_crossingAt 12 = .ok (.iload_n 1, 1) := by decide +kernel
theorem dX8_crossingAt_13 : decode cX8_crossingAt 13 = .ok (.invokevirtual 104, 3) := by decide +kernel
theorem dX8_crossingAt_16 : decode cX8_crossingAt 16 = .ok (.iload_n 2, 1) := by decide +kernel
theorem dX8_crossingAt_17 : decode cX8_crossingAt 17 = .ok (.invokevirtual 255, 3) := by decide +kernel
theorem dX8_crossingAt_20 : decode cX8_crossingAt 20 = .ok (.istore_n 3, 1) := by decide +kernel
theorem dX8_crossingAt_21 : decode cX8_crossingAt 21 = .ok (.aload_n 0, 1) := by decide +kernel
theorem dX8_crossingAt_22 : decode cX8_crossingAt 22 = .ok (.getfield 44, 3) := by decide +kernel
theorem dX8_crossingAt_25 : decode cX8_crossingAt 25 = .ok (.iload_n 3, 1) := by decide +kernel
theorem dX8_crossingAt_26 : decode cX8_crossingAt 26 = .ok (.aload_n 0, 1) := by decide +kernel
theorem dX8_crossingAt_27 : decode cX8_crossingAt 27 = .ok (.getfield 19, 3) := by decide +kernel
theorem dX8_crossingAt_30 : decode cX8_crossingAt 30 = .ok (.getfield 140, 3) := by decide +kernel
theorem dX8_crossingAt_33 : decode cX8_crossingAt 33 = .ok (.aload_n 0, 1) := by decide +kernel
theorem dX8_crossingAt_34 : decode cX8_crossingAt 34 = .ok (.getfield 26, 3) := by decide +kernel
theorem dX8_crossingAt_37 : decode cX8_crossingAt 37 = .ok (.getfield 258, 3) := by decide +kernel
theorem dX8_crossingAt_40 : decode cX8_crossingAt 40 = .ok (.iload_n 1, 1) := by decide +kernel
theorem dX8_crossingAt_41 : decode cX8_crossingAt 41 = .ok (.invokevirtual 104, 3) := by decide +kernel
theorem dX8_crossingAt_44 : decode cX8_crossingAt 44 = .ok (.invokevirtual 104, 3) := by decide +kernel
theorem dX8_crossingAt_47 : decode cX8_crossingAt 47 = .ok (.invokevirtual 261, 3) := by decide +kernel
theorem dX8_crossingAt_50 : decode cX8_crossingAt 50 = .ok (.ireturn, 1) := by decide +kernel
theorem dX8_opens_0 : decode cX8_opens 0 = .ok (.iload_n 1, 1) := by decide +kernel
theorem dX8_opens_1 : decode cX8_opens 1 = .ok (.aload_n 0, 1) := by decide +kernel
theorem dX8_opens_2 : decode cX8_opens 2 = .ok (.getfield 26, 3) := by decide +kernel
theorem dX8_opens_5 : decode cX8_opens 5 = .ok (.getfield 120, 3) := by decide +kernel
theorem dX8_opens_8 : decode cX8_opens 8 = .ok (.invokestatic 91, 3) := by decide +kernel
theorem dX8_opens_11 : decode cX8_opens 11 = .ok (.invokestatic 64, 3) := by decide +kernel
theorem dX8_opens_14 : decode cX8_opens 14 = .ok (.iconst 0, 1) := by decide +kernel
theorem dX8_opens_15 : decode cX8_opens 15 = .ok (.istore_n 2, 1) := by decide +kernel
theorem dX8_opens_16 : decode cX8_opens 16 = .ok (.iload_n 2, 1) := by decide +kernel
theorem dX8_opens_17 : decode cX8_opens 17 = .ok (.bipush 24, 2) := by decide +kernel
theorem dX8_opens_19 : decode cX8_opens 19 = .ok (.if_icmp .gt 21, 3) := by decide +kernel
theorem dX8_opens_22 : decode cX8_opens 22 = .ok (.aload_n 0, 1) := by decide +kernel
theorem dX8_opens_23 : decode cX8_opens 23 = .ok (.iload_n 1, 1) := by decide +kernel
theorem dX8_opens_24 : decode cX8_opens 24 = .ok (.iload_n 2, 1) := by decide +kernel
theorem dX8_opens_25 : decode cX8_opens 25 = .ok (.invokevirtual 249, 3) := by decide +kernel
theorem dX8_opens_28 : decode cX8_opens 28 = .ok (.iconst (-1), 1) := by decide +kernel
theorem dX8_opens_29 : decode cX8_opens 29 = .ok (.if_icmp .eq 5, 3) := by decide +kernel
theorem dX8_opens_32 : decode cX8_opens 32 = .ok (.iload_n 2, 1) := by decide +kernel
theorem dX8_opens_33 : decode cX8_opens 33 = .ok (.ireturn, 1) := by decide +kernel
theorem dX8_opens_34 : decode cX8_opens 34 = .ok (.iinc 2 1, 3) := by decide +kernel
theorem dX8_opens_37 : decode cX8_opens 37 = .ok (.goto (-21), 3) := by decide +kernel
theorem dX8_opens_40 : decode cX8_opens 40 = .ok (.iconst (-1), 1) := by decide +kernel
theorem dX8_opens_41 : decode cX8_opens 41 = .ok (.ireturn, 1) := by decide +kernel
theorem dX8_chain_0 : decode cX8_chain 0 = .ok (.iload_n 1, 1) := by decide +kernel
theorem dX8_chain_1 : decode cX8_chain 1 = .ok (.aload_n 0, 1) := by decide +kernel
theorem dX8_chain_2 : decode cX8_chain 2 = .ok (.getfield 19, 3) := by decide +kernel
theorem dX8_chain_5 : decode cX8_chain 5 = .ok (.getfield 127, 3) := by decide +kernel
theorem dX8_chain_8 : decode cX8_chain 8 = .ok (.invokestatic 91, 3) := by decide +kernel
theorem dX8_chain_11 : decode cX8_chain 11 = .ok (.ifCond .eq 21, 3) := by decide +kernel
theorem dX8_chain_14 : decode cX8_chain 14 = .ok (.iload_n 2, 1) := by decide +kernel
theorem dX8_chain_15 : decode cX8_chain 15 = .ok (.aload_n 0, 1) := by decide +kernel
theorem dX8_chain_16 : decode cX8_chain 16 = .ok (.getfield 19, 3) := by decide +kernel
theorem dX8_chain_19 : decode cX8_chain 19 = .ok (.getfield 127, 3) := by decide +kernel
theorem dX8_chain_22 : decode cX8_chain 22 = .ok (.invokestatic 91, 3) := by decide +kernel
theorem dX8_chain_25 : decode cX8_chain 25 = .ok (.ifCond .eq 7, 3) := by decide +kernel
theorem dX8_chain_28 : decode cX8_chain 28 = .ok (.iconst 1, 1) := by decide +kernel
theorem dX8_chain_29 : decode cX8_chain 29 = .ok (.goto 4, 3) := by decide +kernel
theorem dX8_chain_32 : decode cX8_chain 32 = .ok (.iconst 0, 1) := by decide +kernel
theorem dX8_chain_33 : decode cX8_chain 33 = .ok (.invokestatic 64, 3) := by decide +kernel
theorem dX8_chain_36 : decode cX8_chain 36 = .ok (.iload_n 3, 1) := by decide +kernel
theorem dX8_chain_37 : decode cX8_chain 37 = .ok (.iconst 3, 1) := by decide +kernel
theorem dX8_chain_38 : decode cX8_chain 38 = .ok (.invokestatic 91, 3) := by decide +kernel
theorem dX8_chain_41 : decode cX8_chain 41 = .ok (.invokestatic 64, 3) := by decide +kernel
theorem dX8_chain_44 : decode cX8_chain 44 = .ok (.iload_n 3, 1) := by decide +kernel
theorem dX8_chain_45 : decode cX8_chain 45 = .ok (.lookupswitch 47 #[(0, 27), (1, 37)], 27) := by decide +kernel
theorem dX8_chain_72 : decode cX8_chain 72 = .ok (.aload_n 0, 1) := by decide +kernel
theorem dX8_chain_73 : decode cX8_chain 73 = .ok (.getfield 35, 3) := by decide +kernel
theorem dX8_chain_76 : decode cX8_chain 76 = .ok (.iload_n 1, 1) := by decide +kernel
theorem dX8_chain_77 : decode cX8_chain 77 = .ok (.iload_n 2, 1) := by decide +kernel
theorem dX8_chain_78 : decode cX8_chain 78 = .ok (.invokevirtual 264, 3) := by decide +kernel
theorem dX8_chain_81 : decode cX8_chain 81 = .ok (.ireturn, 1) := by decide +kernel
theorem dX8_chain_82 : decode cX8_chain 82 = .ok (.aload_n 0, 1) := by decide +kernel
theorem dX8_chain_83 : decode cX8_chain 83 = .ok (.getfield 35, 3) := by decide +kernel
theorem dX8_chain_86 : decode cX8_chain 86 = .ok (.iload_n 1, 1) := by decide +kernel
theorem dX8_chain_87 : decode cX8_chain 87 = .ok (.iload_n 2, 1) := by decide +kernel
theorem dX8_chain_88 : decode cX8_chain 88 = .ok (.invokevirtual 267, 3) := by decide +kernel
theorem dX8_chain_91 : decode cX8_chain 91 = .ok (.ireturn, 1) := by decide +kernel
theorem dX8_chain_92 : decode cX8_chain 92 = .ok (.aload_n 0, 1) := by decide +kernel
theorem dX8_chain_93 : decode cX8_chain 93 = .ok (.getfield 35, 3) := by decide +kernel
theorem dX8_chain_96 : decode cX8_chain 96 = .ok (.iload_n 1, 1) := by decide +kernel
theorem dX8_chain_97 : decode cX8_chain 97 = .ok (.iload_n 2, 1) := by decide +kernel
theorem dX8_chain_98 : decode cX8_chain 98 = .ok (.invokevirtual 270, 3) := by decide +kernel
theorem dX8_chain_101 : decode cX8_chain 101 = .ok (.ireturn, 1) := by decide +kernel
theorem dX8_aground_0 : decode cX8_aground 0 = .ok (.iload_n 1, 1) := by decide +kernel
theorem dX8_aground_1 : decode cX8_aground 1 = .ok (.aload_n 0, 1) := by decide +kernel
theorem dX8_aground_2 : decode cX8_aground 2 = .ok (.getfield 26, 3) := by decide +kernel
theorem dX8_aground_5 : decode cX8_aground 5 = .ok (.getfield 120, 3) := by decide +kernel
theorem dX8_aground_8 : decode cX8_aground 8 = .ok (.invokestatic 91, 3) := by decide +kernel
theorem dX8_aground_11 : decode cX8_aground 11 = .ok (.invokestatic 64, 3) := by decide +kernel
theorem dX8_aground_14 : decode cX8_aground 14 = .ok (.iload_n 2, 1) := by decide +kernel
theorem dX8_aground_15 : decode cX8_aground 15 = .ok (.iconst 1, 1) := by decide +kernel
theorem dX8_aground_16 : decode cX8_aground 16 = .ok (.bipush 100, 2) := by decide +kernel
theorem dX8_aground_18 : decode cX8_aground 18 = .ok (.invokestatic 68, 3) := by decide +kernel
theorem dX8_aground_21 : decode cX8_aground 21 = .ok (.invokestatic 72, 3) := by decide +kernel
theorem dX8_aground_24 : decode cX8_aground 24 = .ok (.aload_n 0, 1) := by decide +kernel
theorem dX8_aground_25 : decode cX8_aground 25 = .ok (.getfield 57, 3) := by decide +kernel
theorem dX8_aground_28 : decode cX8_aground 28 = .ok (.aload_n 0, 1) := by decide +kernel
theorem dX8_aground_29 : decode cX8_aground 29 = .ok (.getfield 53, 3) := by decide +kernel
theorem dX8_aground_32 : decode cX8_aground 32 = .ok (.invokevirtual 273, 3) := by decide +kernel
theorem dX8_aground_35 : decode cX8_aground 35 = .ok (.iconst 0, 1) := by decide +kernel
theorem dX8_aground_36 : decode cX8_aground 36 = .ok (.istore_n 3, 1) := by decide +kernel
theorem dX8_aground_37 : decode cX8_aground 37 = .ok (.iload_n 3, 1) := by decide +kernel
theorem dX8_aground_38 : decode cX8_aground 38 = .ok (.iload_n 2, 1) := by decide +kernel
theorem dX8_aground_39 : decode cX8_aground 39 = .ok (.if_icmp .gt 30, 3) := by decide +kernel
theorem dX8_aground_42 : decode cX8_aground 42 = .ok (.aload_n 0, 1) := by decide +kernel
theorem dX8_aground_43 : decode cX8_aground 43 = .ok (.getfield 57, 3) := by decide +kernel
theorem dX8_aground_46 : decode cX8_aground 46 = .ok (.iload_n 1, 1) := by decide +kernel
theorem dX8_aground_47 : decode cX8_aground 47 = .ok (.invokevirtual 173, 3) := by decide +kernel
theorem dX8_aground_50 : decode cX8_aground 50 = .ok (.ifCond .eq 5, 3) := by decide +kernel
theorem dX8_aground_53 : decode cX8_aground 53 = .ok (.iload_n 3, 1) := by decide +kernel
theorem dX8_aground_54 : decode cX8_aground 54 = .ok (.ireturn, 1) := by decide +kernel
theorem dX8_aground_55 : decode cX8_aground 55 = .ok (.aload_n 0, 1) := by decide +kernel
theorem dX8_aground_56 : decode cX8_aground 56 = .ok (.getfield 57, 3) := by decide +kernel
theorem dX8_aground_59 : decode cX8_aground 59 = .ok (.invokevirtual 222, 3) := by decide +kernel
theorem dX8_aground_62 : decode cX8_aground 62 = .ok (.pop, 1) := by decide +kernel
theorem dX8_aground_63 : decode cX8_aground 63 = .ok (.iinc 3 1, 3) := by decide +kernel
theorem dX8_aground_66 : decode cX8_aground 66 = .ok (.goto (-29), 3) := by decide +kernel
theorem dX8_aground_69 : decode cX8_aground 69 = .ok (.iconst (-1), 1) := by decide +kernel
theorem dX8_aground_70 : decode cX8_aground 70 = .ok (.ireturn, 1) := by decide +kernel
theorem dX8_arrives_0 : decode cX8_arrives 0 = .ok (.iload_n 1, 1) := by decide +kernel
theorem dX8_arrives_1 : decode cX8_arrives 1 = .ok (.aload_n 0, 1) := by decide +kernel
theorem dX8_arrives_2 : decode cX8_arrives 2 = .ok (.getfield 53, 3) := by decide +kernel
theorem dX8_arrives_5 : decode cX8_arrives 5 = .ok (.getfield 163, 3) := by decide +kernel
theorem dX8_arrives_8 : decode cX8_arrives 8 = .ok (.getfield 172, 3) := by decide +kernel
theorem dX8_arrives_11 : decode cX8_arrives 11 = .ok (.invokestatic 91, 3) := by decide +kernel
theorem dX8_arrives_14 : decode cX8_arrives 14 = .ok (.invokestatic 64, 3) := by decide +kernel
theorem dX8_arrives_17 : decode cX8_arrives 17 = .ok (.aload_n 0, 1) := by decide +kernel
theorem dX8_arrives_18 : decode cX8_arrives 18 = .ok (.getfield 57, 3) := by decide +kernel
theorem dX8_arrives_21 : decode cX8_arrives 21 = .ok (.aload_n 0, 1) := by decide +kernel
theorem dX8_arrives_22 : decode cX8_arrives 22 = .ok (.getfield 53, 3) := by decide +kernel
theorem dX8_arrives_25 : decode cX8_arrives 25 = .ok (.invokevirtual 273, 3) := by decide +kernel
theorem dX8_arrives_28 : decode cX8_arrives 28 = .ok (.iconst 0, 1) := by decide +kernel
theorem dX8_arrives_29 : decode cX8_arrives 29 = .ok (.istore_n 2, 1) := by decide +kernel
theorem dX8_arrives_30 : decode cX8_arrives 30 = .ok (.iload_n 2, 1) := by decide +kernel
theorem dX8_arrives_31 : decode cX8_arrives 31 = .ok (.sipush 400, 3) := by decide +kernel
theorem dX8_arrives_34 : decode cX8_arrives 34 = .ok (.if_icmp .ge 31, 3) := by decide +kernel
theorem dX8_arrives_37 : decode cX8_arrives 37 = .ok (.aload_n 0, 1) := by decide +kernel
theorem dX8_arrives_38 : decode cX8_arrives 38 = .ok (.getfield 57, 3) := by decide +kernel
theorem dX8_arrives_41 : decode cX8_arrives 41 = .ok (.getfield 163, 3) := by decide +kernel
theorem dX8_arrives_44 : decode cX8_arrives 44 = .ok (.iload_n 1, 1) := by decide +kernel
theorem dX8_arrives_45 : decode cX8_arrives 45 = .ok (.invokevirtual 201, 3) := by decide +kernel
theorem dX8_arrives_48 : decode cX8_arrives 48 = .ok (.ifCond .ne 17, 3) := by decide +kernel
theorem dX8_arrives_51 : decode cX8_arrives 51 = .ok (.aload_n 0, 1) := by decide +kernel
theorem dX8_arrives_52 : decode cX8_arrives 52 = .ok (.getfield 57, 3) := by decide +kernel
theorem dX8_arrives_55 : decode cX8_arrives 55 = .ok (.invokevirtual 222, 3) := by decide +kernel
theorem dX8_arrives_58 : decode cX8_arrives 58 = .ok (.pop, 1) := by decide +kernel
theorem dX8_arrives_59 : decode cX8_arrives 59 = .ok (.iinc 2 1, 3) := by decide +kernel
theorem dX8_arrives_62 : decode cX8_arrives 62 = .ok (.goto (-32), 3) := by decide +kernel
theorem dX8_arrives_65 : decode cX8_arrives 65 = .ok (.aload_n 0, 1) := by decide +kernel
theorem dX8_arrives_66 : decode cX8_arrives 66 = .ok (.getfield 57, 3) := by decide +kernel
theorem dX8_arrives_69 : decode cX8_arrives 69 = .ok (.getfield 163, 3) := by decide +kernel
theorem dX8_arrives_72 : decode cX8_arrives 72 = .ok (.getfield 207, 3) := by decide +kernel
theorem dX8_arrives_75 : decode cX8_arrives 75 = .ok (.iload_n 1, 1) := by decide +kernel
theorem dX8_arrives_76 : decode cX8_arrives 76 = .ok (.invokevirtual 104, 3) := by decide +kernel
theorem dX8_arrives_79 : decode cX8_arrives 79 = .ok (.ireturn, 1) := by decide +kernel
theorem dX8_mean_0 : decode cX8_mean 0 = .ok (.aload_n 0, 1) := by decide +kernel
theorem dX8_mean_1 : decode cX8_mean 1 = .ok (.getfield 53, 3) := by decide +kernel
theorem dX8_mean_4 : decode cX8_mean 4 = .ok (.invokevirtual 100, 3) := by decide +kernel
theorem dX8_mean_7 : decode cX8_mean 7 = .ok (.istore_n 1, 1) := by decide +kernel
theorem dX8_mean_8 : decode cX8_mean 8 = .ok (.iconst 0, 1) := by decide +kernel
theorem dX8_mean_9 : decode cX8_mean 9 = .ok (.istore_n 2, 1) := by decide +kernel
theorem dX8_mean_10 : decode cX8_mean 10 = .ok (.iconst 0, 1) := by decide +kernel
theorem dX8_mean_11 : decode cX8_mean 11 = .ok (.istore_n 3, 1) := by decide +kernel
theorem dX8_mean_12 : decode cX8_mean 12 = .ok (.iload_n 3, 1) := by decide +kernel
theorem dX8_mean_13 : decode cX8_mean 13 = .ok (.sipush 196, 3) := by decide +kernel
theorem dX8_mean_16 : decode cX8_mean 16 = .ok (.if_icmp .ge 21, 3) := by decide +kernel
theorem dX8_mean_19 : decode cX8_mean 19 = .ok (.iload_n 2, 1) := by decide +kernel
theorem dX8_mean_20 : decode cX8_mean 20 = .ok (.aload_n 0, 1) := by decide +kernel
theorem dX8_mean_21 : decode cX8_mean 21 = .ok (.getfield 12, 3) := by decide +kernel
theorem dX8_mean_24 : decode cX8_mean 24 = .ok (.iload_n 3, 1) := by decide +kernel
theorem dX8_mean_25 : decode cX8_mean 25 = .ok (.iload_n 1, 1) := by decide +kernel
theorem dX8_mean_26 : decode cX8_mean 26 = .ok (.invokevirtual 108, 3) := by decide +kernel
theorem dX8_mean_29 : decode cX8_mean 29 = .ok (.iadd, 1) := by decide +kernel
theorem dX8_mean_30 : decode cX8_mean 30 = .ok (.istore_n 2, 1) := by decide +kernel
theorem dX8_mean_31 : decode cX8_mean 31 = .ok (.iinc 3 1, 3) := by decide +kernel
theorem dX8_mean_34 : decode cX8_mean 34 = .ok (.goto (-22), 3) := by decide +kernel
theorem dX8_mean_37 : decode cX8_mean 37 = .ok (.iload_n 2, 1) := by decide +kernel
theorem dX8_mean_38 : decode cX8_mean 38 = .ok (.i2d, 1) := by decide +kernel
theorem dX8_mean_39 : decode cX8_mean 39 = .ok (.ldc2_w 277, 3) := by decide +kernel
theorem dX8_mean_42 : decode cX8_mean 42 = .ok (.ddiv, 1) := by decide +kernel
theorem dX8_mean_43 : decode cX8_mean 43 = .ok (.dreturn, 1) := by decide +kernel
theorem dX8_digest_0 : decode cX8_digest 0 = .ok (.aload_n 0, 1) := by decide +kernel
theorem dX8_digest_1 : decode cX8_digest 1 = .ok (.aload_n 0, 1) := by decide +kernel
theorem dX8_digest_2 : decode cX8_digest 2 = .ok (.ldc2_w 279, 3) := by decide +kernel
theorem dX8_digest_5 : decode cX8_digest 5 = .ok (.invokevirtual 281, 3) := by decide +kernel
theorem dX8_digest_8 : decode cX8_digest 8 = .ok (.invokevirtual 285, 3) := by decide +kernel
theorem dX8_digest_11 : decode cX8_digest 11 = .ok (.lstore_n 1, 1) := by decide +kernel
theorem dX8_digest_12 : decode cX8_digest 12 = .ok (.iconst 0, 1) := by decide +kernel
theorem dX8_digest_13 : decode cX8_digest 13 = .ok (.istore_n 3, 1) := by decide +kernel
theorem dX8_digest_14 : decode cX8_digest 14 = .ok (.iload_n 3, 1) := by decide +kernel
theorem dX8_digest_15 : decode cX8_digest 15 = .ok (.aload_n 0, 1) := by decide +kernel
theorem dX8_digest_16 : decode cX8_digest 16 = .ok (.getfield 19, 3) := by decide +kernel
theorem dX8_digest_19 : decode cX8_digest 19 = .ok (.getfield 127, 3) := by decide +kernel
theorem dX8_digest_22 : decode cX8_digest 22 = .ok (.if_icmp .ge 39, 3) := by decide +kernel
theorem dX8_digest_25 : decode cX8_digest 25 = .ok (.iconst 0, 1) := by decide +kernel
theorem dX8_digest_26 : decode cX8_digest 26 = .ok (.istore 4, 2) := by decide +kernel
theorem dX8_digest_28 : decode cX8_digest 28 = .ok (.iload 4, 2) := by decide +kernel
theorem dX8_digest_30 : decode cX8_digest 30 = .ok (.iconst 5, 1) := by decide +kernel
theorem dX8_digest_31 : decode cX8_digest 31 = .ok (.if_icmp .ge 24, 3) := by decide +kernel
theorem dX8_digest_34 : decode cX8_digest 34 = .ok (.lload_n 1, 1) := by decide +kernel
theorem dX8_digest_35 : decode cX8_digest 35 = .ok (.ldc2_w 288, 3) := by decide +kernel
theorem dX8_digest_38 : decode cX8_digest 38 = .ok (.lmul, 1) := by decide +kernel
theorem dX8_digest_39 : decode cX8_digest 39 = .ok (.aload_n 0, 1) := by decide +kernel
theorem dX8_digest_40 : decode cX8_digest 40 = .ok (.iload_n 3, 1) := by decide +kernel
theorem dX8_digest_41 : decode cX8_digest 41 = .ok (.iload 4, 2) := by decide +kernel
theorem dX8_digest_43 : decode cX8_digest 43 = .ok (.invokevirtual 210, 3) := by decide +kernel
theorem dX8_digest_46 : decode cX8_digest 46 = .ok (.i2l, 1) := by decide +kernel
theorem dX8_digest_47 : decode cX8_digest 47 = .ok (.ladd, 1) := by decide +kernel
theorem dX8_digest_48 : decode cX8_digest 48 = .ok (.lstore_n 1, 1) := by decide +kernel
theorem dX8_digest_49 : decode cX8_digest 49 = .ok (.iinc 4 1, 3) := by decide +kernel
theorem dX8_digest_52 : decode cX8_digest 52 = .ok (.goto (-24), 3) := by decide +kernel
theorem dX8_digest_55 : decode cX8_digest 55 = .ok (.iinc 3 1, 3) := by decide +kernel
theorem dX8_digest_58 : decode cX8_digest 58 = .ok (.goto (-44), 3) := by decide +kernel
theorem dX8_digest_61 : decode cX8_digest 61 = .ok (.iconst 0, 1) := by decide +kernel
theorem dX8_digest_62 : decode cX8_digest 62 = .ok (.istore_n 3, 1) := by decide +kernel
theorem dX8_digest_63 : decode cX8_digest 63 = .ok (.iload_n 3, 1) := by decide +kernel
theorem dX8_digest_64 : decode cX8_digest 64 = .ok (.aload_n 0, 1) := by decide +kernel
theorem dX8_digest_65 : decode cX8_digest 65 = .ok (.getfield 26, 3) := by decide +kernel
theorem dX8_digest_68 : decode cX8_digest 68 = .ok (.getfield 120, 3) := by decide +kernel
theorem dX8_digest_71 : decode cX8_digest 71 = .ok (.if_icmp .ge 40, 3) := by decide +kernel
theorem dX8_digest_74 : decode cX8_digest 74 = .ok (.iconst 0, 1) := by decide +kernel
theorem dX8_digest_75 : decode cX8_digest 75 = .ok (.istore 4, 2) := by decide +kernel
theorem dX8_digest_77 : decode cX8_digest 77 = .ok (.iload 4, 2) := by decide +kernel
theorem dX8_digest_79 : decode cX8_digest 79 = .ok (.bipush 9, 2) := by decide +kernel
theorem dX8_digest_81 : decode cX8_digest 81 = .ok (.if_icmp .ge 24, 3) := by decide +kernel
theorem dX8_digest_84 : decode cX8_digest 84 = .ok (.lload_n 1, 1) := by decide +kernel
theorem dX8_digest_85 : decode cX8_digest 85 = .ok (.ldc2_w 288, 3) := by decide +kernel
theorem dX8_digest_88 : decode cX8_digest 88 = .ok (.lmul, 1) := by decide +kernel
theorem dX8_digest_89 : decode cX8_digest 89 = .ok (.aload_n 0, 1) := by decide +kernel
theorem dX8_digest_90 : decode cX8_digest 90 = .ok (.iload_n 3, 1) := by decide +kernel
theorem dX8_digest_91 : decode cX8_digest 91 = .ok (.iload 4, 2) := by decide +kernel
theorem dX8_digest_93 : decode cX8_digest 93 = .ok (.invokevirtual 151, 3) := by decide +kernel
theorem dX8_digest_96 : decode cX8_digest 96 = .ok (.i2l, 1) := by decide +kernel
theorem dX8_digest_97 : decode cX8_digest 97 = .ok (.ladd, 1) := by decide +kernel
theorem dX8_digest_98 : decode cX8_digest 98 = .ok (.lstore_n 1, 1) := by decide +kernel
theorem dX8_digest_99 : decode cX8_digest 99 = .ok (.iinc 4 1, 3) := by decide +kernel
theorem dX8_digest_102 : decode cX8_digest 102 = .ok (.goto (-25), 3) := by decide +kernel
theorem dX8_digest_105 : decode cX8_digest 105 = .ok (.iinc 3 1, 3) := by decide +kernel
theorem dX8_digest_108 : decode cX8_digest 108 = .ok (.goto (-45), 3) := by decide +kernel
theorem dX8_digest_111 : decode cX8_digest 111 = .ok (.iconst 0, 1) := by decide +kernel
theorem dX8_digest_112 : decode cX8_digest 112 = .ok (.istore_n 3, 1) := by decide +kernel
theorem dX8_digest_113 : decode cX8_digest 113 = .ok (.iload_n 3, 1) := by decide +kernel
theorem dX8_digest_114 : decode cX8_digest 114 = .ok (.aload_n 0, 1) := by decide +kernel
theorem dX8_digest_115 : decode cX8_digest 115 = .ok (.getfield 53, 3) := by decide +kernel
theorem dX8_digest_118 : decode cX8_digest 118 = .ok (.getfield 163, 3) := by decide +kernel
theorem dX8_digest_121 : decode cX8_digest 121 = .ok (.getfield 172, 3) := by decide +kernel
theorem dX8_digest_124 : decode cX8_digest 124 = .ok (.if_icmp .ge 40, 3) := by decide +kernel
theorem dX8_digest_127 : decode cX8_digest 127 = .ok (.iconst 0, 1) := by decide +kernel
theorem dX8_digest_128 : decode cX8_digest 128 = .ok (.istore 4, 2) := by decide +kernel
theorem dX8_digest_130 : decode cX8_digest 130 = .ok (.iload 4, 2) := by decide +kernel
theorem dX8_digest_132 : decode cX8_digest 132 = .ok (.bipush 7, 2) := by decide +kernel
theorem dX8_digest_134 : decode cX8_digest 134 = .ok (.if_icmp .ge 24, 3) := by decide +kernel
theorem dX8_digest_137 : decode cX8_digest 137 = .ok (.lload_n 1, 1) := by decide +kernel
theorem dX8_digest_138 : decode cX8_digest 138 = .ok (.ldc2_w 288, 3) := by decide +kernel
theorem dX8_digest_141 : decode cX8_digest 141 = .ok (.lmul, 1) := by decide +kernel
theorem dX8_digest_142 : decode cX8_digest 142 = .ok (.aload_n 0, 1) := by decide +kernel
theorem dX8_digest_143 : decode cX8_digest 143 = .ok (.iload_n 3, 1) := by decide +kernel
theorem dX8_digest_144 : decode cX8_digest 144 = .ok (.iload 4, 2) := by decide +kernel
theorem dX8_digest_146 : decode cX8_digest 146 = .ok (.invokevirtual 189, 3) := by decide +kernel
theorem dX8_digest_149 : decode cX8_digest 149 = .ok (.i2l, 1) := by decide +kernel
theorem dX8_digest_150 : decode cX8_digest 150 = .ok (.ladd, 1) := by decide +kernel
theorem dX8_digest_151 : decode cX8_digest 151 = .ok (.lstore_n 1, 1) := by decide +kernel
theorem dX8_digest_152 : decode cX8_digest 152 = .ok (.iinc 4 1, 3) := by decide +kernel
theorem dX8_digest_155 : decode cX8_digest 155 = .ok (.goto (-25), 3) := by decide +kernel
theorem dX8_digest_158 : decode cX8_digest 158 = .ok (.iinc 3 1, 3) := by decide +kernel
theorem dX8_digest_161 : decode cX8_digest 161 = .ok (.goto (-48), 3) := by decide +kernel
theorem dX8_digest_164 : decode cX8_digest 164 = .ok (.lload_n 1, 1) := by decide +kernel
theorem dX8_digest_165 : decode cX8_digest 165 = .ok (.lreturn, 1) := by decide +kernel
theorem dX8_digestOfCounts_0 : decode cX8_digestOfCounts 0 = .ok (.lload_n 1, 1) := by decide +kernel
theorem dX8_digestOfCounts_1 : decode cX8_digestOfCounts 1 = .ok (.lstore_n 3, 1) := by decide +kernel
theorem dX8_digestOfCounts_2 : decode cX8_digestOfCounts 2 = .ok (.iconst 0, 1) := by decide +kernel
theorem dX8_digestOfCounts_3 : decode cX8_digestOfCounts 3 = .ok (.istore 5, 2) := by decide +kernel
theorem dX8_digestOfCounts_5 : decode cX8_digestOfCounts 5 = .ok (.iload 5, 2) := by decide +kernel
theorem dX8_digestOfCounts_7 : decode cX8_digestOfCounts 7 = .ok (.bipush 11, 2) := by decide +kernel
theorem dX8_digestOfCounts_9 : decode cX8_digestOfCounts 9 = .ok (.if_icmp .ge 23, 3) := by decide +kernel
theorem dX8_digestOfCounts_12 : decode cX8_digestOfCounts 12 = .ok (.lload_n 3, 1) := by decide +kernel
theorem dX8_digestOfCounts_13 : decode cX8_digestOfCounts 13 = .ok (.ldc2_w 288, 3) := by decide +kernel
theorem dX8_digestOfCounts_16 : decode cX8_digestOfCounts 16 = .ok (.lmul, 1) := by decide +kernel
theorem dX8_digestOfCounts_17 : decode cX8_digestOfCounts 17 = .ok (.aload_n 0, 1) := by decide +kernel
theorem dX8_digestOfCounts_18 : decode cX8_digestOfCounts 18 = .ok (.iload 5, 2) := by decide +kernel
theorem dX8_digestOfCounts_20 : decode cX8_digestOfCounts 20 = .ok (.invokevirtual 225, 3) := by decide +kernel
theorem dX8_digestOfCounts_23 : decode cX8_digestOfCounts 23 = .ok (.i2l, 1) := by decide +kernel
theorem dX8_digestOfCounts_24 : decode cX8_digestOfCounts 24 = .ok (.ladd, 1) := by decide +kernel
theorem dX8_digestOfCounts_25 : decode cX8_digestOfCounts 25 = .ok (.lstore_n 3, 1) := by decide +kernel
theorem dX8_digestOfCounts_26 : decode cX8_digestOfCounts 26 = .ok (.iinc 5 1, 3) := by decide +kernel
theorem dX8_digestOfCounts_29 : decode cX8_digestOfCounts 29 = .ok (.goto (-24), 3) := by decide +kernel
theorem dX8_digestOfCounts_32 : decode cX8_digestOfCounts 32 = .ok (.lload_n 3, 1) := by decide +kernel
theorem dX8_digestOfCounts_33 : decode cX8_digestOfCounts 33 = .ok (.lreturn, 1) := by decide +kernel
theorem dX8_digestOfPlain_0 : decode cX8_digestOfPlain 0 = .ok (.lload_n 1, 1) := by decide +kernel
theorem dX8_digestOfPlain_1 : decode cX8_digestOfPlain 1 = .ok (.lstore_n 3, 1) := by decide +kernel
theorem dX8_digestOfPlain_2 : decode cX8_digestOfPlain 2 = .ok (.iconst 0, 1) := by decide +kernel
theorem dX8_digestOfPlain_3 : decode cX8_digestOfPlain 3 = .ok (.istore 5, 2) := by decide +kernel
theorem dX8_digestOfPlain_5 : decode cX8_digestOfPlain 5 = .ok (.iload 5, 2) := by decide +kernel
theorem dX8_digestOfPlain_7 : decode cX8_digestOfPlain 7 = .ok (.bipush 12, 2) := by decide +kernel
theorem dX8_digestOfPlain_9 : decode cX8_digestOfPlain 9 = .ok (.if_icmp .ge 29, 3) := by decide +kernel
theorem dX8_digestOfPlain_12 : decode cX8_digestOfPlain 12 = .ok (.lload_n 3, 1) := by decide +kernel
theorem dX8_digestOfPlain_13 : decode cX8_digestOfPlain 13 = .ok (.ldc2_w 288, 3) := by decide +kernel
theorem dX8_digestOfPlain_16 : decode cX8_digestOfPlain 16 = .ok (.lmul, 1) := by decide +kernel
theorem dX8_digestOfPlain_17 : decode cX8_digestOfPlain 17 = .ok (.aload_n 0, 1) := by decide +kernel
theorem dX8_digestOfPlain_18 : decode cX8_digestOfPlain 18 = .ok (.getfield 12, 3) := by decide +kernel
theorem dX8_digestOfPlain_21 : decode cX8_digestOfPlain 21 = .ok (.getfield 94, 3) := by decide +kernel
theorem dX8_digestOfPlain_24 : decode cX8_digestOfPlain 24 = .ok (.iload 5, 2) := by decide +kernel
theorem dX8_digestOfPlain_26 : decode cX8_digestOfPlain 26 = .ok (.invokevirtual 104, 3) := by decide +kernel
theorem dX8_digestOfPlain_29 : decode cX8_digestOfPlain 29 = .ok (.i2l, 1) := by decide +kernel
theorem dX8_digestOfPlain_30 : decode cX8_digestOfPlain 30 = .ok (.ladd, 1) := by decide +kernel
theorem dX8_digestOfPlain_31 : decode cX8_digestOfPlain 31 = .ok (.lstore_n 3, 1) := by decide +kernel
theorem dX8_digestOfPlain_32 : decode cX8_digestOfPlain 32 = .ok (.iinc 5 1, 3) := by decide +kernel
theorem dX8_digestOfPlain_35 : decode cX8_digestOfPlain 35 = .ok (.goto (-30), 3) := by decide +kernel
theorem dX8_digestOfPlain_38 : decode cX8_digestOfPlain 38 = .ok (.iconst 0, 1) := by decide +kernel
theorem dX8_digestOfPlain_39 : decode cX8_digestOfPlain 39 = .ok (.istore 5, 2) := by decide +kernel
theorem dX8_digestOfPlain_41 : decode cX8_digestOfPlain 41 = .ok (.iload 5, 2) := by decide +kernel
theorem dX8_digestOfPlain_43 : decode cX8_digestOfPlain 43 = .ok (.sipush 196, 3) := by decide +kernel
theorem dX8_digestOfPlain_46 : decode cX8_digestOfPlain 46 = .ok (.if_icmp .ge 49, 3) := by decide +kernel
theorem dX8_digestOfPlain_49 : decode cX8_digestOfPlain 49 = .ok (.lload_n 3, 1) := by decide +kernel
theorem dX8_digestOfPlain_50 : decode cX8_digestOfPlain 50 = .ok (.ldc2_w 288, 3) := by decide +kernel
theorem dX8_digestOfPlain_53 : decode cX8_digestOfPlain 53 = .ok (.lmul, 1) := by decide +kernel
theorem dX8_digestOfPlain_54 : decode cX8_digestOfPlain 54 = .ok (.aload_n 0, 1) := by decide +kernel
theorem dX8_digestOfPlain_55 : decode cX8_digestOfPlain 55 = .ok (.getfield 12, 3) := by decide +kernel
theorem dX8_digestOfPlain_58 : decode cX8_digestOfPlain 58 = .ok (.getfield 75, 3) := by decide +kernel
theorem dX8_digestOfPlain_61 : decode cX8_digestOfPlain 61 = .ok (.iload 5, 2) := by decide +kernel
theorem dX8_digestOfPlain_63 : decode cX8_digestOfPlain 63 = .ok (.invokevirtual 104, 3) := by decide +kernel
theorem dX8_digestOfPlain_66 : decode cX8_digestOfPlain 66 = .ok (.i2l, 1) := by decide +kernel
theorem dX8_digestOfPlain_67 : decode cX8_digestOfPlain 67 = .ok (.ladd, 1) := by decide +kernel
theorem dX8_digestOfPlain_68 : decode cX8_digestOfPlain 68 = .ok (.lstore_n 3, 1) := by decide +kernel
theorem dX8_digestOfPlain_69 : decode cX8_digestOfPlain 69 = .ok (.lload_n 3, 1) := by decide +kernel
theorem dX8_digestOfPlain_70 : decode cX8_digestOfPlain 70 = .ok (.ldc2_w 288, 3) := by decide +kernel
theorem dX8_digestOfPlain_73 : decode cX8_digestOfPlain 73 = .ok (.lmul, 1) := by decide +kernel
theorem dX8_digestOfPlain_74 : decode cX8_digestOfPlain 74 = .ok (.aload_n 0, 1) := by decide +kernel
theorem dX8_digestOfPlain_75 : decode cX8_digestOfPlain 75 = .ok (.getfield 12, 3) := by decide +kernel
theorem dX8_digestOfPlain_78 : decode cX8_digestOfPlain 78 = .ok (.getfield 97, 3) := by decide +kernel
theorem dX8_digestOfPlain_81 : decode cX8_digestOfPlain 81 = .ok (.iload 5, 2) := by decide +kernel
theorem dX8_digestOfPlain_83 : decode cX8_digestOfPlain 83 = .ok (.invokevirtual 104, 3) := by decide +kernel
theorem dX8_digestOfPlain_86 : decode cX8_digestOfPlain 86 = .ok (.i2l, 1) := by decide +kernel
theorem dX8_digestOfPlain_87 : decode cX8_digestOfPlain 87 = .ok (.ladd, 1) := by decide +kernel
theorem dX8_digestOfPlain_88 : decode cX8_digestOfPlain 88 = .ok (.lstore_n 3, 1) := by decide +kernel
theorem dX8_digestOfPlain_89 : decode cX8_digestOfPlain 89 = .ok (.iinc 5 1, 3) := by decide +kernel
theorem dX8_digestOfPlain_92 : decode cX8_digestOfPlain 92 = .ok (.goto (-51), 3) := by decide +kernel
theorem dX8_digestOfPlain_95 : decode cX8_digestOfPlain 95 = .ok (.lload_n 3, 1) := by decide +kernel
theorem dX8_digestOfPlain_96 : decode cX8_digestOfPlain 96 = .ok (.lreturn, 1) := by decide +kernel
theorem dX8_needIndex_0 : decode cX8_needIndex 0 = .ok (.iload_n 0, 1) := by decide +kernel
theorem dX8_needIndex_1 : decode cX8_needIndex 1 = .ok (.ifCond .ne 14, 3) := by decide +kernel
theorem dX8_needIndex_4 : decode cX8_needIndex 4 = .ok (.new 290, 3) := by decide +kernel
theorem dX8_needIndex_7 : decode cX8_needIndex 7 = .ok (.dup, 1) := by decide +kernel
theorem dX8_needIndex_8 : decode cX8_needIndex 8 = .ok (.ldc_w 292, 3) := by decide +kernel
theorem dX8_needIndex_11 : decode cX8_needIndex 11 = .ok (.invokespecial 294, 3) := by decide +kernel
theorem dX8_needIndex_14 : decode cX8_needIndex 14 = .ok (.athrow, 1) := by decide +kernel
theorem dX8_needIndex_15 : decode cX8_needIndex 15 = .ok (.return_, 1) := by decide +kernel
theorem dX8_needArgument_0 : decode cX8_needArgument 0 = .ok (.iload_n 0, 1) := by decide +kernel
theorem dX8_needArgument_1 : decode cX8_needArgument 1 = .ok (.ifCond .ne 14, 3) := by decide +kernel
theorem dX8_needArgument_4 : decode cX8_needArgument 4 = .ok (.new 297, 3) := by decide +kernel
theorem dX8_needArgument_7 : decode cX8_needArgument 7 = .ok (.dup, 1) := by decide +kernel
theorem dX8_needArgument_8 : decode cX8_needArgument 8 = .ok (.ldc_w 299, 3) := by decide +kernel
theorem dX8_needArgument_11 : decode cX8_needArgument 11 = .ok (.invokespecial 301, 3) := by decide +kernel
theorem dX8_needArgument_14 : decode cX8_needArgument 14 = .ok (.athrow, 1) := by decide +kernel
theorem dX8_needArgument_15 : decode cX8_needArgument 15 = .ok (.return_, 1) := by decide +kernel
theorem dX8_needState_0 : decode cX8_needState 0 = .ok (.iload_n 0, 1) := by decide +kernel
theorem dX8_needState_1 : decode cX8_needState 1 = .ok (.ifCond .ne 14, 3) := by decide +kernel
theorem dX8_needState_4 : decode cX8_needState 4 = .ok (.new 302, 3) := by decide +kernel
theorem dX8_needState_7 : decode cX8_needState 7 = .ok (.dup, 1) := by decide +kernel
theorem dX8_needState_8 : decode cX8_needState 8 = .ok (.ldc_w 304, 3) := by decide +kernel
theorem dX8_needState_11 : decode cX8_needState 11 = .ok (.invokespecial 306, 3) := by decide +kernel
theorem dX8_needState_14 : decode cX8_needState 14 = .ok (.athrow, 1) := by decide +kernel
theorem dX8_needState_15 : decode cX8_needState 15 = .ok (.return_, 1) := by decide +kernel
theorem dX8_within_0 : decode cX8_within 0 = .ok (.iload_n 0, 1) := by decide +kernel
theorem dX8_within_1 : decode cX8_within 1 = .ok (.iload_n 1, 1) := by decide +kernel
theorem dX8_within_2 : decode cX8_within 2 = .ok (.if_icmp .lt 12, 3) := by decide +kernel
theorem dX8_within_5 : decode cX8_within 5 = .ok (.iload_n 0, 1) := by decide +kernel
theorem dX8_within_6 : decode cX8_within 6 = .ok (.iload_n 2, 1) := by decide +kernel
theorem dX8_within_7 : decode cX8_within 7 = .ok (.if_icmp .gt 7, 3) := by decide +kernel
theorem dX8_within_10 : decode cX8_within 10 = .ok (.iconst 1, 1) := by decide +kernel
theorem dX8_within_11 : decode cX8_within 11 = .ok (.goto 4, 3) := by decide +kernel
theorem dX8_within_14 : decode cX8_within 14 = .ok (.iconst 0, 1) := by decide +kernel
theorem dX8_within_15 : decode cX8_within 15 = .ok (.ireturn, 1) := by decide +kernel
theorem dX8_isOneOf_0 : decode cX8_isOneOf 0 = .ok (.iload_n 0, 1) := by decide +kernel
theorem dX8_isOneOf_1 : decode cX8_isOneOf 1 = .ok (.ifCond .lt 12, 3) := by decide +kernel
theorem dX8_isOneOf_4 : decode cX8_isOneOf 4 = .ok (.iload_n 0, 1) := by decide +kernel
theorem dX8_isOneOf_5 : decode cX8_isOneOf 5 = .ok (.iload_n 1, 1) := by decide +kernel
theorem dX8_isOneOf_6 : decode cX8_isOneOf 6 = .ok (.if_icmp .ge 7, 3) := by decide +kernel
theorem dX8_isOneOf_9 : decode cX8_isOneOf 9 = .ok (.iconst 1, 1) := by decide +kernel
theorem dX8_isOneOf_10 : decode cX8_isOneOf 10 = .ok (.goto 4, 3) := by decide +kernel
theorem dX8_isOneOf_13 : decode cX8_isOneOf 13 = .ok (.iconst 0, 1) := by decide +kernel
theorem dX8_isOneOf_14 : decode cX8_isOneOf 14 = .ok (.ireturn, 1) := by decide +kernel
theorem dX8_onPlain_0 : decode cX8_onPlain 0 = .ok (.iload_n 0, 1) := by decide +kernel
theorem dX8_onPlain_1 : decode cX8_onPlain 1 = .ok (.bipush 14, 2) := by decide +kernel
theorem dX8_onPlain_3 : decode cX8_onPlain 3 = .ok (.invokestatic 91, 3) := by decide +kernel
theorem dX8_onPlain_6 : decode cX8_onPlain 6 = .ok (.ifCond .eq 16, 3) := by decide +kernel
theorem dX8_onPlain_9 : decode cX8_onPlain 9 = .ok (.iload_n 1, 1) := by decide +kernel
theorem dX8_onPlain_10 : decode cX8_onPlain 10 = .ok (.bipush 14, 2) := by decide +kernel
theorem dX8_onPlain_12 : decode cX8_onPlain 12 = .ok (.invokestatic 91, 3) := by decide +kernel
theorem dX8_onPlain_15 : decode cX8_onPlain 15 = .ok (.ifCond .eq 7, 3) := by decide +kernel
theorem dX8_onPlain_18 : decode cX8_onPlain 18 = .ok (.iconst 1, 1) := by decide +kernel
theorem dX8_onPlain_19 : decode cX8_onPlain 19 = .ok (.goto 4, 3) := by decide +kernel
theorem dX8_onPlain_22 : decode cX8_onPlain 22 = .ok (.iconst 0, 1) := by decide +kernel
theorem dX8_onPlain_23 : decode cX8_onPlain 23 = .ok (.ireturn, 1) := by decide +kernel
theorem dX8_cellOf_0 : decode cX8_cellOf 0 = .ok (.iload_n 0, 1) := by decide +kernel
theorem dX8_cellOf_1 : decode cX8_cellOf 1 = .ok (.bipush 14, 2) := by decide +kernel
theorem dX8_cellOf_3 : decode cX8_cellOf 3 = .ok (.iload_n 1, 1) := by decide +kernel
theorem dX8_cellOf_4 : decode cX8_cellOf 4 = .ok (.imul, 1) := by decide +kernel
theorem dX8_cellOf_5 : decode cX8_cellOf 5 = .ok (.iadd, 1) := by decide +kernel
theorem dX8_cellOf_6 : decode cX8_cellOf 6 = .ok (.ireturn, 1) := by decide +kernel
theorem dX8_columnOf_0 : decode cX8_columnOf 0 = .ok (.iload_n 0, 1) := by decide +kernel
theorem dX8_columnOf_1 : decode cX8_columnOf 1 = .ok (.bipush 14, 2) := by decide +kernel
theorem dX8_columnOf_3 : decode cX8_columnOf 3 = .ok (.irem, 1) := by decide +kernel
theorem dX8_columnOf_4 : decode cX8_columnOf 4 = .ok (.ireturn, 1) := by decide +kernel
theorem dX8_rowOf_0 : decode cX8_rowOf 0 = .ok (.iload_n 0, 1) := by decide +kernel
theorem dX8_rowOf_1 : decode cX8_rowOf 1 = .ok (.bipush 14, 2) := by decide +kernel
theorem dX8_rowOf_3 : decode cX8_rowOf 3 = .ok (.idiv, 1) := by decide +kernel
theorem dX8_rowOf_4 : decode cX8_rowOf 4 = .ok (.ireturn, 1) := by decide +kernel
theorem dX9_init_0 : decode cX9_init 0 = .ok (.aload_n 0, 1) := by decide +kernel
theorem dX9_init_1 : decode cX9_init 1 = .ok (.invokespecial 1, 3) := by decide +kernel
theorem dX9_init_4 : decode cX9_init 4 = .ok (.aload_n 0, 1) := by decide +kernel
theorem dX9_init_5 : decode cX9_init 5 = .ok (.sipush 196, 3) := by decide +kernel
theorem dX9_init_8 : decode cX9_init 8 = .ok (.newarray .int, 2) := by decide +kernel
theorem dX9_init_10 : decode cX9_init 10 = .ok (.putfield 9, 3) := by decide +kernel
theorem dX9_init_13 : decode cX9_init 13 = .ok (.aload_n 0, 1) := by decide +kernel
theorem dX9_init_14 : decode cX9_init 14 = .ok (.sipush 196, 3) := by decide +kernel
theorem dX9_init_17 : decode cX9_init 17 = .ok (.newarray .int, 2) := by decide +kernel
theorem dX9_init_19 : decode cX9_init 19 = .ok (.putfield 13, 3) := by decide +kernel
theorem dX9_init_22 : decode cX9_init 22 = .ok (.aload_n 0, 1) := by decide +kernel
theorem dX9_init_23 : decode cX9_init 23 = .ok (.bipush 12, 2) := by decide +kernel
theorem dX9_init_25 : decode cX9_init 25 = .ok (.newarray .int, 2) := by decide +kernel
theorem dX9_init_27 : decode cX9_init 27 = .ok (.putfield 16, 3) := by decide +kernel
theorem dX9_init_30 : decode cX9_init 30 = .ok (.aload_n 0, 1) := by decide +kernel
theorem dX9_init_31 : decode cX9_init 31 = .ok (.bipush 8, 2) := by decide +kernel
theorem dX9_init_33 : decode cX9_init 33 = .ok (.newarray .int, 2) := by decide +kernel
theorem dX9_init_35 : decode cX9_init 35 = .ok (.putfield 19, 3) := by decide +kernel
theorem dX9_init_38 : decode cX9_init 38 = .ok (.aload_n 0, 1) := by decide +kernel
theorem dX9_init_39 : decode cX9_init 39 = .ok (.bipush 36, 2) := by decide +kernel
theorem dX9_init_41 : decode cX9_init 41 = .ok (.newarray .int, 2) := by decide +kernel
theorem dX9_init_43 : decode cX9_init 43 = .ok (.putfield 22, 3) := by decide +kernel
theorem dX9_init_46 : decode cX9_init 46 = .ok (.aload_n 0, 1) := by decide +kernel
theorem dX9_init_47 : decode cX9_init 47 = .ok (.bipush 24, 2) := by decide +kernel
theorem dX9_init_49 : decode cX9_init 49 = .ok (.newarray .int, 2) := by decide +kernel
theorem dX9_init_51 : decode cX9_init 51 = .ok (.putfield 25, 3) := by decide +kernel
theorem dX9_init_54 : decode cX9_init 54 = .ok (.aload_n 0, 1) := by decide +kernel
theorem dX9_init_55 : decode cX9_init 55 = .ok (.sipush 150, 3) := by decide +kernel
theorem dX9_init_58 : decode cX9_init 58 = .ok (.newarray .int, 2) := by decide +kernel
theorem dX9_init_60 : decode cX9_init 60 = .ok (.putfield 28, 3) := by decide +kernel
theorem dX9_init_63 : decode cX9_init 63 = .ok (.aload_n 0, 1) := by decide +kernel
theorem dX9_init_64 : decode cX9_init 64 = .ok (.sipush 196, 3) := by decide +kernel
theorem dX9_init_67 : decode cX9_init 67 = .ok (.newarray .int, 2) := by decide +kernel
theorem dX9_init_69 : decode cX9_init 69 = .ok (.putfield 31, 3) := by decide +kernel
theorem dX9_init_72 : decode cX9_init 72 = .ok (.aload_n 0, 1) := by decide +kernel
theorem dX9_init_73 : decode cX9_init 73 = .ok (.bipush 8, 2) := by decide +kernel
theorem dX9_init_75 : decode cX9_init 75 = .ok (.newarray .int, 2) := by decide +kernel
theorem dX9_init_77 : decode cX9_init 77 = .ok (.putfield 34, 3) := by decide +kernel
theorem dX9_init_80 : decode cX9_init 80 = .ok (.aload_n 0, 1) := by decide +kernel
theorem dX9_init_81 : decode cX9_init 81 = .ok (.bipush 8, 2) := by decide +kernel
theorem dX9_init_83 : decode cX9_init 83 = .ok (.newarray .int, 2) := by decide +kernel
theorem dX9_init_85 : decode cX9_init 85 = .ok (.putfield 37, 3) := by decide +kernel
theorem dX9_init_88 : decode cX9_init 88 = .ok (.iconst 0, 1) := by decide +kernel
theorem dX9_init_89 : decode cX9_init 89 = .ok (.istore_n 1, 1) := by decide +kernel
theorem dX9_init_90 : decode cX9_init 90 = .ok (.iload_n 1, 1) := by decide +kernel
theorem dX9_init_91 : decode cX9_init 91 = .ok (.sipush 196, 3) := by decide +kernel
theorem dX9_init_94 : decode cX9_init 94 = .ok (.if_icmp .ge 16, 3) := by decide +kernel
theorem dX9_init_97 : decode cX9_init 97 = .ok (.aload_n 0, 1) := by decide +kernel
theorem dX9_init_98 : decode cX9_init 98 = .ok (.getfield 9, 3) := by decide +kernel
theorem dX9_init_101 : decode cX9_init 101 = .ok (.iload_n 1, 1) := by decide +kernel
theorem dX9_init_102 : decode cX9_init 102 = .ok (.iconst 5, 1) := by decide +kernel
theorem dX9_init_103 : decode cX9_init 103 = .ok (.iastore, 1) := by decide +kernel
theorem dX9_init_104 : decode cX9_init 104 = .ok (.iinc 1 1, 3) := by decide +kernel
theorem dX9_init_107 : decode cX9_init 107 = .ok (.goto (-17), 3) := by decide +kernel
theorem dX9_init_110 : decode cX9_init 110 = .ok (.iconst 0, 1) := by decide +kernel
theorem dX9_init_111 : decode cX9_init 111 = .ok (.istore_n 1, 1) := by decide +kernel
theorem dX9_init_112 : decode cX9_init 112 = .ok (.iload_n 1, 1) := by decide +kernel
theorem dX9_init_113 : decode cX9_init 113 = .ok (.bipush 12, 2) := by decide +kernel
theorem dX9_init_115 : decode cX9_init 115 = .ok (.if_icmp .ge 17, 3) := by decide +kernel
theorem dX9_init_118 : decode cX9_init 118 = .ok (.aload_n 0, 1) := by decide +kernel
theorem dX9_init_119 : decode cX9_init 119 = .ok (.getfield 16, 3) := by decide +kernel
theorem dX9_init_122 : decode cX9_init 122 = .ok (.iload_n 1, 1) := by decide +kernel
theorem dX9_init_123 : decode cX9_init 123 = .ok (.bipush 8, 2) := by decide +kernel
theorem dX9_init_125 : decode cX9_init 125 = .ok (.iastore, 1) := by decide +kernel
theorem dX9_init_126 : decode cX9_init 126 = .ok (.iinc 1 1, 3) := by decide +kernel
theorem dX9_init_129 : decode cX9_init 129 = .ok (.goto (-17), 3) := by decide +kernel
theorem dX9_init_132 : decode cX9_init 132 = .ok (.return_, 1) := by decide +kernel
theorem dX9_thrown_0 : decode cX9_thrown 0 = .ok (.aload_n 0, 1) := by decide +kernel
theorem dX9_thrown_1 : decode cX9_thrown 1 = .ok (.getfield 40, 3) := by decide +kernel
theorem dX9_thrown_4 : decode cX9_thrown 4 = .ok (.ireturn, 1) := by decide +kernel
theorem dX9_fail_0 : decode cX9_fail 0 = .ok (.aload_n 0, 1) := by decide +kernel
theorem dX9_fail_1 : decode cX9_fail 1 = .ok (.iload_n 1, 1) := by decide +kernel
theorem dX9_fail_2 : decode cX9_fail 2 = .ok (.putfield 40, 3) := by decide +kernel
theorem dX9_fail_5 : decode cX9_fail 5 = .ok (.iconst 0, 1) := by decide +kernel
theorem dX9_fail_6 : decode cX9_fail 6 = .ok (.ireturn, 1) := by decide +kernel
theorem dX9_isIn_0 : decode cX9_isIn 0 = .ok (.iload_n 0, 1) := by decide +kernel
theorem dX9_isIn_1 : decode cX9_isIn 1 = .ok (.iload_n 1, 1) := by decide +kernel
theorem dX9_isIn_2 : decode cX9_isIn 2 = .ok (.if_icmp .lt 12, 3) := by decide +kernel
theorem dX9_isIn_5 : decode cX9_isIn 5 = .ok (.iload_n 0, 1) := by decide +kernel
theorem dX9_isIn_6 : decode cX9_isIn 6 = .ok (.iload_n 2, 1) := by decide +kernel
theorem dX9_isIn_7 : decode cX9_isIn 7 = .ok (.if_icmp .gt 7, 3) := by decide +kernel
theorem dX9_isIn_10 : decode cX9_isIn 10 = .ok (.iconst 1, 1) := by decide +kernel
theorem dX9_isIn_11 : decode cX9_isIn 11 = .ok (.goto 4, 3) := by decide +kernel
theorem dX9_isIn_14 : decode cX9_isIn 14 = .ok (.iconst 0, 1) := by decide +kernel
theorem dX9_isIn_15 : decode cX9_isIn 15 = .ok (.ireturn, 1) := by decide +kernel
theorem dX9_isCell_0 : decode cX9_isCell 0 = .ok (.iload_n 0, 1) := by decide +kernel
theorem dX9_isCell_1 : decode cX9_isCell 1 = .ok (.iconst 0, 1) := by decide +kernel
theorem dX9_isCell_2 : decode cX9_isCell 2 = .ok (.bipush 13, 2) := by decide +kernel
theorem dX9_isCell_4 : decode cX9_isCell 4 = .ok (.invokestatic 44, 3) := by decide +kernel
theorem dX9_isCell_7 : decode cX9_isCell 7 = .ok (.ifCond .eq 17, 3) := by decide +kernel
theorem dX9_isCell_10 : decode cX9_isCell 10 = .ok (.iload_n 1, 1) := by decide +kernel
theorem dX9_isCell_11 : decode cX9_isCell 11 = .ok (.iconst 0, 1) := by decide +kernel
theorem dX9_isCell_12 : decode cX9_isCell 12 = .ok (.bipush 13, 2) := by decide +kernel
theorem dX9_isCell_14 : decode cX9_isCell 14 = .ok (.invokestatic 44, 3) := by decide +kernel
theorem dX9_isCell_17 : decode cX9_isCell 17 = .ok (.ifCond .eq 7, 3) := by decide +kernel
theorem dX9_isCell_20 : decode cX9_isCell 20 = .ok (.iconst 1, 1) := by decide +kernel
theorem dX9_isCell_21 : decode cX9_isCell 21 = .ok (.goto 4, 3) := by decide +kernel
theorem dX9_isCell_24 : decode cX9_isCell 24 = .ok (.iconst 0, 1) := by decide +kernel
theorem dX9_isCell_25 : decode cX9_isCell 25 = .ok (.ireturn, 1) := by decide +kernel
theorem dX9_isLanding_0 : decode cX9_isLanding 0 = .ok (.iload_n 1, 1) := by decide +kernel
theorem dX9_isLanding_1 : decode cX9_isLanding 1 = .ok (.iconst 0, 1) := by decide +kernel
theorem dX9_isLanding_2 : decode cX9_isLanding 2 = .ok (.aload_n 0, 1) := by decide +kernel
theorem dX9_isLanding_3 : decode cX9_isLanding 3 = .ok (.getfield 48, 3) := by decide +kernel
theorem dX9_isLanding_6 : decode cX9_isLanding 6 = .ok (.iconst 1, 1) := by decide +kernel
theorem dX9_isLanding_7 : decode cX9_isLanding 7 = .ok (.isub, 1) := by decide +kernel
theorem dX9_isLanding_8 : decode cX9_isLanding 8 = .ok (.invokestatic 44, 3) := by decide +kernel
theorem dX9_isLanding_11 : decode cX9_isLanding 11 = .ok (.ireturn, 1) := by decide +kernel
theorem dX9_isPunt_0 : decode cX9_isPunt 0 = .ok (.iload_n 1, 1) := by decide +kernel
theorem dX9_isPunt_1 : decode cX9_isPunt 1 = .ok (.iconst 0, 1) := by decide +kernel
theorem dX9_isPunt_2 : decode cX9_isPunt 2 = .ok (.aload_n 0, 1) := by decide +kernel
theorem dX9_isPunt_3 : decode cX9_isPunt 3 = .ok (.getfield 51, 3) := by decide +kernel
theorem dX9_isPunt_6 : decode cX9_isPunt 6 = .ok (.iconst 1, 1) := by decide +kernel
theorem dX9_isPunt_7 : decode cX9_isPunt 7 = .ok (.isub, 1) := by decide +kernel
theorem dX9_isPunt_8 : decode cX9_isPunt 8 = .ok (.invokestatic 44, 3) := by decide +kernel
theorem dX9_isPunt_11 : decode cX9_isPunt 11 = .ok (.ireturn, 1) := by decide +kernel
theorem dX9_pu_0 : decode cX9_pu 0 = .ok (.aload_n 0, 1) := by decide +kernel
theorem dX9_pu_1 : decode cX9_pu 1 = .ok (.getfield 22, 3) := by decide +kernel
theorem dX9_pu_4 : decode cX9_pu 4 = .ok (.bipush 6, 2) := by decide +kernel
theorem dX9_pu_6 : decode cX9_pu 6 = .ok (.iload_n 1, 1) := by decide +kernel
theorem dX9_pu_7 : decode cX9_pu 7 = .ok (.imul, 1) := by decide +kernel
theorem dX9_pu_8 : decode cX9_pu 8 = .ok (.iload_n 2, 1) := by decide +kernel
theorem dX9_pu_9 : decode cX9_pu 9 = .ok (.iadd, 1) := by decide +kernel
theorem dX9_pu_10 : decode cX9_pu 10 = .ok (.iaload, 1) := by decide +kernel
theorem dX9_pu_11 : decode cX9_pu 11 = .ok (.ireturn, 1) := by decide +kernel
theorem dX9_go_0 : decode cX9_go 0 = .ok (.aload_n 0, 1) := by decide +kernel
theorem dX9_go_1 : decode cX9_go 1 = .ok (.getfield 25, 3) := by decide +kernel
theorem dX9_go_4 : decode cX9_go 4 = .ok (.iconst 4, 1) := by decide +kernel
theorem dX9_go_5 : decode cX9_go 5 = .ok (.iload_n 1, 1) := by decide +kernel
theorem dX9_go_6 : decode cX9_go 6 = .ok (.imul, 1) := by decide +kernel
theorem dX9_go_7 : decode cX9_go 7 = .ok (.iload_n 2, 1) := by decide +kernel
theorem dX9_go_8 : decode cX9_go 8 = .ok (.iadd, 1) := by decide +kernel
theorem dX9_go_9 : decode cX9_go 9 = .ok (.iaload, 1) := by decide +kernel
theorem dX9_go_10 : decode cX9_go 10 = .ok (.ireturn, 1) := by decide +kernel
theorem dX9_setGo_0 : decode cX9_setGo 0 = .ok (.aload_n 0, 1) := by decide +kernel
theorem dX9_setGo_1 : decode cX9_setGo 1 = .ok (.getfield 25, 3) := by decide +kernel
theorem dX9_setGo_4 : decode cX9_setGo 4 = .ok (.iconst 4, 1) := by decide +kernel
theorem dX9_setGo_5 : decode cX9_setGo 5 = .ok (.iload_n 1, 1) := by decide +kernel
theorem dX9_setGo_6 : decode cX9_setGo 6 = .ok (.imul, 1) := by decide +kernel
theorem dX9_setGo_7 : decode cX9_setGo 7 = .ok (.iload_n 2, 1) := by decide +kernel
theorem dX9_setGo_8 : decode cX9_setGo 8 = .ok (.iadd, 1) := by decide +kernel
theorem dX9_setGo_9 : decode cX9_setGo 9 = .ok (.iload_n 3, 1) := by decide +kernel
theorem dX9_setGo_10 : decode cX9_setGo 10 = .ok (.iastore, 1) := by decide +kernel
theorem dX9_setGo_11 : decode cX9_setGo 11 = .ok (.return_, 1) := by decide +kernel
theorem dX9_who_0 : decode cX9_who 0 = .ok (.aload_n 0, 1) := by decide +kernel
theorem dX9_who_1 : decode cX9_who 1 = .ok (.getfield 28, 3) := by decide +kernel
theorem dX9_who_4 : decode cX9_who 4 = .ok (.iconst 5, 1) := by decide +kernel
theorem dX9_who_5 : decode cX9_who 5 = .ok (.iload_n 1, 1) := by decide +kernel
theorem dX9_who_6 : decode cX9_who 6 = .ok (.imul, 1) := by decide +kernel
theorem dX9_who_7 : decode cX9_who 7 = .ok (.iload_n 2, 1) := by decide +kernel
theorem dX9_who_8 : decode cX9_who 8 = .ok (.iadd, 1) := by decide +kernel
theorem dX9_who_9 : decode cX9_who 9 = .ok (.iaload, 1) := by decide +kernel
theorem dX9_who_10 : decode cX9_who 10 = .ok (.ireturn, 1) := by decide +kernel
theorem dX9_setWho_0 : decode cX9_setWho 0 = .ok (.aload_n 0, 1) := by decide +kernel
theorem dX9_setWho_1 : decode cX9_setWho 1 = .ok (.getfield 28, 3) := by decide +kernel
theorem dX9_setWho_4 : decode cX9_setWho 4 = .ok (.iconst 5, 1) := by decide +kernel
theorem dX9_setWho_5 : decode cX9_setWho 5 = .ok (.iload_n 1, 1) := by decide +kernel
theorem dX9_setWho_6 : decode cX9_setWho 6 = .ok (.imul, 1) := by decide +kernel
theorem dX9_setWho_7 : decode cX9_setWho 7 = .ok (.iload_n 2, 1) := by decide +kernel
theorem dX9_setWho_8 : decode cX9_setWho 8 = .ok (.iadd, 1) := by decide +kernel
theorem dX9_setWho_9 : decode cX9_setWho 9 = .ok (.iload_n 3, 1) := by decide +kernel
theorem dX9_setWho_10 : decode cX9_setWho 10 = .ok (.iastore, 1) := by decide +kernel
theorem dX9_setWho_11 : decode cX9_setWho 11 = .ok (.return_, 1) := by decide +kernel
theorem dX9_level_0 : decode cX9_level 0 = .ok (.aload_n 0, 1) := by decide +kernel
theorem dX9_level_1 : decode cX9_level 1 = .ok (.getfield 16, 3) := by decide +kernel
theorem dX9_level_4 : decode cX9_level 4 = .ok (.aload_n 0, 1) := by decide +kernel
theorem dX9_level_5 : decode cX9_level 5 = .ok (.getfield 54, 3) := by decide +kernel
theorem dX9_level_8 : decode cX9_level 8 = .ok (.bipush 12, 2) := by decide +kernel
theorem dX9_level_10 : decode cX9_level 10 = .ok (.irem, 1) := by decide +kernel
theorem dX9_level_11 : decode cX9_level 11 = .ok (.iaload, 1) := by decide +kernel
theorem dX9_level_12 : decode cX9_level 12 = .ok (.ireturn, 1) := by decide +kernel
theorem dX9_depth_0 : decode cX9_depth 0 = .ok (.iconst 0, 1) := by decide +kernel
theorem dX9_depth_1 : decode cX9_depth 1 = .ok (.iload_n 2, 1) := by decide +kernel
theorem dX9_depth_2 : decode cX9_depth 2 = .ok (.aload_n 0, 1) := by decide +kernel
theorem dX9_depth_3 : decode cX9_depth 3 = .ok (.getfield 9, 3) := by decide +kernel
theorem dX9_depth_6 : decode cX9_depth 6 = .ok (.iload_n 1, 1) := by decide +kernel
theorem dX9_depth_7 : decode cX9_depth 7 = .ok (.iaload, 1) := by decide +kernel
theorem dX9_depth_8 : decode cX9_depth 8 = .ok (.isub, 1) := by decide +kernel
theorem dX9_depth_9 : decode cX9_depth 9 = .ok (.invokestatic 57, 3) := by decide +kernel
theorem dX9_depth_12 : decode cX9_depth 12 = .ok (.ireturn, 1) := by decide +kernel
theorem dX9_floats_0 : decode cX9_floats 0 = .ok (.aload_n 0, 1) := by decide +kernel
theorem dX9_floats_1 : decode cX9_floats 1 = .ok (.iload_n 2, 1) := by decide +kernel
theorem dX9_floats_2 : decode cX9_floats 2 = .ok (.iload_n 3, 1) := by decide +kernel
theorem dX9_floats_3 : decode cX9_floats 3 = .ok (.invokevirtual 63, 3) := by decide +kernel
theorem dX9_floats_6 : decode cX9_floats 6 = .ok (.aload_n 0, 1) := by decide +kernel
theorem dX9_floats_7 : decode cX9_floats 7 = .ok (.iload_n 1, 1) := by decide +kernel
theorem dX9_floats_8 : decode cX9_floats 8 = .ok (.iconst 2, 1) := by decide +kernel
theorem dX9_floats_9 : decode cX9_floats 9 = .ok (.invokevirtual 66, 3) := by decide +kernel
theorem dX9_floats_12 : decode cX9_floats 12 = .ok (.aload_n 0, 1) := by decide +kernel
theorem dX9_floats_13 : decode cX9_floats 13 = .ok (.iload_n 1, 1) := by decide +kernel
theorem dX9_floats_14 : decode cX9_floats 14 = .ok (.iconst 3, 1) := by decide +kernel
theorem dX9_floats_15 : decode cX9_floats 15 = .ok (.invokevirtual 66, 3) := by decide +kernel
theorem dX9_floats_18 : decode cX9_floats 18 = .ok (.invokestatic 44, 3) := by decide +kernel
theorem dX9_floats_21 : decode cX9_floats 21 = .ok (.ireturn, 1) := by decide +kernel
theorem dX9_beside_0 : decode cX9_beside 0 = .ok (.iload_n 1, 1) := by decide +kernel
theorem dX9_beside_1 : decode cX9_beside 1 = .ok (.tableswitch 74 0 2 #[27, 42, 57], 27) := by decide +kernel
theorem dX9_beside_28 : decode cX9_beside 28 = .ok (.iload_n 0, 1) := by decide +kernel
theorem dX9_beside_29 : decode cX9_beside 29 = .ok (.bipush 14, 2) := by decide +kernel
theorem dX9_beside_31 : decode cX9_beside 31 = .ok (.if_icmp .ge 7, 3) := by decide +kernel
theorem dX9_beside_34 : decode cX9_beside 34 = .ok (.iconst (-1), 1) := by decide +kernel
theorem dX9_beside_35 : decode cX9_beside 35 = .ok (.goto 7, 3) := by decide +kernel
theorem dX9_beside_38 : decode cX9_beside 38 = .ok (.iload_n 0, 1) := by decide +kernel
theorem dX9_beside_39 : decode cX9_beside 39 = .ok (.bipush 14, 2) := by decide +kernel
theorem dX9_beside_41 : decode cX9_beside 41 = .ok (.isub, 1) := by decide +kernel
theorem dX9_beside_42 : decode cX9_beside 42 = .ok (.ireturn, 1) := by decide +kernel
theorem dX9_beside_43 : decode cX9_beside 43 = .ok (.iload_n 0, 1) := by decide +kernel
theorem dX9_beside_44 : decode cX9_beside 44 = .ok (.bipush 14, 2) := by decide +kernel
theorem dX9_beside_46 : decode cX9_beside 46 = .ok (.irem, 1) := by decide +kernel
theorem dX9_beside_47 : decode cX9_beside 47 = .ok (.ifCond .ne 7, 3) := by decide +kernel
theorem dX9_beside_50 : decode cX9_beside 50 = .ok (.iconst (-1), 1) := by decide +kernel
theorem dX9_beside_51 : decode cX9_beside 51 = .ok (.goto 6, 3) := by decide +kernel
theorem dX9_beside_54 : decode cX9_beside 54 = .ok (.iload_n 0, 1) := by decide +kernel
theorem dX9_beside_55 : decode cX9_beside 55 = .ok (.iconst 1, 1) := by decide +kernel
theorem dX9_beside_56 : decode cX9_beside 56 = .ok (.isub, 1) := by decide +kernel
theorem dX9_beside_57 : decode cX9_beside 57 = .ok (.ireturn, 1) := by decide +kernel
theorem dX9_beside_58 : decode cX9_beside 58 = .ok (.iload_n 0, 1) := by decide +kernel
theorem dX9_beside_59 : decode cX9_beside 59 = .ok (.bipush 14, 2) := by decide +kernel
theorem dX9_beside_61 : decode cX9_beside 61 = .ok (.irem, 1) := by decide +kernel
theorem dX9_beside_62 : decode cX9_beside 62 = .ok (.bipush 13, 2) := by decide +kernel
theorem dX9_beside_64 : decode cX9_beside 64 = .ok (.if_icmp .ne 7, 3) := by decide +kernel
theorem dX9_beside_67 : decode cX9_beside 67 = .ok (.iconst (-1), 1) := by decide +kernel
theorem dX9_beside_68 : decode cX9_beside 68 = .ok (.goto 6, 3) := by decide +kernel
theorem dX9_beside_71 : decode cX9_beside 71 = .ok (.iload_n 0, 1) := by decide +kernel
theorem dX9_beside_72 : decode cX9_beside 72 = .ok (.iconst 1, 1) := by decide +kernel
theorem dX9_beside_73 : decode cX9_beside 73 = .ok (.iadd, 1) := by decide +kernel
theorem dX9_beside_74 : decode cX9_beside 74 = .ok (.ireturn, 1) := by decide +kernel
theorem dX9_beside_75 : decode cX9_beside 75 = .ok (.iload_n 0, 1) := by decide +kernel
theorem dX9_beside_76 : decode cX9_beside 76 = .ok (.sipush 182, 3) := by decide +kernel
theorem dX9_beside_79 : decode cX9_beside 79 = .ok (.if_icmp .lt 7, 3) := by decide +kernel
theorem dX9_beside_82 : decode cX9_beside 82 = .ok (.iconst (-1), 1) := by decide +kernel
theorem dX9_beside_83 : decode cX9_beside 83 = .ok (.goto 7, 3) := by decide +kernel
theorem dX9_beside_86 : decode cX9_beside 86 = .ok (.iload_n 0, 1) := by decide +kernel
theorem dX9_beside_87 : decode cX9_beside 87 = .ok (.bipush 14, 2) := by decide +kernel
theorem dX9_beside_89 : decode cX9_beside 89 = .ok (.iadd, 1) := by decide +kernel
theorem dX9_beside_90 : decode cX9_beside 90 = .ok (.ireturn, 1) := by decide +kernel
theorem dX9_setGround_0 : decode cX9_setGround 0 = .ok (.aload_n 0, 1) := by decide +kernel
theorem dX9_setGround_1 : decode cX9_setGround 1 = .ok (.iconst 0, 1) := by decide +kernel
theorem dX9_setGround_2 : decode cX9_setGround 2 = .ok (.putfield 40, 3) := by decide +kernel
theorem dX9_setGround_5 : decode cX9_setGround 5 = .ok (.iload_n 1, 1) := by decide +kernel
theorem dX9_setGround_6 : decode cX9_setGround 6 = .ok (.iload_n 2, 1) := by decide +kernel
theorem dX9_setGround_7 : decode cX9_setGround 7 = .ok (.invokestatic 69, 3) := by decide +kernel
theorem dX9_setGround_10 : decode cX9_setGround 10 = .ok (.ifCond .ne 9, 3) := by decide +kernel
theorem dX9_setGround_13 : decode cX9_setGround 13 = .ok (.aload_n 0, 1) := by decide +kernel
theorem dX9_setGround_14 : decode cX9_setGround 14 = .ok (.iconst 1, 1) := by decide +kernel
theorem dX9_setGround_15 : decode cX9_setGround 15 = .ok (.invokevirtual 73, 3) := by decide +kernel
theorem dX9_setGround_18 : decode cX9_setGround 18 = .ok (.ireturn, 1) := by decide +kernel
theorem dX9_setGround_19 : decode cX9_setGround 19 = .ok (.iload_n 3, 1) := by decide +kernel
theorem dX9_setGround_20 : decode cX9_setGround 20 = .ok (.iconst 0, 1) := by decide +kernel
theorem dX9_setGround_21 : decode cX9_setGround 21 = .ok (.bipush 20, 2) := by decide +kernel
theorem dX9_setGround_23 : decode cX9_setGround 23 = .ok (.invokestatic 44, 3) := by decide +kernel
theorem dX9_setGround_26 : decode cX9_setGround 26 = .ok (.ifCond .ne 9, 3) := by decide +kernel
theorem dX9_setGround_29 : decode cX9_setGround 29 = .ok (.aload_n 0, 1) := by decide +kernel
theorem dX9_setGround_30 : decode cX9_setGround 30 = .ok (.iconst 2, 1) := by decide +kernel
theorem dX9_setGround_31 : decode cX9_setGround 31 = .ok (.invokevirtual 73, 3) := by decide +kernel
theorem dX9_setGround_34 : decode cX9_setGround 34 = .ok (.ireturn, 1) := by decide +kernel
theorem dX9_setGround_35 : decode cX9_setGround 35 = .ok (.aload_n 0, 1) := by decide +kernel
theorem dX9_setGround_36 : decode cX9_setGround 36 = .ok (.getfield 9, 3) := by decide +kernel
theorem dX9_setGround_39 : decode cX9_setGround 39 = .ok (.iload_n 1, 1) := by decide +kernel
theorem dX9_setGround_40 : decode cX9_setGround 40 = .ok (.bipush 14, 2) := by decide +kernel
theorem dX9_setGround_42 : decode cX9_setGround 42 = .ok (.iload_n 2, 1) := by decide +kernel
theorem dX9_setGround_43 : decode cX9_setGround 43 = .ok (.imul, 1) := by decide +kernel
theorem dX9_setGround_44 : decode cX9_setGround 44 = .ok (.iadd, 1) := by decide +kernel
theorem dX9_setGround_45 : decode cX9_setGround 45 = .ok (.iaload, 1) := by decide +kernel
theorem dX9_setGround_46 : decode cX9_setGround 46 = .ok (.istore 4, 2) := by decide +kernel
theorem dX9_setGround_48 : decode cX9_setGround 48 = .ok (.aload_n 0, 1) := by decide +kernel
theorem dX9_setGround_49 : decode cX9_setGround 49 = .ok (.getfield 9, 3) := by decide +kernel
theorem dX9_setGround_52 : decode cX9_setGround 52 = .ok (.iload_n 1, 1) := by decide +kernel
theorem dX9_setGround_53 : decode cX9_setGround 53 = .ok (.bipush 14, 2) := by decide +kernel
theorem dX9_setGround_55 : decode cX9_setGround 55 = .ok (.iload_n 2, 1) := by decide +kernel
theorem dX9_setGround_56 : decode cX9_setGround 56 = .ok (.imul, 1) := by decide +kernel
theorem dX9_setGround_57 : decode cX9_setGround 57 = .ok (.iadd, 1) := by decide +kernel
theorem dX9_setGround_58 : decode cX9_setGround 58 = .ok (.iload_n 3, 1) := by decide +kernel
theorem dX9_setGround_59 : decode cX9_setGround 59 = .ok (.iastore, 1) := by decide +kernel
theorem dX9_setGround_60 : decode cX9_setGround 60 = .ok (.iload 4, 2) := by decide +kernel
theorem dX9_setGround_62 : decode cX9_setGround 62 = .ok (.ireturn, 1) := by decide +kernel
theorem dX9_setWater_0 : decode cX9_setWater 0 = .ok (.aload_n 0, 1) := by decide +kernel
theorem dX9_setWater_1 : decode cX9_setWater 1 = .ok (.iconst 0, 1) := by decide +kernel
theorem dX9_setWater_2 : decode cX9_setWater 2 = .ok (.putfield 40, 3) := by decide +kernel
theorem dX9_setWater_5 : decode cX9_setWater 5 = .ok (.iload_n 1, 1) := by decide +kernel
theorem dX9_setWater_6 : decode cX9_setWater 6 = .ok (.iconst 0, 1) := by decide +kernel
theorem dX9_setWater_7 : decode cX9_setWater 7 = .ok (.bipush 11, 2) := by decide +kernel
theorem dX9_setWater_9 : decode cX9_setWater 9 = .ok (.invokestatic 44, 3) := by decide +kernel
theorem dX9_setWater_12 : decode cX9_setWater 12 = .ok (.ifCond .ne 9, 3) := by decide +kernel
theorem dX9_setWater_15 : decode cX9_setWater 15 = .ok (.aload_n 0, 1) := by decide +kernel
theorem dX9_setWater_16 : decode cX9_setWater 16 = .ok (.iconst 1, 1) := by decide +kernel
theorem dX9_setWater_17 : decode cX9_setWater 17 = .ok (.invokevirtual 73, 3) := by decide +kernel
theorem dX9_setWater_20 : decode cX9_setWater 20 = .ok (.ireturn, 1) := by decide +kernel
theorem dX9_setWater_21 : decode cX9_setWater 21 = .ok (.iload_n 2, 1) := by decide +kernel
theorem dX9_setWater_22 : decode cX9_setWater 22 = .ok (.iconst 0, 1) := by decide +kernel
theorem dX9_setWater_23 : decode cX9_setWater 23 = .ok (.bipush 24, 2) := by decide +kernel
theorem dX9_setWater_25 : decode cX9_setWater 25 = .ok (.invokestatic 44, 3) := by decide +kernel
theorem dX9_setWater_28 : decode cX9_setWater 28 = .ok (.ifCond .ne 9, 3) := by decide +kernel
theorem dX9_setWater_31 : decode cX9_setWater 31 = .ok (.aload_n 0, 1) := by decide +kernel
theorem dX9_setWater_32 : decode cX9_setWater 32 = .ok (.iconst 2, 1) := by decide +kernel
theorem dX9_setWater_33 : decode cX9_setWater 33 = .ok (.invokevirtual 73, 3) := by decide +kernel
theorem dX9_setWater_36 : decode cX9_setWater 36 = .ok (.ireturn, 1) := by decide +kernel
theorem dX9_setWater_37 : decode cX9_setWater 37 = .ok (.aload_n 0, 1) := by decide +kernel
theorem dX9_setWater_38 : decode cX9_setWater 38 = .ok (.getfield 16, 3) := by decide +kernel
theorem dX9_setWater_41 : decode cX9_setWater 41 = .ok (.iload_n 1, 1) := by decide +kernel
theorem dX9_setWater_42 : decode cX9_setWater 42 = .ok (.iaload, 1) := by decide +kernel
theorem dX9_setWater_43 : decode cX9_setWater 43 = .ok (.istore_n 3, 1) := by decide +kernel
theorem dX9_setWater_44 : decode cX9_setWater 44 = .ok (.aload_n 0, 1) := by decide +kernel
theorem dX9_setWater_45 : decode cX9_setWater 45 = .ok (.getfield 16, 3) := by decide +kernel
theorem dX9_setWater_48 : decode cX9_setWater 48 = .ok (.iload_n 1, 1) := by decide +kernel
theorem dX9_setWater_49 : decode cX9_setWater 49 = .ok (.iload_n 2, 1) := by decide +kernel
theorem dX9_setWater_50 : decode cX9_setWater 50 = .ok (.iastore, 1) := by decide +kernel
theorem dX9_setWater_51 : decode cX9_setWater 51 = .ok (.iload_n 3, 1) := by decide +kernel
theorem dX9_setWater_52 : decode cX9_setWater 52 = .ok (.ireturn, 1) := by decide +kernel
theorem dX9_setStake_0 : decode cX9_setStake 0 = .ok (.aload_n 0, 1) := by decide +kernel
theorem dX9_setStake_1 : decode cX9_setStake 1 = .ok (.iconst 0, 1) := by decide +kernel
theorem dX9_setStake_2 : decode cX9_setStake 2 = .ok (.putfield 40, 3) := by decide +kernel
theorem dX9_setStake_5 : decode cX9_setStake 5 = .ok (.iload_n 1, 1) := by decide +kernel
theorem dX9_setStake_6 : decode cX9_setStake 6 = .ok (.iload_n 2, 1) := by decide +kernel
theorem dX9_setStake_7 : decode cX9_setStake 7 = .ok (.invokestatic 69, 3) := by decide +kernel
theorem dX9_setStake_10 : decode cX9_setStake 10 = .ok (.ifCond .ne 9, 3) := by decide +kernel
theorem dX9_setStake_13 : decode cX9_setStake 13 = .ok (.aload_n 0, 1) := by decide +kernel
theorem dX9_setStake_14 : decode cX9_setStake 14 = .ok (.iconst 1, 1) := by decide +kernel
theorem dX9_setStake_15 : decode cX9_setStake 15 = .ok (.invokevirtual 73, 3) := by decide +kernel
theorem dX9_setStake_18 : decode cX9_setStake 18 = .ok (.ireturn, 1) := by decide +kernel
theorem dX9_setStake_19 : decode cX9_setStake 19 = .ok (.iload_n 3, 1) := by decide +kernel
theorem dX9_setStake_20 : decode cX9_setStake 20 = .ok (.iconst 0, 1) := by decide +kernel
theorem dX9_setStake_21 : decode cX9_setStake 21 = .ok (.bipush 9, 2) := by decide +kernel
theorem dX9_setStake_23 : decode cX9_setStake 23 = .ok (.invokestatic 44, 3) := by decide +kernel
theorem dX9_setStake_26 : decode cX9_setStake 26 = .ok (.ifCond .ne 9, 3) := by decide +kernel
theorem dX9_setStake_29 : decode cX9_setStake 29 = .ok (.aload_n 0, 1) := by decide +kernel
theorem dX9_setStake_30 : decode cX9_setStake 30 = .ok (.iconst 2, 1) := by decide +kernel
theorem dX9_setStake_31 : decode cX9_setStake 31 = .ok (.invokevirtual 73, 3) := by decide +kernel
theorem dX9_setStake_34 : decode cX9_setStake 34 = .ok (.ireturn, 1) := by decide +kernel
theorem dX9_setStake_35 : decode cX9_setStake 35 = .ok (.aload_n 0, 1) := by decide +kernel
theorem dX9_setStake_36 : decode cX9_setStake 36 = .ok (.getfield 13, 3) := by decide +kernel
theorem dX9_setStake_39 : decode cX9_setStake 39 = .ok (.iload_n 1, 1) := by decide +kernel
theorem dX9_setStake_40 : decode cX9_setStake 40 = .ok (.bipush 14, 2) := by decide +kernel
theorem dX9_setStake_42 : decode cX9_setStake 42 = .ok (.iload_n 2, 1) := by decide +kernel
theorem dX9_setStake_43 : decode cX9_setStake 43 = .ok (.imul, 1) := by decide +kernel
theorem dX9_setStake_44 : decode cX9_setStake 44 = .ok (.iadd, 1) := by decide +kernel
theorem dX9_setStake_45 : decode cX9_setStake 45 = .ok (.iaload, 1) := by decide +kernel
theorem dX9_setStake_46 : decode cX9_setStake 46 = .ok (.istore 4, 2) := by decide +kernel
theorem dX9_setStake_48 : decode cX9_setStake 48 = .ok (.aload_n 0, 1) := by decide +kernel
theorem dX9_setStake_49 : decode cX9_setStake 49 = .ok (.getfield 13, 3) := by decide +kernel
theorem dX9_setStake_52 : decode cX9_setStake 52 = .ok (.iload_n 1, 1) := by decide +kernel
theorem dX9_setStake_53 : decode cX9_setStake 53 = .ok (.bipush 14, 2) := by decide +kernel
theorem dX9_setStake_55 : decode cX9_setStake 55 = .ok (.iload_n 2, 1) := by decide +kernel
theorem dX9_setStake_56 : decode cX9_setStake 56 = .ok (.imul, 1) := by decide +kernel
theorem dX9_setStake_57 : decode cX9_setStake 57 = .ok (.iadd, 1) := by decide +kernel
theorem dX9_setStake_58 : decode cX9_setStake 58 = .ok (.iload_n 3, 1) := by decide +kernel
theorem dX9_setStake_59 : decode cX9_setStake 59 = .ok (.iastore, 1) := by decide +kernel
theorem dX9_setStake_60 : decode cX9_setStake 60 = .ok (.iload 4, 2) := by decide +kernel
theorem dX9_setStake_62 : decode cX9_setStake 62 = .ok (.ireturn, 1) := by decide +kernel
theorem dX9_landingAt_0 : decode cX9_landingAt 0 = .ok (.iconst 0, 1) := by decide +kernel
theorem dX9_landingAt_1 : decode cX9_landingAt 1 = .ok (.istore_n 2, 1) := by decide +kernel
theorem dX9_landingAt_2 : decode cX9_landingAt 2 = .ok (.iload_n 2, 1) := by decide +kernel
theorem dX9_landingAt_3 : decode cX9_landingAt 3 = .ok (.aload_n 0, 1) := by decide +kernel
theorem dX9_landingAt_4 : decode cX9_landingAt 4 = .ok (.getfield 48, 3) := by decide +kernel
theorem dX9_landingAt_7 : decode cX9_landingAt 7 = .ok (.if_icmp .ge 21, 3) := by decide +kernel
theorem dX9_landingAt_10 : decode cX9_landingAt 10 = .ok (.aload_n 0, 1) := by decide +kernel
theorem dX9_landingAt_11 : decode cX9_landingAt 11 = .ok (.getfield 19, 3) := by decide +kernel
theorem dX9_landingAt_14 : decode cX9_landingAt 14 = .ok (.iload_n 2, 1) := by decide +kernel
theorem dX9_landingAt_15 : decode cX9_landingAt 15 = .ok (.iaload, 1) := by decide +kernel
theorem dX9_landingAt_16 : decode cX9_landingAt 16 = .ok (.iload_n 1, 1) := by decide +kernel
theorem dX9_landingAt_17 : decode cX9_landingAt 17 = .ok (.if_icmp .ne 5, 3) := by decide +kernel
theorem dX9_landingAt_20 : decode cX9_landingAt 20 = .ok (.iload_n 2, 1) := by decide +kernel
theorem dX9_landingAt_21 : decode cX9_landingAt 21 = .ok (.ireturn, 1) := by decide +kernel
theorem dX9_landingAt_22 : decode cX9_landingAt 22 = .ok (.iinc 2 1, 3) := by decide +kernel
theorem dX9_landingAt_25 : decode cX9_landingAt 25 = .ok (.goto (-23), 3) := by decide +kernel
theorem dX9_landingAt_28 : decode cX9_landingAt 28 = .ok (.iconst (-1), 1) := by decide +kernel
theorem dX9_landingAt_29 : decode cX9_landingAt 29 = .ok (.ireturn, 1) := by decide +kernel
theorem dX9_cellTold_0 : decode cX9_cellTold 0 = .ok (.iconst 0, 1) := by decide +kernel
theorem dX9_cellTold_1 : decode cX9_cellTold 1 = .ok (.istore_n 3, 1) := by decide +kernel
theorem dX9_cellTold_2 : decode cX9_cellTold 2 = .ok (.iconst 0, 1) := by decide +kernel
theorem dX9_cellTold_3 : decode cX9_cellTold 3 = .ok (.istore 4, 2) := by decide +kernel
theorem dX9_cellTold_5 : decode cX9_cellTold 5 = .ok (.iload 4, 2) := by decide +kernel
theorem dX9_cellTold_7 : decode cX9_cellTold 7 = .ok (.aload_n 0, 1) := by decide +kernel
theorem dX9_cellTold_8 : decode cX9_cellTold 8 = .ok (.getfield 51, 3) := by decide +kernel
theorem dX9_cellTold_11 : decode cX9_cellTold 11 = .ok (.if_icmp .ge 28, 3) := by decide +kernel
theorem dX9_cellTold_14 : decode cX9_cellTold 14 = .ok (.iload_n 3, 1) := by decide +kernel
theorem dX9_cellTold_15 : decode cX9_cellTold 15 = .ok (.aload_n 0, 1) := by decide +kernel
theorem dX9_cellTold_16 : decode cX9_cellTold 16 = .ok (.iload 4, 2) := by decide +kernel
theorem dX9_cellTold_18 : decode cX9_cellTold 18 = .ok (.iconst 0, 1) := by decide +kernel
theorem dX9_cellTold_19 : decode cX9_cellTold 19 = .ok (.invokevirtual 77, 3) := by decide +kernel
theorem dX9_cellTold_22 : decode cX9_cellTold 22 = .ok (.iload_n 1, 1) := by decide +kernel
theorem dX9_cellTold_23 : decode cX9_cellTold 23 = .ok (.if_icmp .ne 7, 3) := by decide +kernel
theorem dX9_cellTold_26 : decode cX9_cellTold 26 = .ok (.iconst 1, 1) := by decide +kernel
theorem dX9_cellTold_27 : decode cX9_cellTold 27 = .ok (.goto 4, 3) := by decide +kernel
theorem dX9_cellTold_30 : decode cX9_cellTold 30 = .ok (.iconst 0, 1) := by decide +kernel
theorem dX9_cellTold_31 : decode cX9_cellTold 31 = .ok (.iadd, 1) := by decide +kernel
theorem dX9_cellTold_32 : decode cX9_cellTold 32 = .ok (.istore_n 3, 1) := by decide +kernel
theorem dX9_cellTold_33 : decode cX9_cellTold 33 = .ok (.iinc 4 1, 3) := by decide +kernel
theorem dX9_cellTold_36 : decode cX9_cellTold 36 = .ok (.goto (-31), 3) := by decide +kernel
theorem dX9_cellTold_39 : decode cX9_cellTold 39 = .ok (.iload_n 2, 1) := by decide +kernel
theorem dX9_cellTold_40 : decode cX9_cellTold 40 = .ok (.tableswitch 90 0 4 #[36, 43, 53, 60, 84], 36) := by decide +kernel
theorem dX9_cellTold_76 : decode cX9_cellTold 76 = .ok (.aload_n 0, 1) := by decide +kernel
theorem dX9_cellTold_77 : decode cX9_cellTold 77 = .ok (.getfield 9, 3) := by decide +kernel
theorem dX9_cellTold_80 : decode cX9_cellTold 80 = .ok (.iload_n 1, 1) := by decide +kernel
theorem dX9_cellTold_81 : decode cX9_cellTold 81 = .ok (.iaload, 1) := by decide +kernel
theorem dX9_cellTold_82 : decode cX9_cellTold 82 = .ok (.ireturn, 1) := by decide +kernel
theorem dX9_cellTold_83 : decode cX9_cellTold 83 = .ok (.aload_n 0, 1) := by decide +kernel
theorem dX9_cellTold_84 : decode cX9_cellTold 84 = .ok (.iload_n 1, 1) := by decide +kernel
theorem dX9_cellTold_85 : decode cX9_cellTold 85 = .ok (.aload_n 0, 1) := by decide +kernel
theorem dX9_cellTold_86 : decode cX9_cellTold 86 = .ok (.invokevirtual 80, 3) := by decide +kernel
theorem dX9_cellTold_89 : decode cX9_cellTold 89 = .ok (.invokevirtual 63, 3) := by decide +kernel
theorem dX9_cellTold_92 : decode cX9_cellTold 92 = .ok (.ireturn, 1) := by decide +kernel
theorem dX9_cellTold_93 : decode cX9_cellTold 93 = .ok (.aload_n 0, 1) := by decide +kernel
theorem dX9_cellTold_94 : decode cX9_cellTold 94 = .ok (.getfield 13, 3) := by decide +kernel
theorem dX9_cellTold_97 : decode cX9_cellTold 97 = .ok (.iload_n 1, 1) := by decide +kernel
theorem dX9_cellTold_98 : decode cX9_cellTold 98 = .ok (.iaload, 1) := by decide +kernel
theorem dX9_cellTold_99 : decode cX9_cellTold 99 = .ok (.ireturn, 1) := by decide +kernel
theorem dX9_cellTold_100 : decode cX9_cellTold 100 = .ok (.aload_n 0, 1) := by decide +kernel
theorem dX9_cellTold_101 : decode cX9_cellTold 101 = .ok (.iload_n 1, 1) := by decide +kernel
theorem dX9_cellTold_102 : decode cX9_cellTold 102 = .ok (.aload_n 0, 1) := by decide +kernel
theorem dX9_cellTold_103 : decode cX9_cellTold 103 = .ok (.invokevirtual 80, 3) := by decide +kernel
theorem dX9_cellTold_106 : decode cX9_cellTold 106 = .ok (.invokevirtual 63, 3) := by decide +kernel
theorem dX9_cellTold_109 : decode cX9_cellTold 109 = .ok (.aload_n 0, 1) := by decide +kernel
theorem dX9_cellTold_110 : decode cX9_cellTold 110 = .ok (.getfield 13, 3) := by decide +kernel
theorem dX9_cellTold_113 : decode cX9_cellTold 113 = .ok (.iload_n 1, 1) := by decide +kernel
theorem dX9_cellTold_114 : decode cX9_cellTold 114 = .ok (.iaload, 1) := by decide +kernel
theorem dX9_cellTold_115 : decode cX9_cellTold 115 = .ok (.if_icmp .ge 7, 3) := by decide +kernel
theorem dX9_cellTold_118 : decode cX9_cellTold 118 = .ok (.iconst 1, 1) := by decide +kernel
theorem dX9_cellTold_119 : decode cX9_cellTold 119 = .ok (.goto 4, 3) := by decide +kernel
theorem dX9_cellTold_122 : decode cX9_cellTold 122 = .ok (.iconst 0, 1) := by decide +kernel
theorem dX9_cellTold_123 : decode cX9_cellTold 123 = .ok (.ireturn, 1) := by decide +kernel
theorem dX9_cellTold_124 : decode cX9_cellTold 124 = .ok (.aload_n 0, 1) := by decide +kernel
theorem dX9_cellTold_125 : decode cX9_cellTold 125 = .ok (.iload_n 1, 1) := by decide +kernel
theorem dX9_cellTold_126 : decode cX9_cellTold 126 = .ok (.invokevirtual 84, 3) := by decide +kernel
theorem dX9_cellTold_129 : decode cX9_cellTold 129 = .ok (.ireturn, 1) := by decide +kernel
theorem dX9_cellTold_130 : decode cX9_cellTold 130 = .ok (.iload_n 3, 1) := by decide +kernel
theorem dX9_cellTold_131 : decode cX9_cellTold 131 = .ok (.ireturn, 1) := by decide +kernel
theorem dX9_cell_0 : decode cX9_cell 0 = .ok (.aload_n 0, 1) := by decide +kernel
theorem dX9_cell_1 : decode cX9_cell 1 = .ok (.iconst 0, 1) := by decide +kernel
theorem dX9_cell_2 : decode cX9_cell 2 = .ok (.putfield 40, 3) := by decide +kernel
theorem dX9_cell_5 : decode cX9_cell 5 = .ok (.iload_n 1, 1) := by decide +kernel
theorem dX9_cell_6 : decode cX9_cell 6 = .ok (.iload_n 2, 1) := by decide +kernel
theorem dX9_cell_7 : decode cX9_cell 7 = .ok (.invokestatic 69, 3) := by decide +kernel
theorem dX9_cell_10 : decode cX9_cell 10 = .ok (.ifCond .eq 26, 3) := by decide +kernel
theorem dX9_cell_13 : decode cX9_cell 13 = .ok (.iload_n 3, 1) := by decide +kernel
theorem dX9_cell_14 : decode cX9_cell 14 = .ok (.iconst 0, 1) := by decide +kernel
theorem dX9_cell_15 : decode cX9_cell 15 = .ok (.iconst 5, 1) := by decide +kernel
theorem dX9_cell_16 : decode cX9_cell 16 = .ok (.invokestatic 44, 3) := by decide +kernel
theorem dX9_cell_19 : decode cX9_cell 19 = .ok (.ifCond .eq 17, 3) := by decide +kernel
theorem dX9_cell_22 : decode cX9_cell 22 = .ok (.aload_n 0, 1) := by decide +kernel
theorem dX9_cell_23 : decode cX9_cell 23 = .ok (.iload_n 1, 1) := by decide +kernel
theorem dX9_cell_24 : decode cX9_cell 24 = .ok (.bipush 14, 2) := by decide +kernel
theorem dX9_cell_26 : decode cX9_cell 26 = .ok (.iload_n 2, 1) := by decide +kernel
theorem dX9_cell_27 : decode cX9_cell 27 = .ok (.imul, 1) := by decide +kernel
theorem dX9_cell_28 : decode cX9_cell 28 = .ok (.iadd, 1) := by decide +kernel
theorem dX9_cell_29 : decode cX9_cell 29 = .ok (.iload_n 3, 1) := by decide +kernel
theorem dX9_cell_30 : decode cX9_cell 30 = .ok (.invokevirtual 87, 3) := by decide +kernel
theorem dX9_cell_33 : decode cX9_cell 33 = .ok (.goto 8, 3) := by decide +kernel
theorem dX9_cell_36 : decode cX9_cell 36 = .ok (.aload_n 0, 1) := by decide +kernel
theorem dX9_cell_37 : decode cX9_cell 37 = .ok (.iconst 1, 1) := by decide +kernel
theorem dX9_cell_38 : decode cX9_cell 38 = .ok (.invokevirtual 73, 3) := by decide +kernel
theorem dX9_cell_41 : decode cX9_cell 41 = .ok (.ireturn, 1) := by decide +kernel
theorem dX9_addLanding_0 : decode cX9_addLanding 0 = .ok (.aload_n 0, 1) := by decide +kernel
theorem dX9_addLanding_1 : decode cX9_addLanding 1 = .ok (.iconst 0, 1) := by decide +kernel
theorem dX9_addLanding_2 : decode cX9_addLanding 2 = .ok (.putfield 40, 3) := by decide +kernel
theorem dX9_addLanding_5 : decode cX9_addLanding 5 = .ok (.iload_n 1, 1) := by decide +kernel
theorem dX9_addLanding_6 : decode cX9_addLanding 6 = .ok (.iload_n 2, 1) := by decide +kernel
theorem dX9_addLanding_7 : decode cX9_addLanding 7 = .ok (.invokestatic 69, 3) := by decide +kernel
theorem dX9_addLanding_10 : decode cX9_addLanding 10 = .ok (.ifCond .ne 9, 3) := by decide +kernel
theorem dX9_addLanding_13 : decode cX9_addLanding 13 = .ok (.aload_n 0, 1) := by decide +kernel
theorem dX9_addLanding_14 : decode cX9_addLanding 14 = .ok (.iconst 1, 1) := by decide +kernel
theorem dX9_addLanding_15 : decode cX9_addLanding 15 = .ok (.invokevirtual 73, 3) := by decide +kernel
theorem dX9_addLanding_18 : decode cX9_addLanding 18 = .ok (.ireturn, 1) := by decide +kernel
theorem dX9_addLanding_19 : decode cX9_addLanding 19 = .ok (.aload_n 0, 1) := by decide +kernel
theorem dX9_addLanding_20 : decode cX9_addLanding 20 = .ok (.iload_n 1, 1) := by decide +kernel
theorem dX9_addLanding_21 : decode cX9_addLanding 21 = .ok (.bipush 14, 2) := by decide +kernel
theorem dX9_addLanding_23 : decode cX9_addLanding 23 = .ok (.iload_n 2, 1) := by decide +kernel
theorem dX9_addLanding_24 : decode cX9_addLanding 24 = .ok (.imul, 1) := by decide +kernel
theorem dX9_addLanding_25 : decode cX9_addLanding 25 = .ok (.iadd, 1) := by decide +kernel
theorem dX9_addLanding_26 : decode cX9_addLanding 26 = .ok (.invokevirtual 84, 3) := by decide +kernel
theorem dX9_addLanding_29 : decode cX9_addLanding 29 = .ok (.iconst (-1), 1) := by decide +kernel
theorem dX9_addLanding_30 : decode cX9_addLanding 30 = .ok (.if_icmp .ne 12, 3) := by decide +kernel
theorem dX9_addLanding_33 : decode cX9_addLanding 33 = .ok (.aload_n 0, 1) := by decide +kernel
theorem dX9_addLanding_34 : decode cX9_addLanding 34 = .ok (.getfield 48, 3) := by decide +kernel
theorem dX9_addLanding_37 : decode cX9_addLanding 37 = .ok (.bipush 8, 2) := by decide +kernel
theorem dX9_addLanding_39 : decode cX9_addLanding 39 = .ok (.if_icmp .ne 9, 3) := by decide +kernel
theorem dX9_addLanding_42 : decode cX9_addLanding 42 = .ok (.aload_n 0, 1) := by decide +kernel
theorem dX9_addLanding_43 : decode cX9_addLanding 43 = .ok (.iconst 2, 1) := by decide +kernel
theorem dX9_addLanding_44 : decode cX9_addLanding 44 = .ok (.invokevirtual 73, 3) := by decide +kernel
theorem dX9_addLanding_47 : decode cX9_addLanding 47 = .ok (.ireturn, 1) := by decide +kernel
theorem dX9_addLanding_48 : decode cX9_addLanding 48 = .ok (.aload_n 0, 1) := by decide +kernel
theorem dX9_addLanding_49 : decode cX9_addLanding 49 = .ok (.getfield 19, 3) := by decide +kernel
theorem dX9_addLanding_52 : decode cX9_addLanding 52 = .ok (.aload_n 0, 1) := by decide +kernel
theorem dX9_addLanding_53 : decode cX9_addLanding 53 = .ok (.getfield 48, 3) := by decide +kernel
theorem dX9_addLanding_56 : decode cX9_addLanding 56 = .ok (.iload_n 1, 1) := by decide +kernel
theorem dX9_addLanding_57 : decode cX9_addLanding 57 = .ok (.bipush 14, 2) := by decide +kernel
theorem dX9_addLanding_59 : decode cX9_addLanding 59 = .ok (.iload_n 2, 1) := by decide +kernel
theorem dX9_addLanding_60 : decode cX9_addLanding 60 = .ok (.imul, 1) := by decide +kernel
theorem dX9_addLanding_61 : decode cX9_addLanding 61 = .ok (.iadd, 1) := by decide +kernel
theorem dX9_addLanding_62 : decode cX9_addLanding 62 = .ok (.iastore, 1) := by decide +kernel
theorem dX9_addLanding_63 : decode cX9_addLanding 63 = .ok (.aload_n 0, 1) := by decide +kernel
theorem dX9_addLanding_64 : decode cX9_addLanding 64 = .ok (.dup, 1) := by decide +kernel
theorem dX9_addLanding_65 : decode cX9_addLanding 65 = .ok (.getfield 48, 3) := by decide +kernel
theorem dX9_addLanding_68 : decode cX9_addLanding 68 = .ok (.iconst 1, 1) := by decide +kernel
theorem dX9_addLanding_69 : decode cX9_addLanding 69 = .ok (.iadd, 1) := by decide +kernel
theorem dX9_addLanding_70 : decode cX9_addLanding 70 = .ok (.putfield 48, 3) := by decide +kernel
theorem dX9_addLanding_73 : decode cX9_addLanding 73 = .ok (.aload_n 0, 1) := by decide +kernel
theorem dX9_addLanding_74 : decode cX9_addLanding 74 = .ok (.getfield 48, 3) := by decide +kernel
theorem dX9_addLanding_77 : decode cX9_addLanding 77 = .ok (.iconst 1, 1) := by decide +kernel
theorem dX9_addLanding_78 : decode cX9_addLanding 78 = .ok (.isub, 1) := by decide +kernel
theorem dX9_addLanding_79 : decode cX9_addLanding 79 = .ok (.ireturn, 1) := by decide +kernel
theorem dX9_launch_0 : decode cX9_launch 0 = .ok (.aload_n 0, 1) := by decide +kernel
theorem dX9_launch_1 : decode cX9_launch 1 = .ok (.iconst 0, 1) := by decide +kernel
theorem dX9_launch_2 : decode cX9_launch 2 = .ok (.putfield 40, 3) := by decide +kernel
theorem dX9_launch_5 : decode cX9_launch 5 = .ok (.aload_n 0, 1) := by decide +kernel
theorem dX9_launch_6 : decode cX9_launch 6 = .ok (.iload_n 1, 1) := by decide +kernel
theorem dX9_launch_7 : decode cX9_launch 7 = .ok (.invokevirtual 90, 3) := by decide +kernel
theorem dX9_launch_10 : decode cX9_launch 10 = .ok (.ifCond .eq 11, 3) := by decide +kernel
theorem dX9_launch_13 : decode cX9_launch 13 = .ok (.aload_n 0, 1) := by decide +kernel
theorem dX9_launch_14 : decode cX9_launch 14 = .ok (.iload_n 2, 1) := by decide +kernel
theorem dX9_launch_15 : decode cX9_launch 15 = .ok (.invokevirtual 90, 3) := by decide +kernel
theorem dX9_launch_18 : decode cX9_launch 18 = .ok (.ifCond .ne 9, 3) := by decide +kernel
theorem dX9_launch_21 : decode cX9_launch 21 = .ok (.aload_n 0, 1) := by decide +kernel
theorem dX9_launch_22 : decode cX9_launch 22 = .ok (.iconst 1, 1) := by decide +kernel
theorem dX9_launch_23 : decode cX9_launch 23 = .ok (.invokevirtual 73, 3) := by decide +kernel
theorem dX9_launch_26 : decode cX9_launch 26 = .ok (.ireturn, 1) := by decide +kernel
theorem dX9_launch_27 : decode cX9_launch 27 = .ok (.iload_n 1, 1) := by decide +kernel
theorem dX9_launch_28 : decode cX9_launch 28 = .ok (.iload_n 2, 1) := by decide +kernel
theorem dX9_launch_29 : decode cX9_launch 29 = .ok (.if_icmp .eq 45, 3) := by decide +kernel
theorem dX9_launch_32 : decode cX9_launch 32 = .ok (.iload_n 3, 1) := by decide +kernel
theorem dX9_launch_33 : decode cX9_launch 33 = .ok (.iconst 1, 1) := by decide +kernel
theorem dX9_launch_34 : decode cX9_launch 34 = .ok (.iconst 4, 1) := by decide +kernel
theorem dX9_launch_35 : decode cX9_launch 35 = .ok (.invokestatic 44, 3) := by decide +kernel
theorem dX9_launch_38 : decode cX9_launch 38 = .ok (.ifCond .eq 36, 3) := by decide +kernel
theorem dX9_launch_41 : decode cX9_launch 41 = .ok (.iload 4, 2) := by decide +kernel
theorem dX9_launch_43 : decode cX9_launch 43 = .ok (.iconst 2, 1) := by decide +kernel
theorem dX9_launch_44 : decode cX9_launch 44 = .ok (.bipush 12, 2) := by decide +kernel
theorem dX9_launch_46 : decode cX9_launch 46 = .ok (.invokestatic 44, 3) := by decide +kernel
theorem dX9_launch_49 : decode cX9_launch 49 = .ok (.ifCond .eq 25, 3) := by decide +kernel
theorem dX9_launch_52 : decode cX9_launch 52 = .ok (.iload 5, 2) := by decide +kernel
theorem dX9_launch_54 : decode cX9_launch 54 = .ok (.iconst 1, 1) := by decide +kernel
theorem dX9_launch_55 : decode cX9_launch 55 = .ok (.bipush 6, 2) := by decide +kernel
theorem dX9_launch_57 : decode cX9_launch 57 = .ok (.invokestatic 44, 3) := by decide +kernel
theorem dX9_launch_60 : decode cX9_launch 60 = .ok (.ifCond .eq 14, 3) := by decide +kernel
theorem dX9_launch_63 : decode cX9_launch 63 = .ok (.iload 6, 2) := by decide +kernel
theorem dX9_launch_65 : decode cX9_launch 65 = .ok (.iconst 0, 1) := by decide +kernel
theorem dX9_launch_66 : decode cX9_launch 66 = .ok (.bipush 50, 2) := by decide +kernel
theorem dX9_launch_68 : decode cX9_launch 68 = .ok (.invokestatic 44, 3) := by decide +kernel
theorem dX9_launch_71 : decode cX9_launch 71 = .ok (.ifCond .ne 9, 3) := by decide +kernel
theorem dX9_launch_74 : decode cX9_launch 74 = .ok (.aload_n 0, 1) := by decide +kernel
theorem dX9_launch_75 : decode cX9_launch 75 = .ok (.iconst 2, 1) := by decide +kernel
theorem dX9_launch_76 : decode cX9_launch 76 = .ok (.invokevirtual 73, 3) := by decide +kernel
theorem dX9_launch_79 : decode cX9_launch 79 = .ok (.ireturn, 1) := by decide +kernel
theorem dX9_launch_80 : decode cX9_launch 80 = .ok (.aload_n 0, 1) := by decide +kernel
theorem dX9_launch_81 : decode cX9_launch 81 = .ok (.getfield 51, 3) := by decide +kernel
theorem dX9_launch_84 : decode cX9_launch 84 = .ok (.bipush 6, 2) := by decide +kernel
theorem dX9_launch_86 : decode cX9_launch 86 = .ok (.if_icmp .ne 9, 3) := by decide +kernel
theorem dX9_launch_89 : decode cX9_launch 89 = .ok (.aload_n 0, 1) := by decide +kernel
theorem dX9_launch_90 : decode cX9_launch 90 = .ok (.iconst 3, 1) := by decide +kernel
theorem dX9_launch_91 : decode cX9_launch 91 = .ok (.invokevirtual 73, 3) := by decide +kernel
theorem dX9_launch_94 : decode cX9_launch 94 = .ok (.ireturn, 1) := by decide +kernel
theorem dX9_launch_95 : decode cX9_launch 95 = .ok (.bipush 6, 2) := by decide +kernel
theorem dX9_launch_97 : decode cX9_launch 97 = .ok (.newarray .int, 2) := by decide +kernel
theorem dX9_launch_99 : decode cX9_launch 99 = .ok (.dup, 1) := by decide +kernel
theorem dX9_launch_100 : decode cX9_launch 100 = .ok (.iconst 0, 1) := by decide +kernel
theorem dX9_launch_101 : decode cX9_launch 101 = .ok (.iload_n 1, 1) := by decide +kernel
theorem dX9_launch_102 : decode cX9_launch 102 = .ok (.iastore, 1) := by decide +kernel
theorem dX9_launch_103 : decode cX9_launch 103 = .ok (.dup, 1) := by decide +kernel
theorem dX9_launch_104 : decode cX9_launch 104 = .ok (.iconst 1, 1) := by decide +kernel
end
section
theorem dX9_launch_105 : decode cX9_launch 105 = .ok (.iload_n 2, 1) := by decide +kernel
theorem dX9_launch_106 : decode cX9_launch 106 = .ok (.iastore, 1) := by decide +kernel
theorem dX9_launch_107 : decode cX9_launch 107 = .ok (.dup, 1) := by decide +kernel
theorem dX9_launch_108 : decode cX9_launch 108 = .ok (.iconst 2, 1) := by decide +kernel
theorem dX9_launch_109 : decode cX9_launch 109 = .ok (.iload_n 3, 1) := by decide +kernel
theorem dX9_launch_110 : decode cX9_launch 110 = .ok (.iastore, 1) := by decide +kernel
theorem dX9_launch_111 : decode cX9_launch 111 = .ok (.dup, 1) := by decide +kernel
theorem dX9_launch_112 : decode cX9_launch 112 = .ok (.iconst 3, 1) := by decide +kernel
theorem dX9_launch_113 : decode cX9_launch 113 = .ok (.iload 4, 2) := by decide +kernel
theorem dX9_launch_115 : decode cX9_launch 115 = .ok (.iastore, 1) := by decide +kernel
theorem dX9_launch_116 : decode cX9_launch 116 = .ok (.dup, 1) := by decide +kernel
theorem dX9_launch_117 : decode cX9_launch 117 = .ok (.iconst 4, 1) := by decide +kernel
theorem dX9_launch_118 : decode cX9_launch 118 = .ok (.iload 5, 2) := by decide +kernel
theorem dX9_launch_120 : decode cX9_launch 120 = .ok (.iastore, 1) := by decide +kernel
theorem dX9_launch_121 : decode cX9_launch 121 = .ok (.dup, 1) := by decide +kernel
theorem dX9_launch_122 : decode cX9_launch 122 = .ok (.iconst 5, 1) := by decide +kernel
theorem dX9_launch_123 : decode cX9_launch 123 = .ok (.iload 6, 2) := by decide +kernel
theorem dX9_launch_125 : decode cX9_launch 125 = .ok (.iastore, 1) := by decide +kernel
theorem dX9_launch_126 : decode cX9_launch 126 = .ok (.astore 7, 2) := by decide +kernel
theorem dX9_launch_128 : decode cX9_launch 128 = .ok (.aload 7, 2) := by decide +kernel
theorem dX9_launch_130 : decode cX9_launch 130 = .ok (.iconst 0, 1) := by decide +kernel
theorem dX9_launch_131 : decode cX9_launch 131 = .ok (.aload_n 0, 1) := by decide +kernel
theorem dX9_launch_132 : decode cX9_launch 132 = .ok (.getfield 22, 3) := by decide +kernel
theorem dX9_launch_135 : decode cX9_launch 135 = .ok (.bipush 6, 2) := by decide +kernel
theorem dX9_launch_137 : decode cX9_launch 137 = .ok (.aload_n 0, 1) := by decide +kernel
theorem dX9_launch_138 : decode cX9_launch 138 = .ok (.getfield 51, 3) := by decide +kernel
theorem dX9_launch_141 : decode cX9_launch 141 = .ok (.imul, 1) := by decide +kernel
theorem dX9_launch_142 : decode cX9_launch 142 = .ok (.bipush 6, 2) := by decide +kernel
theorem dX9_launch_144 : decode cX9_launch 144 = .ok (.invokestatic 94, 3) := by decide +kernel
theorem dX9_launch_147 : decode cX9_launch 147 = .ok (.aload_n 0, 1) := by decide +kernel
theorem dX9_launch_148 : decode cX9_launch 148 = .ok (.aload_n 0, 1) := by decide +kernel
theorem dX9_launch_149 : decode cX9_launch 149 = .ok (.getfield 51, 3) := by decide +kernel
theorem dX9_launch_152 : decode cX9_launch 152 = .ok (.iconst 0, 1) := by decide +kernel
theorem dX9_launch_153 : decode cX9_launch 153 = .ok (.aload_n 0, 1) := by decide +kernel
theorem dX9_launch_154 : decode cX9_launch 154 = .ok (.getfield 19, 3) := by decide +kernel
theorem dX9_launch_157 : decode cX9_launch 157 = .ok (.iload_n 1, 1) := by decide +kernel
theorem dX9_launch_158 : decode cX9_launch 158 = .ok (.iaload, 1) := by decide +kernel
theorem dX9_launch_159 : decode cX9_launch 159 = .ok (.invokevirtual 100, 3) := by decide +kernel
theorem dX9_launch_162 : decode cX9_launch 162 = .ok (.aload_n 0, 1) := by decide +kernel
theorem dX9_launch_163 : decode cX9_launch 163 = .ok (.aload_n 0, 1) := by decide +kernel
theorem dX9_launch_164 : decode cX9_launch 164 = .ok (.getfield 51, 3) := by decide +kernel
theorem dX9_launch_167 : decode cX9_launch 167 = .ok (.iconst 1, 1) := by decide +kernel
theorem dX9_launch_168 : decode cX9_launch 168 = .ok (.iload_n 2, 1) := by decide +kernel
theorem dX9_launch_169 : decode cX9_launch 169 = .ok (.invokevirtual 100, 3) := by decide +kernel
theorem dX9_launch_172 : decode cX9_launch 172 = .ok (.aload_n 0, 1) := by decide +kernel
theorem dX9_launch_173 : decode cX9_launch 173 = .ok (.dup, 1) := by decide +kernel
theorem dX9_launch_174 : decode cX9_launch 174 = .ok (.getfield 51, 3) := by decide +kernel
theorem dX9_launch_177 : decode cX9_launch 177 = .ok (.iconst 1, 1) := by decide +kernel
theorem dX9_launch_178 : decode cX9_launch 178 = .ok (.iadd, 1) := by decide +kernel
theorem dX9_launch_179 : decode cX9_launch 179 = .ok (.putfield 51, 3) := by decide +kernel
theorem dX9_launch_182 : decode cX9_launch 182 = .ok (.aload_n 0, 1) := by decide +kernel
theorem dX9_launch_183 : decode cX9_launch 183 = .ok (.getfield 51, 3) := by decide +kernel
theorem dX9_launch_186 : decode cX9_launch 186 = .ok (.iconst 1, 1) := by decide +kernel
theorem dX9_launch_187 : decode cX9_launch 187 = .ok (.isub, 1) := by decide +kernel
theorem dX9_launch_188 : decode cX9_launch 188 = .ok (.ireturn, 1) := by decide +kernel
theorem dX9_setToll_0 : decode cX9_setToll 0 = .ok (.aload_n 0, 1) := by decide +kernel
theorem dX9_setToll_1 : decode cX9_setToll 1 = .ok (.iconst 0, 1) := by decide +kernel
theorem dX9_setToll_2 : decode cX9_setToll 2 = .ok (.putfield 40, 3) := by decide +kernel
theorem dX9_setToll_5 : decode cX9_setToll 5 = .ok (.aload_n 0, 1) := by decide +kernel
theorem dX9_setToll_6 : decode cX9_setToll 6 = .ok (.iload_n 1, 1) := by decide +kernel
theorem dX9_setToll_7 : decode cX9_setToll 7 = .ok (.invokevirtual 104, 3) := by decide +kernel
theorem dX9_setToll_10 : decode cX9_setToll 10 = .ok (.ifCond .ne 9, 3) := by decide +kernel
theorem dX9_setToll_13 : decode cX9_setToll 13 = .ok (.aload_n 0, 1) := by decide +kernel
theorem dX9_setToll_14 : decode cX9_setToll 14 = .ok (.iconst 1, 1) := by decide +kernel
theorem dX9_setToll_15 : decode cX9_setToll 15 = .ok (.invokevirtual 73, 3) := by decide +kernel
theorem dX9_setToll_18 : decode cX9_setToll 18 = .ok (.ireturn, 1) := by decide +kernel
theorem dX9_setToll_19 : decode cX9_setToll 19 = .ok (.iload_n 2, 1) := by decide +kernel
theorem dX9_setToll_20 : decode cX9_setToll 20 = .ok (.iconst 0, 1) := by decide +kernel
theorem dX9_setToll_21 : decode cX9_setToll 21 = .ok (.bipush 50, 2) := by decide +kernel
theorem dX9_setToll_23 : decode cX9_setToll 23 = .ok (.invokestatic 44, 3) := by decide +kernel
theorem dX9_setToll_26 : decode cX9_setToll 26 = .ok (.ifCond .ne 9, 3) := by decide +kernel
theorem dX9_setToll_29 : decode cX9_setToll 29 = .ok (.aload_n 0, 1) := by decide +kernel
theorem dX9_setToll_30 : decode cX9_setToll 30 = .ok (.iconst 2, 1) := by decide +kernel
theorem dX9_setToll_31 : decode cX9_setToll 31 = .ok (.invokevirtual 73, 3) := by decide +kernel
theorem dX9_setToll_34 : decode cX9_setToll 34 = .ok (.ireturn, 1) := by decide +kernel
theorem dX9_setToll_35 : decode cX9_setToll 35 = .ok (.aload_n 0, 1) := by decide +kernel
theorem dX9_setToll_36 : decode cX9_setToll 36 = .ok (.iload_n 1, 1) := by decide +kernel
theorem dX9_setToll_37 : decode cX9_setToll 37 = .ok (.iconst 5, 1) := by decide +kernel
theorem dX9_setToll_38 : decode cX9_setToll 38 = .ok (.invokevirtual 66, 3) := by decide +kernel
theorem dX9_setToll_41 : decode cX9_setToll 41 = .ok (.istore_n 3, 1) := by decide +kernel
theorem dX9_setToll_42 : decode cX9_setToll 42 = .ok (.aload_n 0, 1) := by decide +kernel
theorem dX9_setToll_43 : decode cX9_setToll 43 = .ok (.getfield 22, 3) := by decide +kernel
theorem dX9_setToll_46 : decode cX9_setToll 46 = .ok (.bipush 6, 2) := by decide +kernel
theorem dX9_setToll_48 : decode cX9_setToll 48 = .ok (.iload_n 1, 1) := by decide +kernel
theorem dX9_setToll_49 : decode cX9_setToll 49 = .ok (.imul, 1) := by decide +kernel
theorem dX9_setToll_50 : decode cX9_setToll 50 = .ok (.iconst 5, 1) := by decide +kernel
theorem dX9_setToll_51 : decode cX9_setToll 51 = .ok (.iadd, 1) := by decide +kernel
theorem dX9_setToll_52 : decode cX9_setToll 52 = .ok (.iload_n 2, 1) := by decide +kernel
theorem dX9_setToll_53 : decode cX9_setToll 53 = .ok (.iastore, 1) := by decide +kernel
theorem dX9_setToll_54 : decode cX9_setToll 54 = .ok (.iload_n 3, 1) := by decide +kernel
theorem dX9_setToll_55 : decode cX9_setToll 55 = .ok (.ireturn, 1) := by decide +kernel
theorem dX9_look_0 : decode cX9_look 0 = .ok (.iconst 0, 1) := by decide +kernel
theorem dX9_look_1 : decode cX9_look 1 = .ok (.istore 4, 2) := by decide +kernel
theorem dX9_look_3 : decode cX9_look 3 = .ok (.iload 4, 2) := by decide +kernel
theorem dX9_look_5 : decode cX9_look 5 = .ok (.sipush 196, 3) := by decide +kernel
theorem dX9_look_8 : decode cX9_look 8 = .ok (.if_icmp .ge 17, 3) := by decide +kernel
theorem dX9_look_11 : decode cX9_look 11 = .ok (.aload_n 0, 1) := by decide +kernel
theorem dX9_look_12 : decode cX9_look 12 = .ok (.getfield 31, 3) := by decide +kernel
theorem dX9_look_15 : decode cX9_look 15 = .ok (.iload 4, 2) := by decide +kernel
theorem dX9_look_17 : decode cX9_look 17 = .ok (.iconst (-1), 1) := by decide +kernel
theorem dX9_look_18 : decode cX9_look 18 = .ok (.iastore, 1) := by decide +kernel
theorem dX9_look_19 : decode cX9_look 19 = .ok (.iinc 4 1, 3) := by decide +kernel
theorem dX9_look_22 : decode cX9_look 22 = .ok (.goto (-19), 3) := by decide +kernel
theorem dX9_look_25 : decode cX9_look 25 = .ok (.aload_n 0, 1) := by decide +kernel
theorem dX9_look_26 : decode cX9_look 26 = .ok (.iload_n 1, 1) := by decide +kernel
theorem dX9_look_27 : decode cX9_look 27 = .ok (.iload_n 2, 1) := by decide +kernel
theorem dX9_look_28 : decode cX9_look 28 = .ok (.iload_n 3, 1) := by decide +kernel
theorem dX9_look_29 : decode cX9_look 29 = .ok (.invokevirtual 107, 3) := by decide +kernel
theorem dX9_look_32 : decode cX9_look 32 = .ok (.ifCond .ne 4, 3) := by decide +kernel
theorem dX9_look_35 : decode cX9_look 35 = .ok (.return_, 1) := by decide +kernel
theorem dX9_look_36 : decode cX9_look 36 = .ok (.aload_n 0, 1) := by decide +kernel
theorem dX9_look_37 : decode cX9_look 37 = .ok (.getfield 31, 3) := by decide +kernel
theorem dX9_look_40 : decode cX9_look 40 = .ok (.iload_n 2, 1) := by decide +kernel
theorem dX9_look_41 : decode cX9_look 41 = .ok (.iconst 0, 1) := by decide +kernel
theorem dX9_look_42 : decode cX9_look 42 = .ok (.iastore, 1) := by decide +kernel
theorem dX9_look_43 : decode cX9_look 43 = .ok (.iconst 1, 1) := by decide +kernel
theorem dX9_look_44 : decode cX9_look 44 = .ok (.istore 4, 2) := by decide +kernel
theorem dX9_look_46 : decode cX9_look 46 = .ok (.iconst 0, 1) := by decide +kernel
theorem dX9_look_47 : decode cX9_look 47 = .ok (.istore 5, 2) := by decide +kernel
theorem dX9_look_49 : decode cX9_look 49 = .ok (.iload 4, 2) := by decide +kernel
theorem dX9_look_51 : decode cX9_look 51 = .ok (.ifCond .eq 113, 3) := by decide +kernel
theorem dX9_look_54 : decode cX9_look 54 = .ok (.iconst 0, 1) := by decide +kernel
theorem dX9_look_55 : decode cX9_look 55 = .ok (.istore 4, 2) := by decide +kernel
theorem dX9_look_57 : decode cX9_look 57 = .ok (.iconst 0, 1) := by decide +kernel
theorem dX9_look_58 : decode cX9_look 58 = .ok (.istore 6, 2) := by decide +kernel
theorem dX9_look_60 : decode cX9_look 60 = .ok (.iload 6, 2) := by decide +kernel
theorem dX9_look_62 : decode cX9_look 62 = .ok (.sipush 196, 3) := by decide +kernel
theorem dX9_look_65 : decode cX9_look 65 = .ok (.if_icmp .ge 93, 3) := by decide +kernel
theorem dX9_look_68 : decode cX9_look 68 = .ok (.aload_n 0, 1) := by decide +kernel
theorem dX9_look_69 : decode cX9_look 69 = .ok (.getfield 31, 3) := by decide +kernel
theorem dX9_look_72 : decode cX9_look 72 = .ok (.iload 6, 2) := by decide +kernel
theorem dX9_look_74 : decode cX9_look 74 = .ok (.iaload, 1) := by decide +kernel
theorem dX9_look_75 : decode cX9_look 75 = .ok (.iload 5, 2) := by decide +kernel
theorem dX9_look_77 : decode cX9_look 77 = .ok (.if_icmp .eq 6, 3) := by decide +kernel
theorem dX9_look_80 : decode cX9_look 80 = .ok (.goto 72, 3) := by decide +kernel
theorem dX9_look_83 : decode cX9_look 83 = .ok (.iconst 0, 1) := by decide +kernel
theorem dX9_look_84 : decode cX9_look 84 = .ok (.istore 7, 2) := by decide +kernel
theorem dX9_look_86 : decode cX9_look 86 = .ok (.iload 7, 2) := by decide +kernel
theorem dX9_look_88 : decode cX9_look 88 = .ok (.iconst 4, 1) := by decide +kernel
theorem dX9_look_89 : decode cX9_look 89 = .ok (.if_icmp .ge 63, 3) := by decide +kernel
theorem dX9_look_92 : decode cX9_look 92 = .ok (.iload 6, 2) := by decide +kernel
theorem dX9_look_94 : decode cX9_look 94 = .ok (.iload 7, 2) := by decide +kernel
theorem dX9_look_96 : decode cX9_look 96 = .ok (.invokestatic 110, 3) := by decide +kernel
theorem dX9_look_99 : decode cX9_look 99 = .ok (.istore 8, 2) := by decide +kernel
theorem dX9_look_101 : decode cX9_look 101 = .ok (.iload 8, 2) := by decide +kernel
theorem dX9_look_103 : decode cX9_look 103 = .ok (.iconst (-1), 1) := by decide +kernel
theorem dX9_look_104 : decode cX9_look 104 = .ok (.if_icmp .eq 42, 3) := by decide +kernel
theorem dX9_look_107 : decode cX9_look 107 = .ok (.aload_n 0, 1) := by decide +kernel
theorem dX9_look_108 : decode cX9_look 108 = .ok (.getfield 31, 3) := by decide +kernel
theorem dX9_look_111 : decode cX9_look 111 = .ok (.iload 8, 2) := by decide +kernel
theorem dX9_look_113 : decode cX9_look 113 = .ok (.iaload, 1) := by decide +kernel
theorem dX9_look_114 : decode cX9_look 114 = .ok (.iconst (-1), 1) := by decide +kernel
theorem dX9_look_115 : decode cX9_look 115 = .ok (.if_icmp .ne 31, 3) := by decide +kernel
theorem dX9_look_118 : decode cX9_look 118 = .ok (.aload_n 0, 1) := by decide +kernel
theorem dX9_look_119 : decode cX9_look 119 = .ok (.iload_n 1, 1) := by decide +kernel
theorem dX9_look_120 : decode cX9_look 120 = .ok (.iload 8, 2) := by decide +kernel
theorem dX9_look_122 : decode cX9_look 122 = .ok (.iload_n 3, 1) := by decide +kernel
theorem dX9_look_123 : decode cX9_look 123 = .ok (.invokevirtual 107, 3) := by decide +kernel
theorem dX9_look_126 : decode cX9_look 126 = .ok (.ifCond .ne 6, 3) := by decide +kernel
theorem dX9_look_129 : decode cX9_look 129 = .ok (.goto 17, 3) := by decide +kernel
theorem dX9_look_132 : decode cX9_look 132 = .ok (.aload_n 0, 1) := by decide +kernel
theorem dX9_look_133 : decode cX9_look 133 = .ok (.getfield 31, 3) := by decide +kernel
theorem dX9_look_136 : decode cX9_look 136 = .ok (.iload 8, 2) := by decide +kernel
theorem dX9_look_138 : decode cX9_look 138 = .ok (.iload 5, 2) := by decide +kernel
theorem dX9_look_140 : decode cX9_look 140 = .ok (.iconst 1, 1) := by decide +kernel
theorem dX9_look_141 : decode cX9_look 141 = .ok (.iadd, 1) := by decide +kernel
theorem dX9_look_142 : decode cX9_look 142 = .ok (.iastore, 1) := by decide +kernel
theorem dX9_look_143 : decode cX9_look 143 = .ok (.iconst 1, 1) := by decide +kernel
theorem dX9_look_144 : decode cX9_look 144 = .ok (.istore 4, 2) := by decide +kernel
theorem dX9_look_146 : decode cX9_look 146 = .ok (.iinc 7 1, 3) := by decide +kernel
theorem dX9_look_149 : decode cX9_look 149 = .ok (.goto (-63), 3) := by decide +kernel
theorem dX9_look_152 : decode cX9_look 152 = .ok (.iinc 6 1, 3) := by decide +kernel
theorem dX9_look_155 : decode cX9_look 155 = .ok (.goto (-95), 3) := by decide +kernel
theorem dX9_look_158 : decode cX9_look 158 = .ok (.iinc 5 1, 3) := by decide +kernel
theorem dX9_look_161 : decode cX9_look 161 = .ok (.goto (-112), 3) := by decide +kernel
theorem dX9_look_164 : decode cX9_look 164 = .ok (.return_, 1) := by decide +kernel
theorem dX9_boundCell_0 : decode cX9_boundCell 0 = .ok (.aload_n 0, 1) := by decide +kernel
theorem dX9_boundCell_1 : decode cX9_boundCell 1 = .ok (.getfield 19, 3) := by decide +kernel
theorem dX9_boundCell_4 : decode cX9_boundCell 4 = .ok (.aload_n 0, 1) := by decide +kernel
theorem dX9_boundCell_5 : decode cX9_boundCell 5 = .ok (.iload_n 1, 1) := by decide +kernel
theorem dX9_boundCell_6 : decode cX9_boundCell 6 = .ok (.iconst 1, 1) := by decide +kernel
theorem dX9_boundCell_7 : decode cX9_boundCell 7 = .ok (.invokevirtual 77, 3) := by decide +kernel
theorem dX9_boundCell_10 : decode cX9_boundCell 10 = .ok (.iaload, 1) := by decide +kernel
theorem dX9_boundCell_11 : decode cX9_boundCell 11 = .ok (.ireturn, 1) := by decide +kernel
theorem dX9_isAground_0 : decode cX9_isAground 0 = .ok (.aload_n 0, 1) := by decide +kernel
theorem dX9_isAground_1 : decode cX9_isAground 1 = .ok (.iload_n 1, 1) := by decide +kernel
theorem dX9_isAground_2 : decode cX9_isAground 2 = .ok (.aload_n 0, 1) := by decide +kernel
theorem dX9_isAground_3 : decode cX9_isAground 3 = .ok (.iload_n 1, 1) := by decide +kernel
theorem dX9_isAground_4 : decode cX9_isAground 4 = .ok (.iconst 0, 1) := by decide +kernel
theorem dX9_isAground_5 : decode cX9_isAground 5 = .ok (.invokevirtual 77, 3) := by decide +kernel
theorem dX9_isAground_8 : decode cX9_isAground 8 = .ok (.aload_n 0, 1) := by decide +kernel
theorem dX9_isAground_9 : decode cX9_isAground 9 = .ok (.invokevirtual 80, 3) := by decide +kernel
theorem dX9_isAground_12 : decode cX9_isAground 12 = .ok (.invokevirtual 107, 3) := by decide +kernel
theorem dX9_isAground_15 : decode cX9_isAground 15 = .ok (.ifCond .ne 7, 3) := by decide +kernel
theorem dX9_isAground_18 : decode cX9_isAground 18 = .ok (.iconst 1, 1) := by decide +kernel
theorem dX9_isAground_19 : decode cX9_isAground 19 = .ok (.goto 4, 3) := by decide +kernel
theorem dX9_isAground_22 : decode cX9_isAground 22 = .ok (.iconst 0, 1) := by decide +kernel
theorem dX9_isAground_23 : decode cX9_isAground 23 = .ok (.ireturn, 1) := by decide +kernel
theorem dX9_ridersOf_0 : decode cX9_ridersOf 0 = .ok (.iconst 0, 1) := by decide +kernel
theorem dX9_ridersOf_1 : decode cX9_ridersOf 1 = .ok (.istore_n 2, 1) := by decide +kernel
theorem dX9_ridersOf_2 : decode cX9_ridersOf 2 = .ok (.iconst 0, 1) := by decide +kernel
theorem dX9_ridersOf_3 : decode cX9_ridersOf 3 = .ok (.istore_n 3, 1) := by decide +kernel
theorem dX9_ridersOf_4 : decode cX9_ridersOf 4 = .ok (.iload_n 3, 1) := by decide +kernel
theorem dX9_ridersOf_5 : decode cX9_ridersOf 5 = .ok (.aload_n 0, 1) := by decide +kernel
theorem dX9_ridersOf_6 : decode cX9_ridersOf 6 = .ok (.getfield 113, 3) := by decide +kernel
theorem dX9_ridersOf_9 : decode cX9_ridersOf 9 = .ok (.if_icmp .ge 27, 3) := by decide +kernel
theorem dX9_ridersOf_12 : decode cX9_ridersOf 12 = .ok (.iload_n 2, 1) := by decide +kernel
theorem dX9_ridersOf_13 : decode cX9_ridersOf 13 = .ok (.aload_n 0, 1) := by decide +kernel
theorem dX9_ridersOf_14 : decode cX9_ridersOf 14 = .ok (.iload_n 3, 1) := by decide +kernel
theorem dX9_ridersOf_15 : decode cX9_ridersOf 15 = .ok (.iconst 3, 1) := by decide +kernel
theorem dX9_ridersOf_16 : decode cX9_ridersOf 16 = .ok (.invokevirtual 116, 3) := by decide +kernel
theorem dX9_ridersOf_19 : decode cX9_ridersOf 19 = .ok (.iload_n 1, 1) := by decide +kernel
theorem dX9_ridersOf_20 : decode cX9_ridersOf 20 = .ok (.if_icmp .ne 7, 3) := by decide +kernel
theorem dX9_ridersOf_23 : decode cX9_ridersOf 23 = .ok (.iconst 1, 1) := by decide +kernel
theorem dX9_ridersOf_24 : decode cX9_ridersOf 24 = .ok (.goto 4, 3) := by decide +kernel
theorem dX9_ridersOf_27 : decode cX9_ridersOf 27 = .ok (.iconst 0, 1) := by decide +kernel
theorem dX9_ridersOf_28 : decode cX9_ridersOf 28 = .ok (.iadd, 1) := by decide +kernel
theorem dX9_ridersOf_29 : decode cX9_ridersOf 29 = .ok (.istore_n 2, 1) := by decide +kernel
theorem dX9_ridersOf_30 : decode cX9_ridersOf 30 = .ok (.iinc 3 1, 3) := by decide +kernel
theorem dX9_ridersOf_33 : decode cX9_ridersOf 33 = .ok (.goto (-29), 3) := by decide +kernel
theorem dX9_ridersOf_36 : decode cX9_ridersOf 36 = .ok (.iload_n 2, 1) := by decide +kernel
theorem dX9_ridersOf_37 : decode cX9_ridersOf 37 = .ok (.ireturn, 1) := by decide +kernel
theorem dX9_puntTold_0 : decode cX9_puntTold 0 = .ok (.iload_n 2, 1) := by decide +kernel
theorem dX9_puntTold_1 : decode cX9_puntTold 1 = .ok (.tableswitch 134 0 7 #[47, 57, 67, 74, 80, 87, 101, 127], 47) := by decide +kernel
theorem dX9_puntTold_48 : decode cX9_puntTold 48 = .ok (.aload_n 0, 1) := by decide +kernel
theorem dX9_puntTold_49 : decode cX9_puntTold 49 = .ok (.iload_n 1, 1) := by decide +kernel
theorem dX9_puntTold_50 : decode cX9_puntTold 50 = .ok (.iconst 0, 1) := by decide +kernel
theorem dX9_puntTold_51 : decode cX9_puntTold 51 = .ok (.invokevirtual 77, 3) := by decide +kernel
theorem dX9_puntTold_54 : decode cX9_puntTold 54 = .ok (.bipush 14, 2) := by decide +kernel
theorem dX9_puntTold_56 : decode cX9_puntTold 56 = .ok (.irem, 1) := by decide +kernel
theorem dX9_puntTold_57 : decode cX9_puntTold 57 = .ok (.ireturn, 1) := by decide +kernel
theorem dX9_puntTold_58 : decode cX9_puntTold 58 = .ok (.aload_n 0, 1) := by decide +kernel
theorem dX9_puntTold_59 : decode cX9_puntTold 59 = .ok (.iload_n 1, 1) := by decide +kernel
theorem dX9_puntTold_60 : decode cX9_puntTold 60 = .ok (.iconst 0, 1) := by decide +kernel
theorem dX9_puntTold_61 : decode cX9_puntTold 61 = .ok (.invokevirtual 77, 3) := by decide +kernel
theorem dX9_puntTold_64 : decode cX9_puntTold 64 = .ok (.bipush 14, 2) := by decide +kernel
theorem dX9_puntTold_66 : decode cX9_puntTold 66 = .ok (.idiv, 1) := by decide +kernel
theorem dX9_puntTold_67 : decode cX9_puntTold 67 = .ok (.ireturn, 1) := by decide +kernel
theorem dX9_puntTold_68 : decode cX9_puntTold 68 = .ok (.aload_n 0, 1) := by decide +kernel
theorem dX9_puntTold_69 : decode cX9_puntTold 69 = .ok (.iload_n 1, 1) := by decide +kernel
theorem dX9_puntTold_70 : decode cX9_puntTold 70 = .ok (.iconst 1, 1) := by decide +kernel
theorem dX9_puntTold_71 : decode cX9_puntTold 71 = .ok (.invokevirtual 77, 3) := by decide +kernel
theorem dX9_puntTold_74 : decode cX9_puntTold 74 = .ok (.ireturn, 1) := by decide +kernel
theorem dX9_puntTold_75 : decode cX9_puntTold 75 = .ok (.aload_n 0, 1) := by decide +kernel
theorem dX9_puntTold_76 : decode cX9_puntTold 76 = .ok (.iload_n 1, 1) := by decide +kernel
theorem dX9_puntTold_77 : decode cX9_puntTold 77 = .ok (.invokevirtual 119, 3) := by decide +kernel
theorem dX9_puntTold_80 : decode cX9_puntTold 80 = .ok (.ireturn, 1) := by decide +kernel
theorem dX9_puntTold_81 : decode cX9_puntTold 81 = .ok (.aload_n 0, 1) := by decide +kernel
theorem dX9_puntTold_82 : decode cX9_puntTold 82 = .ok (.iload_n 1, 1) := by decide +kernel
theorem dX9_puntTold_83 : decode cX9_puntTold 83 = .ok (.iconst 5, 1) := by decide +kernel
theorem dX9_puntTold_84 : decode cX9_puntTold 84 = .ok (.invokevirtual 66, 3) := by decide +kernel
theorem dX9_puntTold_87 : decode cX9_puntTold 87 = .ok (.ireturn, 1) := by decide +kernel
theorem dX9_puntTold_88 : decode cX9_puntTold 88 = .ok (.aload_n 0, 1) := by decide +kernel
theorem dX9_puntTold_89 : decode cX9_puntTold 89 = .ok (.iload_n 1, 1) := by decide +kernel
theorem dX9_puntTold_90 : decode cX9_puntTold 90 = .ok (.invokevirtual 122, 3) := by decide +kernel
theorem dX9_puntTold_93 : decode cX9_puntTold 93 = .ok (.ifCond .eq 7, 3) := by decide +kernel
theorem dX9_puntTold_96 : decode cX9_puntTold 96 = .ok (.iconst 1, 1) := by decide +kernel
theorem dX9_puntTold_97 : decode cX9_puntTold 97 = .ok (.goto 4, 3) := by decide +kernel
theorem dX9_puntTold_100 : decode cX9_puntTold 100 = .ok (.iconst 0, 1) := by decide +kernel
theorem dX9_puntTold_101 : decode cX9_puntTold 101 = .ok (.ireturn, 1) := by decide +kernel
theorem dX9_puntTold_102 : decode cX9_puntTold 102 = .ok (.aload_n 0, 1) := by decide +kernel
theorem dX9_puntTold_103 : decode cX9_puntTold 103 = .ok (.iload_n 1, 1) := by decide +kernel
theorem dX9_puntTold_104 : decode cX9_puntTold 104 = .ok (.aload_n 0, 1) := by decide +kernel
theorem dX9_puntTold_105 : decode cX9_puntTold 105 = .ok (.iload_n 1, 1) := by decide +kernel
theorem dX9_puntTold_106 : decode cX9_puntTold 106 = .ok (.invokevirtual 125, 3) := by decide +kernel
theorem dX9_puntTold_109 : decode cX9_puntTold 109 = .ok (.aload_n 0, 1) := by decide +kernel
theorem dX9_puntTold_110 : decode cX9_puntTold 110 = .ok (.invokevirtual 80, 3) := by decide +kernel
theorem dX9_puntTold_113 : decode cX9_puntTold 113 = .ok (.invokevirtual 128, 3) := by decide +kernel
theorem dX9_puntTold_116 : decode cX9_puntTold 116 = .ok (.aload_n 0, 1) := by decide +kernel
theorem dX9_puntTold_117 : decode cX9_puntTold 117 = .ok (.getfield 31, 3) := by decide +kernel
theorem dX9_puntTold_120 : decode cX9_puntTold 120 = .ok (.aload_n 0, 1) := by decide +kernel
theorem dX9_puntTold_121 : decode cX9_puntTold 121 = .ok (.iload_n 1, 1) := by decide +kernel
theorem dX9_puntTold_122 : decode cX9_puntTold 122 = .ok (.iconst 0, 1) := by decide +kernel
theorem dX9_puntTold_123 : decode cX9_puntTold 123 = .ok (.invokevirtual 77, 3) := by decide +kernel
theorem dX9_puntTold_126 : decode cX9_puntTold 126 = .ok (.iaload, 1) := by decide +kernel
theorem dX9_puntTold_127 : decode cX9_puntTold 127 = .ok (.ireturn, 1) := by decide +kernel
theorem dX9_puntTold_128 : decode cX9_puntTold 128 = .ok (.aload_n 0, 1) := by decide +kernel
theorem dX9_puntTold_129 : decode cX9_puntTold 129 = .ok (.iload_n 1, 1) := by decide +kernel
theorem dX9_puntTold_130 : decode cX9_puntTold 130 = .ok (.iconst 2, 1) := by decide +kernel
theorem dX9_puntTold_131 : decode cX9_puntTold 131 = .ok (.invokevirtual 77, 3) := by decide +kernel
theorem dX9_puntTold_134 : decode cX9_puntTold 134 = .ok (.ireturn, 1) := by decide +kernel
theorem dX9_puntTold_135 : decode cX9_puntTold 135 = .ok (.aload_n 0, 1) := by decide +kernel
theorem dX9_puntTold_136 : decode cX9_puntTold 136 = .ok (.iload_n 1, 1) := by decide +kernel
theorem dX9_puntTold_137 : decode cX9_puntTold 137 = .ok (.iconst 3, 1) := by decide +kernel
theorem dX9_puntTold_138 : decode cX9_puntTold 138 = .ok (.invokevirtual 77, 3) := by decide +kernel
theorem dX9_puntTold_141 : decode cX9_puntTold 141 = .ok (.ireturn, 1) := by decide +kernel
theorem dX9_punt_0 : decode cX9_punt 0 = .ok (.aload_n 0, 1) := by decide +kernel
theorem dX9_punt_1 : decode cX9_punt 1 = .ok (.iconst 0, 1) := by decide +kernel
theorem dX9_punt_2 : decode cX9_punt 2 = .ok (.putfield 40, 3) := by decide +kernel
theorem dX9_punt_5 : decode cX9_punt 5 = .ok (.aload_n 0, 1) := by decide +kernel
theorem dX9_punt_6 : decode cX9_punt 6 = .ok (.iload_n 1, 1) := by decide +kernel
theorem dX9_punt_7 : decode cX9_punt 7 = .ok (.invokevirtual 104, 3) := by decide +kernel
theorem dX9_punt_10 : decode cX9_punt 10 = .ok (.ifCond .eq 22, 3) := by decide +kernel
theorem dX9_punt_13 : decode cX9_punt 13 = .ok (.iload_n 2, 1) := by decide +kernel
theorem dX9_punt_14 : decode cX9_punt 14 = .ok (.iconst 0, 1) := by decide +kernel
theorem dX9_punt_15 : decode cX9_punt 15 = .ok (.bipush 8, 2) := by decide +kernel
theorem dX9_punt_17 : decode cX9_punt 17 = .ok (.invokestatic 44, 3) := by decide +kernel
theorem dX9_punt_20 : decode cX9_punt 20 = .ok (.ifCond .eq 12, 3) := by decide +kernel
theorem dX9_punt_23 : decode cX9_punt 23 = .ok (.aload_n 0, 1) := by decide +kernel
theorem dX9_punt_24 : decode cX9_punt 24 = .ok (.iload_n 1, 1) := by decide +kernel
theorem dX9_punt_25 : decode cX9_punt 25 = .ok (.iload_n 2, 1) := by decide +kernel
theorem dX9_punt_26 : decode cX9_punt 26 = .ok (.invokevirtual 131, 3) := by decide +kernel
theorem dX9_punt_29 : decode cX9_punt 29 = .ok (.goto 8, 3) := by decide +kernel
theorem dX9_punt_32 : decode cX9_punt 32 = .ok (.aload_n 0, 1) := by decide +kernel
theorem dX9_punt_33 : decode cX9_punt 33 = .ok (.iconst 1, 1) := by decide +kernel
theorem dX9_punt_34 : decode cX9_punt 34 = .ok (.invokevirtual 73, 3) := by decide +kernel
theorem dX9_punt_37 : decode cX9_punt 37 = .ok (.ireturn, 1) := by decide +kernel
theorem dX9_addTraveller_0 : decode cX9_addTraveller 0 = .ok (.aload_n 0, 1) := by decide +kernel
theorem dX9_addTraveller_1 : decode cX9_addTraveller 1 = .ok (.iconst 0, 1) := by decide +kernel
theorem dX9_addTraveller_2 : decode cX9_addTraveller 2 = .ok (.putfield 40, 3) := by decide +kernel
theorem dX9_addTraveller_5 : decode cX9_addTraveller 5 = .ok (.aload_n 0, 1) := by decide +kernel
theorem dX9_addTraveller_6 : decode cX9_addTraveller 6 = .ok (.iload_n 1, 1) := by decide +kernel
theorem dX9_addTraveller_7 : decode cX9_addTraveller 7 = .ok (.invokevirtual 90, 3) := by decide +kernel
theorem dX9_addTraveller_10 : decode cX9_addTraveller 10 = .ok (.ifCond .eq 11, 3) := by decide +kernel
theorem dX9_addTraveller_13 : decode cX9_addTraveller 13 = .ok (.aload_n 0, 1) := by decide +kernel
theorem dX9_addTraveller_14 : decode cX9_addTraveller 14 = .ok (.iload_n 2, 1) := by decide +kernel
theorem dX9_addTraveller_15 : decode cX9_addTraveller 15 = .ok (.invokevirtual 90, 3) := by decide +kernel
theorem dX9_addTraveller_18 : decode cX9_addTraveller 18 = .ok (.ifCond .ne 9, 3) := by decide +kernel
theorem dX9_addTraveller_21 : decode cX9_addTraveller 21 = .ok (.aload_n 0, 1) := by decide +kernel
theorem dX9_addTraveller_22 : decode cX9_addTraveller 22 = .ok (.iconst 1, 1) := by decide +kernel
theorem dX9_addTraveller_23 : decode cX9_addTraveller 23 = .ok (.invokevirtual 73, 3) := by decide +kernel
theorem dX9_addTraveller_26 : decode cX9_addTraveller 26 = .ok (.ireturn, 1) := by decide +kernel
theorem dX9_addTraveller_27 : decode cX9_addTraveller 27 = .ok (.iload_n 1, 1) := by decide +kernel
theorem dX9_addTraveller_28 : decode cX9_addTraveller 28 = .ok (.iload_n 2, 1) := by decide +kernel
theorem dX9_addTraveller_29 : decode cX9_addTraveller 29 = .ok (.if_icmp .eq 14, 3) := by decide +kernel
theorem dX9_addTraveller_32 : decode cX9_addTraveller 32 = .ok (.iload_n 3, 1) := by decide +kernel
theorem dX9_addTraveller_33 : decode cX9_addTraveller 33 = .ok (.iconst 0, 1) := by decide +kernel
theorem dX9_addTraveller_34 : decode cX9_addTraveller 34 = .ok (.sipush 1000, 3) := by decide +kernel
theorem dX9_addTraveller_37 : decode cX9_addTraveller 37 = .ok (.invokestatic 44, 3) := by decide +kernel
theorem dX9_addTraveller_40 : decode cX9_addTraveller 40 = .ok (.ifCond .ne 9, 3) := by decide +kernel
theorem dX9_addTraveller_43 : decode cX9_addTraveller 43 = .ok (.aload_n 0, 1) := by decide +kernel
theorem dX9_addTraveller_44 : decode cX9_addTraveller 44 = .ok (.iconst 2, 1) := by decide +kernel
theorem dX9_addTraveller_45 : decode cX9_addTraveller 45 = .ok (.invokevirtual 73, 3) := by decide +kernel
theorem dX9_addTraveller_48 : decode cX9_addTraveller 48 = .ok (.ireturn, 1) := by decide +kernel
theorem dX9_addTraveller_49 : decode cX9_addTraveller 49 = .ok (.aload_n 0, 1) := by decide +kernel
theorem dX9_addTraveller_50 : decode cX9_addTraveller 50 = .ok (.getfield 113, 3) := by decide +kernel
theorem dX9_addTraveller_53 : decode cX9_addTraveller 53 = .ok (.bipush 30, 2) := by decide +kernel
theorem dX9_addTraveller_55 : decode cX9_addTraveller 55 = .ok (.if_icmp .ne 9, 3) := by decide +kernel
theorem dX9_addTraveller_58 : decode cX9_addTraveller 58 = .ok (.aload_n 0, 1) := by decide +kernel
theorem dX9_addTraveller_59 : decode cX9_addTraveller 59 = .ok (.iconst 3, 1) := by decide +kernel
theorem dX9_addTraveller_60 : decode cX9_addTraveller 60 = .ok (.invokevirtual 73, 3) := by decide +kernel
theorem dX9_addTraveller_63 : decode cX9_addTraveller 63 = .ok (.ireturn, 1) := by decide +kernel
theorem dX9_addTraveller_64 : decode cX9_addTraveller 64 = .ok (.iconst 5, 1) := by decide +kernel
theorem dX9_addTraveller_65 : decode cX9_addTraveller 65 = .ok (.newarray .int, 2) := by decide +kernel
theorem dX9_addTraveller_67 : decode cX9_addTraveller 67 = .ok (.dup, 1) := by decide +kernel
theorem dX9_addTraveller_68 : decode cX9_addTraveller 68 = .ok (.iconst 0, 1) := by decide +kernel
theorem dX9_addTraveller_69 : decode cX9_addTraveller 69 = .ok (.iload_n 2, 1) := by decide +kernel
theorem dX9_addTraveller_70 : decode cX9_addTraveller 70 = .ok (.iastore, 1) := by decide +kernel
theorem dX9_addTraveller_71 : decode cX9_addTraveller 71 = .ok (.dup, 1) := by decide +kernel
theorem dX9_addTraveller_72 : decode cX9_addTraveller 72 = .ok (.iconst 1, 1) := by decide +kernel
theorem dX9_addTraveller_73 : decode cX9_addTraveller 73 = .ok (.iload_n 3, 1) := by decide +kernel
theorem dX9_addTraveller_74 : decode cX9_addTraveller 74 = .ok (.iastore, 1) := by decide +kernel
theorem dX9_addTraveller_75 : decode cX9_addTraveller 75 = .ok (.dup, 1) := by decide +kernel
theorem dX9_addTraveller_76 : decode cX9_addTraveller 76 = .ok (.iconst 2, 1) := by decide +kernel
theorem dX9_addTraveller_77 : decode cX9_addTraveller 77 = .ok (.iload_n 1, 1) := by decide +kernel
theorem dX9_addTraveller_78 : decode cX9_addTraveller 78 = .ok (.iastore, 1) := by decide +kernel
theorem dX9_addTraveller_79 : decode cX9_addTraveller 79 = .ok (.dup, 1) := by decide +kernel
theorem dX9_addTraveller_80 : decode cX9_addTraveller 80 = .ok (.iconst 3, 1) := by decide +kernel
theorem dX9_addTraveller_81 : decode cX9_addTraveller 81 = .ok (.iconst (-1), 1) := by decide +kernel
theorem dX9_addTraveller_82 : decode cX9_addTraveller 82 = .ok (.iastore, 1) := by decide +kernel
theorem dX9_addTraveller_83 : decode cX9_addTraveller 83 = .ok (.dup, 1) := by decide +kernel
theorem dX9_addTraveller_84 : decode cX9_addTraveller 84 = .ok (.iconst 4, 1) := by decide +kernel
theorem dX9_addTraveller_85 : decode cX9_addTraveller 85 = .ok (.iconst (-1), 1) := by decide +kernel
theorem dX9_addTraveller_86 : decode cX9_addTraveller 86 = .ok (.iastore, 1) := by decide +kernel
theorem dX9_addTraveller_87 : decode cX9_addTraveller 87 = .ok (.astore 4, 2) := by decide +kernel
theorem dX9_addTraveller_89 : decode cX9_addTraveller 89 = .ok (.aload 4, 2) := by decide +kernel
theorem dX9_addTraveller_91 : decode cX9_addTraveller 91 = .ok (.iconst 0, 1) := by decide +kernel
theorem dX9_addTraveller_92 : decode cX9_addTraveller 92 = .ok (.aload_n 0, 1) := by decide +kernel
theorem dX9_addTraveller_93 : decode cX9_addTraveller 93 = .ok (.getfield 28, 3) := by decide +kernel
theorem dX9_addTraveller_96 : decode cX9_addTraveller 96 = .ok (.iconst 5, 1) := by decide +kernel
theorem dX9_addTraveller_97 : decode cX9_addTraveller 97 = .ok (.aload_n 0, 1) := by decide +kernel
theorem dX9_addTraveller_98 : decode cX9_addTraveller 98 = .ok (.getfield 113, 3) := by decide +kernel
theorem dX9_addTraveller_101 : decode cX9_addTraveller 101 = .ok (.imul, 1) := by decide +kernel
theorem dX9_addTraveller_102 : decode cX9_addTraveller 102 = .ok (.iconst 5, 1) := by decide +kernel
theorem dX9_addTraveller_103 : decode cX9_addTraveller 103 = .ok (.invokestatic 94, 3) := by decide +kernel
theorem dX9_addTraveller_106 : decode cX9_addTraveller 106 = .ok (.aload_n 0, 1) := by decide +kernel
theorem dX9_addTraveller_107 : decode cX9_addTraveller 107 = .ok (.dup, 1) := by decide +kernel
theorem dX9_addTraveller_108 : decode cX9_addTraveller 108 = .ok (.getfield 113, 3) := by decide +kernel
theorem dX9_addTraveller_111 : decode cX9_addTraveller 111 = .ok (.iconst 1, 1) := by decide +kernel
theorem dX9_addTraveller_112 : decode cX9_addTraveller 112 = .ok (.iadd, 1) := by decide +kernel
theorem dX9_addTraveller_113 : decode cX9_addTraveller 113 = .ok (.putfield 113, 3) := by decide +kernel
theorem dX9_addTraveller_116 : decode cX9_addTraveller 116 = .ok (.aload_n 0, 1) := by decide +kernel
theorem dX9_addTraveller_117 : decode cX9_addTraveller 117 = .ok (.getfield 113, 3) := by decide +kernel
theorem dX9_addTraveller_120 : decode cX9_addTraveller 120 = .ok (.iconst 1, 1) := by decide +kernel
theorem dX9_addTraveller_121 : decode cX9_addTraveller 121 = .ok (.isub, 1) := by decide +kernel
theorem dX9_addTraveller_122 : decode cX9_addTraveller 122 = .ok (.ireturn, 1) := by decide +kernel
theorem dX9_across_0 : decode cX9_across 0 = .ok (.aload_n 0, 1) := by decide +kernel
theorem dX9_across_1 : decode cX9_across 1 = .ok (.iload_n 1, 1) := by decide +kernel
theorem dX9_across_2 : decode cX9_across 2 = .ok (.iconst 0, 1) := by decide +kernel
theorem dX9_across_3 : decode cX9_across 3 = .ok (.invokevirtual 66, 3) := by decide +kernel
theorem dX9_across_6 : decode cX9_across 6 = .ok (.iload_n 2, 1) := by decide +kernel
theorem dX9_across_7 : decode cX9_across 7 = .ok (.if_icmp .ne 12, 3) := by decide +kernel
theorem dX9_across_10 : decode cX9_across 10 = .ok (.aload_n 0, 1) := by decide +kernel
theorem dX9_across_11 : decode cX9_across 11 = .ok (.iload_n 1, 1) := by decide +kernel
theorem dX9_across_12 : decode cX9_across 12 = .ok (.iconst 1, 1) := by decide +kernel
theorem dX9_across_13 : decode cX9_across 13 = .ok (.invokevirtual 66, 3) := by decide +kernel
theorem dX9_across_16 : decode cX9_across 16 = .ok (.goto 23, 3) := by decide +kernel
theorem dX9_across_19 : decode cX9_across 19 = .ok (.aload_n 0, 1) := by decide +kernel
theorem dX9_across_20 : decode cX9_across 20 = .ok (.iload_n 1, 1) := by decide +kernel
theorem dX9_across_21 : decode cX9_across 21 = .ok (.iconst 1, 1) := by decide +kernel
theorem dX9_across_22 : decode cX9_across 22 = .ok (.invokevirtual 66, 3) := by decide +kernel
theorem dX9_across_25 : decode cX9_across 25 = .ok (.iload_n 2, 1) := by decide +kernel
theorem dX9_across_26 : decode cX9_across 26 = .ok (.if_icmp .ne 12, 3) := by decide +kernel
theorem dX9_across_29 : decode cX9_across 29 = .ok (.aload_n 0, 1) := by decide +kernel
theorem dX9_across_30 : decode cX9_across 30 = .ok (.iload_n 1, 1) := by decide +kernel
theorem dX9_across_31 : decode cX9_across 31 = .ok (.iconst 0, 1) := by decide +kernel
theorem dX9_across_32 : decode cX9_across 32 = .ok (.invokevirtual 66, 3) := by decide +kernel
theorem dX9_across_35 : decode cX9_across 35 = .ok (.goto 4, 3) := by decide +kernel
theorem dX9_across_38 : decode cX9_across 38 = .ok (.iconst (-1), 1) := by decide +kernel
theorem dX9_across_39 : decode cX9_across 39 = .ok (.ireturn, 1) := by decide +kernel
theorem dX9_link_0 : decode cX9_link 0 = .ok (.iconst 0, 1) := by decide +kernel
theorem dX9_link_1 : decode cX9_link 1 = .ok (.istore_n 2, 1) := by decide +kernel
theorem dX9_link_2 : decode cX9_link 2 = .ok (.iload_n 2, 1) := by decide +kernel
theorem dX9_link_3 : decode cX9_link 3 = .ok (.aload_n 0, 1) := by decide +kernel
theorem dX9_link_4 : decode cX9_link 4 = .ok (.getfield 48, 3) := by decide +kernel
theorem dX9_link_7 : decode cX9_link 7 = .ok (.if_icmp .ge 25, 3) := by decide +kernel
theorem dX9_link_10 : decode cX9_link 10 = .ok (.aload_n 0, 1) := by decide +kernel
theorem dX9_link_11 : decode cX9_link 11 = .ok (.getfield 34, 3) := by decide +kernel
theorem dX9_link_14 : decode cX9_link 14 = .ok (.iload_n 2, 1) := by decide +kernel
theorem dX9_link_15 : decode cX9_link 15 = .ok (.iload_n 2, 1) := by decide +kernel
theorem dX9_link_16 : decode cX9_link 16 = .ok (.iload_n 1, 1) := by decide +kernel
theorem dX9_link_17 : decode cX9_link 17 = .ok (.if_icmp .ne 7, 3) := by decide +kernel
theorem dX9_link_20 : decode cX9_link 20 = .ok (.iconst 0, 1) := by decide +kernel
theorem dX9_link_21 : decode cX9_link 21 = .ok (.goto 4, 3) := by decide +kernel
theorem dX9_link_24 : decode cX9_link 24 = .ok (.iconst (-1), 1) := by decide +kernel
theorem dX9_link_25 : decode cX9_link 25 = .ok (.iastore, 1) := by decide +kernel
theorem dX9_link_26 : decode cX9_link 26 = .ok (.iinc 2 1, 3) := by decide +kernel
theorem dX9_link_29 : decode cX9_link 29 = .ok (.goto (-27), 3) := by decide +kernel
theorem dX9_link_32 : decode cX9_link 32 = .ok (.aload_n 0, 1) := by decide +kernel
theorem dX9_link_33 : decode cX9_link 33 = .ok (.getfield 37, 3) := by decide +kernel
theorem dX9_link_36 : decode cX9_link 36 = .ok (.iload_n 1, 1) := by decide +kernel
theorem dX9_link_37 : decode cX9_link 37 = .ok (.iconst 0, 1) := by decide +kernel
theorem dX9_link_38 : decode cX9_link 38 = .ok (.iastore, 1) := by decide +kernel
theorem dX9_link_39 : decode cX9_link 39 = .ok (.iconst 1, 1) := by decide +kernel
theorem dX9_link_40 : decode cX9_link 40 = .ok (.istore_n 2, 1) := by decide +kernel
theorem dX9_link_41 : decode cX9_link 41 = .ok (.iload_n 2, 1) := by decide +kernel
theorem dX9_link_42 : decode cX9_link 42 = .ok (.aload_n 0, 1) := by decide +kernel
theorem dX9_link_43 : decode cX9_link 43 = .ok (.getfield 48, 3) := by decide +kernel
theorem dX9_link_46 : decode cX9_link 46 = .ok (.if_icmp .gt 153, 3) := by decide +kernel
theorem dX9_link_49 : decode cX9_link 49 = .ok (.iconst 0, 1) := by decide +kernel
theorem dX9_link_50 : decode cX9_link 50 = .ok (.istore_n 3, 1) := by decide +kernel
theorem dX9_link_51 : decode cX9_link 51 = .ok (.iload_n 3, 1) := by decide +kernel
theorem dX9_link_52 : decode cX9_link 52 = .ok (.aload_n 0, 1) := by decide +kernel
theorem dX9_link_53 : decode cX9_link 53 = .ok (.getfield 48, 3) := by decide +kernel
theorem dX9_link_56 : decode cX9_link 56 = .ok (.if_icmp .ge 137, 3) := by decide +kernel
theorem dX9_link_59 : decode cX9_link 59 = .ok (.aload_n 0, 1) := by decide +kernel
theorem dX9_link_60 : decode cX9_link 60 = .ok (.getfield 34, 3) := by decide +kernel
theorem dX9_link_63 : decode cX9_link 63 = .ok (.iload_n 3, 1) := by decide +kernel
theorem dX9_link_64 : decode cX9_link 64 = .ok (.iaload, 1) := by decide +kernel
theorem dX9_link_65 : decode cX9_link 65 = .ok (.iconst (-1), 1) := by decide +kernel
theorem dX9_link_66 : decode cX9_link 66 = .ok (.if_icmp .eq 16, 3) := by decide +kernel
theorem dX9_link_69 : decode cX9_link 69 = .ok (.aload_n 0, 1) := by decide +kernel
theorem dX9_link_70 : decode cX9_link 70 = .ok (.getfield 34, 3) := by decide +kernel
theorem dX9_link_73 : decode cX9_link 73 = .ok (.iload_n 3, 1) := by decide +kernel
theorem dX9_link_74 : decode cX9_link 74 = .ok (.iaload, 1) := by decide +kernel
theorem dX9_link_75 : decode cX9_link 75 = .ok (.iload_n 2, 1) := by decide +kernel
theorem dX9_link_76 : decode cX9_link 76 = .ok (.if_icmp .ge 6, 3) := by decide +kernel
theorem dX9_link_79 : decode cX9_link 79 = .ok (.goto 108, 3) := by decide +kernel
theorem dX9_link_82 : decode cX9_link 82 = .ok (.iconst 0, 1) := by decide +kernel
theorem dX9_link_83 : decode cX9_link 83 = .ok (.istore 4, 2) := by decide +kernel
theorem dX9_link_85 : decode cX9_link 85 = .ok (.iload 4, 2) := by decide +kernel
theorem dX9_link_87 : decode cX9_link 87 = .ok (.aload_n 0, 1) := by decide +kernel
theorem dX9_link_88 : decode cX9_link 88 = .ok (.getfield 51, 3) := by decide +kernel
theorem dX9_link_91 : decode cX9_link 91 = .ok (.if_icmp .ge 96, 3) := by decide +kernel
theorem dX9_link_94 : decode cX9_link 94 = .ok (.aload_n 0, 1) := by decide +kernel
theorem dX9_link_95 : decode cX9_link 95 = .ok (.iload 4, 2) := by decide +kernel
theorem dX9_link_97 : decode cX9_link 97 = .ok (.iload_n 3, 1) := by decide +kernel
theorem dX9_link_98 : decode cX9_link 98 = .ok (.invokevirtual 134, 3) := by decide +kernel
theorem dX9_link_101 : decode cX9_link 101 = .ok (.istore 5, 2) := by decide +kernel
theorem dX9_link_103 : decode cX9_link 103 = .ok (.iload 5, 2) := by decide +kernel
theorem dX9_link_105 : decode cX9_link 105 = .ok (.iconst (-1), 1) := by decide +kernel
theorem dX9_link_106 : decode cX9_link 106 = .ok (.if_icmp .eq 75, 3) := by decide +kernel
theorem dX9_link_109 : decode cX9_link 109 = .ok (.aload_n 0, 1) := by decide +kernel
theorem dX9_link_110 : decode cX9_link 110 = .ok (.getfield 34, 3) := by decide +kernel
theorem dX9_link_113 : decode cX9_link 113 = .ok (.iload 5, 2) := by decide +kernel
theorem dX9_link_115 : decode cX9_link 115 = .ok (.iaload, 1) := by decide +kernel
theorem dX9_link_116 : decode cX9_link 116 = .ok (.iload_n 2, 1) := by decide +kernel
theorem dX9_link_117 : decode cX9_link 117 = .ok (.iconst 1, 1) := by decide +kernel
theorem dX9_link_118 : decode cX9_link 118 = .ok (.isub, 1) := by decide +kernel
theorem dX9_link_119 : decode cX9_link 119 = .ok (.if_icmp .eq 6, 3) := by decide +kernel
theorem dX9_link_122 : decode cX9_link 122 = .ok (.goto 59, 3) := by decide +kernel
theorem dX9_link_125 : decode cX9_link 125 = .ok (.aload_n 0, 1) := by decide +kernel
theorem dX9_link_126 : decode cX9_link 126 = .ok (.getfield 37, 3) := by decide +kernel
theorem dX9_link_129 : decode cX9_link 129 = .ok (.iload 5, 2) := by decide +kernel
theorem dX9_link_131 : decode cX9_link 131 = .ok (.iaload, 1) := by decide +kernel
theorem dX9_link_132 : decode cX9_link 132 = .ok (.aload_n 0, 1) := by decide +kernel
theorem dX9_link_133 : decode cX9_link 133 = .ok (.iload 4, 2) := by decide +kernel
theorem dX9_link_135 : decode cX9_link 135 = .ok (.iconst 5, 1) := by decide +kernel
theorem dX9_link_136 : decode cX9_link 136 = .ok (.invokevirtual 66, 3) := by decide +kernel
theorem dX9_link_139 : decode cX9_link 139 = .ok (.iadd, 1) := by decide +kernel
theorem dX9_link_140 : decode cX9_link 140 = .ok (.istore 6, 2) := by decide +kernel
theorem dX9_link_142 : decode cX9_link 142 = .ok (.aload_n 0, 1) := by decide +kernel
theorem dX9_link_143 : decode cX9_link 143 = .ok (.getfield 37, 3) := by decide +kernel
theorem dX9_link_146 : decode cX9_link 146 = .ok (.iload_n 3, 1) := by decide +kernel
theorem dX9_link_147 : decode cX9_link 147 = .ok (.aload_n 0, 1) := by decide +kernel
theorem dX9_link_148 : decode cX9_link 148 = .ok (.getfield 34, 3) := by decide +kernel
theorem dX9_link_151 : decode cX9_link 151 = .ok (.iload_n 3, 1) := by decide +kernel
theorem dX9_link_152 : decode cX9_link 152 = .ok (.iaload, 1) := by decide +kernel
theorem dX9_link_153 : decode cX9_link 153 = .ok (.iload_n 2, 1) := by decide +kernel
theorem dX9_link_154 : decode cX9_link 154 = .ok (.if_icmp .ne 17, 3) := by decide +kernel
theorem dX9_link_157 : decode cX9_link 157 = .ok (.aload_n 0, 1) := by decide +kernel
theorem dX9_link_158 : decode cX9_link 158 = .ok (.getfield 37, 3) := by decide +kernel
theorem dX9_link_161 : decode cX9_link 161 = .ok (.iload_n 3, 1) := by decide +kernel
theorem dX9_link_162 : decode cX9_link 162 = .ok (.iaload, 1) := by decide +kernel
theorem dX9_link_163 : decode cX9_link 163 = .ok (.iload 6, 2) := by decide +kernel
theorem dX9_link_165 : decode cX9_link 165 = .ok (.invokestatic 137, 3) := by decide +kernel
theorem dX9_link_168 : decode cX9_link 168 = .ok (.goto 5, 3) := by decide +kernel
theorem dX9_link_171 : decode cX9_link 171 = .ok (.iload 6, 2) := by decide +kernel
theorem dX9_link_173 : decode cX9_link 173 = .ok (.iastore, 1) := by decide +kernel
theorem dX9_link_174 : decode cX9_link 174 = .ok (.aload_n 0, 1) := by decide +kernel
theorem dX9_link_175 : decode cX9_link 175 = .ok (.getfield 34, 3) := by decide +kernel
theorem dX9_link_178 : decode cX9_link 178 = .ok (.iload_n 3, 1) := by decide +kernel
theorem dX9_link_179 : decode cX9_link 179 = .ok (.iload_n 2, 1) := by decide +kernel
theorem dX9_link_180 : decode cX9_link 180 = .ok (.iastore, 1) := by decide +kernel
theorem dX9_link_181 : decode cX9_link 181 = .ok (.iinc 4 1, 3) := by decide +kernel
theorem dX9_link_184 : decode cX9_link 184 = .ok (.goto (-99), 3) := by decide +kernel
theorem dX9_link_187 : decode cX9_link 187 = .ok (.iinc 3 1, 3) := by decide +kernel
theorem dX9_link_190 : decode cX9_link 190 = .ok (.goto (-139), 3) := by decide +kernel
theorem dX9_link_193 : decode cX9_link 193 = .ok (.iinc 2 1, 3) := by decide +kernel
theorem dX9_link_196 : decode cX9_link 196 = .ok (.goto (-155), 3) := by decide +kernel
theorem dX9_link_199 : decode cX9_link 199 = .ok (.return_, 1) := by decide +kernel
theorem dX9_takes_0 : decode cX9_takes 0 = .ok (.aload_n 0, 1) := by decide +kernel
theorem dX9_takes_1 : decode cX9_takes 1 = .ok (.iload_n 2, 1) := by decide +kernel
theorem dX9_takes_2 : decode cX9_takes 2 = .ok (.invokevirtual 140, 3) := by decide +kernel
theorem dX9_takes_5 : decode cX9_takes 5 = .ok (.iconst 0, 1) := by decide +kernel
theorem dX9_takes_6 : decode cX9_takes 6 = .ok (.istore_n 3, 1) := by decide +kernel
theorem dX9_takes_7 : decode cX9_takes 7 = .ok (.iload_n 3, 1) := by decide +kernel
theorem dX9_takes_8 : decode cX9_takes 8 = .ok (.aload_n 0, 1) := by decide +kernel
theorem dX9_takes_9 : decode cX9_takes 9 = .ok (.getfield 51, 3) := by decide +kernel
theorem dX9_takes_12 : decode cX9_takes 12 = .ok (.if_icmp .ge 58, 3) := by decide +kernel
theorem dX9_takes_15 : decode cX9_takes 15 = .ok (.iload_n 1, 1) := by decide +kernel
theorem dX9_takes_16 : decode cX9_takes 16 = .ok (.iload_n 2, 1) := by decide +kernel
theorem dX9_takes_17 : decode cX9_takes 17 = .ok (.if_icmp .eq 53, 3) := by decide +kernel
theorem dX9_takes_20 : decode cX9_takes 20 = .ok (.aload_n 0, 1) := by decide +kernel
theorem dX9_takes_21 : decode cX9_takes 21 = .ok (.getfield 34, 3) := by decide +kernel
theorem dX9_takes_24 : decode cX9_takes 24 = .ok (.iload_n 1, 1) := by decide +kernel
theorem dX9_takes_25 : decode cX9_takes 25 = .ok (.iaload, 1) := by decide +kernel
theorem dX9_takes_26 : decode cX9_takes 26 = .ok (.iconst (-1), 1) := by decide +kernel
theorem dX9_takes_27 : decode cX9_takes 27 = .ok (.if_icmp .eq 43, 3) := by decide +kernel
theorem dX9_takes_30 : decode cX9_takes 30 = .ok (.aload_n 0, 1) := by decide +kernel
theorem dX9_takes_31 : decode cX9_takes 31 = .ok (.iload_n 3, 1) := by decide +kernel
theorem dX9_takes_32 : decode cX9_takes 32 = .ok (.iload_n 1, 1) := by decide +kernel
theorem dX9_takes_33 : decode cX9_takes 33 = .ok (.invokevirtual 134, 3) := by decide +kernel
theorem dX9_takes_36 : decode cX9_takes 36 = .ok (.istore 4, 2) := by decide +kernel
theorem dX9_takes_38 : decode cX9_takes 38 = .ok (.iload 4, 2) := by decide +kernel
theorem dX9_takes_40 : decode cX9_takes 40 = .ok (.iconst (-1), 1) := by decide +kernel
theorem dX9_takes_41 : decode cX9_takes 41 = .ok (.if_icmp .eq 23, 3) := by decide +kernel
theorem dX9_takes_44 : decode cX9_takes 44 = .ok (.aload_n 0, 1) := by decide +kernel
theorem dX9_takes_45 : decode cX9_takes 45 = .ok (.getfield 34, 3) := by decide +kernel
theorem dX9_takes_48 : decode cX9_takes 48 = .ok (.iload 4, 2) := by decide +kernel
theorem dX9_takes_50 : decode cX9_takes 50 = .ok (.iaload, 1) := by decide +kernel
theorem dX9_takes_51 : decode cX9_takes 51 = .ok (.aload_n 0, 1) := by decide +kernel
theorem dX9_takes_52 : decode cX9_takes 52 = .ok (.getfield 34, 3) := by decide +kernel
theorem dX9_takes_55 : decode cX9_takes 55 = .ok (.iload_n 1, 1) := by decide +kernel
theorem dX9_takes_56 : decode cX9_takes 56 = .ok (.iaload, 1) := by decide +kernel
theorem dX9_takes_57 : decode cX9_takes 57 = .ok (.iconst 1, 1) := by decide +kernel
theorem dX9_takes_58 : decode cX9_takes 58 = .ok (.isub, 1) := by decide +kernel
theorem dX9_takes_59 : decode cX9_takes 59 = .ok (.if_icmp .ne 5, 3) := by decide +kernel
theorem dX9_takes_62 : decode cX9_takes 62 = .ok (.iload_n 3, 1) := by decide +kernel
theorem dX9_takes_63 : decode cX9_takes 63 = .ok (.ireturn, 1) := by decide +kernel
theorem dX9_takes_64 : decode cX9_takes 64 = .ok (.iinc 3 1, 3) := by decide +kernel
theorem dX9_takes_67 : decode cX9_takes 67 = .ok (.goto (-60), 3) := by decide +kernel
theorem dX9_takes_70 : decode cX9_takes 70 = .ok (.iconst (-1), 1) := by decide +kernel
theorem dX9_takes_71 : decode cX9_takes 71 = .ok (.ireturn, 1) := by decide +kernel
theorem dX9_chainFrom_0 : decode cX9_chainFrom 0 = .ok (.aload_n 0, 1) := by decide +kernel
theorem dX9_chainFrom_1 : decode cX9_chainFrom 1 = .ok (.iload_n 2, 1) := by decide +kernel
theorem dX9_chainFrom_2 : decode cX9_chainFrom 2 = .ok (.invokevirtual 140, 3) := by decide +kernel
theorem dX9_chainFrom_5 : decode cX9_chainFrom 5 = .ok (.aload_n 0, 1) := by decide +kernel
theorem dX9_chainFrom_6 : decode cX9_chainFrom 6 = .ok (.getfield 34, 3) := by decide +kernel
theorem dX9_chainFrom_9 : decode cX9_chainFrom 9 = .ok (.iload_n 1, 1) := by decide +kernel
theorem dX9_chainFrom_10 : decode cX9_chainFrom 10 = .ok (.iaload, 1) := by decide +kernel
theorem dX9_chainFrom_11 : decode cX9_chainFrom 11 = .ok (.ireturn, 1) := by decide +kernel
theorem dX9_hasCome_0 : decode cX9_hasCome 0 = .ok (.aload_n 0, 1) := by decide +kernel
theorem dX9_hasCome_1 : decode cX9_hasCome 1 = .ok (.iload_n 1, 1) := by decide +kernel
theorem dX9_hasCome_2 : decode cX9_hasCome 2 = .ok (.iconst 4, 1) := by decide +kernel
theorem dX9_hasCome_3 : decode cX9_hasCome 3 = .ok (.invokevirtual 116, 3) := by decide +kernel
theorem dX9_hasCome_6 : decode cX9_hasCome 6 = .ok (.iconst (-1), 1) := by decide +kernel
theorem dX9_hasCome_7 : decode cX9_hasCome 7 = .ok (.if_icmp .eq 7, 3) := by decide +kernel
theorem dX9_hasCome_10 : decode cX9_hasCome 10 = .ok (.iconst 1, 1) := by decide +kernel
theorem dX9_hasCome_11 : decode cX9_hasCome 11 = .ok (.goto 4, 3) := by decide +kernel
theorem dX9_hasCome_14 : decode cX9_hasCome 14 = .ok (.iconst 0, 1) := by decide +kernel
theorem dX9_hasCome_15 : decode cX9_hasCome 15 = .ok (.ireturn, 1) := by decide +kernel
theorem dX9_travellerTold_0 : decode cX9_travellerTold 0 = .ok (.iload_n 2, 1) := by decide +kernel
theorem dX9_travellerTold_1 : decode cX9_travellerTold 1 = .ok (.tableswitch 101 4 6 #[27, 41, 94], 27) := by decide +kernel
theorem dX9_travellerTold_28 : decode cX9_travellerTold 28 = .ok (.aload_n 0, 1) := by decide +kernel
theorem dX9_travellerTold_29 : decode cX9_travellerTold 29 = .ok (.iload_n 1, 1) := by decide +kernel
theorem dX9_travellerTold_30 : decode cX9_travellerTold 30 = .ok (.invokevirtual 144, 3) := by decide +kernel
theorem dX9_travellerTold_33 : decode cX9_travellerTold 33 = .ok (.ifCond .eq 7, 3) := by decide +kernel
theorem dX9_travellerTold_36 : decode cX9_travellerTold 36 = .ok (.iconst 1, 1) := by decide +kernel
theorem dX9_travellerTold_37 : decode cX9_travellerTold 37 = .ok (.goto 4, 3) := by decide +kernel
theorem dX9_travellerTold_40 : decode cX9_travellerTold 40 = .ok (.iconst 0, 1) := by decide +kernel
theorem dX9_travellerTold_41 : decode cX9_travellerTold 41 = .ok (.ireturn, 1) := by decide +kernel
theorem dX9_travellerTold_42 : decode cX9_travellerTold 42 = .ok (.aload_n 0, 1) := by decide +kernel
theorem dX9_travellerTold_43 : decode cX9_travellerTold 43 = .ok (.iload_n 1, 1) := by decide +kernel
theorem dX9_travellerTold_44 : decode cX9_travellerTold 44 = .ok (.iconst 3, 1) := by decide +kernel
theorem dX9_travellerTold_45 : decode cX9_travellerTold 45 = .ok (.invokevirtual 116, 3) := by decide +kernel
theorem dX9_travellerTold_48 : decode cX9_travellerTold 48 = .ok (.iconst (-1), 1) := by decide +kernel
theorem dX9_travellerTold_49 : decode cX9_travellerTold 49 = .ok (.if_icmp .ne 22, 3) := by decide +kernel
theorem dX9_travellerTold_52 : decode cX9_travellerTold 52 = .ok (.aload_n 0, 1) := by decide +kernel
theorem dX9_travellerTold_53 : decode cX9_travellerTold 53 = .ok (.aload_n 0, 1) := by decide +kernel
theorem dX9_travellerTold_54 : decode cX9_travellerTold 54 = .ok (.iload_n 1, 1) := by decide +kernel
theorem dX9_travellerTold_55 : decode cX9_travellerTold 55 = .ok (.iconst 2, 1) := by decide +kernel
theorem dX9_travellerTold_56 : decode cX9_travellerTold 56 = .ok (.invokevirtual 116, 3) := by decide +kernel
theorem dX9_travellerTold_59 : decode cX9_travellerTold 59 = .ok (.aload_n 0, 1) := by decide +kernel
theorem dX9_travellerTold_60 : decode cX9_travellerTold 60 = .ok (.iload_n 1, 1) := by decide +kernel
theorem dX9_travellerTold_61 : decode cX9_travellerTold 61 = .ok (.iconst 0, 1) := by decide +kernel
theorem dX9_travellerTold_62 : decode cX9_travellerTold 62 = .ok (.invokevirtual 116, 3) := by decide +kernel
theorem dX9_travellerTold_65 : decode cX9_travellerTold 65 = .ok (.invokevirtual 147, 3) := by decide +kernel
theorem dX9_travellerTold_68 : decode cX9_travellerTold 68 = .ok (.goto 26, 3) := by decide +kernel
theorem dX9_travellerTold_71 : decode cX9_travellerTold 71 = .ok (.iconst 1, 1) := by decide +kernel
theorem dX9_travellerTold_72 : decode cX9_travellerTold 72 = .ok (.aload_n 0, 1) := by decide +kernel
theorem dX9_travellerTold_73 : decode cX9_travellerTold 73 = .ok (.aload_n 0, 1) := by decide +kernel
theorem dX9_travellerTold_74 : decode cX9_travellerTold 74 = .ok (.aload_n 0, 1) := by decide +kernel
theorem dX9_travellerTold_75 : decode cX9_travellerTold 75 = .ok (.iload_n 1, 1) := by decide +kernel
theorem dX9_travellerTold_76 : decode cX9_travellerTold 76 = .ok (.iconst 3, 1) := by decide +kernel
theorem dX9_travellerTold_77 : decode cX9_travellerTold 77 = .ok (.invokevirtual 116, 3) := by decide +kernel
theorem dX9_travellerTold_80 : decode cX9_travellerTold 80 = .ok (.iconst 1, 1) := by decide +kernel
theorem dX9_travellerTold_81 : decode cX9_travellerTold 81 = .ok (.invokevirtual 77, 3) := by decide +kernel
theorem dX9_travellerTold_84 : decode cX9_travellerTold 84 = .ok (.aload_n 0, 1) := by decide +kernel
theorem dX9_travellerTold_85 : decode cX9_travellerTold 85 = .ok (.iload_n 1, 1) := by decide +kernel
theorem dX9_travellerTold_86 : decode cX9_travellerTold 86 = .ok (.iconst 0, 1) := by decide +kernel
theorem dX9_travellerTold_87 : decode cX9_travellerTold 87 = .ok (.invokevirtual 116, 3) := by decide +kernel
theorem dX9_travellerTold_90 : decode cX9_travellerTold 90 = .ok (.invokevirtual 147, 3) := by decide +kernel
theorem dX9_travellerTold_93 : decode cX9_travellerTold 93 = .ok (.iadd, 1) := by decide +kernel
theorem dX9_travellerTold_94 : decode cX9_travellerTold 94 = .ok (.ireturn, 1) := by decide +kernel
theorem dX9_travellerTold_95 : decode cX9_travellerTold 95 = .ok (.aload_n 0, 1) := by decide +kernel
theorem dX9_travellerTold_96 : decode cX9_travellerTold 96 = .ok (.iload_n 1, 1) := by decide +kernel
theorem dX9_travellerTold_97 : decode cX9_travellerTold 97 = .ok (.iconst 4, 1) := by decide +kernel
theorem dX9_travellerTold_98 : decode cX9_travellerTold 98 = .ok (.invokevirtual 116, 3) := by decide +kernel
theorem dX9_travellerTold_101 : decode cX9_travellerTold 101 = .ok (.ireturn, 1) := by decide +kernel
theorem dX9_travellerTold_102 : decode cX9_travellerTold 102 = .ok (.aload_n 0, 1) := by decide +kernel
theorem dX9_travellerTold_103 : decode cX9_travellerTold 103 = .ok (.iload_n 1, 1) := by decide +kernel
theorem dX9_travellerTold_104 : decode cX9_travellerTold 104 = .ok (.iload_n 2, 1) := by decide +kernel
theorem dX9_travellerTold_105 : decode cX9_travellerTold 105 = .ok (.invokevirtual 116, 3) := by decide +kernel
theorem dX9_travellerTold_108 : decode cX9_travellerTold 108 = .ok (.ireturn, 1) := by decide +kernel
theorem dX9_traveller_0 : decode cX9_traveller 0 = .ok (.aload_n 0, 1) := by decide +kernel
theorem dX9_traveller_1 : decode cX9_traveller 1 = .ok (.iconst 0, 1) := by decide +kernel
theorem dX9_traveller_2 : decode cX9_traveller 2 = .ok (.putfield 40, 3) := by decide +kernel
theorem dX9_traveller_5 : decode cX9_traveller 5 = .ok (.iload_n 1, 1) := by decide +kernel
theorem dX9_traveller_6 : decode cX9_traveller 6 = .ok (.iconst 0, 1) := by decide +kernel
theorem dX9_traveller_7 : decode cX9_traveller 7 = .ok (.aload_n 0, 1) := by decide +kernel
theorem dX9_traveller_8 : decode cX9_traveller 8 = .ok (.getfield 113, 3) := by decide +kernel
theorem dX9_traveller_11 : decode cX9_traveller 11 = .ok (.iconst 1, 1) := by decide +kernel
theorem dX9_traveller_12 : decode cX9_traveller 12 = .ok (.isub, 1) := by decide +kernel
theorem dX9_traveller_13 : decode cX9_traveller 13 = .ok (.invokestatic 44, 3) := by decide +kernel
theorem dX9_traveller_16 : decode cX9_traveller 16 = .ok (.ifCond .eq 22, 3) := by decide +kernel
theorem dX9_traveller_19 : decode cX9_traveller 19 = .ok (.iload_n 2, 1) := by decide +kernel
theorem dX9_traveller_20 : decode cX9_traveller 20 = .ok (.iconst 0, 1) := by decide +kernel
theorem dX9_traveller_21 : decode cX9_traveller 21 = .ok (.bipush 6, 2) := by decide +kernel
theorem dX9_traveller_23 : decode cX9_traveller 23 = .ok (.invokestatic 44, 3) := by decide +kernel
theorem dX9_traveller_26 : decode cX9_traveller 26 = .ok (.ifCond .eq 12, 3) := by decide +kernel
theorem dX9_traveller_29 : decode cX9_traveller 29 = .ok (.aload_n 0, 1) := by decide +kernel
theorem dX9_traveller_30 : decode cX9_traveller 30 = .ok (.iload_n 1, 1) := by decide +kernel
theorem dX9_traveller_31 : decode cX9_traveller 31 = .ok (.iload_n 2, 1) := by decide +kernel
theorem dX9_traveller_32 : decode cX9_traveller 32 = .ok (.invokevirtual 150, 3) := by decide +kernel
theorem dX9_traveller_35 : decode cX9_traveller 35 = .ok (.goto 8, 3) := by decide +kernel
theorem dX9_traveller_38 : decode cX9_traveller 38 = .ok (.aload_n 0, 1) := by decide +kernel
theorem dX9_traveller_39 : decode cX9_traveller 39 = .ok (.iconst 1, 1) := by decide +kernel
theorem dX9_traveller_40 : decode cX9_traveller 40 = .ok (.invokevirtual 73, 3) := by decide +kernel
theorem dX9_traveller_43 : decode cX9_traveller 43 = .ok (.ireturn, 1) := by decide +kernel
theorem dX9_landingTold_0 : decode cX9_landingTold 0 = .ok (.iload_n 2, 1) := by decide +kernel
theorem dX9_landingTold_1 : decode cX9_landingTold 1 = .ok (.iconst 2, 1) := by decide +kernel
theorem dX9_landingTold_2 : decode cX9_landingTold 2 = .ok (.if_icmp .ge 29, 3) := by decide +kernel
theorem dX9_landingTold_5 : decode cX9_landingTold 5 = .ok (.iload_n 2, 1) := by decide +kernel
theorem dX9_landingTold_6 : decode cX9_landingTold 6 = .ok (.ifCond .ne 15, 3) := by decide +kernel
theorem dX9_landingTold_9 : decode cX9_landingTold 9 = .ok (.aload_n 0, 1) := by decide +kernel
theorem dX9_landingTold_10 : decode cX9_landingTold 10 = .ok (.getfield 19, 3) := by decide +kernel
theorem dX9_landingTold_13 : decode cX9_landingTold 13 = .ok (.iload_n 1, 1) := by decide +kernel
theorem dX9_landingTold_14 : decode cX9_landingTold 14 = .ok (.iaload, 1) := by decide +kernel
theorem dX9_landingTold_15 : decode cX9_landingTold 15 = .ok (.bipush 14, 2) := by decide +kernel
theorem dX9_landingTold_17 : decode cX9_landingTold 17 = .ok (.irem, 1) := by decide +kernel
theorem dX9_landingTold_18 : decode cX9_landingTold 18 = .ok (.goto 12, 3) := by decide +kernel
theorem dX9_landingTold_21 : decode cX9_landingTold 21 = .ok (.aload_n 0, 1) := by decide +kernel
theorem dX9_landingTold_22 : decode cX9_landingTold 22 = .ok (.getfield 19, 3) := by decide +kernel
theorem dX9_landingTold_25 : decode cX9_landingTold 25 = .ok (.iload_n 1, 1) := by decide +kernel
theorem dX9_landingTold_26 : decode cX9_landingTold 26 = .ok (.iaload, 1) := by decide +kernel
theorem dX9_landingTold_27 : decode cX9_landingTold 27 = .ok (.bipush 14, 2) := by decide +kernel
theorem dX9_landingTold_29 : decode cX9_landingTold 29 = .ok (.idiv, 1) := by decide +kernel
theorem dX9_landingTold_30 : decode cX9_landingTold 30 = .ok (.ireturn, 1) := by decide +kernel
theorem dX9_landingTold_31 : decode cX9_landingTold 31 = .ok (.iconst 0, 1) := by decide +kernel
theorem dX9_landingTold_32 : decode cX9_landingTold 32 = .ok (.istore_n 3, 1) := by decide +kernel
theorem dX9_landingTold_33 : decode cX9_landingTold 33 = .ok (.iconst 0, 1) := by decide +kernel
theorem dX9_landingTold_34 : decode cX9_landingTold 34 = .ok (.istore 4, 2) := by decide +kernel
theorem dX9_landingTold_36 : decode cX9_landingTold 36 = .ok (.iload 4, 2) := by decide +kernel
theorem dX9_landingTold_38 : decode cX9_landingTold 38 = .ok (.aload_n 0, 1) := by decide +kernel
theorem dX9_landingTold_39 : decode cX9_landingTold 39 = .ok (.getfield 113, 3) := by decide +kernel
theorem dX9_landingTold_42 : decode cX9_landingTold 42 = .ok (.if_icmp .ge 52, 3) := by decide +kernel
theorem dX9_landingTold_45 : decode cX9_landingTold 45 = .ok (.iload_n 2, 1) := by decide +kernel
theorem dX9_landingTold_46 : decode cX9_landingTold 46 = .ok (.iconst 4, 1) := by decide +kernel
theorem dX9_landingTold_47 : decode cX9_landingTold 47 = .ok (.if_icmp .ge 47, 3) := by decide +kernel
theorem dX9_landingTold_50 : decode cX9_landingTold 50 = .ok (.iload_n 3, 1) := by decide +kernel
theorem dX9_landingTold_51 : decode cX9_landingTold 51 = .ok (.aload_n 0, 1) := by decide +kernel
theorem dX9_landingTold_52 : decode cX9_landingTold 52 = .ok (.iload 4, 2) := by decide +kernel
theorem dX9_landingTold_54 : decode cX9_landingTold 54 = .ok (.iconst 2, 1) := by decide +kernel
theorem dX9_landingTold_55 : decode cX9_landingTold 55 = .ok (.invokevirtual 116, 3) := by decide +kernel
theorem dX9_landingTold_58 : decode cX9_landingTold 58 = .ok (.iload_n 1, 1) := by decide +kernel
theorem dX9_landingTold_59 : decode cX9_landingTold 59 = .ok (.if_icmp .ne 26, 3) := by decide +kernel
theorem dX9_landingTold_62 : decode cX9_landingTold 62 = .ok (.aload_n 0, 1) := by decide +kernel
theorem dX9_landingTold_63 : decode cX9_landingTold 63 = .ok (.iload 4, 2) := by decide +kernel
theorem dX9_landingTold_65 : decode cX9_landingTold 65 = .ok (.invokevirtual 144, 3) := by decide +kernel
theorem dX9_landingTold_68 : decode cX9_landingTold 68 = .ok (.iload_n 2, 1) := by decide +kernel
theorem dX9_landingTold_69 : decode cX9_landingTold 69 = .ok (.iconst 3, 1) := by decide +kernel
theorem dX9_landingTold_70 : decode cX9_landingTold 70 = .ok (.if_icmp .ne 7, 3) := by decide +kernel
theorem dX9_landingTold_73 : decode cX9_landingTold 73 = .ok (.iconst 1, 1) := by decide +kernel
theorem dX9_landingTold_74 : decode cX9_landingTold 74 = .ok (.goto 4, 3) := by decide +kernel
theorem dX9_landingTold_77 : decode cX9_landingTold 77 = .ok (.iconst 0, 1) := by decide +kernel
theorem dX9_landingTold_78 : decode cX9_landingTold 78 = .ok (.if_icmp .ne 7, 3) := by decide +kernel
theorem dX9_landingTold_81 : decode cX9_landingTold 81 = .ok (.iconst 1, 1) := by decide +kernel
theorem dX9_landingTold_82 : decode cX9_landingTold 82 = .ok (.goto 4, 3) := by decide +kernel
theorem dX9_landingTold_85 : decode cX9_landingTold 85 = .ok (.iconst 0, 1) := by decide +kernel
theorem dX9_landingTold_86 : decode cX9_landingTold 86 = .ok (.iadd, 1) := by decide +kernel
theorem dX9_landingTold_87 : decode cX9_landingTold 87 = .ok (.istore_n 3, 1) := by decide +kernel
theorem dX9_landingTold_88 : decode cX9_landingTold 88 = .ok (.iinc 4 1, 3) := by decide +kernel
theorem dX9_landingTold_91 : decode cX9_landingTold 91 = .ok (.goto (-55), 3) := by decide +kernel
theorem dX9_landingTold_94 : decode cX9_landingTold 94 = .ok (.iconst 0, 1) := by decide +kernel
theorem dX9_landingTold_95 : decode cX9_landingTold 95 = .ok (.istore 4, 2) := by decide +kernel
theorem dX9_landingTold_97 : decode cX9_landingTold 97 = .ok (.iload 4, 2) := by decide +kernel
theorem dX9_landingTold_99 : decode cX9_landingTold 99 = .ok (.aload_n 0, 1) := by decide +kernel
theorem dX9_landingTold_100 : decode cX9_landingTold 100 = .ok (.getfield 51, 3) := by decide +kernel
theorem dX9_landingTold_103 : decode cX9_landingTold 103 = .ok (.if_icmp .ge 33, 3) := by decide +kernel
theorem dX9_landingTold_106 : decode cX9_landingTold 106 = .ok (.iload_n 2, 1) := by decide +kernel
theorem dX9_landingTold_107 : decode cX9_landingTold 107 = .ok (.iconst 4, 1) := by decide +kernel
theorem dX9_landingTold_108 : decode cX9_landingTold 108 = .ok (.if_icmp .ne 28, 3) := by decide +kernel
theorem dX9_landingTold_111 : decode cX9_landingTold 111 = .ok (.iload_n 3, 1) := by decide +kernel
theorem dX9_landingTold_112 : decode cX9_landingTold 112 = .ok (.aload_n 0, 1) := by decide +kernel
theorem dX9_landingTold_113 : decode cX9_landingTold 113 = .ok (.iload 4, 2) := by decide +kernel
theorem dX9_landingTold_115 : decode cX9_landingTold 115 = .ok (.iload_n 1, 1) := by decide +kernel
theorem dX9_landingTold_116 : decode cX9_landingTold 116 = .ok (.invokevirtual 134, 3) := by decide +kernel
theorem dX9_landingTold_119 : decode cX9_landingTold 119 = .ok (.iconst (-1), 1) := by decide +kernel
theorem dX9_landingTold_120 : decode cX9_landingTold 120 = .ok (.if_icmp .eq 7, 3) := by decide +kernel
theorem dX9_landingTold_123 : decode cX9_landingTold 123 = .ok (.iconst 1, 1) := by decide +kernel
theorem dX9_landingTold_124 : decode cX9_landingTold 124 = .ok (.goto 4, 3) := by decide +kernel
theorem dX9_landingTold_127 : decode cX9_landingTold 127 = .ok (.iconst 0, 1) := by decide +kernel
theorem dX9_landingTold_128 : decode cX9_landingTold 128 = .ok (.iadd, 1) := by decide +kernel
theorem dX9_landingTold_129 : decode cX9_landingTold 129 = .ok (.istore_n 3, 1) := by decide +kernel
theorem dX9_landingTold_130 : decode cX9_landingTold 130 = .ok (.iinc 4 1, 3) := by decide +kernel
theorem dX9_landingTold_133 : decode cX9_landingTold 133 = .ok (.goto (-36), 3) := by decide +kernel
theorem dX9_landingTold_136 : decode cX9_landingTold 136 = .ok (.iload_n 3, 1) := by decide +kernel
theorem dX9_landingTold_137 : decode cX9_landingTold 137 = .ok (.ireturn, 1) := by decide +kernel
theorem dX9_landing_0 : decode cX9_landing 0 = .ok (.aload_n 0, 1) := by decide +kernel
theorem dX9_landing_1 : decode cX9_landing 1 = .ok (.iconst 0, 1) := by decide +kernel
theorem dX9_landing_2 : decode cX9_landing 2 = .ok (.putfield 40, 3) := by decide +kernel
theorem dX9_landing_5 : decode cX9_landing 5 = .ok (.aload_n 0, 1) := by decide +kernel
theorem dX9_landing_6 : decode cX9_landing 6 = .ok (.iload_n 1, 1) := by decide +kernel
theorem dX9_landing_7 : decode cX9_landing 7 = .ok (.invokevirtual 90, 3) := by decide +kernel
theorem dX9_landing_10 : decode cX9_landing 10 = .ok (.ifCond .eq 21, 3) := by decide +kernel
theorem dX9_landing_13 : decode cX9_landing 13 = .ok (.iload_n 2, 1) := by decide +kernel
theorem dX9_landing_14 : decode cX9_landing 14 = .ok (.iconst 0, 1) := by decide +kernel
theorem dX9_landing_15 : decode cX9_landing 15 = .ok (.iconst 4, 1) := by decide +kernel
theorem dX9_landing_16 : decode cX9_landing 16 = .ok (.invokestatic 44, 3) := by decide +kernel
theorem dX9_landing_19 : decode cX9_landing 19 = .ok (.ifCond .eq 12, 3) := by decide +kernel
theorem dX9_landing_22 : decode cX9_landing 22 = .ok (.aload_n 0, 1) := by decide +kernel
theorem dX9_landing_23 : decode cX9_landing 23 = .ok (.iload_n 1, 1) := by decide +kernel
theorem dX9_landing_24 : decode cX9_landing 24 = .ok (.iload_n 2, 1) := by decide +kernel
theorem dX9_landing_25 : decode cX9_landing 25 = .ok (.invokevirtual 153, 3) := by decide +kernel
theorem dX9_landing_28 : decode cX9_landing 28 = .ok (.goto 8, 3) := by decide +kernel
theorem dX9_landing_31 : decode cX9_landing 31 = .ok (.aload_n 0, 1) := by decide +kernel
theorem dX9_landing_32 : decode cX9_landing 32 = .ok (.iconst 1, 1) := by decide +kernel
theorem dX9_landing_33 : decode cX9_landing 33 = .ok (.invokevirtual 73, 3) := by decide +kernel
theorem dX9_landing_36 : decode cX9_landing 36 = .ok (.ireturn, 1) := by decide +kernel
theorem dX9_land_0 : decode cX9_land 0 = .ok (.aload_n 0, 1) := by decide +kernel
theorem dX9_land_1 : decode cX9_land 1 = .ok (.iload_n 1, 1) := by decide +kernel
theorem dX9_land_2 : decode cX9_land 2 = .ok (.iconst 1, 1) := by decide +kernel
theorem dX9_land_3 : decode cX9_land 3 = .ok (.invokevirtual 77, 3) := by decide +kernel
theorem dX9_land_6 : decode cX9_land 6 = .ok (.istore_n 2, 1) := by decide +kernel
theorem dX9_land_7 : decode cX9_land 7 = .ok (.iconst 0, 1) := by decide +kernel
theorem dX9_land_8 : decode cX9_land 8 = .ok (.istore_n 3, 1) := by decide +kernel
theorem dX9_land_9 : decode cX9_land 9 = .ok (.aload_n 0, 1) := by decide +kernel
theorem dX9_land_10 : decode cX9_land 10 = .ok (.iload_n 1, 1) := by decide +kernel
theorem dX9_land_11 : decode cX9_land 11 = .ok (.iconst 4, 1) := by decide +kernel
theorem dX9_land_12 : decode cX9_land 12 = .ok (.invokevirtual 66, 3) := by decide +kernel
theorem dX9_land_15 : decode cX9_land 15 = .ok (.istore 4, 2) := by decide +kernel
theorem dX9_land_17 : decode cX9_land 17 = .ok (.iconst 0, 1) := by decide +kernel
theorem dX9_land_18 : decode cX9_land 18 = .ok (.istore 5, 2) := by decide +kernel
theorem dX9_land_20 : decode cX9_land 20 = .ok (.iload 5, 2) := by decide +kernel
theorem dX9_land_22 : decode cX9_land 22 = .ok (.aload_n 0, 1) := by decide +kernel
theorem dX9_land_23 : decode cX9_land 23 = .ok (.getfield 113, 3) := by decide +kernel
theorem dX9_land_26 : decode cX9_land 26 = .ok (.if_icmp .ge 67, 3) := by decide +kernel
theorem dX9_land_29 : decode cX9_land 29 = .ok (.aload_n 0, 1) := by decide +kernel
theorem dX9_land_30 : decode cX9_land 30 = .ok (.iload 5, 2) := by decide +kernel
theorem dX9_land_32 : decode cX9_land 32 = .ok (.iconst 3, 1) := by decide +kernel
theorem dX9_land_33 : decode cX9_land 33 = .ok (.invokevirtual 116, 3) := by decide +kernel
theorem dX9_land_36 : decode cX9_land 36 = .ok (.iload_n 1, 1) := by decide +kernel
theorem dX9_land_37 : decode cX9_land 37 = .ok (.if_icmp .eq 6, 3) := by decide +kernel
theorem dX9_land_40 : decode cX9_land 40 = .ok (.goto 47, 3) := by decide +kernel
theorem dX9_land_43 : decode cX9_land 43 = .ok (.aload_n 0, 1) := by decide +kernel
theorem dX9_land_44 : decode cX9_land 44 = .ok (.iload 5, 2) := by decide +kernel
theorem dX9_land_46 : decode cX9_land 46 = .ok (.iconst 3, 1) := by decide +kernel
theorem dX9_land_47 : decode cX9_land 47 = .ok (.iconst (-1), 1) := by decide +kernel
theorem dX9_land_48 : decode cX9_land 48 = .ok (.invokevirtual 156, 3) := by decide +kernel
theorem dX9_land_51 : decode cX9_land 51 = .ok (.aload_n 0, 1) := by decide +kernel
theorem dX9_land_52 : decode cX9_land 52 = .ok (.iload 5, 2) := by decide +kernel
theorem dX9_land_54 : decode cX9_land 54 = .ok (.iconst 2, 1) := by decide +kernel
theorem dX9_land_55 : decode cX9_land 55 = .ok (.iload_n 2, 1) := by decide +kernel
theorem dX9_land_56 : decode cX9_land 56 = .ok (.invokevirtual 156, 3) := by decide +kernel
theorem dX9_land_59 : decode cX9_land 59 = .ok (.aload_n 0, 1) := by decide +kernel
theorem dX9_land_60 : decode cX9_land 60 = .ok (.iload 5, 2) := by decide +kernel
theorem dX9_land_62 : decode cX9_land 62 = .ok (.iconst 0, 1) := by decide +kernel
theorem dX9_land_63 : decode cX9_land 63 = .ok (.invokevirtual 116, 3) := by decide +kernel
theorem dX9_land_66 : decode cX9_land 66 = .ok (.iload_n 2, 1) := by decide +kernel
theorem dX9_land_67 : decode cX9_land 67 = .ok (.if_icmp .eq 6, 3) := by decide +kernel
theorem dX9_land_70 : decode cX9_land 70 = .ok (.goto 17, 3) := by decide +kernel
theorem dX9_land_73 : decode cX9_land 73 = .ok (.aload_n 0, 1) := by decide +kernel
theorem dX9_land_74 : decode cX9_land 74 = .ok (.iload 5, 2) := by decide +kernel
theorem dX9_land_76 : decode cX9_land 76 = .ok (.iconst 4, 1) := by decide +kernel
theorem dX9_land_77 : decode cX9_land 77 = .ok (.aload_n 0, 1) := by decide +kernel
theorem dX9_land_78 : decode cX9_land 78 = .ok (.getfield 54, 3) := by decide +kernel
theorem dX9_land_81 : decode cX9_land 81 = .ok (.invokevirtual 156, 3) := by decide +kernel
theorem dX9_land_84 : decode cX9_land 84 = .ok (.iinc 3 1, 3) := by decide +kernel
theorem dX9_land_87 : decode cX9_land 87 = .ok (.iinc 5 1, 3) := by decide +kernel
theorem dX9_land_90 : decode cX9_land 90 = .ok (.goto (-70), 3) := by decide +kernel
theorem dX9_land_93 : decode cX9_land 93 = .ok (.aload_n 0, 1) := by decide +kernel
theorem dX9_land_94 : decode cX9_land 94 = .ok (.iload_n 1, 1) := by decide +kernel
theorem dX9_land_95 : decode cX9_land 95 = .ok (.iconst 1, 1) := by decide +kernel
theorem dX9_land_96 : decode cX9_land 96 = .ok (.aload_n 0, 1) := by decide +kernel
theorem dX9_land_97 : decode cX9_land 97 = .ok (.iload_n 1, 1) := by decide +kernel
theorem dX9_land_98 : decode cX9_land 98 = .ok (.iload_n 2, 1) := by decide +kernel
theorem dX9_land_99 : decode cX9_land 99 = .ok (.invokevirtual 134, 3) := by decide +kernel
theorem dX9_land_102 : decode cX9_land 102 = .ok (.invokevirtual 100, 3) := by decide +kernel
theorem dX9_land_105 : decode cX9_land 105 = .ok (.iconst 0, 1) := by decide +kernel
theorem dX9_land_106 : decode cX9_land 106 = .ok (.istore 5, 2) := by decide +kernel
theorem dX9_land_108 : decode cX9_land 108 = .ok (.iload 5, 2) := by decide +kernel
theorem dX9_land_110 : decode cX9_land 110 = .ok (.aload_n 0, 1) := by decide +kernel
theorem dX9_land_111 : decode cX9_land 111 = .ok (.getfield 113, 3) := by decide +kernel
theorem dX9_land_114 : decode cX9_land 114 = .ok (.if_icmp .ge 128, 3) := by decide +kernel
theorem dX9_land_117 : decode cX9_land 117 = .ok (.iload 4, 2) := by decide +kernel
theorem dX9_land_119 : decode cX9_land 119 = .ok (.ifCond .eq 117, 3) := by decide +kernel
theorem dX9_land_122 : decode cX9_land 122 = .ok (.aload_n 0, 1) := by decide +kernel
theorem dX9_land_123 : decode cX9_land 123 = .ok (.iload 5, 2) := by decide +kernel
theorem dX9_land_125 : decode cX9_land 125 = .ok (.invokevirtual 144, 3) := by decide +kernel
theorem dX9_land_128 : decode cX9_land 128 = .ok (.ifCond .ne 108, 3) := by decide +kernel
theorem dX9_land_131 : decode cX9_land 131 = .ok (.aload_n 0, 1) := by decide +kernel
theorem dX9_land_132 : decode cX9_land 132 = .ok (.iload 5, 2) := by decide +kernel
theorem dX9_land_134 : decode cX9_land 134 = .ok (.iconst 2, 1) := by decide +kernel
theorem dX9_land_135 : decode cX9_land 135 = .ok (.invokevirtual 116, 3) := by decide +kernel
theorem dX9_land_138 : decode cX9_land 138 = .ok (.iload_n 2, 1) := by decide +kernel
theorem dX9_land_139 : decode cX9_land 139 = .ok (.if_icmp .ne 97, 3) := by decide +kernel
theorem dX9_land_142 : decode cX9_land 142 = .ok (.aload_n 0, 1) := by decide +kernel
theorem dX9_land_143 : decode cX9_land 143 = .ok (.iload 5, 2) := by decide +kernel
theorem dX9_land_145 : decode cX9_land 145 = .ok (.iconst 1, 1) := by decide +kernel
theorem dX9_land_146 : decode cX9_land 146 = .ok (.invokevirtual 116, 3) := by decide +kernel
theorem dX9_land_149 : decode cX9_land 149 = .ok (.aload_n 0, 1) := by decide +kernel
theorem dX9_land_150 : decode cX9_land 150 = .ok (.iload_n 1, 1) := by decide +kernel
theorem dX9_land_151 : decode cX9_land 151 = .ok (.iconst 5, 1) := by decide +kernel
theorem dX9_land_152 : decode cX9_land 152 = .ok (.invokevirtual 66, 3) := by decide +kernel
theorem dX9_land_155 : decode cX9_land 155 = .ok (.if_icmp .lt 81, 3) := by decide +kernel
theorem dX9_land_158 : decode cX9_land 158 = .ok (.aload_n 0, 1) := by decide +kernel
theorem dX9_land_159 : decode cX9_land 159 = .ok (.iload_n 2, 1) := by decide +kernel
theorem dX9_land_160 : decode cX9_land 160 = .ok (.aload_n 0, 1) := by decide +kernel
theorem dX9_land_161 : decode cX9_land 161 = .ok (.iload 5, 2) := by decide +kernel
theorem dX9_land_163 : decode cX9_land 163 = .ok (.iconst 0, 1) := by decide +kernel
theorem dX9_land_164 : decode cX9_land 164 = .ok (.invokevirtual 116, 3) := by decide +kernel
theorem dX9_land_167 : decode cX9_land 167 = .ok (.invokevirtual 159, 3) := by decide +kernel
theorem dX9_land_170 : decode cX9_land 170 = .ok (.iload_n 1, 1) := by decide +kernel
theorem dX9_land_171 : decode cX9_land 171 = .ok (.if_icmp .eq 6, 3) := by decide +kernel
theorem dX9_land_174 : decode cX9_land 174 = .ok (.goto 62, 3) := by decide +kernel
theorem dX9_land_177 : decode cX9_land 177 = .ok (.iinc 4 (-1), 3) := by decide +kernel
theorem dX9_land_180 : decode cX9_land 180 = .ok (.aload_n 0, 1) := by decide +kernel
theorem dX9_land_181 : decode cX9_land 181 = .ok (.iload 5, 2) := by decide +kernel
theorem dX9_land_183 : decode cX9_land 183 = .ok (.iconst 1, 1) := by decide +kernel
theorem dX9_land_184 : decode cX9_land 184 = .ok (.aload_n 0, 1) := by decide +kernel
theorem dX9_land_185 : decode cX9_land 185 = .ok (.iload 5, 2) := by decide +kernel
theorem dX9_land_187 : decode cX9_land 187 = .ok (.iconst 1, 1) := by decide +kernel
theorem dX9_land_188 : decode cX9_land 188 = .ok (.invokevirtual 116, 3) := by decide +kernel
theorem dX9_land_191 : decode cX9_land 191 = .ok (.aload_n 0, 1) := by decide +kernel
theorem dX9_land_192 : decode cX9_land 192 = .ok (.iload_n 1, 1) := by decide +kernel
theorem dX9_land_193 : decode cX9_land 193 = .ok (.iconst 5, 1) := by decide +kernel
theorem dX9_land_194 : decode cX9_land 194 = .ok (.invokevirtual 66, 3) := by decide +kernel
theorem dX9_land_197 : decode cX9_land 197 = .ok (.isub, 1) := by decide +kernel
theorem dX9_land_198 : decode cX9_land 198 = .ok (.invokevirtual 156, 3) := by decide +kernel
theorem dX9_land_201 : decode cX9_land 201 = .ok (.aload_n 0, 1) := by decide +kernel
theorem dX9_land_202 : decode cX9_land 202 = .ok (.iload 5, 2) := by decide +kernel
theorem dX9_land_204 : decode cX9_land 204 = .ok (.iconst 3, 1) := by decide +kernel
theorem dX9_land_205 : decode cX9_land 205 = .ok (.iload_n 1, 1) := by decide +kernel
theorem dX9_land_206 : decode cX9_land 206 = .ok (.invokevirtual 156, 3) := by decide +kernel
theorem dX9_land_209 : decode cX9_land 209 = .ok (.aload_n 0, 1) := by decide +kernel
theorem dX9_land_210 : decode cX9_land 210 = .ok (.iload 5, 2) := by decide +kernel
theorem dX9_land_212 : decode cX9_land 212 = .ok (.iconst 2, 1) := by decide +kernel
theorem dX9_land_213 : decode cX9_land 213 = .ok (.iconst (-1), 1) := by decide +kernel
theorem dX9_land_214 : decode cX9_land 214 = .ok (.invokevirtual 156, 3) := by decide +kernel
theorem dX9_land_217 : decode cX9_land 217 = .ok (.aload_n 0, 1) := by decide +kernel
theorem dX9_land_218 : decode cX9_land 218 = .ok (.iload_n 1, 1) := by decide +kernel
theorem dX9_land_219 : decode cX9_land 219 = .ok (.iconst 2, 1) := by decide +kernel
theorem dX9_land_220 : decode cX9_land 220 = .ok (.aload_n 0, 1) := by decide +kernel
theorem dX9_land_221 : decode cX9_land 221 = .ok (.iload_n 1, 1) := by decide +kernel
theorem dX9_land_222 : decode cX9_land 222 = .ok (.iconst 2, 1) := by decide +kernel
theorem dX9_land_223 : decode cX9_land 223 = .ok (.invokevirtual 77, 3) := by decide +kernel
theorem dX9_land_226 : decode cX9_land 226 = .ok (.aload_n 0, 1) := by decide +kernel
theorem dX9_land_227 : decode cX9_land 227 = .ok (.iload_n 1, 1) := by decide +kernel
theorem dX9_land_228 : decode cX9_land 228 = .ok (.iconst 5, 1) := by decide +kernel
theorem dX9_land_229 : decode cX9_land 229 = .ok (.invokevirtual 66, 3) := by decide +kernel
theorem dX9_land_232 : decode cX9_land 232 = .ok (.iadd, 1) := by decide +kernel
theorem dX9_land_233 : decode cX9_land 233 = .ok (.invokevirtual 100, 3) := by decide +kernel
theorem dX9_land_236 : decode cX9_land 236 = .ok (.iinc 5 1, 3) := by decide +kernel
theorem dX9_land_239 : decode cX9_land 239 = .ok (.goto (-131), 3) := by decide +kernel
theorem dX9_land_242 : decode cX9_land 242 = .ok (.iload_n 3, 1) := by decide +kernel
theorem dX9_land_243 : decode cX9_land 243 = .ok (.ireturn, 1) := by decide +kernel
theorem dX9_step_0 : decode cX9_step 0 = .ok (.aload_n 0, 1) := by decide +kernel
theorem dX9_step_1 : decode cX9_step 1 = .ok (.iload_n 1, 1) := by decide +kernel
theorem dX9_step_2 : decode cX9_step 2 = .ok (.aload_n 0, 1) := by decide +kernel
theorem dX9_step_3 : decode cX9_step 3 = .ok (.iload_n 1, 1) := by decide +kernel
theorem dX9_step_4 : decode cX9_step 4 = .ok (.invokevirtual 125, 3) := by decide +kernel
theorem dX9_step_7 : decode cX9_step 7 = .ok (.aload_n 0, 1) := by decide +kernel
theorem dX9_step_8 : decode cX9_step 8 = .ok (.invokevirtual 80, 3) := by decide +kernel
theorem dX9_step_11 : decode cX9_step 11 = .ok (.invokevirtual 128, 3) := by decide +kernel
theorem dX9_step_14 : decode cX9_step 14 = .ok (.aload_n 0, 1) := by decide +kernel
theorem dX9_step_15 : decode cX9_step 15 = .ok (.getfield 31, 3) := by decide +kernel
theorem dX9_step_18 : decode cX9_step 18 = .ok (.aload_n 0, 1) := by decide +kernel
theorem dX9_step_19 : decode cX9_step 19 = .ok (.iload_n 1, 1) := by decide +kernel
theorem dX9_step_20 : decode cX9_step 20 = .ok (.iconst 0, 1) := by decide +kernel
theorem dX9_step_21 : decode cX9_step 21 = .ok (.invokevirtual 77, 3) := by decide +kernel
theorem dX9_step_24 : decode cX9_step 24 = .ok (.iaload, 1) := by decide +kernel
theorem dX9_step_25 : decode cX9_step 25 = .ok (.istore_n 2, 1) := by decide +kernel
theorem dX9_step_26 : decode cX9_step 26 = .ok (.iload_n 2, 1) := by decide +kernel
theorem dX9_step_27 : decode cX9_step 27 = .ok (.iconst 1, 1) := by decide +kernel
theorem dX9_step_28 : decode cX9_step 28 = .ok (.if_icmp .ge 4, 3) := by decide +kernel
theorem dX9_step_31 : decode cX9_step 31 = .ok (.return_, 1) := by decide +kernel
theorem dX9_step_32 : decode cX9_step 32 = .ok (.iconst 0, 1) := by decide +kernel
theorem dX9_step_33 : decode cX9_step 33 = .ok (.istore_n 3, 1) := by decide +kernel
theorem dX9_step_34 : decode cX9_step 34 = .ok (.iload_n 3, 1) := by decide +kernel
theorem dX9_step_35 : decode cX9_step 35 = .ok (.iconst 4, 1) := by decide +kernel
theorem dX9_step_36 : decode cX9_step 36 = .ok (.if_icmp .ge 66, 3) := by decide +kernel
theorem dX9_step_39 : decode cX9_step 39 = .ok (.aload_n 0, 1) := by decide +kernel
theorem dX9_step_40 : decode cX9_step 40 = .ok (.iload_n 1, 1) := by decide +kernel
theorem dX9_step_41 : decode cX9_step 41 = .ok (.iconst 0, 1) := by decide +kernel
theorem dX9_step_42 : decode cX9_step 42 = .ok (.invokevirtual 77, 3) := by decide +kernel
theorem dX9_step_45 : decode cX9_step 45 = .ok (.iload_n 3, 1) := by decide +kernel
theorem dX9_step_46 : decode cX9_step 46 = .ok (.invokestatic 110, 3) := by decide +kernel
theorem dX9_step_49 : decode cX9_step 49 = .ok (.istore 4, 2) := by decide +kernel
theorem dX9_step_51 : decode cX9_step 51 = .ok (.iload 4, 2) := by decide +kernel
theorem dX9_step_53 : decode cX9_step 53 = .ok (.iconst (-1), 1) := by decide +kernel
theorem dX9_step_54 : decode cX9_step 54 = .ok (.if_icmp .eq 42, 3) := by decide +kernel
theorem dX9_step_57 : decode cX9_step 57 = .ok (.aload_n 0, 1) := by decide +kernel
theorem dX9_step_58 : decode cX9_step 58 = .ok (.getfield 31, 3) := by decide +kernel
theorem dX9_step_61 : decode cX9_step 61 = .ok (.iload 4, 2) := by decide +kernel
theorem dX9_step_63 : decode cX9_step 63 = .ok (.iaload, 1) := by decide +kernel
theorem dX9_step_64 : decode cX9_step 64 = .ok (.iload_n 2, 1) := by decide +kernel
theorem dX9_step_65 : decode cX9_step 65 = .ok (.iconst 1, 1) := by decide +kernel
theorem dX9_step_66 : decode cX9_step 66 = .ok (.isub, 1) := by decide +kernel
theorem dX9_step_67 : decode cX9_step 67 = .ok (.if_icmp .eq 6, 3) := by decide +kernel
theorem dX9_step_70 : decode cX9_step 70 = .ok (.goto 26, 3) := by decide +kernel
theorem dX9_step_73 : decode cX9_step 73 = .ok (.aload_n 0, 1) := by decide +kernel
theorem dX9_step_74 : decode cX9_step 74 = .ok (.iload_n 1, 1) := by decide +kernel
theorem dX9_step_75 : decode cX9_step 75 = .ok (.iconst 0, 1) := by decide +kernel
theorem dX9_step_76 : decode cX9_step 76 = .ok (.iload 4, 2) := by decide +kernel
theorem dX9_step_78 : decode cX9_step 78 = .ok (.invokevirtual 100, 3) := by decide +kernel
theorem dX9_step_81 : decode cX9_step 81 = .ok (.aload_n 0, 1) := by decide +kernel
theorem dX9_step_82 : decode cX9_step 82 = .ok (.iload_n 1, 1) := by decide +kernel
theorem dX9_step_83 : decode cX9_step 83 = .ok (.iconst 3, 1) := by decide +kernel
theorem dX9_step_84 : decode cX9_step 84 = .ok (.aload_n 0, 1) := by decide +kernel
theorem dX9_step_85 : decode cX9_step 85 = .ok (.iload_n 1, 1) := by decide +kernel
theorem dX9_step_86 : decode cX9_step 86 = .ok (.iconst 3, 1) := by decide +kernel
theorem dX9_step_87 : decode cX9_step 87 = .ok (.invokevirtual 77, 3) := by decide +kernel
theorem dX9_step_90 : decode cX9_step 90 = .ok (.iconst 1, 1) := by decide +kernel
theorem dX9_step_91 : decode cX9_step 91 = .ok (.iadd, 1) := by decide +kernel
theorem dX9_step_92 : decode cX9_step 92 = .ok (.invokevirtual 100, 3) := by decide +kernel
theorem dX9_step_95 : decode cX9_step 95 = .ok (.return_, 1) := by decide +kernel
theorem dX9_step_96 : decode cX9_step 96 = .ok (.iinc 3 1, 3) := by decide +kernel
theorem dX9_step_99 : decode cX9_step 99 = .ok (.goto (-65), 3) := by decide +kernel
theorem dX9_step_102 : decode cX9_step 102 = .ok (.return_, 1) := by decide +kernel
theorem dX9_hourOn_0 : decode cX9_hourOn 0 = .ok (.iconst 0, 1) := by decide +kernel
theorem dX9_hourOn_1 : decode cX9_hourOn 1 = .ok (.istore_n 1, 1) := by decide +kernel
theorem dX9_hourOn_2 : decode cX9_hourOn 2 = .ok (.iconst 0, 1) := by decide +kernel
theorem dX9_hourOn_3 : decode cX9_hourOn 3 = .ok (.istore_n 2, 1) := by decide +kernel
theorem dX9_hourOn_4 : decode cX9_hourOn 4 = .ok (.iload_n 2, 1) := by decide +kernel
theorem dX9_hourOn_5 : decode cX9_hourOn 5 = .ok (.aload_n 0, 1) := by decide +kernel
theorem dX9_hourOn_6 : decode cX9_hourOn 6 = .ok (.getfield 51, 3) := by decide +kernel
theorem dX9_hourOn_9 : decode cX9_hourOn 9 = .ok (.if_icmp .ge 31, 3) := by decide +kernel
theorem dX9_hourOn_12 : decode cX9_hourOn 12 = .ok (.aload_n 0, 1) := by decide +kernel
theorem dX9_hourOn_13 : decode cX9_hourOn 13 = .ok (.iload_n 2, 1) := by decide +kernel
theorem dX9_hourOn_14 : decode cX9_hourOn 14 = .ok (.iconst 0, 1) := by decide +kernel
theorem dX9_hourOn_15 : decode cX9_hourOn 15 = .ok (.invokevirtual 77, 3) := by decide +kernel
theorem dX9_hourOn_18 : decode cX9_hourOn 18 = .ok (.aload_n 0, 1) := by decide +kernel
theorem dX9_hourOn_19 : decode cX9_hourOn 19 = .ok (.iload_n 2, 1) := by decide +kernel
theorem dX9_hourOn_20 : decode cX9_hourOn 20 = .ok (.invokevirtual 125, 3) := by decide +kernel
theorem dX9_hourOn_23 : decode cX9_hourOn 23 = .ok (.if_icmp .ne 11, 3) := by decide +kernel
theorem dX9_hourOn_26 : decode cX9_hourOn 26 = .ok (.iload_n 1, 1) := by decide +kernel
theorem dX9_hourOn_27 : decode cX9_hourOn 27 = .ok (.aload_n 0, 1) := by decide +kernel
theorem dX9_hourOn_28 : decode cX9_hourOn 28 = .ok (.iload_n 2, 1) := by decide +kernel
theorem dX9_hourOn_29 : decode cX9_hourOn 29 = .ok (.invokevirtual 162, 3) := by decide +kernel
theorem dX9_hourOn_32 : decode cX9_hourOn 32 = .ok (.iadd, 1) := by decide +kernel
theorem dX9_hourOn_33 : decode cX9_hourOn 33 = .ok (.istore_n 1, 1) := by decide +kernel
theorem dX9_hourOn_34 : decode cX9_hourOn 34 = .ok (.iinc 2 1, 3) := by decide +kernel
theorem dX9_hourOn_37 : decode cX9_hourOn 37 = .ok (.goto (-33), 3) := by decide +kernel
theorem dX9_hourOn_40 : decode cX9_hourOn 40 = .ok (.iconst 0, 1) := by decide +kernel
theorem dX9_hourOn_41 : decode cX9_hourOn 41 = .ok (.istore_n 2, 1) := by decide +kernel
theorem dX9_hourOn_42 : decode cX9_hourOn 42 = .ok (.iload_n 2, 1) := by decide +kernel
theorem dX9_hourOn_43 : decode cX9_hourOn 43 = .ok (.aload_n 0, 1) := by decide +kernel
theorem dX9_hourOn_44 : decode cX9_hourOn 44 = .ok (.getfield 51, 3) := by decide +kernel
theorem dX9_hourOn_47 : decode cX9_hourOn 47 = .ok (.if_icmp .ge 14, 3) := by decide +kernel
theorem dX9_hourOn_50 : decode cX9_hourOn 50 = .ok (.aload_n 0, 1) := by decide +kernel
theorem dX9_hourOn_51 : decode cX9_hourOn 51 = .ok (.iload_n 2, 1) := by decide +kernel
theorem dX9_hourOn_52 : decode cX9_hourOn 52 = .ok (.invokevirtual 165, 3) := by decide +kernel
theorem dX9_hourOn_55 : decode cX9_hourOn 55 = .ok (.iinc 2 1, 3) := by decide +kernel
theorem dX9_hourOn_58 : decode cX9_hourOn 58 = .ok (.goto (-16), 3) := by decide +kernel
theorem dX9_hourOn_61 : decode cX9_hourOn 61 = .ok (.aload_n 0, 1) := by decide +kernel
theorem dX9_hourOn_62 : decode cX9_hourOn 62 = .ok (.dup, 1) := by decide +kernel
theorem dX9_hourOn_63 : decode cX9_hourOn 63 = .ok (.getfield 54, 3) := by decide +kernel
theorem dX9_hourOn_66 : decode cX9_hourOn 66 = .ok (.iconst 1, 1) := by decide +kernel
theorem dX9_hourOn_67 : decode cX9_hourOn 67 = .ok (.iadd, 1) := by decide +kernel
theorem dX9_hourOn_68 : decode cX9_hourOn 68 = .ok (.putfield 54, 3) := by decide +kernel
theorem dX9_hourOn_71 : decode cX9_hourOn 71 = .ok (.iload_n 1, 1) := by decide +kernel
theorem dX9_hourOn_72 : decode cX9_hourOn 72 = .ok (.ireturn, 1) := by decide +kernel
theorem dX9_pass_0 : decode cX9_pass 0 = .ok (.aload_n 0, 1) := by decide +kernel
theorem dX9_pass_1 : decode cX9_pass 1 = .ok (.iconst 0, 1) := by decide +kernel
theorem dX9_pass_2 : decode cX9_pass 2 = .ok (.putfield 40, 3) := by decide +kernel
theorem dX9_pass_5 : decode cX9_pass 5 = .ok (.iload_n 1, 1) := by decide +kernel
theorem dX9_pass_6 : decode cX9_pass 6 = .ok (.iconst 1, 1) := by decide +kernel
theorem dX9_pass_7 : decode cX9_pass 7 = .ok (.bipush 100, 2) := by decide +kernel
theorem dX9_pass_9 : decode cX9_pass 9 = .ok (.invokestatic 44, 3) := by decide +kernel
theorem dX9_pass_12 : decode cX9_pass 12 = .ok (.ifCond .ne 9, 3) := by decide +kernel
theorem dX9_pass_15 : decode cX9_pass 15 = .ok (.aload_n 0, 1) := by decide +kernel
theorem dX9_pass_16 : decode cX9_pass 16 = .ok (.iconst 1, 1) := by decide +kernel
theorem dX9_pass_17 : decode cX9_pass 17 = .ok (.invokevirtual 73, 3) := by decide +kernel
theorem dX9_pass_20 : decode cX9_pass 20 = .ok (.ireturn, 1) := by decide +kernel
theorem dX9_pass_21 : decode cX9_pass 21 = .ok (.iconst 0, 1) := by decide +kernel
theorem dX9_pass_22 : decode cX9_pass 22 = .ok (.istore_n 2, 1) := by decide +kernel
theorem dX9_pass_23 : decode cX9_pass 23 = .ok (.iconst 0, 1) := by decide +kernel
theorem dX9_pass_24 : decode cX9_pass 24 = .ok (.istore_n 3, 1) := by decide +kernel
theorem dX9_pass_25 : decode cX9_pass 25 = .ok (.iload_n 3, 1) := by decide +kernel
theorem dX9_pass_26 : decode cX9_pass 26 = .ok (.iload_n 1, 1) := by decide +kernel
theorem dX9_pass_27 : decode cX9_pass 27 = .ok (.if_icmp .ge 16, 3) := by decide +kernel
theorem dX9_pass_30 : decode cX9_pass 30 = .ok (.iload_n 2, 1) := by decide +kernel
theorem dX9_pass_31 : decode cX9_pass 31 = .ok (.aload_n 0, 1) := by decide +kernel
theorem dX9_pass_32 : decode cX9_pass 32 = .ok (.invokevirtual 168, 3) := by decide +kernel
theorem dX9_pass_35 : decode cX9_pass 35 = .ok (.iadd, 1) := by decide +kernel
theorem dX9_pass_36 : decode cX9_pass 36 = .ok (.istore_n 2, 1) := by decide +kernel
theorem dX9_pass_37 : decode cX9_pass 37 = .ok (.iinc 3 1, 3) := by decide +kernel
theorem dX9_pass_40 : decode cX9_pass 40 = .ok (.goto (-15), 3) := by decide +kernel
theorem dX9_pass_43 : decode cX9_pass 43 = .ok (.iload_n 2, 1) := by decide +kernel
theorem dX9_pass_44 : decode cX9_pass 44 = .ok (.ireturn, 1) := by decide +kernel
theorem dX9_counted_0 : decode cX9_counted 0 = .ok (.iconst 0, 1) := by decide +kernel
theorem dX9_counted_1 : decode cX9_counted 1 = .ok (.istore_n 2, 1) := by decide +kernel
theorem dX9_counted_2 : decode cX9_counted 2 = .ok (.iload_n 1, 1) := by decide +kernel
theorem dX9_counted_3 : decode cX9_counted 3 = .ok (.tableswitch 186 0 10 #[57, 62, 67, 72, 77, 186, 186, 186, 82, 109, 143], 57) := by decide +kernel
theorem dX9_counted_60 : decode cX9_counted 60 = .ok (.aload_n 0, 1) := by decide +kernel
theorem dX9_counted_61 : decode cX9_counted 61 = .ok (.getfield 54, 3) := by decide +kernel
theorem dX9_counted_64 : decode cX9_counted 64 = .ok (.ireturn, 1) := by decide +kernel
theorem dX9_counted_65 : decode cX9_counted 65 = .ok (.aload_n 0, 1) := by decide +kernel
theorem dX9_counted_66 : decode cX9_counted 66 = .ok (.invokevirtual 80, 3) := by decide +kernel
theorem dX9_counted_69 : decode cX9_counted 69 = .ok (.ireturn, 1) := by decide +kernel
theorem dX9_counted_70 : decode cX9_counted 70 = .ok (.aload_n 0, 1) := by decide +kernel
theorem dX9_counted_71 : decode cX9_counted 71 = .ok (.getfield 48, 3) := by decide +kernel
theorem dX9_counted_74 : decode cX9_counted 74 = .ok (.ireturn, 1) := by decide +kernel
theorem dX9_counted_75 : decode cX9_counted 75 = .ok (.aload_n 0, 1) := by decide +kernel
theorem dX9_counted_76 : decode cX9_counted 76 = .ok (.getfield 51, 3) := by decide +kernel
theorem dX9_counted_79 : decode cX9_counted 79 = .ok (.ireturn, 1) := by decide +kernel
theorem dX9_counted_80 : decode cX9_counted 80 = .ok (.aload_n 0, 1) := by decide +kernel
theorem dX9_counted_81 : decode cX9_counted 81 = .ok (.getfield 113, 3) := by decide +kernel
theorem dX9_counted_84 : decode cX9_counted 84 = .ok (.ireturn, 1) := by decide +kernel
theorem dX9_counted_85 : decode cX9_counted 85 = .ok (.iconst 0, 1) := by decide +kernel
theorem dX9_counted_86 : decode cX9_counted 86 = .ok (.istore_n 3, 1) := by decide +kernel
theorem dX9_counted_87 : decode cX9_counted 87 = .ok (.iload_n 3, 1) := by decide +kernel
theorem dX9_counted_88 : decode cX9_counted 88 = .ok (.aload_n 0, 1) := by decide +kernel
theorem dX9_counted_89 : decode cX9_counted 89 = .ok (.getfield 51, 3) := by decide +kernel
theorem dX9_counted_92 : decode cX9_counted 92 = .ok (.if_icmp .ge 18, 3) := by decide +kernel
theorem dX9_counted_95 : decode cX9_counted 95 = .ok (.iload_n 2, 1) := by decide +kernel
theorem dX9_counted_96 : decode cX9_counted 96 = .ok (.aload_n 0, 1) := by decide +kernel
theorem dX9_counted_97 : decode cX9_counted 97 = .ok (.iload_n 3, 1) := by decide +kernel
theorem dX9_counted_98 : decode cX9_counted 98 = .ok (.iconst 2, 1) := by decide +kernel
theorem dX9_counted_99 : decode cX9_counted 99 = .ok (.invokevirtual 77, 3) := by decide +kernel
theorem dX9_counted_102 : decode cX9_counted 102 = .ok (.iadd, 1) := by decide +kernel
theorem dX9_counted_103 : decode cX9_counted 103 = .ok (.istore_n 2, 1) := by decide +kernel
theorem dX9_counted_104 : decode cX9_counted 104 = .ok (.iinc 3 1, 3) := by decide +kernel
theorem dX9_counted_107 : decode cX9_counted 107 = .ok (.goto (-20), 3) := by decide +kernel
theorem dX9_counted_110 : decode cX9_counted 110 = .ok (.iload_n 2, 1) := by decide +kernel
theorem dX9_counted_111 : decode cX9_counted 111 = .ok (.ireturn, 1) := by decide +kernel
theorem dX9_counted_112 : decode cX9_counted 112 = .ok (.iconst 0, 1) := by decide +kernel
theorem dX9_counted_113 : decode cX9_counted 113 = .ok (.istore_n 3, 1) := by decide +kernel
theorem dX9_counted_114 : decode cX9_counted 114 = .ok (.iload_n 3, 1) := by decide +kernel
theorem dX9_counted_115 : decode cX9_counted 115 = .ok (.aload_n 0, 1) := by decide +kernel
theorem dX9_counted_116 : decode cX9_counted 116 = .ok (.getfield 51, 3) := by decide +kernel
theorem dX9_counted_119 : decode cX9_counted 119 = .ok (.if_icmp .ge 25, 3) := by decide +kernel
theorem dX9_counted_122 : decode cX9_counted 122 = .ok (.iload_n 2, 1) := by decide +kernel
theorem dX9_counted_123 : decode cX9_counted 123 = .ok (.aload_n 0, 1) := by decide +kernel
theorem dX9_counted_124 : decode cX9_counted 124 = .ok (.iload_n 3, 1) := by decide +kernel
theorem dX9_counted_125 : decode cX9_counted 125 = .ok (.invokevirtual 122, 3) := by decide +kernel
theorem dX9_counted_128 : decode cX9_counted 128 = .ok (.ifCond .eq 7, 3) := by decide +kernel
theorem dX9_counted_131 : decode cX9_counted 131 = .ok (.iconst 1, 1) := by decide +kernel
theorem dX9_counted_132 : decode cX9_counted 132 = .ok (.goto 4, 3) := by decide +kernel
theorem dX9_counted_135 : decode cX9_counted 135 = .ok (.iconst 0, 1) := by decide +kernel
theorem dX9_counted_136 : decode cX9_counted 136 = .ok (.iadd, 1) := by decide +kernel
theorem dX9_counted_137 : decode cX9_counted 137 = .ok (.istore_n 2, 1) := by decide +kernel
theorem dX9_counted_138 : decode cX9_counted 138 = .ok (.iinc 3 1, 3) := by decide +kernel
theorem dX9_counted_141 : decode cX9_counted 141 = .ok (.goto (-27), 3) := by decide +kernel
theorem dX9_counted_144 : decode cX9_counted 144 = .ok (.iload_n 2, 1) := by decide +kernel
theorem dX9_counted_145 : decode cX9_counted 145 = .ok (.ireturn, 1) := by decide +kernel
theorem dX9_counted_146 : decode cX9_counted 146 = .ok (.iconst 0, 1) := by decide +kernel
theorem dX9_counted_147 : decode cX9_counted 147 = .ok (.istore_n 3, 1) := by decide +kernel
theorem dX9_counted_148 : decode cX9_counted 148 = .ok (.iload_n 3, 1) := by decide +kernel
theorem dX9_counted_149 : decode cX9_counted 149 = .ok (.sipush 196, 3) := by decide +kernel
theorem dX9_counted_152 : decode cX9_counted 152 = .ok (.if_icmp .ge 35, 3) := by decide +kernel
theorem dX9_counted_155 : decode cX9_counted 155 = .ok (.iload_n 2, 1) := by decide +kernel
theorem dX9_counted_156 : decode cX9_counted 156 = .ok (.aload_n 0, 1) := by decide +kernel
theorem dX9_counted_157 : decode cX9_counted 157 = .ok (.iload_n 3, 1) := by decide +kernel
theorem dX9_counted_158 : decode cX9_counted 158 = .ok (.aload_n 0, 1) := by decide +kernel
theorem dX9_counted_159 : decode cX9_counted 159 = .ok (.invokevirtual 80, 3) := by decide +kernel
theorem dX9_counted_162 : decode cX9_counted 162 = .ok (.invokevirtual 63, 3) := by decide +kernel
theorem dX9_counted_165 : decode cX9_counted 165 = .ok (.aload_n 0, 1) := by decide +kernel
theorem dX9_counted_166 : decode cX9_counted 166 = .ok (.getfield 13, 3) := by decide +kernel
theorem dX9_counted_169 : decode cX9_counted 169 = .ok (.iload_n 3, 1) := by decide +kernel
theorem dX9_counted_170 : decode cX9_counted 170 = .ok (.iaload, 1) := by decide +kernel
theorem dX9_counted_171 : decode cX9_counted 171 = .ok (.if_icmp .ge 7, 3) := by decide +kernel
theorem dX9_counted_174 : decode cX9_counted 174 = .ok (.iconst 1, 1) := by decide +kernel
theorem dX9_counted_175 : decode cX9_counted 175 = .ok (.goto 4, 3) := by decide +kernel
theorem dX9_counted_178 : decode cX9_counted 178 = .ok (.iconst 0, 1) := by decide +kernel
theorem dX9_counted_179 : decode cX9_counted 179 = .ok (.iadd, 1) := by decide +kernel
theorem dX9_counted_180 : decode cX9_counted 180 = .ok (.istore_n 2, 1) := by decide +kernel
theorem dX9_counted_181 : decode cX9_counted 181 = .ok (.iinc 3 1, 3) := by decide +kernel
theorem dX9_counted_184 : decode cX9_counted 184 = .ok (.goto (-36), 3) := by decide +kernel
theorem dX9_counted_187 : decode cX9_counted 187 = .ok (.iload_n 2, 1) := by decide +kernel
theorem dX9_counted_188 : decode cX9_counted 188 = .ok (.ireturn, 1) := by decide +kernel
theorem dX9_counted_189 : decode cX9_counted 189 = .ok (.iconst 0, 1) := by decide +kernel
theorem dX9_counted_190 : decode cX9_counted 190 = .ok (.istore_n 3, 1) := by decide +kernel
theorem dX9_counted_191 : decode cX9_counted 191 = .ok (.iload_n 3, 1) := by decide +kernel
theorem dX9_counted_192 : decode cX9_counted 192 = .ok (.aload_n 0, 1) := by decide +kernel
theorem dX9_counted_193 : decode cX9_counted 193 = .ok (.getfield 113, 3) := by decide +kernel
theorem dX9_counted_196 : decode cX9_counted 196 = .ok (.if_icmp .ge 50, 3) := by decide +kernel
theorem dX9_counted_199 : decode cX9_counted 199 = .ok (.iload_n 2, 1) := by decide +kernel
theorem dX9_counted_200 : decode cX9_counted 200 = .ok (.aload_n 0, 1) := by decide +kernel
theorem dX9_counted_201 : decode cX9_counted 201 = .ok (.iload_n 3, 1) := by decide +kernel
theorem dX9_counted_202 : decode cX9_counted 202 = .ok (.invokevirtual 144, 3) := by decide +kernel
theorem dX9_counted_205 : decode cX9_counted 205 = .ok (.ifCond .eq 8, 3) := by decide +kernel
theorem dX9_counted_208 : decode cX9_counted 208 = .ok (.bipush 7, 2) := by decide +kernel
theorem dX9_counted_210 : decode cX9_counted 210 = .ok (.goto 19, 3) := by decide +kernel
theorem dX9_counted_213 : decode cX9_counted 213 = .ok (.aload_n 0, 1) := by decide +kernel
theorem dX9_counted_214 : decode cX9_counted 214 = .ok (.iload_n 3, 1) := by decide +kernel
theorem dX9_counted_215 : decode cX9_counted 215 = .ok (.iconst 3, 1) := by decide +kernel
theorem dX9_counted_216 : decode cX9_counted 216 = .ok (.invokevirtual 116, 3) := by decide +kernel
theorem dX9_counted_219 : decode cX9_counted 219 = .ok (.iconst (-1), 1) := by decide +kernel
theorem dX9_counted_220 : decode cX9_counted 220 = .ok (.if_icmp .eq 8, 3) := by decide +kernel
theorem dX9_counted_223 : decode cX9_counted 223 = .ok (.bipush 6, 2) := by decide +kernel
theorem dX9_counted_225 : decode cX9_counted 225 = .ok (.goto 4, 3) := by decide +kernel
theorem dX9_counted_228 : decode cX9_counted 228 = .ok (.iconst 5, 1) := by decide +kernel
theorem dX9_counted_229 : decode cX9_counted 229 = .ok (.iload_n 1, 1) := by decide +kernel
theorem dX9_counted_230 : decode cX9_counted 230 = .ok (.if_icmp .ne 7, 3) := by decide +kernel
theorem dX9_counted_233 : decode cX9_counted 233 = .ok (.iconst 1, 1) := by decide +kernel
theorem dX9_counted_234 : decode cX9_counted 234 = .ok (.goto 4, 3) := by decide +kernel
theorem dX9_counted_237 : decode cX9_counted 237 = .ok (.iconst 0, 1) := by decide +kernel
theorem dX9_counted_238 : decode cX9_counted 238 = .ok (.iadd, 1) := by decide +kernel
theorem dX9_counted_239 : decode cX9_counted 239 = .ok (.istore_n 2, 1) := by decide +kernel
theorem dX9_counted_240 : decode cX9_counted 240 = .ok (.iinc 3 1, 3) := by decide +kernel
theorem dX9_counted_243 : decode cX9_counted 243 = .ok (.goto (-52), 3) := by decide +kernel
theorem dX9_counted_246 : decode cX9_counted 246 = .ok (.iload_n 2, 1) := by decide +kernel
theorem dX9_counted_247 : decode cX9_counted 247 = .ok (.ireturn, 1) := by decide +kernel
theorem dX9_count_0 : decode cX9_count 0 = .ok (.aload_n 0, 1) := by decide +kernel
theorem dX9_count_1 : decode cX9_count 1 = .ok (.iconst 0, 1) := by decide +kernel
theorem dX9_count_2 : decode cX9_count 2 = .ok (.putfield 40, 3) := by decide +kernel
theorem dX9_count_5 : decode cX9_count 5 = .ok (.iload_n 1, 1) := by decide +kernel
theorem dX9_count_6 : decode cX9_count 6 = .ok (.iconst 0, 1) := by decide +kernel
theorem dX9_count_7 : decode cX9_count 7 = .ok (.bipush 10, 2) := by decide +kernel
theorem dX9_count_9 : decode cX9_count 9 = .ok (.invokestatic 44, 3) := by decide +kernel
theorem dX9_count_12 : decode cX9_count 12 = .ok (.ifCond .eq 11, 3) := by decide +kernel
theorem dX9_count_15 : decode cX9_count 15 = .ok (.aload_n 0, 1) := by decide +kernel
theorem dX9_count_16 : decode cX9_count 16 = .ok (.iload_n 1, 1) := by decide +kernel
theorem dX9_count_17 : decode cX9_count 17 = .ok (.invokevirtual 171, 3) := by decide +kernel
theorem dX9_count_20 : decode cX9_count 20 = .ok (.goto 8, 3) := by decide +kernel
theorem dX9_count_23 : decode cX9_count 23 = .ok (.aload_n 0, 1) := by decide +kernel
theorem dX9_count_24 : decode cX9_count 24 = .ok (.iconst 1, 1) := by decide +kernel
theorem dX9_count_25 : decode cX9_count 25 = .ok (.invokevirtual 73, 3) := by decide +kernel
theorem dX9_count_28 : decode cX9_count 28 = .ok (.ireturn, 1) := by decide +kernel
theorem dX9_crossingAt_0 : decode cX9_crossingAt 0 = .ok (.aload_n 0, 1) := by decide +kernel
theorem dX9_crossingAt_1 : decode cX9_crossingAt 1 = .ok (.iload_n 1, 1) := by decide +kernel
theorem dX9_crossingAt_2 : decode cX9_crossingAt 2 = .ok (.aload_n 0, 1) := by decide +kernel
theorem dX9_crossingAt_3 : decode cX9_crossingAt 3 = .ok (.getfield 19, 3) := by decide +kernel
theorem dX9_crossingAt_6 : decode cX9_crossingAt 6 = .ok (.aload_n 0, 1) := by decide +kernel
theorem dX9_crossingAt_7 : decode cX9_crossingAt 7 = .ok (.iload_n 1, 1) := by decide +kernel
theorem dX9_crossingAt_8 : decode cX9_crossingAt 8 = .ok (.iconst 1, 1) := by decide +kernel
theorem dX9_crossingAt_9 : decode cX9_crossingAt 9 = .ok (.invokevirtual 66, 3) := by decide +kernel
theorem dX9_crossingAt_12 : decode cX9_crossingAt 12 = .ok (.iaload, 1) := by decide +kernel
theorem dX9_crossingAt_13 : decode cX9_crossingAt 13 = .ok (.iload_n 2, 1) := by decide +kernel
theorem dX9_crossingAt_14 : decode cX9_crossingAt 14 = .ok (.invokevirtual 128, 3) := by decide +kernel
theorem dX9_crossingAt_17 : decode cX9_crossingAt 17 = .ok (.aload_n 0, 1) := by decide +kernel
theorem dX9_crossingAt_18 : decode cX9_crossingAt 18 = .ok (.getfield 31, 3) := by decide +kernel
theorem dX9_crossingAt_21 : decode cX9_crossingAt 21 = .ok (.aload_n 0, 1) := by decide +kernel
theorem dX9_crossingAt_22 : decode cX9_crossingAt 22 = .ok (.getfield 19, 3) := by decide +kernel
theorem dX9_crossingAt_25 : decode cX9_crossingAt 25 = .ok (.aload_n 0, 1) := by decide +kernel
theorem dX9_crossingAt_26 : decode cX9_crossingAt 26 = .ok (.iload_n 1, 1) := by decide +kernel
theorem dX9_crossingAt_27 : decode cX9_crossingAt 27 = .ok (.iconst 0, 1) := by decide +kernel
theorem dX9_crossingAt_28 : decode cX9_crossingAt 28 = .ok (.invokevirtual 66, 3) := by decide +kernel
theorem dX9_crossingAt_31 : decode cX9_crossingAt 31 = .ok (.iaload, 1) := by decide +kernel
theorem dX9_crossingAt_32 : decode cX9_crossingAt 32 = .ok (.iaload, 1) := by decide +kernel
theorem dX9_crossingAt_33 : decode cX9_crossingAt 33 = .ok (.ireturn, 1) := by decide +kernel
theorem dX9_crossing_0 : decode cX9_crossing 0 = .ok (.aload_n 0, 1) := by decide +kernel
theorem dX9_crossing_1 : decode cX9_crossing 1 = .ok (.iconst 0, 1) := by decide +kernel
theorem dX9_crossing_2 : decode cX9_crossing 2 = .ok (.putfield 40, 3) := by decide +kernel
theorem dX9_crossing_5 : decode cX9_crossing 5 = .ok (.aload_n 0, 1) := by decide +kernel
theorem dX9_crossing_6 : decode cX9_crossing 6 = .ok (.iload_n 1, 1) := by decide +kernel
theorem dX9_crossing_7 : decode cX9_crossing 7 = .ok (.invokevirtual 104, 3) := by decide +kernel
theorem dX9_crossing_10 : decode cX9_crossing 10 = .ok (.ifCond .ne 9, 3) := by decide +kernel
theorem dX9_crossing_13 : decode cX9_crossing 13 = .ok (.aload_n 0, 1) := by decide +kernel
theorem dX9_crossing_14 : decode cX9_crossing 14 = .ok (.iconst 1, 1) := by decide +kernel
theorem dX9_crossing_15 : decode cX9_crossing 15 = .ok (.invokevirtual 73, 3) := by decide +kernel
theorem dX9_crossing_18 : decode cX9_crossing 18 = .ok (.ireturn, 1) := by decide +kernel
theorem dX9_crossing_19 : decode cX9_crossing 19 = .ok (.iload_n 2, 1) := by decide +kernel
theorem dX9_crossing_20 : decode cX9_crossing 20 = .ok (.iconst 0, 1) := by decide +kernel
theorem dX9_crossing_21 : decode cX9_crossing 21 = .ok (.bipush 24, 2) := by decide +kernel
theorem dX9_crossing_23 : decode cX9_crossing 23 = .ok (.invokestatic 44, 3) := by decide +kernel
theorem dX9_crossing_26 : decode cX9_crossing 26 = .ok (.ifCond .eq 12, 3) := by decide +kernel
theorem dX9_crossing_29 : decode cX9_crossing 29 = .ok (.aload_n 0, 1) := by decide +kernel
theorem dX9_crossing_30 : decode cX9_crossing 30 = .ok (.iload_n 1, 1) := by decide +kernel
theorem dX9_crossing_31 : decode cX9_crossing 31 = .ok (.iload_n 2, 1) := by decide +kernel
theorem dX9_crossing_32 : decode cX9_crossing 32 = .ok (.invokevirtual 174, 3) := by decide +kernel
theorem dX9_crossing_35 : decode cX9_crossing 35 = .ok (.goto 8, 3) := by decide +kernel
theorem dX9_crossing_38 : decode cX9_crossing 38 = .ok (.aload_n 0, 1) := by decide +kernel
theorem dX9_crossing_39 : decode cX9_crossing 39 = .ok (.iconst 2, 1) := by decide +kernel
theorem dX9_crossing_40 : decode cX9_crossing 40 = .ok (.invokevirtual 73, 3) := by decide +kernel
theorem dX9_crossing_43 : decode cX9_crossing 43 = .ok (.ireturn, 1) := by decide +kernel
theorem dX9_opens_0 : decode cX9_opens 0 = .ok (.aload_n 0, 1) := by decide +kernel
theorem dX9_opens_1 : decode cX9_opens 1 = .ok (.iconst 0, 1) := by decide +kernel
theorem dX9_opens_2 : decode cX9_opens 2 = .ok (.putfield 40, 3) := by decide +kernel
theorem dX9_opens_5 : decode cX9_opens 5 = .ok (.aload_n 0, 1) := by decide +kernel
theorem dX9_opens_6 : decode cX9_opens 6 = .ok (.iload_n 1, 1) := by decide +kernel
theorem dX9_opens_7 : decode cX9_opens 7 = .ok (.invokevirtual 104, 3) := by decide +kernel
theorem dX9_opens_10 : decode cX9_opens 10 = .ok (.ifCond .ne 9, 3) := by decide +kernel
theorem dX9_opens_13 : decode cX9_opens 13 = .ok (.aload_n 0, 1) := by decide +kernel
theorem dX9_opens_14 : decode cX9_opens 14 = .ok (.iconst 1, 1) := by decide +kernel
theorem dX9_opens_15 : decode cX9_opens 15 = .ok (.invokevirtual 73, 3) := by decide +kernel
theorem dX9_opens_18 : decode cX9_opens 18 = .ok (.ireturn, 1) := by decide +kernel
theorem dX9_opens_19 : decode cX9_opens 19 = .ok (.iconst 0, 1) := by decide +kernel
theorem dX9_opens_20 : decode cX9_opens 20 = .ok (.istore_n 2, 1) := by decide +kernel
theorem dX9_opens_21 : decode cX9_opens 21 = .ok (.iload_n 2, 1) := by decide +kernel
theorem dX9_opens_22 : decode cX9_opens 22 = .ok (.bipush 24, 2) := by decide +kernel
theorem dX9_opens_24 : decode cX9_opens 24 = .ok (.if_icmp .gt 21, 3) := by decide +kernel
theorem dX9_opens_27 : decode cX9_opens 27 = .ok (.aload_n 0, 1) := by decide +kernel
theorem dX9_opens_28 : decode cX9_opens 28 = .ok (.iload_n 1, 1) := by decide +kernel
theorem dX9_opens_29 : decode cX9_opens 29 = .ok (.iload_n 2, 1) := by decide +kernel
theorem dX9_opens_30 : decode cX9_opens 30 = .ok (.invokevirtual 174, 3) := by decide +kernel
theorem dX9_opens_33 : decode cX9_opens 33 = .ok (.iconst (-1), 1) := by decide +kernel
theorem dX9_opens_34 : decode cX9_opens 34 = .ok (.if_icmp .eq 5, 3) := by decide +kernel
theorem dX9_opens_37 : decode cX9_opens 37 = .ok (.iload_n 2, 1) := by decide +kernel
theorem dX9_opens_38 : decode cX9_opens 38 = .ok (.ireturn, 1) := by decide +kernel
theorem dX9_opens_39 : decode cX9_opens 39 = .ok (.iinc 2 1, 3) := by decide +kernel
theorem dX9_opens_42 : decode cX9_opens 42 = .ok (.goto (-21), 3) := by decide +kernel
theorem dX9_opens_45 : decode cX9_opens 45 = .ok (.iconst (-1), 1) := by decide +kernel
theorem dX9_opens_46 : decode cX9_opens 46 = .ok (.ireturn, 1) := by decide +kernel
theorem dX9_chain_0 : decode cX9_chain 0 = .ok (.aload_n 0, 1) := by decide +kernel
theorem dX9_chain_1 : decode cX9_chain 1 = .ok (.iconst 0, 1) := by decide +kernel
theorem dX9_chain_2 : decode cX9_chain 2 = .ok (.putfield 40, 3) := by decide +kernel
theorem dX9_chain_5 : decode cX9_chain 5 = .ok (.aload_n 0, 1) := by decide +kernel
theorem dX9_chain_6 : decode cX9_chain 6 = .ok (.iload_n 1, 1) := by decide +kernel
theorem dX9_chain_7 : decode cX9_chain 7 = .ok (.invokevirtual 90, 3) := by decide +kernel
theorem dX9_chain_10 : decode cX9_chain 10 = .ok (.ifCond .eq 20, 3) := by decide +kernel
theorem dX9_chain_13 : decode cX9_chain 13 = .ok (.aload_n 0, 1) := by decide +kernel
theorem dX9_chain_14 : decode cX9_chain 14 = .ok (.iload_n 2, 1) := by decide +kernel
theorem dX9_chain_15 : decode cX9_chain 15 = .ok (.invokevirtual 90, 3) := by decide +kernel
theorem dX9_chain_18 : decode cX9_chain 18 = .ok (.ifCond .eq 12, 3) := by decide +kernel
theorem dX9_chain_21 : decode cX9_chain 21 = .ok (.iload_n 3, 1) := by decide +kernel
theorem dX9_chain_22 : decode cX9_chain 22 = .ok (.iconst 0, 1) := by decide +kernel
theorem dX9_chain_23 : decode cX9_chain 23 = .ok (.iconst 2, 1) := by decide +kernel
theorem dX9_chain_24 : decode cX9_chain 24 = .ok (.invokestatic 44, 3) := by decide +kernel
theorem dX9_chain_27 : decode cX9_chain 27 = .ok (.ifCond .ne 9, 3) := by decide +kernel
theorem dX9_chain_30 : decode cX9_chain 30 = .ok (.aload_n 0, 1) := by decide +kernel
theorem dX9_chain_31 : decode cX9_chain 31 = .ok (.iconst 1, 1) := by decide +kernel
theorem dX9_chain_32 : decode cX9_chain 32 = .ok (.invokevirtual 73, 3) := by decide +kernel
theorem dX9_chain_35 : decode cX9_chain 35 = .ok (.ireturn, 1) := by decide +kernel
theorem dX9_chain_36 : decode cX9_chain 36 = .ok (.iload_n 3, 1) := by decide +kernel
theorem dX9_chain_37 : decode cX9_chain 37 = .ok (.iconst 1, 1) := by decide +kernel
theorem dX9_chain_38 : decode cX9_chain 38 = .ok (.if_icmp .ne 10, 3) := by decide +kernel
theorem dX9_chain_41 : decode cX9_chain 41 = .ok (.aload_n 0, 1) := by decide +kernel
theorem dX9_chain_42 : decode cX9_chain 42 = .ok (.iload_n 1, 1) := by decide +kernel
theorem dX9_chain_43 : decode cX9_chain 43 = .ok (.iload_n 2, 1) := by decide +kernel
theorem dX9_chain_44 : decode cX9_chain 44 = .ok (.invokevirtual 159, 3) := by decide +kernel
theorem dX9_chain_47 : decode cX9_chain 47 = .ok (.ireturn, 1) := by decide +kernel
theorem dX9_chain_48 : decode cX9_chain 48 = .ok (.aload_n 0, 1) := by decide +kernel
theorem dX9_chain_49 : decode cX9_chain 49 = .ok (.iload_n 2, 1) := by decide +kernel
theorem dX9_chain_50 : decode cX9_chain 50 = .ok (.invokevirtual 140, 3) := by decide +kernel
theorem dX9_chain_53 : decode cX9_chain 53 = .ok (.iload_n 3, 1) := by decide +kernel
theorem dX9_chain_54 : decode cX9_chain 54 = .ok (.ifCond .eq 13, 3) := by decide +kernel
theorem dX9_chain_57 : decode cX9_chain 57 = .ok (.aload_n 0, 1) := by decide +kernel
theorem dX9_chain_58 : decode cX9_chain 58 = .ok (.getfield 34, 3) := by decide +kernel
theorem dX9_chain_61 : decode cX9_chain 61 = .ok (.iload_n 1, 1) := by decide +kernel
theorem dX9_chain_62 : decode cX9_chain 62 = .ok (.iaload, 1) := by decide +kernel
theorem dX9_chain_63 : decode cX9_chain 63 = .ok (.iconst (-1), 1) := by decide +kernel
theorem dX9_chain_64 : decode cX9_chain 64 = .ok (.if_icmp .ne 12, 3) := by decide +kernel
theorem dX9_chain_67 : decode cX9_chain 67 = .ok (.aload_n 0, 1) := by decide +kernel
theorem dX9_chain_68 : decode cX9_chain 68 = .ok (.getfield 34, 3) := by decide +kernel
theorem dX9_chain_71 : decode cX9_chain 71 = .ok (.iload_n 1, 1) := by decide +kernel
theorem dX9_chain_72 : decode cX9_chain 72 = .ok (.iaload, 1) := by decide +kernel
theorem dX9_chain_73 : decode cX9_chain 73 = .ok (.goto 9, 3) := by decide +kernel
theorem dX9_chain_76 : decode cX9_chain 76 = .ok (.aload_n 0, 1) := by decide +kernel
theorem dX9_chain_77 : decode cX9_chain 77 = .ok (.getfield 37, 3) := by decide +kernel
theorem dX9_chain_80 : decode cX9_chain 80 = .ok (.iload_n 1, 1) := by decide +kernel
theorem dX9_chain_81 : decode cX9_chain 81 = .ok (.iaload, 1) := by decide +kernel
theorem dX9_chain_82 : decode cX9_chain 82 = .ok (.ireturn, 1) := by decide +kernel
theorem dX9_kept_0 : decode cX9_kept 0 = .ok (.iconst 3, 1) := by decide +kernel
theorem dX9_kept_1 : decode cX9_kept 1 = .ok (.anewarray 177, 3) := by decide +kernel
theorem dX9_kept_4 : decode cX9_kept 4 = .ok (.dup, 1) := by decide +kernel
theorem dX9_kept_5 : decode cX9_kept 5 = .ok (.iconst 0, 1) := by decide +kernel
theorem dX9_kept_6 : decode cX9_kept 6 = .ok (.aload_n 0, 1) := by decide +kernel
theorem dX9_kept_7 : decode cX9_kept 7 = .ok (.getfield 25, 3) := by decide +kernel
theorem dX9_kept_10 : decode cX9_kept 10 = .ok (.invokevirtual 178, 3) := by decide +kernel
theorem dX9_kept_13 : decode cX9_kept 13 = .ok (.checkcast 177, 3) := by decide +kernel
theorem dX9_kept_16 : decode cX9_kept 16 = .ok (.aastore, 1) := by decide +kernel
theorem dX9_kept_17 : decode cX9_kept 17 = .ok (.dup, 1) := by decide +kernel
theorem dX9_kept_18 : decode cX9_kept 18 = .ok (.iconst 1, 1) := by decide +kernel
theorem dX9_kept_19 : decode cX9_kept 19 = .ok (.aload_n 0, 1) := by decide +kernel
theorem dX9_kept_20 : decode cX9_kept 20 = .ok (.getfield 28, 3) := by decide +kernel
theorem dX9_kept_23 : decode cX9_kept 23 = .ok (.invokevirtual 178, 3) := by decide +kernel
theorem dX9_kept_26 : decode cX9_kept 26 = .ok (.checkcast 177, 3) := by decide +kernel
theorem dX9_kept_29 : decode cX9_kept 29 = .ok (.aastore, 1) := by decide +kernel
theorem dX9_kept_30 : decode cX9_kept 30 = .ok (.dup, 1) := by decide +kernel
theorem dX9_kept_31 : decode cX9_kept 31 = .ok (.iconst 2, 1) := by decide +kernel
theorem dX9_kept_32 : decode cX9_kept 32 = .ok (.iconst 1, 1) := by decide +kernel
theorem dX9_kept_33 : decode cX9_kept 33 = .ok (.newarray .int, 2) := by decide +kernel
theorem dX9_kept_35 : decode cX9_kept 35 = .ok (.dup, 1) := by decide +kernel
theorem dX9_kept_36 : decode cX9_kept 36 = .ok (.iconst 0, 1) := by decide +kernel
theorem dX9_kept_37 : decode cX9_kept 37 = .ok (.aload_n 0, 1) := by decide +kernel
theorem dX9_kept_38 : decode cX9_kept 38 = .ok (.getfield 54, 3) := by decide +kernel
theorem dX9_kept_41 : decode cX9_kept 41 = .ok (.iastore, 1) := by decide +kernel
theorem dX9_kept_42 : decode cX9_kept 42 = .ok (.aastore, 1) := by decide +kernel
theorem dX9_kept_43 : decode cX9_kept 43 = .ok (.areturn, 1) := by decide +kernel
theorem dX9_bringBack_0 : decode cX9_bringBack 0 = .ok (.aload_n 0, 1) := by decide +kernel
theorem dX9_bringBack_1 : decode cX9_bringBack 1 = .ok (.aload_n 1, 1) := by decide +kernel
theorem dX9_bringBack_2 : decode cX9_bringBack 2 = .ok (.iconst 0, 1) := by decide +kernel
theorem dX9_bringBack_3 : decode cX9_bringBack 3 = .ok (.aaload, 1) := by decide +kernel
theorem dX9_bringBack_4 : decode cX9_bringBack 4 = .ok (.putfield 25, 3) := by decide +kernel
theorem dX9_bringBack_7 : decode cX9_bringBack 7 = .ok (.aload_n 0, 1) := by decide +kernel
theorem dX9_bringBack_8 : decode cX9_bringBack 8 = .ok (.aload_n 1, 1) := by decide +kernel
theorem dX9_bringBack_9 : decode cX9_bringBack 9 = .ok (.iconst 1, 1) := by decide +kernel
theorem dX9_bringBack_10 : decode cX9_bringBack 10 = .ok (.aaload, 1) := by decide +kernel
theorem dX9_bringBack_11 : decode cX9_bringBack 11 = .ok (.putfield 28, 3) := by decide +kernel
theorem dX9_bringBack_14 : decode cX9_bringBack 14 = .ok (.aload_n 0, 1) := by decide +kernel
theorem dX9_bringBack_15 : decode cX9_bringBack 15 = .ok (.aload_n 1, 1) := by decide +kernel
theorem dX9_bringBack_16 : decode cX9_bringBack 16 = .ok (.iconst 2, 1) := by decide +kernel
theorem dX9_bringBack_17 : decode cX9_bringBack 17 = .ok (.aaload, 1) := by decide +kernel
theorem dX9_bringBack_18 : decode cX9_bringBack 18 = .ok (.iconst 0, 1) := by decide +kernel
theorem dX9_bringBack_19 : decode cX9_bringBack 19 = .ok (.iaload, 1) := by decide +kernel
theorem dX9_bringBack_20 : decode cX9_bringBack 20 = .ok (.putfield 54, 3) := by decide +kernel
theorem dX9_bringBack_23 : decode cX9_bringBack 23 = .ok (.return_, 1) := by decide +kernel
theorem dX9_aground_0 : decode cX9_aground 0 = .ok (.aload_n 0, 1) := by decide +kernel
theorem dX9_aground_1 : decode cX9_aground 1 = .ok (.iconst 0, 1) := by decide +kernel
theorem dX9_aground_2 : decode cX9_aground 2 = .ok (.putfield 40, 3) := by decide +kernel
theorem dX9_aground_5 : decode cX9_aground 5 = .ok (.aload_n 0, 1) := by decide +kernel
theorem dX9_aground_6 : decode cX9_aground 6 = .ok (.iload_n 1, 1) := by decide +kernel
theorem dX9_aground_7 : decode cX9_aground 7 = .ok (.invokevirtual 104, 3) := by decide +kernel
theorem dX9_aground_10 : decode cX9_aground 10 = .ok (.ifCond .ne 9, 3) := by decide +kernel
theorem dX9_aground_13 : decode cX9_aground 13 = .ok (.aload_n 0, 1) := by decide +kernel
theorem dX9_aground_14 : decode cX9_aground 14 = .ok (.iconst 1, 1) := by decide +kernel
theorem dX9_aground_15 : decode cX9_aground 15 = .ok (.invokevirtual 73, 3) := by decide +kernel
theorem dX9_aground_18 : decode cX9_aground 18 = .ok (.ireturn, 1) := by decide +kernel
theorem dX9_aground_19 : decode cX9_aground 19 = .ok (.iload_n 2, 1) := by decide +kernel
theorem dX9_aground_20 : decode cX9_aground 20 = .ok (.iconst 1, 1) := by decide +kernel
theorem dX9_aground_21 : decode cX9_aground 21 = .ok (.bipush 100, 2) := by decide +kernel
theorem dX9_aground_23 : decode cX9_aground 23 = .ok (.invokestatic 44, 3) := by decide +kernel
theorem dX9_aground_26 : decode cX9_aground 26 = .ok (.ifCond .ne 9, 3) := by decide +kernel
theorem dX9_aground_29 : decode cX9_aground 29 = .ok (.aload_n 0, 1) := by decide +kernel
theorem dX9_aground_30 : decode cX9_aground 30 = .ok (.iconst 2, 1) := by decide +kernel
theorem dX9_aground_31 : decode cX9_aground 31 = .ok (.invokevirtual 73, 3) := by decide +kernel
theorem dX9_aground_34 : decode cX9_aground 34 = .ok (.ireturn, 1) := by decide +kernel
theorem dX9_aground_35 : decode cX9_aground 35 = .ok (.aload_n 0, 1) := by decide +kernel
theorem dX9_aground_36 : decode cX9_aground 36 = .ok (.invokevirtual 182, 3) := by decide +kernel
theorem dX9_aground_39 : decode cX9_aground 39 = .ok (.astore_n 3, 1) := by decide +kernel
theorem dX9_aground_40 : decode cX9_aground 40 = .ok (.iconst 0, 1) := by decide +kernel
theorem dX9_aground_41 : decode cX9_aground 41 = .ok (.istore 4, 2) := by decide +kernel
theorem dX9_aground_43 : decode cX9_aground 43 = .ok (.iload 4, 2) := by decide +kernel
theorem dX9_aground_45 : decode cX9_aground 45 = .ok (.iload_n 2, 1) := by decide +kernel
theorem dX9_aground_46 : decode cX9_aground 46 = .ok (.if_icmp .ge 22, 3) := by decide +kernel
theorem dX9_aground_49 : decode cX9_aground 49 = .ok (.aload_n 0, 1) := by decide +kernel
theorem dX9_aground_50 : decode cX9_aground 50 = .ok (.iload_n 1, 1) := by decide +kernel
theorem dX9_aground_51 : decode cX9_aground 51 = .ok (.invokevirtual 122, 3) := by decide +kernel
theorem dX9_aground_54 : decode cX9_aground 54 = .ok (.ifCond .ne 14, 3) := by decide +kernel
theorem dX9_aground_57 : decode cX9_aground 57 = .ok (.aload_n 0, 1) := by decide +kernel
theorem dX9_aground_58 : decode cX9_aground 58 = .ok (.invokevirtual 168, 3) := by decide +kernel
theorem dX9_aground_61 : decode cX9_aground 61 = .ok (.pop, 1) := by decide +kernel
theorem dX9_aground_62 : decode cX9_aground 62 = .ok (.iinc 4 1, 3) := by decide +kernel
theorem dX9_aground_65 : decode cX9_aground 65 = .ok (.goto (-22), 3) := by decide +kernel
theorem dX9_aground_68 : decode cX9_aground 68 = .ok (.aload_n 0, 1) := by decide +kernel
theorem dX9_aground_69 : decode cX9_aground 69 = .ok (.iload_n 1, 1) := by decide +kernel
theorem dX9_aground_70 : decode cX9_aground 70 = .ok (.invokevirtual 122, 3) := by decide +kernel
theorem dX9_aground_73 : decode cX9_aground 73 = .ok (.ifCond .eq 8, 3) := by decide +kernel
theorem dX9_aground_76 : decode cX9_aground 76 = .ok (.iload 4, 2) := by decide +kernel
theorem dX9_aground_78 : decode cX9_aground 78 = .ok (.goto 4, 3) := by decide +kernel
theorem dX9_aground_81 : decode cX9_aground 81 = .ok (.iconst (-1), 1) := by decide +kernel
theorem dX9_aground_82 : decode cX9_aground 82 = .ok (.istore 5, 2) := by decide +kernel
theorem dX9_aground_84 : decode cX9_aground 84 = .ok (.aload_n 0, 1) := by decide +kernel
theorem dX9_aground_85 : decode cX9_aground 85 = .ok (.aload_n 3, 1) := by decide +kernel
theorem dX9_aground_86 : decode cX9_aground 86 = .ok (.invokevirtual 186, 3) := by decide +kernel
theorem dX9_aground_89 : decode cX9_aground 89 = .ok (.iload 5, 2) := by decide +kernel
theorem dX9_aground_91 : decode cX9_aground 91 = .ok (.ireturn, 1) := by decide +kernel
theorem dX9_arrives_0 : decode cX9_arrives 0 = .ok (.aload_n 0, 1) := by decide +kernel
theorem dX9_arrives_1 : decode cX9_arrives 1 = .ok (.iconst 0, 1) := by decide +kernel
theorem dX9_arrives_2 : decode cX9_arrives 2 = .ok (.putfield 40, 3) := by decide +kernel
theorem dX9_arrives_5 : decode cX9_arrives 5 = .ok (.iload_n 1, 1) := by decide +kernel
theorem dX9_arrives_6 : decode cX9_arrives 6 = .ok (.iconst 0, 1) := by decide +kernel
theorem dX9_arrives_7 : decode cX9_arrives 7 = .ok (.aload_n 0, 1) := by decide +kernel
theorem dX9_arrives_8 : decode cX9_arrives 8 = .ok (.getfield 113, 3) := by decide +kernel
theorem dX9_arrives_11 : decode cX9_arrives 11 = .ok (.iconst 1, 1) := by decide +kernel
theorem dX9_arrives_12 : decode cX9_arrives 12 = .ok (.isub, 1) := by decide +kernel
theorem dX9_arrives_13 : decode cX9_arrives 13 = .ok (.invokestatic 44, 3) := by decide +kernel
theorem dX9_arrives_16 : decode cX9_arrives 16 = .ok (.ifCond .ne 9, 3) := by decide +kernel
theorem dX9_arrives_19 : decode cX9_arrives 19 = .ok (.aload_n 0, 1) := by decide +kernel
theorem dX9_arrives_20 : decode cX9_arrives 20 = .ok (.iconst 1, 1) := by decide +kernel
theorem dX9_arrives_21 : decode cX9_arrives 21 = .ok (.invokevirtual 73, 3) := by decide +kernel
theorem dX9_arrives_24 : decode cX9_arrives 24 = .ok (.ireturn, 1) := by decide +kernel
theorem dX9_arrives_25 : decode cX9_arrives 25 = .ok (.aload_n 0, 1) := by decide +kernel
theorem dX9_arrives_26 : decode cX9_arrives 26 = .ok (.invokevirtual 182, 3) := by decide +kernel
theorem dX9_arrives_29 : decode cX9_arrives 29 = .ok (.astore_n 2, 1) := by decide +kernel
theorem dX9_arrives_30 : decode cX9_arrives 30 = .ok (.iconst 0, 1) := by decide +kernel
theorem dX9_arrives_31 : decode cX9_arrives 31 = .ok (.istore_n 3, 1) := by decide +kernel
theorem dX9_arrives_32 : decode cX9_arrives 32 = .ok (.iload_n 3, 1) := by decide +kernel
theorem dX9_arrives_33 : decode cX9_arrives 33 = .ok (.sipush 400, 3) := by decide +kernel
theorem dX9_arrives_36 : decode cX9_arrives 36 = .ok (.if_icmp .ge 22, 3) := by decide +kernel
theorem dX9_arrives_39 : decode cX9_arrives 39 = .ok (.aload_n 0, 1) := by decide +kernel
theorem dX9_arrives_40 : decode cX9_arrives 40 = .ok (.iload_n 1, 1) := by decide +kernel
theorem dX9_arrives_41 : decode cX9_arrives 41 = .ok (.invokevirtual 144, 3) := by decide +kernel
theorem dX9_arrives_44 : decode cX9_arrives 44 = .ok (.ifCond .ne 14, 3) := by decide +kernel
theorem dX9_arrives_47 : decode cX9_arrives 47 = .ok (.aload_n 0, 1) := by decide +kernel
theorem dX9_arrives_48 : decode cX9_arrives 48 = .ok (.invokevirtual 168, 3) := by decide +kernel
theorem dX9_arrives_51 : decode cX9_arrives 51 = .ok (.pop, 1) := by decide +kernel
theorem dX9_arrives_52 : decode cX9_arrives 52 = .ok (.iinc 3 1, 3) := by decide +kernel
theorem dX9_arrives_55 : decode cX9_arrives 55 = .ok (.goto (-23), 3) := by decide +kernel
theorem dX9_arrives_58 : decode cX9_arrives 58 = .ok (.aload_n 0, 1) := by decide +kernel
theorem dX9_arrives_59 : decode cX9_arrives 59 = .ok (.iload_n 1, 1) := by decide +kernel
theorem dX9_arrives_60 : decode cX9_arrives 60 = .ok (.iconst 4, 1) := by decide +kernel
theorem dX9_arrives_61 : decode cX9_arrives 61 = .ok (.invokevirtual 116, 3) := by decide +kernel
theorem dX9_arrives_64 : decode cX9_arrives 64 = .ok (.istore_n 3, 1) := by decide +kernel
theorem dX9_arrives_65 : decode cX9_arrives 65 = .ok (.aload_n 0, 1) := by decide +kernel
theorem dX9_arrives_66 : decode cX9_arrives 66 = .ok (.aload_n 2, 1) := by decide +kernel
theorem dX9_arrives_67 : decode cX9_arrives 67 = .ok (.invokevirtual 186, 3) := by decide +kernel
theorem dX9_arrives_70 : decode cX9_arrives 70 = .ok (.iload_n 3, 1) := by decide +kernel
theorem dX9_arrives_71 : decode cX9_arrives 71 = .ok (.ireturn, 1) := by decide +kernel
theorem dX9_mean_0 : decode cX9_mean 0 = .ok (.aload_n 0, 1) := by decide +kernel
theorem dX9_mean_1 : decode cX9_mean 1 = .ok (.iconst 0, 1) := by decide +kernel
theorem dX9_mean_2 : decode cX9_mean 2 = .ok (.putfield 40, 3) := by decide +kernel
theorem dX9_mean_5 : decode cX9_mean 5 = .ok (.iconst 0, 1) := by decide +kernel
theorem dX9_mean_6 : decode cX9_mean 6 = .ok (.istore_n 1, 1) := by decide +kernel
theorem dX9_mean_7 : decode cX9_mean 7 = .ok (.iconst 0, 1) := by decide +kernel
theorem dX9_mean_8 : decode cX9_mean 8 = .ok (.istore_n 2, 1) := by decide +kernel
theorem dX9_mean_9 : decode cX9_mean 9 = .ok (.iload_n 2, 1) := by decide +kernel
theorem dX9_mean_10 : decode cX9_mean 10 = .ok (.sipush 196, 3) := by decide +kernel
theorem dX9_mean_13 : decode cX9_mean 13 = .ok (.if_icmp .ge 21, 3) := by decide +kernel
theorem dX9_mean_16 : decode cX9_mean 16 = .ok (.iload_n 1, 1) := by decide +kernel
theorem dX9_mean_17 : decode cX9_mean 17 = .ok (.aload_n 0, 1) := by decide +kernel
theorem dX9_mean_18 : decode cX9_mean 18 = .ok (.iload_n 2, 1) := by decide +kernel
theorem dX9_mean_19 : decode cX9_mean 19 = .ok (.aload_n 0, 1) := by decide +kernel
theorem dX9_mean_20 : decode cX9_mean 20 = .ok (.invokevirtual 80, 3) := by decide +kernel
theorem dX9_mean_23 : decode cX9_mean 23 = .ok (.invokevirtual 63, 3) := by decide +kernel
theorem dX9_mean_26 : decode cX9_mean 26 = .ok (.iadd, 1) := by decide +kernel
theorem dX9_mean_27 : decode cX9_mean 27 = .ok (.istore_n 1, 1) := by decide +kernel
theorem dX9_mean_28 : decode cX9_mean 28 = .ok (.iinc 2 1, 3) := by decide +kernel
theorem dX9_mean_31 : decode cX9_mean 31 = .ok (.goto (-22), 3) := by decide +kernel
theorem dX9_mean_34 : decode cX9_mean 34 = .ok (.iload_n 1, 1) := by decide +kernel
theorem dX9_mean_35 : decode cX9_mean 35 = .ok (.i2d, 1) := by decide +kernel
theorem dX9_mean_36 : decode cX9_mean 36 = .ok (.ldc2_w 190, 3) := by decide +kernel
theorem dX9_mean_39 : decode cX9_mean 39 = .ok (.ddiv, 1) := by decide +kernel
theorem dX9_mean_40 : decode cX9_mean 40 = .ok (.dreturn, 1) := by decide +kernel
theorem dX9_digest_0 : decode cX9_digest 0 = .ok (.aload_n 0, 1) := by decide +kernel
theorem dX9_digest_1 : decode cX9_digest 1 = .ok (.iconst 0, 1) := by decide +kernel
theorem dX9_digest_2 : decode cX9_digest 2 = .ok (.putfield 40, 3) := by decide +kernel
theorem dX9_digest_5 : decode cX9_digest 5 = .ok (.ldc2_w 192, 3) := by decide +kernel
theorem dX9_digest_8 : decode cX9_digest 8 = .ok (.lstore_n 1, 1) := by decide +kernel
theorem dX9_digest_9 : decode cX9_digest 9 = .ok (.iconst 0, 1) := by decide +kernel
theorem dX9_digest_10 : decode cX9_digest 10 = .ok (.istore_n 3, 1) := by decide +kernel
theorem dX9_digest_11 : decode cX9_digest 11 = .ok (.iload_n 3, 1) := by decide +kernel
theorem dX9_digest_12 : decode cX9_digest 12 = .ok (.bipush 11, 2) := by decide +kernel
theorem dX9_digest_14 : decode cX9_digest 14 = .ok (.if_icmp .ge 22, 3) := by decide +kernel
theorem dX9_digest_17 : decode cX9_digest 17 = .ok (.lload_n 1, 1) := by decide +kernel
theorem dX9_digest_18 : decode cX9_digest 18 = .ok (.ldc2_w 194, 3) := by decide +kernel
theorem dX9_digest_21 : decode cX9_digest 21 = .ok (.lmul, 1) := by decide +kernel
theorem dX9_digest_22 : decode cX9_digest 22 = .ok (.aload_n 0, 1) := by decide +kernel
theorem dX9_digest_23 : decode cX9_digest 23 = .ok (.iload_n 3, 1) := by decide +kernel
theorem dX9_digest_24 : decode cX9_digest 24 = .ok (.invokevirtual 171, 3) := by decide +kernel
theorem dX9_digest_27 : decode cX9_digest 27 = .ok (.i2l, 1) := by decide +kernel
theorem dX9_digest_28 : decode cX9_digest 28 = .ok (.ladd, 1) := by decide +kernel
theorem dX9_digest_29 : decode cX9_digest 29 = .ok (.lstore_n 1, 1) := by decide +kernel
theorem dX9_digest_30 : decode cX9_digest 30 = .ok (.iinc 3 1, 3) := by decide +kernel
theorem dX9_digest_33 : decode cX9_digest 33 = .ok (.goto (-22), 3) := by decide +kernel
theorem dX9_digest_36 : decode cX9_digest 36 = .ok (.iconst 0, 1) := by decide +kernel
theorem dX9_digest_37 : decode cX9_digest 37 = .ok (.istore_n 3, 1) := by decide +kernel
theorem dX9_digest_38 : decode cX9_digest 38 = .ok (.iload_n 3, 1) := by decide +kernel
theorem dX9_digest_39 : decode cX9_digest 39 = .ok (.bipush 12, 2) := by decide +kernel
theorem dX9_digest_41 : decode cX9_digest 41 = .ok (.if_icmp .ge 23, 3) := by decide +kernel
theorem dX9_digest_44 : decode cX9_digest 44 = .ok (.lload_n 1, 1) := by decide +kernel
theorem dX9_digest_45 : decode cX9_digest 45 = .ok (.ldc2_w 194, 3) := by decide +kernel
theorem dX9_digest_48 : decode cX9_digest 48 = .ok (.lmul, 1) := by decide +kernel
theorem dX9_digest_49 : decode cX9_digest 49 = .ok (.aload_n 0, 1) := by decide +kernel
theorem dX9_digest_50 : decode cX9_digest 50 = .ok (.getfield 16, 3) := by decide +kernel
theorem dX9_digest_53 : decode cX9_digest 53 = .ok (.iload_n 3, 1) := by decide +kernel
theorem dX9_digest_54 : decode cX9_digest 54 = .ok (.iaload, 1) := by decide +kernel
theorem dX9_digest_55 : decode cX9_digest 55 = .ok (.i2l, 1) := by decide +kernel
theorem dX9_digest_56 : decode cX9_digest 56 = .ok (.ladd, 1) := by decide +kernel
theorem dX9_digest_57 : decode cX9_digest 57 = .ok (.lstore_n 1, 1) := by decide +kernel
theorem dX9_digest_58 : decode cX9_digest 58 = .ok (.iinc 3 1, 3) := by decide +kernel
theorem dX9_digest_61 : decode cX9_digest 61 = .ok (.goto (-23), 3) := by decide +kernel
theorem dX9_digest_64 : decode cX9_digest 64 = .ok (.iconst 0, 1) := by decide +kernel
theorem dX9_digest_65 : decode cX9_digest 65 = .ok (.istore_n 3, 1) := by decide +kernel
theorem dX9_digest_66 : decode cX9_digest 66 = .ok (.iload_n 3, 1) := by decide +kernel
theorem dX9_digest_67 : decode cX9_digest 67 = .ok (.sipush 196, 3) := by decide +kernel
theorem dX9_digest_70 : decode cX9_digest 70 = .ok (.if_icmp .ge 35, 3) := by decide +kernel
theorem dX9_digest_73 : decode cX9_digest 73 = .ok (.lload_n 1, 1) := by decide +kernel
theorem dX9_digest_74 : decode cX9_digest 74 = .ok (.ldc2_w 194, 3) := by decide +kernel
theorem dX9_digest_77 : decode cX9_digest 77 = .ok (.lmul, 1) := by decide +kernel
theorem dX9_digest_78 : decode cX9_digest 78 = .ok (.aload_n 0, 1) := by decide +kernel
theorem dX9_digest_79 : decode cX9_digest 79 = .ok (.getfield 9, 3) := by decide +kernel
theorem dX9_digest_82 : decode cX9_digest 82 = .ok (.iload_n 3, 1) := by decide +kernel
theorem dX9_digest_83 : decode cX9_digest 83 = .ok (.iaload, 1) := by decide +kernel
theorem dX9_digest_84 : decode cX9_digest 84 = .ok (.i2l, 1) := by decide +kernel
theorem dX9_digest_85 : decode cX9_digest 85 = .ok (.ladd, 1) := by decide +kernel
theorem dX9_digest_86 : decode cX9_digest 86 = .ok (.ldc2_w 194, 3) := by decide +kernel
theorem dX9_digest_89 : decode cX9_digest 89 = .ok (.lmul, 1) := by decide +kernel
theorem dX9_digest_90 : decode cX9_digest 90 = .ok (.aload_n 0, 1) := by decide +kernel
theorem dX9_digest_91 : decode cX9_digest 91 = .ok (.getfield 13, 3) := by decide +kernel
theorem dX9_digest_94 : decode cX9_digest 94 = .ok (.iload_n 3, 1) := by decide +kernel
theorem dX9_digest_95 : decode cX9_digest 95 = .ok (.iaload, 1) := by decide +kernel
theorem dX9_digest_96 : decode cX9_digest 96 = .ok (.i2l, 1) := by decide +kernel
theorem dX9_digest_97 : decode cX9_digest 97 = .ok (.ladd, 1) := by decide +kernel
theorem dX9_digest_98 : decode cX9_digest 98 = .ok (.lstore_n 1, 1) := by decide +kernel
theorem dX9_digest_99 : decode cX9_digest 99 = .ok (.iinc 3 1, 3) := by decide +kernel
theorem dX9_digest_102 : decode cX9_digest 102 = .ok (.goto (-36), 3) := by decide +kernel
theorem dX9_digest_105 : decode cX9_digest 105 = .ok (.iconst 0, 1) := by decide +kernel
theorem dX9_digest_106 : decode cX9_digest 106 = .ok (.istore_n 3, 1) := by decide +kernel
theorem dX9_digest_107 : decode cX9_digest 107 = .ok (.iload_n 3, 1) := by decide +kernel
theorem dX9_digest_108 : decode cX9_digest 108 = .ok (.aload_n 0, 1) := by decide +kernel
theorem dX9_digest_109 : decode cX9_digest 109 = .ok (.getfield 48, 3) := by decide +kernel
theorem dX9_digest_112 : decode cX9_digest 112 = .ok (.if_icmp .ge 39, 3) := by decide +kernel
theorem dX9_digest_115 : decode cX9_digest 115 = .ok (.iconst 0, 1) := by decide +kernel
theorem dX9_digest_116 : decode cX9_digest 116 = .ok (.istore 4, 2) := by decide +kernel
theorem dX9_digest_118 : decode cX9_digest 118 = .ok (.iload 4, 2) := by decide +kernel
theorem dX9_digest_120 : decode cX9_digest 120 = .ok (.iconst 5, 1) := by decide +kernel
theorem dX9_digest_121 : decode cX9_digest 121 = .ok (.if_icmp .ge 24, 3) := by decide +kernel
theorem dX9_digest_124 : decode cX9_digest 124 = .ok (.lload_n 1, 1) := by decide +kernel
theorem dX9_digest_125 : decode cX9_digest 125 = .ok (.ldc2_w 194, 3) := by decide +kernel
theorem dX9_digest_128 : decode cX9_digest 128 = .ok (.lmul, 1) := by decide +kernel
theorem dX9_digest_129 : decode cX9_digest 129 = .ok (.aload_n 0, 1) := by decide +kernel
theorem dX9_digest_130 : decode cX9_digest 130 = .ok (.iload_n 3, 1) := by decide +kernel
theorem dX9_digest_131 : decode cX9_digest 131 = .ok (.iload 4, 2) := by decide +kernel
theorem dX9_digest_133 : decode cX9_digest 133 = .ok (.invokevirtual 153, 3) := by decide +kernel
theorem dX9_digest_136 : decode cX9_digest 136 = .ok (.i2l, 1) := by decide +kernel
theorem dX9_digest_137 : decode cX9_digest 137 = .ok (.ladd, 1) := by decide +kernel
theorem dX9_digest_138 : decode cX9_digest 138 = .ok (.lstore_n 1, 1) := by decide +kernel
theorem dX9_digest_139 : decode cX9_digest 139 = .ok (.iinc 4 1, 3) := by decide +kernel
theorem dX9_digest_142 : decode cX9_digest 142 = .ok (.goto (-24), 3) := by decide +kernel
theorem dX9_digest_145 : decode cX9_digest 145 = .ok (.iinc 3 1, 3) := by decide +kernel
theorem dX9_digest_148 : decode cX9_digest 148 = .ok (.goto (-41), 3) := by decide +kernel
theorem dX9_digest_151 : decode cX9_digest 151 = .ok (.iconst 0, 1) := by decide +kernel
theorem dX9_digest_152 : decode cX9_digest 152 = .ok (.istore_n 3, 1) := by decide +kernel
theorem dX9_digest_153 : decode cX9_digest 153 = .ok (.iload_n 3, 1) := by decide +kernel
theorem dX9_digest_154 : decode cX9_digest 154 = .ok (.aload_n 0, 1) := by decide +kernel
theorem dX9_digest_155 : decode cX9_digest 155 = .ok (.getfield 51, 3) := by decide +kernel
theorem dX9_digest_158 : decode cX9_digest 158 = .ok (.if_icmp .ge 40, 3) := by decide +kernel
theorem dX9_digest_161 : decode cX9_digest 161 = .ok (.iconst 0, 1) := by decide +kernel
theorem dX9_digest_162 : decode cX9_digest 162 = .ok (.istore 4, 2) := by decide +kernel
theorem dX9_digest_164 : decode cX9_digest 164 = .ok (.iload 4, 2) := by decide +kernel
theorem dX9_digest_166 : decode cX9_digest 166 = .ok (.bipush 9, 2) := by decide +kernel
theorem dX9_digest_168 : decode cX9_digest 168 = .ok (.if_icmp .ge 24, 3) := by decide +kernel
theorem dX9_digest_171 : decode cX9_digest 171 = .ok (.lload_n 1, 1) := by decide +kernel
theorem dX9_digest_172 : decode cX9_digest 172 = .ok (.ldc2_w 194, 3) := by decide +kernel
theorem dX9_digest_175 : decode cX9_digest 175 = .ok (.lmul, 1) := by decide +kernel
theorem dX9_digest_176 : decode cX9_digest 176 = .ok (.aload_n 0, 1) := by decide +kernel
theorem dX9_digest_177 : decode cX9_digest 177 = .ok (.iload_n 3, 1) := by decide +kernel
theorem dX9_digest_178 : decode cX9_digest 178 = .ok (.iload 4, 2) := by decide +kernel
theorem dX9_digest_180 : decode cX9_digest 180 = .ok (.invokevirtual 131, 3) := by decide +kernel
theorem dX9_digest_183 : decode cX9_digest 183 = .ok (.i2l, 1) := by decide +kernel
theorem dX9_digest_184 : decode cX9_digest 184 = .ok (.ladd, 1) := by decide +kernel
theorem dX9_digest_185 : decode cX9_digest 185 = .ok (.lstore_n 1, 1) := by decide +kernel
theorem dX9_digest_186 : decode cX9_digest 186 = .ok (.iinc 4 1, 3) := by decide +kernel
theorem dX9_digest_189 : decode cX9_digest 189 = .ok (.goto (-25), 3) := by decide +kernel
theorem dX9_digest_192 : decode cX9_digest 192 = .ok (.iinc 3 1, 3) := by decide +kernel
theorem dX9_digest_195 : decode cX9_digest 195 = .ok (.goto (-42), 3) := by decide +kernel
theorem dX9_digest_198 : decode cX9_digest 198 = .ok (.iconst 0, 1) := by decide +kernel
theorem dX9_digest_199 : decode cX9_digest 199 = .ok (.istore_n 3, 1) := by decide +kernel
theorem dX9_digest_200 : decode cX9_digest 200 = .ok (.iload_n 3, 1) := by decide +kernel
theorem dX9_digest_201 : decode cX9_digest 201 = .ok (.aload_n 0, 1) := by decide +kernel
theorem dX9_digest_202 : decode cX9_digest 202 = .ok (.getfield 113, 3) := by decide +kernel
theorem dX9_digest_205 : decode cX9_digest 205 = .ok (.if_icmp .ge 40, 3) := by decide +kernel
theorem dX9_digest_208 : decode cX9_digest 208 = .ok (.iconst 0, 1) := by decide +kernel
theorem dX9_digest_209 : decode cX9_digest 209 = .ok (.istore 4, 2) := by decide +kernel
theorem dX9_digest_211 : decode cX9_digest 211 = .ok (.iload 4, 2) := by decide +kernel
theorem dX9_digest_213 : decode cX9_digest 213 = .ok (.bipush 7, 2) := by decide +kernel
theorem dX9_digest_215 : decode cX9_digest 215 = .ok (.if_icmp .ge 24, 3) := by decide +kernel
theorem dX9_digest_218 : decode cX9_digest 218 = .ok (.lload_n 1, 1) := by decide +kernel
theorem dX9_digest_219 : decode cX9_digest 219 = .ok (.ldc2_w 194, 3) := by decide +kernel
theorem dX9_digest_222 : decode cX9_digest 222 = .ok (.lmul, 1) := by decide +kernel
theorem dX9_digest_223 : decode cX9_digest 223 = .ok (.aload_n 0, 1) := by decide +kernel
theorem dX9_digest_224 : decode cX9_digest 224 = .ok (.iload_n 3, 1) := by decide +kernel
theorem dX9_digest_225 : decode cX9_digest 225 = .ok (.iload 4, 2) := by decide +kernel
theorem dX9_digest_227 : decode cX9_digest 227 = .ok (.invokevirtual 150, 3) := by decide +kernel
theorem dX9_digest_230 : decode cX9_digest 230 = .ok (.i2l, 1) := by decide +kernel
theorem dX9_digest_231 : decode cX9_digest 231 = .ok (.ladd, 1) := by decide +kernel
theorem dX9_digest_232 : decode cX9_digest 232 = .ok (.lstore_n 1, 1) := by decide +kernel
theorem dX9_digest_233 : decode cX9_digest 233 = .ok (.iinc 4 1, 3) := by decide +kernel
theorem dX9_digest_236 : decode cX9_digest 236 = .ok (.goto (-25), 3) := by decide +kernel
theorem dX9_digest_239 : decode cX9_digest 239 = .ok (.iinc 3 1, 3) := by decide +kernel
theorem dX9_digest_242 : decode cX9_digest 242 = .ok (.goto (-42), 3) := by decide +kernel
theorem dX9_digest_245 : decode cX9_digest 245 = .ok (.lload_n 1, 1) := by decide +kernel
theorem dX9_digest_246 : decode cX9_digest 246 = .ok (.lreturn, 1) := by decide +kernel
theorem dJ9_max_7cf53_0 : decode cJ9_max_7cf53 0 = .ok (.iload_n 0, 1) := by decide +kernel
theorem dJ9_max_7cf53_1 : decode cJ9_max_7cf53 1 = .ok (.iload_n 1, 1) := by decide +kernel
theorem dJ9_max_7cf53_2 : decode cJ9_max_7cf53 2 = .ok (.if_icmp .lt 7, 3) := by decide +kernel
theorem dJ9_max_7cf53_5 : decode cJ9_max_7cf53 5 = .ok (.iload_n 0, 1) := by decide +kernel
theorem dJ9_max_7cf53_6 : decode cJ9_max_7cf53 6 = .ok (.goto 4, 3) := by decide +kernel
theorem dJ9_max_7cf53_9 : decode cJ9_max_7cf53 9 = .ok (.iload_n 1, 1) := by decide +kernel
theorem dJ9_max_7cf53_10 : decode cJ9_max_7cf53 10 = .ok (.ireturn, 1) := by decide +kernel
theorem dJ9_min_7cf53_0 : decode cJ9_min_7cf53 0 = .ok (.iload_n 0, 1) := by decide +kernel
theorem dJ9_min_7cf53_1 : decode cJ9_min_7cf53 1 = .ok (.iload_n 1, 1) := by decide +kernel
theorem dJ9_min_7cf53_2 : decode cJ9_min_7cf53 2 = .ok (.if_icmp .gt 7, 3) := by decide +kernel
theorem dJ9_min_7cf53_5 : decode cJ9_min_7cf53 5 = .ok (.iload_n 0, 1) := by decide +kernel
theorem dJ9_min_7cf53_6 : decode cJ9_min_7cf53 6 = .ok (.goto 4, 3) := by decide +kernel
theorem dJ9_min_7cf53_9 : decode cJ9_min_7cf53 9 = .ok (.iload_n 1, 1) := by decide +kernel
end
section
theorem dJ9_min_7cf53_10 : decode cJ9_min_7cf53 10 = .ok (.ireturn, 1) := by decide +kernel
theorem dJ7_fill_53178_0 : decode cJ7_fill_53178 0 = .ok (.iconst 0, 1) := by decide +kernel
theorem dJ7_fill_53178_1 : decode cJ7_fill_53178 1 = .ok (.istore_n 2, 1) := by decide +kernel
theorem dJ7_fill_53178_2 : decode cJ7_fill_53178 2 = .ok (.aload_n 0, 1) := by decide +kernel
theorem dJ7_fill_53178_3 : decode cJ7_fill_53178 3 = .ok (.arraylength, 1) := by decide +kernel
theorem dJ7_fill_53178_4 : decode cJ7_fill_53178 4 = .ok (.istore_n 3, 1) := by decide +kernel
theorem dJ7_fill_53178_5 : decode cJ7_fill_53178 5 = .ok (.iload_n 2, 1) := by decide +kernel
theorem dJ7_fill_53178_6 : decode cJ7_fill_53178 6 = .ok (.iload_n 3, 1) := by decide +kernel
theorem dJ7_fill_53178_7 : decode cJ7_fill_53178 7 = .ok (.if_icmp .ge 13, 3) := by decide +kernel
theorem dJ7_fill_53178_10 : decode cJ7_fill_53178 10 = .ok (.aload_n 0, 1) := by decide +kernel
theorem dJ7_fill_53178_11 : decode cJ7_fill_53178 11 = .ok (.iload_n 2, 1) := by decide +kernel
theorem dJ7_fill_53178_12 : decode cJ7_fill_53178 12 = .ok (.iload_n 1, 1) := by decide +kernel
theorem dJ7_fill_53178_13 : decode cJ7_fill_53178 13 = .ok (.iastore, 1) := by decide +kernel
theorem dJ7_fill_53178_14 : decode cJ7_fill_53178 14 = .ok (.iinc 2 1, 3) := by decide +kernel
theorem dJ7_fill_53178_17 : decode cJ7_fill_53178 17 = .ok (.goto (-12), 3) := by decide +kernel
theorem dJ7_fill_53178_20 : decode cJ7_fill_53178 20 = .ok (.return_, 1) := by decide +kernel
theorem dL_setGround_0 : decode cL_setGround 0 = .ok (.aload 4, 2) := by decide +kernel
theorem dL_setGround_2 : decode cL_setGround 2 = .ok (.iconst 0, 1) := by decide +kernel
theorem dL_setGround_3 : decode cL_setGround 3 = .ok (.aload_n 0, 1) := by decide +kernel
theorem dL_setGround_4 : decode cL_setGround 4 = .ok (.iload_n 1, 1) := by decide +kernel
theorem dL_setGround_5 : decode cL_setGround 5 = .ok (.iload_n 2, 1) := by decide +kernel
theorem dL_setGround_6 : decode cL_setGround 6 = .ok (.iload_n 3, 1) := by decide +kernel
theorem dL_setGround_7 : decode cL_setGround 7 = .ok (.invokevirtual 7, 3) := by decide +kernel
theorem dL_setGround_10 : decode cL_setGround 10 = .ok (.i2l, 1) := by decide +kernel
theorem dL_setGround_11 : decode cL_setGround 11 = .ok (.lastore, 1) := by decide +kernel
theorem dL_setGround_12 : decode cL_setGround 12 = .ok (.goto 11, 3) := by decide +kernel
theorem dL_setGround_15 : decode cL_setGround 15 = .ok (.astore 5, 2) := by decide +kernel
theorem dL_setGround_17 : decode cL_setGround 17 = .ok (.iconst 1, 1) := by decide +kernel
theorem dL_setGround_18 : decode cL_setGround 18 = .ok (.ireturn, 1) := by decide +kernel
theorem dL_setGround_19 : decode cL_setGround 19 = .ok (.astore 5, 2) := by decide +kernel
theorem dL_setGround_21 : decode cL_setGround 21 = .ok (.iconst 2, 1) := by decide +kernel
theorem dL_setGround_22 : decode cL_setGround 22 = .ok (.ireturn, 1) := by decide +kernel
theorem dL_setGround_23 : decode cL_setGround 23 = .ok (.iconst 0, 1) := by decide +kernel
theorem dL_setGround_24 : decode cL_setGround 24 = .ok (.ireturn, 1) := by decide +kernel
theorem dL_setWater_0 : decode cL_setWater 0 = .ok (.aload_n 3, 1) := by decide +kernel
theorem dL_setWater_1 : decode cL_setWater 1 = .ok (.iconst 0, 1) := by decide +kernel
theorem dL_setWater_2 : decode cL_setWater 2 = .ok (.aload_n 0, 1) := by decide +kernel
theorem dL_setWater_3 : decode cL_setWater 3 = .ok (.iload_n 1, 1) := by decide +kernel
theorem dL_setWater_4 : decode cL_setWater 4 = .ok (.iload_n 2, 1) := by decide +kernel
theorem dL_setWater_5 : decode cL_setWater 5 = .ok (.invokevirtual 17, 3) := by decide +kernel
theorem dL_setWater_8 : decode cL_setWater 8 = .ok (.i2l, 1) := by decide +kernel
theorem dL_setWater_9 : decode cL_setWater 9 = .ok (.lastore, 1) := by decide +kernel
theorem dL_setWater_10 : decode cL_setWater 10 = .ok (.goto 11, 3) := by decide +kernel
theorem dL_setWater_13 : decode cL_setWater 13 = .ok (.astore 4, 2) := by decide +kernel
theorem dL_setWater_15 : decode cL_setWater 15 = .ok (.iconst 1, 1) := by decide +kernel
theorem dL_setWater_16 : decode cL_setWater 16 = .ok (.ireturn, 1) := by decide +kernel
theorem dL_setWater_17 : decode cL_setWater 17 = .ok (.astore 4, 2) := by decide +kernel
theorem dL_setWater_19 : decode cL_setWater 19 = .ok (.iconst 2, 1) := by decide +kernel
theorem dL_setWater_20 : decode cL_setWater 20 = .ok (.ireturn, 1) := by decide +kernel
theorem dL_setWater_21 : decode cL_setWater 21 = .ok (.iconst 0, 1) := by decide +kernel
theorem dL_setWater_22 : decode cL_setWater 22 = .ok (.ireturn, 1) := by decide +kernel
theorem dL_setStake_0 : decode cL_setStake 0 = .ok (.aload 4, 2) := by decide +kernel
theorem dL_setStake_2 : decode cL_setStake 2 = .ok (.iconst 0, 1) := by decide +kernel
theorem dL_setStake_3 : decode cL_setStake 3 = .ok (.aload_n 0, 1) := by decide +kernel
theorem dL_setStake_4 : decode cL_setStake 4 = .ok (.iload_n 1, 1) := by decide +kernel
theorem dL_setStake_5 : decode cL_setStake 5 = .ok (.iload_n 2, 1) := by decide +kernel
theorem dL_setStake_6 : decode cL_setStake 6 = .ok (.iload_n 3, 1) := by decide +kernel
theorem dL_setStake_7 : decode cL_setStake 7 = .ok (.invokevirtual 21, 3) := by decide +kernel
theorem dL_setStake_10 : decode cL_setStake 10 = .ok (.i2l, 1) := by decide +kernel
theorem dL_setStake_11 : decode cL_setStake 11 = .ok (.lastore, 1) := by decide +kernel
theorem dL_setStake_12 : decode cL_setStake 12 = .ok (.goto 11, 3) := by decide +kernel
theorem dL_setStake_15 : decode cL_setStake 15 = .ok (.astore 5, 2) := by decide +kernel
theorem dL_setStake_17 : decode cL_setStake 17 = .ok (.iconst 1, 1) := by decide +kernel
theorem dL_setStake_18 : decode cL_setStake 18 = .ok (.ireturn, 1) := by decide +kernel
theorem dL_setStake_19 : decode cL_setStake 19 = .ok (.astore 5, 2) := by decide +kernel
theorem dL_setStake_21 : decode cL_setStake 21 = .ok (.iconst 2, 1) := by decide +kernel
theorem dL_setStake_22 : decode cL_setStake 22 = .ok (.ireturn, 1) := by decide +kernel
theorem dL_setStake_23 : decode cL_setStake 23 = .ok (.iconst 0, 1) := by decide +kernel
theorem dL_setStake_24 : decode cL_setStake 24 = .ok (.ireturn, 1) := by decide +kernel
theorem dL_cell_0 : decode cL_cell 0 = .ok (.aload 4, 2) := by decide +kernel
theorem dL_cell_2 : decode cL_cell 2 = .ok (.iconst 0, 1) := by decide +kernel
theorem dL_cell_3 : decode cL_cell 3 = .ok (.aload_n 0, 1) := by decide +kernel
theorem dL_cell_4 : decode cL_cell 4 = .ok (.iload_n 1, 1) := by decide +kernel
theorem dL_cell_5 : decode cL_cell 5 = .ok (.iload_n 2, 1) := by decide +kernel
theorem dL_cell_6 : decode cL_cell 6 = .ok (.iload_n 3, 1) := by decide +kernel
theorem dL_cell_7 : decode cL_cell 7 = .ok (.invokevirtual 24, 3) := by decide +kernel
theorem dL_cell_10 : decode cL_cell 10 = .ok (.i2l, 1) := by decide +kernel
theorem dL_cell_11 : decode cL_cell 11 = .ok (.lastore, 1) := by decide +kernel
theorem dL_cell_12 : decode cL_cell 12 = .ok (.goto 7, 3) := by decide +kernel
theorem dL_cell_15 : decode cL_cell 15 = .ok (.astore 5, 2) := by decide +kernel
theorem dL_cell_17 : decode cL_cell 17 = .ok (.iconst 1, 1) := by decide +kernel
theorem dL_cell_18 : decode cL_cell 18 = .ok (.ireturn, 1) := by decide +kernel
theorem dL_cell_19 : decode cL_cell 19 = .ok (.iconst 0, 1) := by decide +kernel
theorem dL_cell_20 : decode cL_cell 20 = .ok (.ireturn, 1) := by decide +kernel
theorem dL_addLanding_0 : decode cL_addLanding 0 = .ok (.aload_n 3, 1) := by decide +kernel
theorem dL_addLanding_1 : decode cL_addLanding 1 = .ok (.iconst 0, 1) := by decide +kernel
theorem dL_addLanding_2 : decode cL_addLanding 2 = .ok (.aload_n 0, 1) := by decide +kernel
theorem dL_addLanding_3 : decode cL_addLanding 3 = .ok (.iload_n 1, 1) := by decide +kernel
theorem dL_addLanding_4 : decode cL_addLanding 4 = .ok (.iload_n 2, 1) := by decide +kernel
theorem dL_addLanding_5 : decode cL_addLanding 5 = .ok (.invokevirtual 27, 3) := by decide +kernel
theorem dL_addLanding_8 : decode cL_addLanding 8 = .ok (.i2l, 1) := by decide +kernel
theorem dL_addLanding_9 : decode cL_addLanding 9 = .ok (.lastore, 1) := by decide +kernel
theorem dL_addLanding_10 : decode cL_addLanding 10 = .ok (.goto 11, 3) := by decide +kernel
theorem dL_addLanding_13 : decode cL_addLanding 13 = .ok (.astore 4, 2) := by decide +kernel
theorem dL_addLanding_15 : decode cL_addLanding 15 = .ok (.iconst 1, 1) := by decide +kernel
theorem dL_addLanding_16 : decode cL_addLanding 16 = .ok (.ireturn, 1) := by decide +kernel
theorem dL_addLanding_17 : decode cL_addLanding 17 = .ok (.astore 4, 2) := by decide +kernel
theorem dL_addLanding_19 : decode cL_addLanding 19 = .ok (.iconst 2, 1) := by decide +kernel
theorem dL_addLanding_20 : decode cL_addLanding 20 = .ok (.ireturn, 1) := by decide +kernel
theorem dL_addLanding_21 : decode cL_addLanding 21 = .ok (.iconst 0, 1) := by decide +kernel
theorem dL_addLanding_22 : decode cL_addLanding 22 = .ok (.ireturn, 1) := by decide +kernel
theorem dL_launch_0 : decode cL_launch 0 = .ok (.aload 7, 2) := by decide +kernel
theorem dL_launch_2 : decode cL_launch 2 = .ok (.iconst 0, 1) := by decide +kernel
theorem dL_launch_3 : decode cL_launch 3 = .ok (.aload_n 0, 1) := by decide +kernel
theorem dL_launch_4 : decode cL_launch 4 = .ok (.iload_n 1, 1) := by decide +kernel
theorem dL_launch_5 : decode cL_launch 5 = .ok (.iload_n 2, 1) := by decide +kernel
theorem dL_launch_6 : decode cL_launch 6 = .ok (.iload_n 3, 1) := by decide +kernel
theorem dL_launch_7 : decode cL_launch 7 = .ok (.iload 4, 2) := by decide +kernel
theorem dL_launch_9 : decode cL_launch 9 = .ok (.iload 5, 2) := by decide +kernel
theorem dL_launch_11 : decode cL_launch 11 = .ok (.iload 6, 2) := by decide +kernel
theorem dL_launch_13 : decode cL_launch 13 = .ok (.invokevirtual 32, 3) := by decide +kernel
theorem dL_launch_16 : decode cL_launch 16 = .ok (.i2l, 1) := by decide +kernel
theorem dL_launch_17 : decode cL_launch 17 = .ok (.lastore, 1) := by decide +kernel
theorem dL_launch_18 : decode cL_launch 18 = .ok (.goto 15, 3) := by decide +kernel
theorem dL_launch_21 : decode cL_launch 21 = .ok (.astore 8, 2) := by decide +kernel
theorem dL_launch_23 : decode cL_launch 23 = .ok (.iconst 1, 1) := by decide +kernel
theorem dL_launch_24 : decode cL_launch 24 = .ok (.ireturn, 1) := by decide +kernel
theorem dL_launch_25 : decode cL_launch 25 = .ok (.astore 8, 2) := by decide +kernel
theorem dL_launch_27 : decode cL_launch 27 = .ok (.iconst 2, 1) := by decide +kernel
theorem dL_launch_28 : decode cL_launch 28 = .ok (.ireturn, 1) := by decide +kernel
theorem dL_launch_29 : decode cL_launch 29 = .ok (.astore 8, 2) := by decide +kernel
theorem dL_launch_31 : decode cL_launch 31 = .ok (.iconst 3, 1) := by decide +kernel
theorem dL_launch_32 : decode cL_launch 32 = .ok (.ireturn, 1) := by decide +kernel
theorem dL_launch_33 : decode cL_launch 33 = .ok (.iconst 0, 1) := by decide +kernel
theorem dL_launch_34 : decode cL_launch 34 = .ok (.ireturn, 1) := by decide +kernel
theorem dL_setToll_0 : decode cL_setToll 0 = .ok (.aload_n 3, 1) := by decide +kernel
theorem dL_setToll_1 : decode cL_setToll 1 = .ok (.iconst 0, 1) := by decide +kernel
theorem dL_setToll_2 : decode cL_setToll 2 = .ok (.aload_n 0, 1) := by decide +kernel
theorem dL_setToll_3 : decode cL_setToll 3 = .ok (.iload_n 1, 1) := by decide +kernel
theorem dL_setToll_4 : decode cL_setToll 4 = .ok (.iload_n 2, 1) := by decide +kernel
theorem dL_setToll_5 : decode cL_setToll 5 = .ok (.invokevirtual 36, 3) := by decide +kernel
theorem dL_setToll_8 : decode cL_setToll 8 = .ok (.i2l, 1) := by decide +kernel
theorem dL_setToll_9 : decode cL_setToll 9 = .ok (.lastore, 1) := by decide +kernel
theorem dL_setToll_10 : decode cL_setToll 10 = .ok (.goto 11, 3) := by decide +kernel
theorem dL_setToll_13 : decode cL_setToll 13 = .ok (.astore 4, 2) := by decide +kernel
theorem dL_setToll_15 : decode cL_setToll 15 = .ok (.iconst 1, 1) := by decide +kernel
theorem dL_setToll_16 : decode cL_setToll 16 = .ok (.ireturn, 1) := by decide +kernel
theorem dL_setToll_17 : decode cL_setToll 17 = .ok (.astore 4, 2) := by decide +kernel
theorem dL_setToll_19 : decode cL_setToll 19 = .ok (.iconst 2, 1) := by decide +kernel
theorem dL_setToll_20 : decode cL_setToll 20 = .ok (.ireturn, 1) := by decide +kernel
theorem dL_setToll_21 : decode cL_setToll 21 = .ok (.iconst 0, 1) := by decide +kernel
theorem dL_setToll_22 : decode cL_setToll 22 = .ok (.ireturn, 1) := by decide +kernel
theorem dL_punt_0 : decode cL_punt 0 = .ok (.aload_n 3, 1) := by decide +kernel
theorem dL_punt_1 : decode cL_punt 1 = .ok (.iconst 0, 1) := by decide +kernel
theorem dL_punt_2 : decode cL_punt 2 = .ok (.aload_n 0, 1) := by decide +kernel
theorem dL_punt_3 : decode cL_punt 3 = .ok (.iload_n 1, 1) := by decide +kernel
theorem dL_punt_4 : decode cL_punt 4 = .ok (.iload_n 2, 1) := by decide +kernel
theorem dL_punt_5 : decode cL_punt 5 = .ok (.invokevirtual 39, 3) := by decide +kernel
theorem dL_punt_8 : decode cL_punt 8 = .ok (.i2l, 1) := by decide +kernel
theorem dL_punt_9 : decode cL_punt 9 = .ok (.lastore, 1) := by decide +kernel
theorem dL_punt_10 : decode cL_punt 10 = .ok (.goto 7, 3) := by decide +kernel
theorem dL_punt_13 : decode cL_punt 13 = .ok (.astore 4, 2) := by decide +kernel
theorem dL_punt_15 : decode cL_punt 15 = .ok (.iconst 1, 1) := by decide +kernel
theorem dL_punt_16 : decode cL_punt 16 = .ok (.ireturn, 1) := by decide +kernel
theorem dL_punt_17 : decode cL_punt 17 = .ok (.iconst 0, 1) := by decide +kernel
theorem dL_punt_18 : decode cL_punt 18 = .ok (.ireturn, 1) := by decide +kernel
theorem dL_addTraveller_0 : decode cL_addTraveller 0 = .ok (.aload 4, 2) := by decide +kernel
theorem dL_addTraveller_2 : decode cL_addTraveller 2 = .ok (.iconst 0, 1) := by decide +kernel
theorem dL_addTraveller_3 : decode cL_addTraveller 3 = .ok (.aload_n 0, 1) := by decide +kernel
theorem dL_addTraveller_4 : decode cL_addTraveller 4 = .ok (.iload_n 1, 1) := by decide +kernel
theorem dL_addTraveller_5 : decode cL_addTraveller 5 = .ok (.iload_n 2, 1) := by decide +kernel
theorem dL_addTraveller_6 : decode cL_addTraveller 6 = .ok (.iload_n 3, 1) := by decide +kernel
theorem dL_addTraveller_7 : decode cL_addTraveller 7 = .ok (.invokevirtual 42, 3) := by decide +kernel
theorem dL_addTraveller_10 : decode cL_addTraveller 10 = .ok (.i2l, 1) := by decide +kernel
theorem dL_addTraveller_11 : decode cL_addTraveller 11 = .ok (.lastore, 1) := by decide +kernel
theorem dL_addTraveller_12 : decode cL_addTraveller 12 = .ok (.goto 15, 3) := by decide +kernel
theorem dL_addTraveller_15 : decode cL_addTraveller 15 = .ok (.astore 5, 2) := by decide +kernel
theorem dL_addTraveller_17 : decode cL_addTraveller 17 = .ok (.iconst 1, 1) := by decide +kernel
theorem dL_addTraveller_18 : decode cL_addTraveller 18 = .ok (.ireturn, 1) := by decide +kernel
theorem dL_addTraveller_19 : decode cL_addTraveller 19 = .ok (.astore 5, 2) := by decide +kernel
theorem dL_addTraveller_21 : decode cL_addTraveller 21 = .ok (.iconst 2, 1) := by decide +kernel
theorem dL_addTraveller_22 : decode cL_addTraveller 22 = .ok (.ireturn, 1) := by decide +kernel
theorem dL_addTraveller_23 : decode cL_addTraveller 23 = .ok (.astore 5, 2) := by decide +kernel
theorem dL_addTraveller_25 : decode cL_addTraveller 25 = .ok (.iconst 3, 1) := by decide +kernel
theorem dL_addTraveller_26 : decode cL_addTraveller 26 = .ok (.ireturn, 1) := by decide +kernel
theorem dL_addTraveller_27 : decode cL_addTraveller 27 = .ok (.iconst 0, 1) := by decide +kernel
theorem dL_addTraveller_28 : decode cL_addTraveller 28 = .ok (.ireturn, 1) := by decide +kernel
theorem dL_traveller_0 : decode cL_traveller 0 = .ok (.aload_n 3, 1) := by decide +kernel
theorem dL_traveller_1 : decode cL_traveller 1 = .ok (.iconst 0, 1) := by decide +kernel
theorem dL_traveller_2 : decode cL_traveller 2 = .ok (.aload_n 0, 1) := by decide +kernel
theorem dL_traveller_3 : decode cL_traveller 3 = .ok (.iload_n 1, 1) := by decide +kernel
theorem dL_traveller_4 : decode cL_traveller 4 = .ok (.iload_n 2, 1) := by decide +kernel
theorem dL_traveller_5 : decode cL_traveller 5 = .ok (.invokevirtual 45, 3) := by decide +kernel
theorem dL_traveller_8 : decode cL_traveller 8 = .ok (.i2l, 1) := by decide +kernel
theorem dL_traveller_9 : decode cL_traveller 9 = .ok (.lastore, 1) := by decide +kernel
theorem dL_traveller_10 : decode cL_traveller 10 = .ok (.goto 7, 3) := by decide +kernel
theorem dL_traveller_13 : decode cL_traveller 13 = .ok (.astore 4, 2) := by decide +kernel
theorem dL_traveller_15 : decode cL_traveller 15 = .ok (.iconst 1, 1) := by decide +kernel
theorem dL_traveller_16 : decode cL_traveller 16 = .ok (.ireturn, 1) := by decide +kernel
theorem dL_traveller_17 : decode cL_traveller 17 = .ok (.iconst 0, 1) := by decide +kernel
theorem dL_traveller_18 : decode cL_traveller 18 = .ok (.ireturn, 1) := by decide +kernel
theorem dL_landing_0 : decode cL_landing 0 = .ok (.aload_n 3, 1) := by decide +kernel
theorem dL_landing_1 : decode cL_landing 1 = .ok (.iconst 0, 1) := by decide +kernel
theorem dL_landing_2 : decode cL_landing 2 = .ok (.aload_n 0, 1) := by decide +kernel
theorem dL_landing_3 : decode cL_landing 3 = .ok (.iload_n 1, 1) := by decide +kernel
theorem dL_landing_4 : decode cL_landing 4 = .ok (.iload_n 2, 1) := by decide +kernel
theorem dL_landing_5 : decode cL_landing 5 = .ok (.invokevirtual 48, 3) := by decide +kernel
theorem dL_landing_8 : decode cL_landing 8 = .ok (.i2l, 1) := by decide +kernel
theorem dL_landing_9 : decode cL_landing 9 = .ok (.lastore, 1) := by decide +kernel
theorem dL_landing_10 : decode cL_landing 10 = .ok (.goto 7, 3) := by decide +kernel
theorem dL_landing_13 : decode cL_landing 13 = .ok (.astore 4, 2) := by decide +kernel
theorem dL_landing_15 : decode cL_landing 15 = .ok (.iconst 1, 1) := by decide +kernel
theorem dL_landing_16 : decode cL_landing 16 = .ok (.ireturn, 1) := by decide +kernel
theorem dL_landing_17 : decode cL_landing 17 = .ok (.iconst 0, 1) := by decide +kernel
theorem dL_landing_18 : decode cL_landing 18 = .ok (.ireturn, 1) := by decide +kernel
theorem dL_pass_0 : decode cL_pass 0 = .ok (.aload_n 2, 1) := by decide +kernel
theorem dL_pass_1 : decode cL_pass 1 = .ok (.iconst 0, 1) := by decide +kernel
theorem dL_pass_2 : decode cL_pass 2 = .ok (.aload_n 0, 1) := by decide +kernel
theorem dL_pass_3 : decode cL_pass 3 = .ok (.iload_n 1, 1) := by decide +kernel
theorem dL_pass_4 : decode cL_pass 4 = .ok (.invokevirtual 51, 3) := by decide +kernel
theorem dL_pass_7 : decode cL_pass 7 = .ok (.i2l, 1) := by decide +kernel
theorem dL_pass_8 : decode cL_pass 8 = .ok (.lastore, 1) := by decide +kernel
theorem dL_pass_9 : decode cL_pass 9 = .ok (.goto 6, 3) := by decide +kernel
theorem dL_pass_12 : decode cL_pass 12 = .ok (.astore_n 3, 1) := by decide +kernel
theorem dL_pass_13 : decode cL_pass 13 = .ok (.iconst 1, 1) := by decide +kernel
theorem dL_pass_14 : decode cL_pass 14 = .ok (.ireturn, 1) := by decide +kernel
theorem dL_pass_15 : decode cL_pass 15 = .ok (.iconst 0, 1) := by decide +kernel
theorem dL_pass_16 : decode cL_pass 16 = .ok (.ireturn, 1) := by decide +kernel
theorem dL_count_0 : decode cL_count 0 = .ok (.aload_n 2, 1) := by decide +kernel
theorem dL_count_1 : decode cL_count 1 = .ok (.iconst 0, 1) := by decide +kernel
theorem dL_count_2 : decode cL_count 2 = .ok (.aload_n 0, 1) := by decide +kernel
theorem dL_count_3 : decode cL_count 3 = .ok (.iload_n 1, 1) := by decide +kernel
theorem dL_count_4 : decode cL_count 4 = .ok (.invokevirtual 55, 3) := by decide +kernel
theorem dL_count_7 : decode cL_count 7 = .ok (.i2l, 1) := by decide +kernel
theorem dL_count_8 : decode cL_count 8 = .ok (.lastore, 1) := by decide +kernel
theorem dL_count_9 : decode cL_count 9 = .ok (.goto 6, 3) := by decide +kernel
theorem dL_count_12 : decode cL_count 12 = .ok (.astore_n 3, 1) := by decide +kernel
theorem dL_count_13 : decode cL_count 13 = .ok (.iconst 1, 1) := by decide +kernel
theorem dL_count_14 : decode cL_count 14 = .ok (.ireturn, 1) := by decide +kernel
theorem dL_count_15 : decode cL_count 15 = .ok (.iconst 0, 1) := by decide +kernel
theorem dL_count_16 : decode cL_count 16 = .ok (.ireturn, 1) := by decide +kernel
theorem dL_crossing_0 : decode cL_crossing 0 = .ok (.aload_n 3, 1) := by decide +kernel
theorem dL_crossing_1 : decode cL_crossing 1 = .ok (.iconst 0, 1) := by decide +kernel
theorem dL_crossing_2 : decode cL_crossing 2 = .ok (.aload_n 0, 1) := by decide +kernel
theorem dL_crossing_3 : decode cL_crossing 3 = .ok (.iload_n 1, 1) := by decide +kernel
theorem dL_crossing_4 : decode cL_crossing 4 = .ok (.iload_n 2, 1) := by decide +kernel
theorem dL_crossing_5 : decode cL_crossing 5 = .ok (.invokevirtual 58, 3) := by decide +kernel
theorem dL_crossing_8 : decode cL_crossing 8 = .ok (.i2l, 1) := by decide +kernel
theorem dL_crossing_9 : decode cL_crossing 9 = .ok (.lastore, 1) := by decide +kernel
theorem dL_crossing_10 : decode cL_crossing 10 = .ok (.goto 11, 3) := by decide +kernel
theorem dL_crossing_13 : decode cL_crossing 13 = .ok (.astore 4, 2) := by decide +kernel
theorem dL_crossing_15 : decode cL_crossing 15 = .ok (.iconst 1, 1) := by decide +kernel
theorem dL_crossing_16 : decode cL_crossing 16 = .ok (.ireturn, 1) := by decide +kernel
theorem dL_crossing_17 : decode cL_crossing 17 = .ok (.astore 4, 2) := by decide +kernel
theorem dL_crossing_19 : decode cL_crossing 19 = .ok (.iconst 2, 1) := by decide +kernel
theorem dL_crossing_20 : decode cL_crossing 20 = .ok (.ireturn, 1) := by decide +kernel
theorem dL_crossing_21 : decode cL_crossing 21 = .ok (.iconst 0, 1) := by decide +kernel
theorem dL_crossing_22 : decode cL_crossing 22 = .ok (.ireturn, 1) := by decide +kernel
theorem dL_opens_0 : decode cL_opens 0 = .ok (.aload_n 2, 1) := by decide +kernel
theorem dL_opens_1 : decode cL_opens 1 = .ok (.iconst 0, 1) := by decide +kernel
theorem dL_opens_2 : decode cL_opens 2 = .ok (.aload_n 0, 1) := by decide +kernel
theorem dL_opens_3 : decode cL_opens 3 = .ok (.iload_n 1, 1) := by decide +kernel
theorem dL_opens_4 : decode cL_opens 4 = .ok (.invokevirtual 61, 3) := by decide +kernel
theorem dL_opens_7 : decode cL_opens 7 = .ok (.i2l, 1) := by decide +kernel
theorem dL_opens_8 : decode cL_opens 8 = .ok (.lastore, 1) := by decide +kernel
theorem dL_opens_9 : decode cL_opens 9 = .ok (.goto 6, 3) := by decide +kernel
theorem dL_opens_12 : decode cL_opens 12 = .ok (.astore_n 3, 1) := by decide +kernel
theorem dL_opens_13 : decode cL_opens 13 = .ok (.iconst 1, 1) := by decide +kernel
theorem dL_opens_14 : decode cL_opens 14 = .ok (.ireturn, 1) := by decide +kernel
theorem dL_opens_15 : decode cL_opens 15 = .ok (.iconst 0, 1) := by decide +kernel
theorem dL_opens_16 : decode cL_opens 16 = .ok (.ireturn, 1) := by decide +kernel
theorem dL_chain_0 : decode cL_chain 0 = .ok (.aload 4, 2) := by decide +kernel
theorem dL_chain_2 : decode cL_chain 2 = .ok (.iconst 0, 1) := by decide +kernel
theorem dL_chain_3 : decode cL_chain 3 = .ok (.aload_n 0, 1) := by decide +kernel
theorem dL_chain_4 : decode cL_chain 4 = .ok (.iload_n 1, 1) := by decide +kernel
theorem dL_chain_5 : decode cL_chain 5 = .ok (.iload_n 2, 1) := by decide +kernel
theorem dL_chain_6 : decode cL_chain 6 = .ok (.iload_n 3, 1) := by decide +kernel
theorem dL_chain_7 : decode cL_chain 7 = .ok (.invokevirtual 64, 3) := by decide +kernel
theorem dL_chain_10 : decode cL_chain 10 = .ok (.i2l, 1) := by decide +kernel
theorem dL_chain_11 : decode cL_chain 11 = .ok (.lastore, 1) := by decide +kernel
theorem dL_chain_12 : decode cL_chain 12 = .ok (.goto 7, 3) := by decide +kernel
theorem dL_chain_15 : decode cL_chain 15 = .ok (.astore 5, 2) := by decide +kernel
theorem dL_chain_17 : decode cL_chain 17 = .ok (.iconst 1, 1) := by decide +kernel
theorem dL_chain_18 : decode cL_chain 18 = .ok (.ireturn, 1) := by decide +kernel
theorem dL_chain_19 : decode cL_chain 19 = .ok (.iconst 0, 1) := by decide +kernel
theorem dL_chain_20 : decode cL_chain 20 = .ok (.ireturn, 1) := by decide +kernel
theorem dL_aground_0 : decode cL_aground 0 = .ok (.aload_n 3, 1) := by decide +kernel
theorem dL_aground_1 : decode cL_aground 1 = .ok (.iconst 0, 1) := by decide +kernel
theorem dL_aground_2 : decode cL_aground 2 = .ok (.aload_n 0, 1) := by decide +kernel
theorem dL_aground_3 : decode cL_aground 3 = .ok (.iload_n 1, 1) := by decide +kernel
theorem dL_aground_4 : decode cL_aground 4 = .ok (.iload_n 2, 1) := by decide +kernel
theorem dL_aground_5 : decode cL_aground 5 = .ok (.invokevirtual 67, 3) := by decide +kernel
theorem dL_aground_8 : decode cL_aground 8 = .ok (.i2l, 1) := by decide +kernel
theorem dL_aground_9 : decode cL_aground 9 = .ok (.lastore, 1) := by decide +kernel
theorem dL_aground_10 : decode cL_aground 10 = .ok (.goto 11, 3) := by decide +kernel
theorem dL_aground_13 : decode cL_aground 13 = .ok (.astore 4, 2) := by decide +kernel
theorem dL_aground_15 : decode cL_aground 15 = .ok (.iconst 1, 1) := by decide +kernel
theorem dL_aground_16 : decode cL_aground 16 = .ok (.ireturn, 1) := by decide +kernel
theorem dL_aground_17 : decode cL_aground 17 = .ok (.astore 4, 2) := by decide +kernel
theorem dL_aground_19 : decode cL_aground 19 = .ok (.iconst 2, 1) := by decide +kernel
theorem dL_aground_20 : decode cL_aground 20 = .ok (.ireturn, 1) := by decide +kernel
theorem dL_aground_21 : decode cL_aground 21 = .ok (.iconst 0, 1) := by decide +kernel
theorem dL_aground_22 : decode cL_aground 22 = .ok (.ireturn, 1) := by decide +kernel
theorem dL_arrives_0 : decode cL_arrives 0 = .ok (.aload_n 2, 1) := by decide +kernel
theorem dL_arrives_1 : decode cL_arrives 1 = .ok (.iconst 0, 1) := by decide +kernel
theorem dL_arrives_2 : decode cL_arrives 2 = .ok (.aload_n 0, 1) := by decide +kernel
theorem dL_arrives_3 : decode cL_arrives 3 = .ok (.iload_n 1, 1) := by decide +kernel
theorem dL_arrives_4 : decode cL_arrives 4 = .ok (.invokevirtual 70, 3) := by decide +kernel
theorem dL_arrives_7 : decode cL_arrives 7 = .ok (.i2l, 1) := by decide +kernel
theorem dL_arrives_8 : decode cL_arrives 8 = .ok (.lastore, 1) := by decide +kernel
theorem dL_arrives_9 : decode cL_arrives 9 = .ok (.goto 6, 3) := by decide +kernel
theorem dL_arrives_12 : decode cL_arrives 12 = .ok (.astore_n 3, 1) := by decide +kernel
theorem dL_arrives_13 : decode cL_arrives 13 = .ok (.iconst 1, 1) := by decide +kernel
theorem dL_arrives_14 : decode cL_arrives 14 = .ok (.ireturn, 1) := by decide +kernel
theorem dL_arrives_15 : decode cL_arrives 15 = .ok (.iconst 0, 1) := by decide +kernel
theorem dL_arrives_16 : decode cL_arrives 16 = .ok (.ireturn, 1) := by decide +kernel
theorem dL_law_0 : decode cL_law 0 = .ok (.new 8, 3) := by decide +kernel
theorem dL_law_3 : decode cL_law 3 = .ok (.dup, 1) := by decide +kernel
theorem dL_law_4 : decode cL_law 4 = .ok (.invokespecial 73, 3) := by decide +kernel
theorem dL_law_7 : decode cL_law 7 = .ok (.astore_n 1, 1) := by decide +kernel
theorem dL_law_8 : decode cL_law 8 = .ok (.new 74, 3) := by decide +kernel
theorem dL_law_11 : decode cL_law 11 = .ok (.dup, 1) := by decide +kernel
theorem dL_law_12 : decode cL_law 12 = .ok (.invokespecial 76, 3) := by decide +kernel
theorem dL_law_15 : decode cL_law 15 = .ok (.astore_n 2, 1) := by decide +kernel
theorem dL_law_16 : decode cL_law 16 = .ok (.iconst 1, 1) := by decide +kernel
theorem dL_law_17 : decode cL_law 17 = .ok (.newarray .long, 2) := by decide +kernel
theorem dL_law_19 : decode cL_law 19 = .ok (.astore_n 3, 1) := by decide +kernel
theorem dL_law_20 : decode cL_law 20 = .ok (.iconst 0, 1) := by decide +kernel
theorem dL_law_21 : decode cL_law 21 = .ok (.istore 4, 2) := by decide +kernel
theorem dL_law_23 : decode cL_law 23 = .ok (.iload 4, 2) := by decide +kernel
theorem dL_law_25 : decode cL_law 25 = .ok (.aload_n 0, 1) := by decide +kernel
theorem dL_law_26 : decode cL_law 26 = .ok (.arraylength, 1) := by decide +kernel
theorem dL_law_27 : decode cL_law 27 = .ok (.bipush 7, 2) := by decide +kernel
theorem dL_law_29 : decode cL_law 29 = .ok (.isub, 1) := by decide +kernel
theorem dL_law_30 : decode cL_law 30 = .ok (.if_icmp .gt 1453, 3) := by decide +kernel
theorem dL_law_33 : decode cL_law 33 = .ok (.aload_n 0, 1) := by decide +kernel
theorem dL_law_34 : decode cL_law 34 = .ok (.iload 4, 2) := by decide +kernel
theorem dL_law_36 : decode cL_law 36 = .ok (.iaload, 1) := by decide +kernel
theorem dL_law_37 : decode cL_law 37 = .ok (.bipush 31, 2) := by decide +kernel
theorem dL_law_39 : decode cL_law 39 = .ok (.iand, 1) := by decide +kernel
theorem dL_law_40 : decode cL_law 40 = .ok (.tableswitch 1437 0 19 #[96, 176, 244, 324, 404, 472, 590, 658, 726, 806, 874, 942, 998, 1054, 1122, 1178, 1258, 1326, 1382, 1423], 96) := by decide +kernel
theorem dL_law_136 : decode cL_law 136 = .ok (.aload_n 1, 1) := by decide +kernel
theorem dL_law_137 : decode cL_law 137 = .ok (.aload_n 0, 1) := by decide +kernel
theorem dL_law_138 : decode cL_law 138 = .ok (.iload 4, 2) := by decide +kernel
theorem dL_law_140 : decode cL_law 140 = .ok (.iconst 1, 1) := by decide +kernel
theorem dL_law_141 : decode cL_law 141 = .ok (.iadd, 1) := by decide +kernel
theorem dL_law_142 : decode cL_law 142 = .ok (.iaload, 1) := by decide +kernel
theorem dL_law_143 : decode cL_law 143 = .ok (.aload_n 0, 1) := by decide +kernel
theorem dL_law_144 : decode cL_law 144 = .ok (.iload 4, 2) := by decide +kernel
theorem dL_law_146 : decode cL_law 146 = .ok (.iconst 2, 1) := by decide +kernel
theorem dL_law_147 : decode cL_law 147 = .ok (.iadd, 1) := by decide +kernel
theorem dL_law_148 : decode cL_law 148 = .ok (.iaload, 1) := by decide +kernel
theorem dL_law_149 : decode cL_law 149 = .ok (.aload_n 0, 1) := by decide +kernel
theorem dL_law_150 : decode cL_law 150 = .ok (.iload 4, 2) := by decide +kernel
theorem dL_law_152 : decode cL_law 152 = .ok (.iconst 3, 1) := by decide +kernel
theorem dL_law_153 : decode cL_law 153 = .ok (.iadd, 1) := by decide +kernel
theorem dL_law_154 : decode cL_law 154 = .ok (.iaload, 1) := by decide +kernel
theorem dL_law_155 : decode cL_law 155 = .ok (.aload_n 3, 1) := by decide +kernel
theorem dL_law_156 : decode cL_law 156 = .ok (.invokestatic 77, 3) := by decide +kernel
theorem dL_law_159 : decode cL_law 159 = .ok (.istore 5, 2) := by decide +kernel
theorem dL_law_161 : decode cL_law 161 = .ok (.aload_n 2, 1) := by decide +kernel
theorem dL_law_162 : decode cL_law 162 = .ok (.aload_n 0, 1) := by decide +kernel
theorem dL_law_163 : decode cL_law 163 = .ok (.iload 4, 2) := by decide +kernel
theorem dL_law_165 : decode cL_law 165 = .ok (.iconst 1, 1) := by decide +kernel
theorem dL_law_166 : decode cL_law 166 = .ok (.iadd, 1) := by decide +kernel
theorem dL_law_167 : decode cL_law 167 = .ok (.iaload, 1) := by decide +kernel
theorem dL_law_168 : decode cL_law 168 = .ok (.aload_n 0, 1) := by decide +kernel
theorem dL_law_169 : decode cL_law 169 = .ok (.iload 4, 2) := by decide +kernel
theorem dL_law_171 : decode cL_law 171 = .ok (.iconst 2, 1) := by decide +kernel
theorem dL_law_172 : decode cL_law 172 = .ok (.iadd, 1) := by decide +kernel
theorem dL_law_173 : decode cL_law 173 = .ok (.iaload, 1) := by decide +kernel
theorem dL_law_174 : decode cL_law 174 = .ok (.aload_n 0, 1) := by decide +kernel
theorem dL_law_175 : decode cL_law 175 = .ok (.iload 4, 2) := by decide +kernel
theorem dL_law_177 : decode cL_law 177 = .ok (.iconst 3, 1) := by decide +kernel
theorem dL_law_178 : decode cL_law 178 = .ok (.iadd, 1) := by decide +kernel
theorem dL_law_179 : decode cL_law 179 = .ok (.iaload, 1) := by decide +kernel
theorem dL_law_180 : decode cL_law 180 = .ok (.invokevirtual 82, 3) := by decide +kernel
theorem dL_law_183 : decode cL_law 183 = .ok (.istore 6, 2) := by decide +kernel
theorem dL_law_185 : decode cL_law 185 = .ok (.aload_n 2, 1) := by decide +kernel
theorem dL_law_186 : decode cL_law 186 = .ok (.invokevirtual 83, 3) := by decide +kernel
theorem dL_law_189 : decode cL_law 189 = .ok (.iload 5, 2) := by decide +kernel
theorem dL_law_191 : decode cL_law 191 = .ok (.if_icmp .eq 5, 3) := by decide +kernel
theorem dL_law_194 : decode cL_law 194 = .ok (.iconst 0, 1) := by decide +kernel
theorem dL_law_195 : decode cL_law 195 = .ok (.ireturn, 1) := by decide +kernel
theorem dL_law_196 : decode cL_law 196 = .ok (.iload 5, 2) := by decide +kernel
theorem dL_law_198 : decode cL_law 198 = .ok (.ifCond .ne 15, 3) := by decide +kernel
theorem dL_law_201 : decode cL_law 201 = .ok (.aload_n 3, 1) := by decide +kernel
theorem dL_law_202 : decode cL_law 202 = .ok (.iconst 0, 1) := by decide +kernel
theorem dL_law_203 : decode cL_law 203 = .ok (.laload, 1) := by decide +kernel
theorem dL_law_204 : decode cL_law 204 = .ok (.iload 6, 2) := by decide +kernel
theorem dL_law_206 : decode cL_law 206 = .ok (.i2l, 1) := by decide +kernel
theorem dL_law_207 : decode cL_law 207 = .ok (.lcmp, 1) := by decide +kernel
theorem dL_law_208 : decode cL_law 208 = .ok (.ifCond .eq 5, 3) := by decide +kernel
theorem dL_law_211 : decode cL_law 211 = .ok (.iconst 0, 1) := by decide +kernel
theorem dL_law_212 : decode cL_law 212 = .ok (.ireturn, 1) := by decide +kernel
theorem dL_law_213 : decode cL_law 213 = .ok (.goto 1264, 3) := by decide +kernel
theorem dL_law_216 : decode cL_law 216 = .ok (.aload_n 1, 1) := by decide +kernel
theorem dL_law_217 : decode cL_law 217 = .ok (.aload_n 0, 1) := by decide +kernel
theorem dL_law_218 : decode cL_law 218 = .ok (.iload 4, 2) := by decide +kernel
theorem dL_law_220 : decode cL_law 220 = .ok (.iconst 1, 1) := by decide +kernel
theorem dL_law_221 : decode cL_law 221 = .ok (.iadd, 1) := by decide +kernel
theorem dL_law_222 : decode cL_law 222 = .ok (.iaload, 1) := by decide +kernel
theorem dL_law_223 : decode cL_law 223 = .ok (.aload_n 0, 1) := by decide +kernel
theorem dL_law_224 : decode cL_law 224 = .ok (.iload 4, 2) := by decide +kernel
theorem dL_law_226 : decode cL_law 226 = .ok (.iconst 2, 1) := by decide +kernel
theorem dL_law_227 : decode cL_law 227 = .ok (.iadd, 1) := by decide +kernel
theorem dL_law_228 : decode cL_law 228 = .ok (.iaload, 1) := by decide +kernel
theorem dL_law_229 : decode cL_law 229 = .ok (.aload_n 3, 1) := by decide +kernel
theorem dL_law_230 : decode cL_law 230 = .ok (.invokestatic 87, 3) := by decide +kernel
theorem dL_law_233 : decode cL_law 233 = .ok (.istore 5, 2) := by decide +kernel
theorem dL_law_235 : decode cL_law 235 = .ok (.aload_n 2, 1) := by decide +kernel
theorem dL_law_236 : decode cL_law 236 = .ok (.aload_n 0, 1) := by decide +kernel
theorem dL_law_237 : decode cL_law 237 = .ok (.iload 4, 2) := by decide +kernel
theorem dL_law_239 : decode cL_law 239 = .ok (.iconst 1, 1) := by decide +kernel
theorem dL_law_240 : decode cL_law 240 = .ok (.iadd, 1) := by decide +kernel
theorem dL_law_241 : decode cL_law 241 = .ok (.iaload, 1) := by decide +kernel
theorem dL_law_242 : decode cL_law 242 = .ok (.aload_n 0, 1) := by decide +kernel
theorem dL_law_243 : decode cL_law 243 = .ok (.iload 4, 2) := by decide +kernel
theorem dL_law_245 : decode cL_law 245 = .ok (.iconst 2, 1) := by decide +kernel
theorem dL_law_246 : decode cL_law 246 = .ok (.iadd, 1) := by decide +kernel
theorem dL_law_247 : decode cL_law 247 = .ok (.iaload, 1) := by decide +kernel
theorem dL_law_248 : decode cL_law 248 = .ok (.invokevirtual 90, 3) := by decide +kernel
theorem dL_law_251 : decode cL_law 251 = .ok (.istore 6, 2) := by decide +kernel
theorem dL_law_253 : decode cL_law 253 = .ok (.aload_n 2, 1) := by decide +kernel
theorem dL_law_254 : decode cL_law 254 = .ok (.invokevirtual 83, 3) := by decide +kernel
theorem dL_law_257 : decode cL_law 257 = .ok (.iload 5, 2) := by decide +kernel
theorem dL_law_259 : decode cL_law 259 = .ok (.if_icmp .eq 5, 3) := by decide +kernel
theorem dL_law_262 : decode cL_law 262 = .ok (.iconst 0, 1) := by decide +kernel
theorem dL_law_263 : decode cL_law 263 = .ok (.ireturn, 1) := by decide +kernel
theorem dL_law_264 : decode cL_law 264 = .ok (.iload 5, 2) := by decide +kernel
theorem dL_law_266 : decode cL_law 266 = .ok (.ifCond .ne 15, 3) := by decide +kernel
theorem dL_law_269 : decode cL_law 269 = .ok (.aload_n 3, 1) := by decide +kernel
theorem dL_law_270 : decode cL_law 270 = .ok (.iconst 0, 1) := by decide +kernel
theorem dL_law_271 : decode cL_law 271 = .ok (.laload, 1) := by decide +kernel
theorem dL_law_272 : decode cL_law 272 = .ok (.iload 6, 2) := by decide +kernel
theorem dL_law_274 : decode cL_law 274 = .ok (.i2l, 1) := by decide +kernel
theorem dL_law_275 : decode cL_law 275 = .ok (.lcmp, 1) := by decide +kernel
theorem dL_law_276 : decode cL_law 276 = .ok (.ifCond .eq 5, 3) := by decide +kernel
theorem dL_law_279 : decode cL_law 279 = .ok (.iconst 0, 1) := by decide +kernel
theorem dL_law_280 : decode cL_law 280 = .ok (.ireturn, 1) := by decide +kernel
theorem dL_law_281 : decode cL_law 281 = .ok (.goto 1196, 3) := by decide +kernel
theorem dL_law_284 : decode cL_law 284 = .ok (.aload_n 1, 1) := by decide +kernel
theorem dL_law_285 : decode cL_law 285 = .ok (.aload_n 0, 1) := by decide +kernel
theorem dL_law_286 : decode cL_law 286 = .ok (.iload 4, 2) := by decide +kernel
theorem dL_law_288 : decode cL_law 288 = .ok (.iconst 1, 1) := by decide +kernel
theorem dL_law_289 : decode cL_law 289 = .ok (.iadd, 1) := by decide +kernel
theorem dL_law_290 : decode cL_law 290 = .ok (.iaload, 1) := by decide +kernel
theorem dL_law_291 : decode cL_law 291 = .ok (.aload_n 0, 1) := by decide +kernel
theorem dL_law_292 : decode cL_law 292 = .ok (.iload 4, 2) := by decide +kernel
theorem dL_law_294 : decode cL_law 294 = .ok (.iconst 2, 1) := by decide +kernel
theorem dL_law_295 : decode cL_law 295 = .ok (.iadd, 1) := by decide +kernel
theorem dL_law_296 : decode cL_law 296 = .ok (.iaload, 1) := by decide +kernel
theorem dL_law_297 : decode cL_law 297 = .ok (.aload_n 0, 1) := by decide +kernel
theorem dL_law_298 : decode cL_law 298 = .ok (.iload 4, 2) := by decide +kernel
theorem dL_law_300 : decode cL_law 300 = .ok (.iconst 3, 1) := by decide +kernel
theorem dL_law_301 : decode cL_law 301 = .ok (.iadd, 1) := by decide +kernel
theorem dL_law_302 : decode cL_law 302 = .ok (.iaload, 1) := by decide +kernel
theorem dL_law_303 : decode cL_law 303 = .ok (.aload_n 3, 1) := by decide +kernel
theorem dL_law_304 : decode cL_law 304 = .ok (.invokestatic 91, 3) := by decide +kernel
theorem dL_law_307 : decode cL_law 307 = .ok (.istore 5, 2) := by decide +kernel
theorem dL_law_309 : decode cL_law 309 = .ok (.aload_n 2, 1) := by decide +kernel
theorem dL_law_310 : decode cL_law 310 = .ok (.aload_n 0, 1) := by decide +kernel
theorem dL_law_311 : decode cL_law 311 = .ok (.iload 4, 2) := by decide +kernel
theorem dL_law_313 : decode cL_law 313 = .ok (.iconst 1, 1) := by decide +kernel
theorem dL_law_314 : decode cL_law 314 = .ok (.iadd, 1) := by decide +kernel
theorem dL_law_315 : decode cL_law 315 = .ok (.iaload, 1) := by decide +kernel
theorem dL_law_316 : decode cL_law 316 = .ok (.aload_n 0, 1) := by decide +kernel
theorem dL_law_317 : decode cL_law 317 = .ok (.iload 4, 2) := by decide +kernel
theorem dL_law_319 : decode cL_law 319 = .ok (.iconst 2, 1) := by decide +kernel
theorem dL_law_320 : decode cL_law 320 = .ok (.iadd, 1) := by decide +kernel
theorem dL_law_321 : decode cL_law 321 = .ok (.iaload, 1) := by decide +kernel
theorem dL_law_322 : decode cL_law 322 = .ok (.aload_n 0, 1) := by decide +kernel
theorem dL_law_323 : decode cL_law 323 = .ok (.iload 4, 2) := by decide +kernel
theorem dL_law_325 : decode cL_law 325 = .ok (.iconst 3, 1) := by decide +kernel
theorem dL_law_326 : decode cL_law 326 = .ok (.iadd, 1) := by decide +kernel
theorem dL_law_327 : decode cL_law 327 = .ok (.iaload, 1) := by decide +kernel
theorem dL_law_328 : decode cL_law 328 = .ok (.invokevirtual 93, 3) := by decide +kernel
theorem dL_law_331 : decode cL_law 331 = .ok (.istore 6, 2) := by decide +kernel
theorem dL_law_333 : decode cL_law 333 = .ok (.aload_n 2, 1) := by decide +kernel
theorem dL_law_334 : decode cL_law 334 = .ok (.invokevirtual 83, 3) := by decide +kernel
theorem dL_law_337 : decode cL_law 337 = .ok (.iload 5, 2) := by decide +kernel
theorem dL_law_339 : decode cL_law 339 = .ok (.if_icmp .eq 5, 3) := by decide +kernel
theorem dL_law_342 : decode cL_law 342 = .ok (.iconst 0, 1) := by decide +kernel
theorem dL_law_343 : decode cL_law 343 = .ok (.ireturn, 1) := by decide +kernel
theorem dL_law_344 : decode cL_law 344 = .ok (.iload 5, 2) := by decide +kernel
theorem dL_law_346 : decode cL_law 346 = .ok (.ifCond .ne 15, 3) := by decide +kernel
theorem dL_law_349 : decode cL_law 349 = .ok (.aload_n 3, 1) := by decide +kernel
theorem dL_law_350 : decode cL_law 350 = .ok (.iconst 0, 1) := by decide +kernel
theorem dL_law_351 : decode cL_law 351 = .ok (.laload, 1) := by decide +kernel
theorem dL_law_352 : decode cL_law 352 = .ok (.iload 6, 2) := by decide +kernel
theorem dL_law_354 : decode cL_law 354 = .ok (.i2l, 1) := by decide +kernel
theorem dL_law_355 : decode cL_law 355 = .ok (.lcmp, 1) := by decide +kernel
theorem dL_law_356 : decode cL_law 356 = .ok (.ifCond .eq 5, 3) := by decide +kernel
theorem dL_law_359 : decode cL_law 359 = .ok (.iconst 0, 1) := by decide +kernel
theorem dL_law_360 : decode cL_law 360 = .ok (.ireturn, 1) := by decide +kernel
theorem dL_law_361 : decode cL_law 361 = .ok (.goto 1116, 3) := by decide +kernel
theorem dL_law_364 : decode cL_law 364 = .ok (.aload_n 1, 1) := by decide +kernel
theorem dL_law_365 : decode cL_law 365 = .ok (.aload_n 0, 1) := by decide +kernel
theorem dL_law_366 : decode cL_law 366 = .ok (.iload 4, 2) := by decide +kernel
theorem dL_law_368 : decode cL_law 368 = .ok (.iconst 1, 1) := by decide +kernel
theorem dL_law_369 : decode cL_law 369 = .ok (.iadd, 1) := by decide +kernel
theorem dL_law_370 : decode cL_law 370 = .ok (.iaload, 1) := by decide +kernel
theorem dL_law_371 : decode cL_law 371 = .ok (.aload_n 0, 1) := by decide +kernel
theorem dL_law_372 : decode cL_law 372 = .ok (.iload 4, 2) := by decide +kernel
theorem dL_law_374 : decode cL_law 374 = .ok (.iconst 2, 1) := by decide +kernel
theorem dL_law_375 : decode cL_law 375 = .ok (.iadd, 1) := by decide +kernel
theorem dL_law_376 : decode cL_law 376 = .ok (.iaload, 1) := by decide +kernel
theorem dL_law_377 : decode cL_law 377 = .ok (.aload_n 0, 1) := by decide +kernel
theorem dL_law_378 : decode cL_law 378 = .ok (.iload 4, 2) := by decide +kernel
theorem dL_law_380 : decode cL_law 380 = .ok (.iconst 3, 1) := by decide +kernel
theorem dL_law_381 : decode cL_law 381 = .ok (.iadd, 1) := by decide +kernel
theorem dL_law_382 : decode cL_law 382 = .ok (.iaload, 1) := by decide +kernel
theorem dL_law_383 : decode cL_law 383 = .ok (.aload_n 3, 1) := by decide +kernel
theorem dL_law_384 : decode cL_law 384 = .ok (.invokestatic 94, 3) := by decide +kernel
theorem dL_law_387 : decode cL_law 387 = .ok (.istore 5, 2) := by decide +kernel
theorem dL_law_389 : decode cL_law 389 = .ok (.aload_n 2, 1) := by decide +kernel
theorem dL_law_390 : decode cL_law 390 = .ok (.aload_n 0, 1) := by decide +kernel
theorem dL_law_391 : decode cL_law 391 = .ok (.iload 4, 2) := by decide +kernel
theorem dL_law_393 : decode cL_law 393 = .ok (.iconst 1, 1) := by decide +kernel
theorem dL_law_394 : decode cL_law 394 = .ok (.iadd, 1) := by decide +kernel
theorem dL_law_395 : decode cL_law 395 = .ok (.iaload, 1) := by decide +kernel
theorem dL_law_396 : decode cL_law 396 = .ok (.aload_n 0, 1) := by decide +kernel
theorem dL_law_397 : decode cL_law 397 = .ok (.iload 4, 2) := by decide +kernel
theorem dL_law_399 : decode cL_law 399 = .ok (.iconst 2, 1) := by decide +kernel
theorem dL_law_400 : decode cL_law 400 = .ok (.iadd, 1) := by decide +kernel
theorem dL_law_401 : decode cL_law 401 = .ok (.iaload, 1) := by decide +kernel
theorem dL_law_402 : decode cL_law 402 = .ok (.aload_n 0, 1) := by decide +kernel
theorem dL_law_403 : decode cL_law 403 = .ok (.iload 4, 2) := by decide +kernel
theorem dL_law_405 : decode cL_law 405 = .ok (.iconst 3, 1) := by decide +kernel
theorem dL_law_406 : decode cL_law 406 = .ok (.iadd, 1) := by decide +kernel
theorem dL_law_407 : decode cL_law 407 = .ok (.iaload, 1) := by decide +kernel
theorem dL_law_408 : decode cL_law 408 = .ok (.invokevirtual 96, 3) := by decide +kernel
theorem dL_law_411 : decode cL_law 411 = .ok (.istore 6, 2) := by decide +kernel
theorem dL_law_413 : decode cL_law 413 = .ok (.aload_n 2, 1) := by decide +kernel
theorem dL_law_414 : decode cL_law 414 = .ok (.invokevirtual 83, 3) := by decide +kernel
theorem dL_law_417 : decode cL_law 417 = .ok (.iload 5, 2) := by decide +kernel
theorem dL_law_419 : decode cL_law 419 = .ok (.if_icmp .eq 5, 3) := by decide +kernel
theorem dL_law_422 : decode cL_law 422 = .ok (.iconst 0, 1) := by decide +kernel
theorem dL_law_423 : decode cL_law 423 = .ok (.ireturn, 1) := by decide +kernel
theorem dL_law_424 : decode cL_law 424 = .ok (.iload 5, 2) := by decide +kernel
theorem dL_law_426 : decode cL_law 426 = .ok (.ifCond .ne 15, 3) := by decide +kernel
theorem dL_law_429 : decode cL_law 429 = .ok (.aload_n 3, 1) := by decide +kernel
theorem dL_law_430 : decode cL_law 430 = .ok (.iconst 0, 1) := by decide +kernel
theorem dL_law_431 : decode cL_law 431 = .ok (.laload, 1) := by decide +kernel
theorem dL_law_432 : decode cL_law 432 = .ok (.iload 6, 2) := by decide +kernel
theorem dL_law_434 : decode cL_law 434 = .ok (.i2l, 1) := by decide +kernel
theorem dL_law_435 : decode cL_law 435 = .ok (.lcmp, 1) := by decide +kernel
theorem dL_law_436 : decode cL_law 436 = .ok (.ifCond .eq 5, 3) := by decide +kernel
theorem dL_law_439 : decode cL_law 439 = .ok (.iconst 0, 1) := by decide +kernel
theorem dL_law_440 : decode cL_law 440 = .ok (.ireturn, 1) := by decide +kernel
theorem dL_law_441 : decode cL_law 441 = .ok (.goto 1036, 3) := by decide +kernel
theorem dL_law_444 : decode cL_law 444 = .ok (.aload_n 1, 1) := by decide +kernel
theorem dL_law_445 : decode cL_law 445 = .ok (.aload_n 0, 1) := by decide +kernel
theorem dL_law_446 : decode cL_law 446 = .ok (.iload 4, 2) := by decide +kernel
theorem dL_law_448 : decode cL_law 448 = .ok (.iconst 1, 1) := by decide +kernel
theorem dL_law_449 : decode cL_law 449 = .ok (.iadd, 1) := by decide +kernel
theorem dL_law_450 : decode cL_law 450 = .ok (.iaload, 1) := by decide +kernel
theorem dL_law_451 : decode cL_law 451 = .ok (.aload_n 0, 1) := by decide +kernel
theorem dL_law_452 : decode cL_law 452 = .ok (.iload 4, 2) := by decide +kernel
theorem dL_law_454 : decode cL_law 454 = .ok (.iconst 2, 1) := by decide +kernel
theorem dL_law_455 : decode cL_law 455 = .ok (.iadd, 1) := by decide +kernel
theorem dL_law_456 : decode cL_law 456 = .ok (.iaload, 1) := by decide +kernel
theorem dL_law_457 : decode cL_law 457 = .ok (.aload_n 3, 1) := by decide +kernel
theorem dL_law_458 : decode cL_law 458 = .ok (.invokestatic 97, 3) := by decide +kernel
theorem dL_law_461 : decode cL_law 461 = .ok (.istore 5, 2) := by decide +kernel
theorem dL_law_463 : decode cL_law 463 = .ok (.aload_n 2, 1) := by decide +kernel
theorem dL_law_464 : decode cL_law 464 = .ok (.aload_n 0, 1) := by decide +kernel
theorem dL_law_465 : decode cL_law 465 = .ok (.iload 4, 2) := by decide +kernel
theorem dL_law_467 : decode cL_law 467 = .ok (.iconst 1, 1) := by decide +kernel
theorem dL_law_468 : decode cL_law 468 = .ok (.iadd, 1) := by decide +kernel
theorem dL_law_469 : decode cL_law 469 = .ok (.iaload, 1) := by decide +kernel
theorem dL_law_470 : decode cL_law 470 = .ok (.aload_n 0, 1) := by decide +kernel
theorem dL_law_471 : decode cL_law 471 = .ok (.iload 4, 2) := by decide +kernel
theorem dL_law_473 : decode cL_law 473 = .ok (.iconst 2, 1) := by decide +kernel
theorem dL_law_474 : decode cL_law 474 = .ok (.iadd, 1) := by decide +kernel
theorem dL_law_475 : decode cL_law 475 = .ok (.iaload, 1) := by decide +kernel
theorem dL_law_476 : decode cL_law 476 = .ok (.invokevirtual 99, 3) := by decide +kernel
theorem dL_law_479 : decode cL_law 479 = .ok (.istore 6, 2) := by decide +kernel
theorem dL_law_481 : decode cL_law 481 = .ok (.aload_n 2, 1) := by decide +kernel
theorem dL_law_482 : decode cL_law 482 = .ok (.invokevirtual 83, 3) := by decide +kernel
theorem dL_law_485 : decode cL_law 485 = .ok (.iload 5, 2) := by decide +kernel
theorem dL_law_487 : decode cL_law 487 = .ok (.if_icmp .eq 5, 3) := by decide +kernel
theorem dL_law_490 : decode cL_law 490 = .ok (.iconst 0, 1) := by decide +kernel
theorem dL_law_491 : decode cL_law 491 = .ok (.ireturn, 1) := by decide +kernel
theorem dL_law_492 : decode cL_law 492 = .ok (.iload 5, 2) := by decide +kernel
theorem dL_law_494 : decode cL_law 494 = .ok (.ifCond .ne 15, 3) := by decide +kernel
theorem dL_law_497 : decode cL_law 497 = .ok (.aload_n 3, 1) := by decide +kernel
theorem dL_law_498 : decode cL_law 498 = .ok (.iconst 0, 1) := by decide +kernel
theorem dL_law_499 : decode cL_law 499 = .ok (.laload, 1) := by decide +kernel
theorem dL_law_500 : decode cL_law 500 = .ok (.iload 6, 2) := by decide +kernel
theorem dL_law_502 : decode cL_law 502 = .ok (.i2l, 1) := by decide +kernel
theorem dL_law_503 : decode cL_law 503 = .ok (.lcmp, 1) := by decide +kernel
theorem dL_law_504 : decode cL_law 504 = .ok (.ifCond .eq 5, 3) := by decide +kernel
theorem dL_law_507 : decode cL_law 507 = .ok (.iconst 0, 1) := by decide +kernel
theorem dL_law_508 : decode cL_law 508 = .ok (.ireturn, 1) := by decide +kernel
theorem dL_law_509 : decode cL_law 509 = .ok (.goto 968, 3) := by decide +kernel
theorem dL_law_512 : decode cL_law 512 = .ok (.aload_n 1, 1) := by decide +kernel
theorem dL_law_513 : decode cL_law 513 = .ok (.aload_n 0, 1) := by decide +kernel
theorem dL_law_514 : decode cL_law 514 = .ok (.iload 4, 2) := by decide +kernel
theorem dL_law_516 : decode cL_law 516 = .ok (.iconst 1, 1) := by decide +kernel
theorem dL_law_517 : decode cL_law 517 = .ok (.iadd, 1) := by decide +kernel
theorem dL_law_518 : decode cL_law 518 = .ok (.iaload, 1) := by decide +kernel
theorem dL_law_519 : decode cL_law 519 = .ok (.aload_n 0, 1) := by decide +kernel
theorem dL_law_520 : decode cL_law 520 = .ok (.iload 4, 2) := by decide +kernel
theorem dL_law_522 : decode cL_law 522 = .ok (.iconst 2, 1) := by decide +kernel
theorem dL_law_523 : decode cL_law 523 = .ok (.iadd, 1) := by decide +kernel
theorem dL_law_524 : decode cL_law 524 = .ok (.iaload, 1) := by decide +kernel
theorem dL_law_525 : decode cL_law 525 = .ok (.aload_n 0, 1) := by decide +kernel
theorem dL_law_526 : decode cL_law 526 = .ok (.iload 4, 2) := by decide +kernel
theorem dL_law_528 : decode cL_law 528 = .ok (.iconst 3, 1) := by decide +kernel
theorem dL_law_529 : decode cL_law 529 = .ok (.iadd, 1) := by decide +kernel
theorem dL_law_530 : decode cL_law 530 = .ok (.iaload, 1) := by decide +kernel
theorem dL_law_531 : decode cL_law 531 = .ok (.aload_n 0, 1) := by decide +kernel
theorem dL_law_532 : decode cL_law 532 = .ok (.iload 4, 2) := by decide +kernel
theorem dL_law_534 : decode cL_law 534 = .ok (.iconst 4, 1) := by decide +kernel
theorem dL_law_535 : decode cL_law 535 = .ok (.iadd, 1) := by decide +kernel
theorem dL_law_536 : decode cL_law 536 = .ok (.iaload, 1) := by decide +kernel
theorem dL_law_537 : decode cL_law 537 = .ok (.aload_n 0, 1) := by decide +kernel
theorem dL_law_538 : decode cL_law 538 = .ok (.iload 4, 2) := by decide +kernel
theorem dL_law_540 : decode cL_law 540 = .ok (.iconst 5, 1) := by decide +kernel
theorem dL_law_541 : decode cL_law 541 = .ok (.iadd, 1) := by decide +kernel
theorem dL_law_542 : decode cL_law 542 = .ok (.iaload, 1) := by decide +kernel
theorem dL_law_543 : decode cL_law 543 = .ok (.aload_n 0, 1) := by decide +kernel
theorem dL_law_544 : decode cL_law 544 = .ok (.iload 4, 2) := by decide +kernel
theorem dL_law_546 : decode cL_law 546 = .ok (.bipush 6, 2) := by decide +kernel
theorem dL_law_548 : decode cL_law 548 = .ok (.iadd, 1) := by decide +kernel
theorem dL_law_549 : decode cL_law 549 = .ok (.iaload, 1) := by decide +kernel
theorem dL_law_550 : decode cL_law 550 = .ok (.aload_n 3, 1) := by decide +kernel
theorem dL_law_551 : decode cL_law 551 = .ok (.invokestatic 100, 3) := by decide +kernel
theorem dL_law_554 : decode cL_law 554 = .ok (.istore 5, 2) := by decide +kernel
theorem dL_law_556 : decode cL_law 556 = .ok (.aload_n 2, 1) := by decide +kernel
theorem dL_law_557 : decode cL_law 557 = .ok (.aload_n 0, 1) := by decide +kernel
theorem dL_law_558 : decode cL_law 558 = .ok (.iload 4, 2) := by decide +kernel
theorem dL_law_560 : decode cL_law 560 = .ok (.iconst 1, 1) := by decide +kernel
theorem dL_law_561 : decode cL_law 561 = .ok (.iadd, 1) := by decide +kernel
theorem dL_law_562 : decode cL_law 562 = .ok (.iaload, 1) := by decide +kernel
theorem dL_law_563 : decode cL_law 563 = .ok (.aload_n 0, 1) := by decide +kernel
theorem dL_law_564 : decode cL_law 564 = .ok (.iload 4, 2) := by decide +kernel
theorem dL_law_566 : decode cL_law 566 = .ok (.iconst 2, 1) := by decide +kernel
theorem dL_law_567 : decode cL_law 567 = .ok (.iadd, 1) := by decide +kernel
theorem dL_law_568 : decode cL_law 568 = .ok (.iaload, 1) := by decide +kernel
theorem dL_law_569 : decode cL_law 569 = .ok (.aload_n 0, 1) := by decide +kernel
theorem dL_law_570 : decode cL_law 570 = .ok (.iload 4, 2) := by decide +kernel
theorem dL_law_572 : decode cL_law 572 = .ok (.iconst 3, 1) := by decide +kernel
theorem dL_law_573 : decode cL_law 573 = .ok (.iadd, 1) := by decide +kernel
theorem dL_law_574 : decode cL_law 574 = .ok (.iaload, 1) := by decide +kernel
theorem dL_law_575 : decode cL_law 575 = .ok (.aload_n 0, 1) := by decide +kernel
theorem dL_law_576 : decode cL_law 576 = .ok (.iload 4, 2) := by decide +kernel
theorem dL_law_578 : decode cL_law 578 = .ok (.iconst 4, 1) := by decide +kernel
theorem dL_law_579 : decode cL_law 579 = .ok (.iadd, 1) := by decide +kernel
theorem dL_law_580 : decode cL_law 580 = .ok (.iaload, 1) := by decide +kernel
theorem dL_law_581 : decode cL_law 581 = .ok (.aload_n 0, 1) := by decide +kernel
theorem dL_law_582 : decode cL_law 582 = .ok (.iload 4, 2) := by decide +kernel
theorem dL_law_584 : decode cL_law 584 = .ok (.iconst 5, 1) := by decide +kernel
theorem dL_law_585 : decode cL_law 585 = .ok (.iadd, 1) := by decide +kernel
theorem dL_law_586 : decode cL_law 586 = .ok (.iaload, 1) := by decide +kernel
theorem dL_law_587 : decode cL_law 587 = .ok (.aload_n 0, 1) := by decide +kernel
theorem dL_law_588 : decode cL_law 588 = .ok (.iload 4, 2) := by decide +kernel
theorem dL_law_590 : decode cL_law 590 = .ok (.bipush 6, 2) := by decide +kernel
theorem dL_law_592 : decode cL_law 592 = .ok (.iadd, 1) := by decide +kernel
theorem dL_law_593 : decode cL_law 593 = .ok (.iaload, 1) := by decide +kernel
theorem dL_law_594 : decode cL_law 594 = .ok (.invokevirtual 103, 3) := by decide +kernel
theorem dL_law_597 : decode cL_law 597 = .ok (.istore 6, 2) := by decide +kernel
theorem dL_law_599 : decode cL_law 599 = .ok (.aload_n 2, 1) := by decide +kernel
theorem dL_law_600 : decode cL_law 600 = .ok (.invokevirtual 83, 3) := by decide +kernel
theorem dL_law_603 : decode cL_law 603 = .ok (.iload 5, 2) := by decide +kernel
theorem dL_law_605 : decode cL_law 605 = .ok (.if_icmp .eq 5, 3) := by decide +kernel
theorem dL_law_608 : decode cL_law 608 = .ok (.iconst 0, 1) := by decide +kernel
theorem dL_law_609 : decode cL_law 609 = .ok (.ireturn, 1) := by decide +kernel
theorem dL_law_610 : decode cL_law 610 = .ok (.iload 5, 2) := by decide +kernel
theorem dL_law_612 : decode cL_law 612 = .ok (.ifCond .ne 15, 3) := by decide +kernel
theorem dL_law_615 : decode cL_law 615 = .ok (.aload_n 3, 1) := by decide +kernel
theorem dL_law_616 : decode cL_law 616 = .ok (.iconst 0, 1) := by decide +kernel
theorem dL_law_617 : decode cL_law 617 = .ok (.laload, 1) := by decide +kernel
theorem dL_law_618 : decode cL_law 618 = .ok (.iload 6, 2) := by decide +kernel
theorem dL_law_620 : decode cL_law 620 = .ok (.i2l, 1) := by decide +kernel
theorem dL_law_621 : decode cL_law 621 = .ok (.lcmp, 1) := by decide +kernel
theorem dL_law_622 : decode cL_law 622 = .ok (.ifCond .eq 5, 3) := by decide +kernel
theorem dL_law_625 : decode cL_law 625 = .ok (.iconst 0, 1) := by decide +kernel
theorem dL_law_626 : decode cL_law 626 = .ok (.ireturn, 1) := by decide +kernel
theorem dL_law_627 : decode cL_law 627 = .ok (.goto 850, 3) := by decide +kernel
theorem dL_law_630 : decode cL_law 630 = .ok (.aload_n 1, 1) := by decide +kernel
theorem dL_law_631 : decode cL_law 631 = .ok (.aload_n 0, 1) := by decide +kernel
theorem dL_law_632 : decode cL_law 632 = .ok (.iload 4, 2) := by decide +kernel
theorem dL_law_634 : decode cL_law 634 = .ok (.iconst 1, 1) := by decide +kernel
theorem dL_law_635 : decode cL_law 635 = .ok (.iadd, 1) := by decide +kernel
theorem dL_law_636 : decode cL_law 636 = .ok (.iaload, 1) := by decide +kernel
theorem dL_law_637 : decode cL_law 637 = .ok (.aload_n 0, 1) := by decide +kernel
theorem dL_law_638 : decode cL_law 638 = .ok (.iload 4, 2) := by decide +kernel
theorem dL_law_640 : decode cL_law 640 = .ok (.iconst 2, 1) := by decide +kernel
theorem dL_law_641 : decode cL_law 641 = .ok (.iadd, 1) := by decide +kernel
theorem dL_law_642 : decode cL_law 642 = .ok (.iaload, 1) := by decide +kernel
theorem dL_law_643 : decode cL_law 643 = .ok (.aload_n 3, 1) := by decide +kernel
theorem dL_law_644 : decode cL_law 644 = .ok (.invokestatic 104, 3) := by decide +kernel
theorem dL_law_647 : decode cL_law 647 = .ok (.istore 5, 2) := by decide +kernel
theorem dL_law_649 : decode cL_law 649 = .ok (.aload_n 2, 1) := by decide +kernel
theorem dL_law_650 : decode cL_law 650 = .ok (.aload_n 0, 1) := by decide +kernel
theorem dL_law_651 : decode cL_law 651 = .ok (.iload 4, 2) := by decide +kernel
theorem dL_law_653 : decode cL_law 653 = .ok (.iconst 1, 1) := by decide +kernel
theorem dL_law_654 : decode cL_law 654 = .ok (.iadd, 1) := by decide +kernel
theorem dL_law_655 : decode cL_law 655 = .ok (.iaload, 1) := by decide +kernel
theorem dL_law_656 : decode cL_law 656 = .ok (.aload_n 0, 1) := by decide +kernel
theorem dL_law_657 : decode cL_law 657 = .ok (.iload 4, 2) := by decide +kernel
theorem dL_law_659 : decode cL_law 659 = .ok (.iconst 2, 1) := by decide +kernel
theorem dL_law_660 : decode cL_law 660 = .ok (.iadd, 1) := by decide +kernel
theorem dL_law_661 : decode cL_law 661 = .ok (.iaload, 1) := by decide +kernel
theorem dL_law_662 : decode cL_law 662 = .ok (.invokevirtual 106, 3) := by decide +kernel
theorem dL_law_665 : decode cL_law 665 = .ok (.istore 6, 2) := by decide +kernel
theorem dL_law_667 : decode cL_law 667 = .ok (.aload_n 2, 1) := by decide +kernel
theorem dL_law_668 : decode cL_law 668 = .ok (.invokevirtual 83, 3) := by decide +kernel
theorem dL_law_671 : decode cL_law 671 = .ok (.iload 5, 2) := by decide +kernel
theorem dL_law_673 : decode cL_law 673 = .ok (.if_icmp .eq 5, 3) := by decide +kernel
theorem dL_law_676 : decode cL_law 676 = .ok (.iconst 0, 1) := by decide +kernel
theorem dL_law_677 : decode cL_law 677 = .ok (.ireturn, 1) := by decide +kernel
theorem dL_law_678 : decode cL_law 678 = .ok (.iload 5, 2) := by decide +kernel
theorem dL_law_680 : decode cL_law 680 = .ok (.ifCond .ne 15, 3) := by decide +kernel
theorem dL_law_683 : decode cL_law 683 = .ok (.aload_n 3, 1) := by decide +kernel
theorem dL_law_684 : decode cL_law 684 = .ok (.iconst 0, 1) := by decide +kernel
theorem dL_law_685 : decode cL_law 685 = .ok (.laload, 1) := by decide +kernel
theorem dL_law_686 : decode cL_law 686 = .ok (.iload 6, 2) := by decide +kernel
theorem dL_law_688 : decode cL_law 688 = .ok (.i2l, 1) := by decide +kernel
theorem dL_law_689 : decode cL_law 689 = .ok (.lcmp, 1) := by decide +kernel
theorem dL_law_690 : decode cL_law 690 = .ok (.ifCond .eq 5, 3) := by decide +kernel
theorem dL_law_693 : decode cL_law 693 = .ok (.iconst 0, 1) := by decide +kernel
theorem dL_law_694 : decode cL_law 694 = .ok (.ireturn, 1) := by decide +kernel
theorem dL_law_695 : decode cL_law 695 = .ok (.goto 782, 3) := by decide +kernel
theorem dL_law_698 : decode cL_law 698 = .ok (.aload_n 1, 1) := by decide +kernel
theorem dL_law_699 : decode cL_law 699 = .ok (.aload_n 0, 1) := by decide +kernel
theorem dL_law_700 : decode cL_law 700 = .ok (.iload 4, 2) := by decide +kernel
theorem dL_law_702 : decode cL_law 702 = .ok (.iconst 1, 1) := by decide +kernel
theorem dL_law_703 : decode cL_law 703 = .ok (.iadd, 1) := by decide +kernel
theorem dL_law_704 : decode cL_law 704 = .ok (.iaload, 1) := by decide +kernel
theorem dL_law_705 : decode cL_law 705 = .ok (.aload_n 0, 1) := by decide +kernel
theorem dL_law_706 : decode cL_law 706 = .ok (.iload 4, 2) := by decide +kernel
theorem dL_law_708 : decode cL_law 708 = .ok (.iconst 2, 1) := by decide +kernel
theorem dL_law_709 : decode cL_law 709 = .ok (.iadd, 1) := by decide +kernel
theorem dL_law_710 : decode cL_law 710 = .ok (.iaload, 1) := by decide +kernel
theorem dL_law_711 : decode cL_law 711 = .ok (.aload_n 3, 1) := by decide +kernel
theorem dL_law_712 : decode cL_law 712 = .ok (.invokestatic 107, 3) := by decide +kernel
theorem dL_law_715 : decode cL_law 715 = .ok (.istore 5, 2) := by decide +kernel
theorem dL_law_717 : decode cL_law 717 = .ok (.aload_n 2, 1) := by decide +kernel
theorem dL_law_718 : decode cL_law 718 = .ok (.aload_n 0, 1) := by decide +kernel
theorem dL_law_719 : decode cL_law 719 = .ok (.iload 4, 2) := by decide +kernel
theorem dL_law_721 : decode cL_law 721 = .ok (.iconst 1, 1) := by decide +kernel
theorem dL_law_722 : decode cL_law 722 = .ok (.iadd, 1) := by decide +kernel
theorem dL_law_723 : decode cL_law 723 = .ok (.iaload, 1) := by decide +kernel
theorem dL_law_724 : decode cL_law 724 = .ok (.aload_n 0, 1) := by decide +kernel
theorem dL_law_725 : decode cL_law 725 = .ok (.iload 4, 2) := by decide +kernel
theorem dL_law_727 : decode cL_law 727 = .ok (.iconst 2, 1) := by decide +kernel
theorem dL_law_728 : decode cL_law 728 = .ok (.iadd, 1) := by decide +kernel
theorem dL_law_729 : decode cL_law 729 = .ok (.iaload, 1) := by decide +kernel
theorem dL_law_730 : decode cL_law 730 = .ok (.invokevirtual 109, 3) := by decide +kernel
theorem dL_law_733 : decode cL_law 733 = .ok (.istore 6, 2) := by decide +kernel
theorem dL_law_735 : decode cL_law 735 = .ok (.aload_n 2, 1) := by decide +kernel
theorem dL_law_736 : decode cL_law 736 = .ok (.invokevirtual 83, 3) := by decide +kernel
theorem dL_law_739 : decode cL_law 739 = .ok (.iload 5, 2) := by decide +kernel
theorem dL_law_741 : decode cL_law 741 = .ok (.if_icmp .eq 5, 3) := by decide +kernel
theorem dL_law_744 : decode cL_law 744 = .ok (.iconst 0, 1) := by decide +kernel
theorem dL_law_745 : decode cL_law 745 = .ok (.ireturn, 1) := by decide +kernel
theorem dL_law_746 : decode cL_law 746 = .ok (.iload 5, 2) := by decide +kernel
theorem dL_law_748 : decode cL_law 748 = .ok (.ifCond .ne 15, 3) := by decide +kernel
theorem dL_law_751 : decode cL_law 751 = .ok (.aload_n 3, 1) := by decide +kernel
theorem dL_law_752 : decode cL_law 752 = .ok (.iconst 0, 1) := by decide +kernel
theorem dL_law_753 : decode cL_law 753 = .ok (.laload, 1) := by decide +kernel
theorem dL_law_754 : decode cL_law 754 = .ok (.iload 6, 2) := by decide +kernel
theorem dL_law_756 : decode cL_law 756 = .ok (.i2l, 1) := by decide +kernel
theorem dL_law_757 : decode cL_law 757 = .ok (.lcmp, 1) := by decide +kernel
theorem dL_law_758 : decode cL_law 758 = .ok (.ifCond .eq 5, 3) := by decide +kernel
theorem dL_law_761 : decode cL_law 761 = .ok (.iconst 0, 1) := by decide +kernel
theorem dL_law_762 : decode cL_law 762 = .ok (.ireturn, 1) := by decide +kernel
theorem dL_law_763 : decode cL_law 763 = .ok (.goto 714, 3) := by decide +kernel
theorem dL_law_766 : decode cL_law 766 = .ok (.aload_n 1, 1) := by decide +kernel
theorem dL_law_767 : decode cL_law 767 = .ok (.aload_n 0, 1) := by decide +kernel
theorem dL_law_768 : decode cL_law 768 = .ok (.iload 4, 2) := by decide +kernel
theorem dL_law_770 : decode cL_law 770 = .ok (.iconst 1, 1) := by decide +kernel
theorem dL_law_771 : decode cL_law 771 = .ok (.iadd, 1) := by decide +kernel
theorem dL_law_772 : decode cL_law 772 = .ok (.iaload, 1) := by decide +kernel
theorem dL_law_773 : decode cL_law 773 = .ok (.aload_n 0, 1) := by decide +kernel
theorem dL_law_774 : decode cL_law 774 = .ok (.iload 4, 2) := by decide +kernel
theorem dL_law_776 : decode cL_law 776 = .ok (.iconst 2, 1) := by decide +kernel
theorem dL_law_777 : decode cL_law 777 = .ok (.iadd, 1) := by decide +kernel
theorem dL_law_778 : decode cL_law 778 = .ok (.iaload, 1) := by decide +kernel
theorem dL_law_779 : decode cL_law 779 = .ok (.aload_n 0, 1) := by decide +kernel
theorem dL_law_780 : decode cL_law 780 = .ok (.iload 4, 2) := by decide +kernel
theorem dL_law_782 : decode cL_law 782 = .ok (.iconst 3, 1) := by decide +kernel
theorem dL_law_783 : decode cL_law 783 = .ok (.iadd, 1) := by decide +kernel
theorem dL_law_784 : decode cL_law 784 = .ok (.iaload, 1) := by decide +kernel
theorem dL_law_785 : decode cL_law 785 = .ok (.aload_n 3, 1) := by decide +kernel
theorem dL_law_786 : decode cL_law 786 = .ok (.invokestatic 110, 3) := by decide +kernel
theorem dL_law_789 : decode cL_law 789 = .ok (.istore 5, 2) := by decide +kernel
theorem dL_law_791 : decode cL_law 791 = .ok (.aload_n 2, 1) := by decide +kernel
theorem dL_law_792 : decode cL_law 792 = .ok (.aload_n 0, 1) := by decide +kernel
theorem dL_law_793 : decode cL_law 793 = .ok (.iload 4, 2) := by decide +kernel
theorem dL_law_795 : decode cL_law 795 = .ok (.iconst 1, 1) := by decide +kernel
theorem dL_law_796 : decode cL_law 796 = .ok (.iadd, 1) := by decide +kernel
theorem dL_law_797 : decode cL_law 797 = .ok (.iaload, 1) := by decide +kernel
theorem dL_law_798 : decode cL_law 798 = .ok (.aload_n 0, 1) := by decide +kernel
theorem dL_law_799 : decode cL_law 799 = .ok (.iload 4, 2) := by decide +kernel
theorem dL_law_801 : decode cL_law 801 = .ok (.iconst 2, 1) := by decide +kernel
theorem dL_law_802 : decode cL_law 802 = .ok (.iadd, 1) := by decide +kernel
theorem dL_law_803 : decode cL_law 803 = .ok (.iaload, 1) := by decide +kernel
theorem dL_law_804 : decode cL_law 804 = .ok (.aload_n 0, 1) := by decide +kernel
theorem dL_law_805 : decode cL_law 805 = .ok (.iload 4, 2) := by decide +kernel
theorem dL_law_807 : decode cL_law 807 = .ok (.iconst 3, 1) := by decide +kernel
theorem dL_law_808 : decode cL_law 808 = .ok (.iadd, 1) := by decide +kernel
theorem dL_law_809 : decode cL_law 809 = .ok (.iaload, 1) := by decide +kernel
theorem dL_law_810 : decode cL_law 810 = .ok (.invokevirtual 112, 3) := by decide +kernel
theorem dL_law_813 : decode cL_law 813 = .ok (.istore 6, 2) := by decide +kernel
theorem dL_law_815 : decode cL_law 815 = .ok (.aload_n 2, 1) := by decide +kernel
theorem dL_law_816 : decode cL_law 816 = .ok (.invokevirtual 83, 3) := by decide +kernel
theorem dL_law_819 : decode cL_law 819 = .ok (.iload 5, 2) := by decide +kernel
theorem dL_law_821 : decode cL_law 821 = .ok (.if_icmp .eq 5, 3) := by decide +kernel
theorem dL_law_824 : decode cL_law 824 = .ok (.iconst 0, 1) := by decide +kernel
theorem dL_law_825 : decode cL_law 825 = .ok (.ireturn, 1) := by decide +kernel
theorem dL_law_826 : decode cL_law 826 = .ok (.iload 5, 2) := by decide +kernel
theorem dL_law_828 : decode cL_law 828 = .ok (.ifCond .ne 15, 3) := by decide +kernel
theorem dL_law_831 : decode cL_law 831 = .ok (.aload_n 3, 1) := by decide +kernel
theorem dL_law_832 : decode cL_law 832 = .ok (.iconst 0, 1) := by decide +kernel
theorem dL_law_833 : decode cL_law 833 = .ok (.laload, 1) := by decide +kernel
theorem dL_law_834 : decode cL_law 834 = .ok (.iload 6, 2) := by decide +kernel
theorem dL_law_836 : decode cL_law 836 = .ok (.i2l, 1) := by decide +kernel
theorem dL_law_837 : decode cL_law 837 = .ok (.lcmp, 1) := by decide +kernel
theorem dL_law_838 : decode cL_law 838 = .ok (.ifCond .eq 5, 3) := by decide +kernel
theorem dL_law_841 : decode cL_law 841 = .ok (.iconst 0, 1) := by decide +kernel
theorem dL_law_842 : decode cL_law 842 = .ok (.ireturn, 1) := by decide +kernel
theorem dL_law_843 : decode cL_law 843 = .ok (.goto 634, 3) := by decide +kernel
theorem dL_law_846 : decode cL_law 846 = .ok (.aload_n 1, 1) := by decide +kernel
theorem dL_law_847 : decode cL_law 847 = .ok (.aload_n 0, 1) := by decide +kernel
theorem dL_law_848 : decode cL_law 848 = .ok (.iload 4, 2) := by decide +kernel
theorem dL_law_850 : decode cL_law 850 = .ok (.iconst 1, 1) := by decide +kernel
theorem dL_law_851 : decode cL_law 851 = .ok (.iadd, 1) := by decide +kernel
theorem dL_law_852 : decode cL_law 852 = .ok (.iaload, 1) := by decide +kernel
theorem dL_law_853 : decode cL_law 853 = .ok (.aload_n 0, 1) := by decide +kernel
theorem dL_law_854 : decode cL_law 854 = .ok (.iload 4, 2) := by decide +kernel
theorem dL_law_856 : decode cL_law 856 = .ok (.iconst 2, 1) := by decide +kernel
theorem dL_law_857 : decode cL_law 857 = .ok (.iadd, 1) := by decide +kernel
theorem dL_law_858 : decode cL_law 858 = .ok (.iaload, 1) := by decide +kernel
theorem dL_law_859 : decode cL_law 859 = .ok (.aload_n 3, 1) := by decide +kernel
theorem dL_law_860 : decode cL_law 860 = .ok (.invokestatic 113, 3) := by decide +kernel
theorem dL_law_863 : decode cL_law 863 = .ok (.istore 5, 2) := by decide +kernel
theorem dL_law_865 : decode cL_law 865 = .ok (.aload_n 2, 1) := by decide +kernel
theorem dL_law_866 : decode cL_law 866 = .ok (.aload_n 0, 1) := by decide +kernel
theorem dL_law_867 : decode cL_law 867 = .ok (.iload 4, 2) := by decide +kernel
theorem dL_law_869 : decode cL_law 869 = .ok (.iconst 1, 1) := by decide +kernel
theorem dL_law_870 : decode cL_law 870 = .ok (.iadd, 1) := by decide +kernel
theorem dL_law_871 : decode cL_law 871 = .ok (.iaload, 1) := by decide +kernel
theorem dL_law_872 : decode cL_law 872 = .ok (.aload_n 0, 1) := by decide +kernel
theorem dL_law_873 : decode cL_law 873 = .ok (.iload 4, 2) := by decide +kernel
theorem dL_law_875 : decode cL_law 875 = .ok (.iconst 2, 1) := by decide +kernel
theorem dL_law_876 : decode cL_law 876 = .ok (.iadd, 1) := by decide +kernel
theorem dL_law_877 : decode cL_law 877 = .ok (.iaload, 1) := by decide +kernel
theorem dL_law_878 : decode cL_law 878 = .ok (.invokevirtual 115, 3) := by decide +kernel
theorem dL_law_881 : decode cL_law 881 = .ok (.istore 6, 2) := by decide +kernel
theorem dL_law_883 : decode cL_law 883 = .ok (.aload_n 2, 1) := by decide +kernel
theorem dL_law_884 : decode cL_law 884 = .ok (.invokevirtual 83, 3) := by decide +kernel
theorem dL_law_887 : decode cL_law 887 = .ok (.iload 5, 2) := by decide +kernel
theorem dL_law_889 : decode cL_law 889 = .ok (.if_icmp .eq 5, 3) := by decide +kernel
theorem dL_law_892 : decode cL_law 892 = .ok (.iconst 0, 1) := by decide +kernel
theorem dL_law_893 : decode cL_law 893 = .ok (.ireturn, 1) := by decide +kernel
theorem dL_law_894 : decode cL_law 894 = .ok (.iload 5, 2) := by decide +kernel
theorem dL_law_896 : decode cL_law 896 = .ok (.ifCond .ne 15, 3) := by decide +kernel
theorem dL_law_899 : decode cL_law 899 = .ok (.aload_n 3, 1) := by decide +kernel
theorem dL_law_900 : decode cL_law 900 = .ok (.iconst 0, 1) := by decide +kernel
theorem dL_law_901 : decode cL_law 901 = .ok (.laload, 1) := by decide +kernel
theorem dL_law_902 : decode cL_law 902 = .ok (.iload 6, 2) := by decide +kernel
theorem dL_law_904 : decode cL_law 904 = .ok (.i2l, 1) := by decide +kernel
theorem dL_law_905 : decode cL_law 905 = .ok (.lcmp, 1) := by decide +kernel
theorem dL_law_906 : decode cL_law 906 = .ok (.ifCond .eq 5, 3) := by decide +kernel
theorem dL_law_909 : decode cL_law 909 = .ok (.iconst 0, 1) := by decide +kernel
theorem dL_law_910 : decode cL_law 910 = .ok (.ireturn, 1) := by decide +kernel
theorem dL_law_911 : decode cL_law 911 = .ok (.goto 566, 3) := by decide +kernel
theorem dL_law_914 : decode cL_law 914 = .ok (.aload_n 1, 1) := by decide +kernel
theorem dL_law_915 : decode cL_law 915 = .ok (.aload_n 0, 1) := by decide +kernel
theorem dL_law_916 : decode cL_law 916 = .ok (.iload 4, 2) := by decide +kernel
theorem dL_law_918 : decode cL_law 918 = .ok (.iconst 1, 1) := by decide +kernel
theorem dL_law_919 : decode cL_law 919 = .ok (.iadd, 1) := by decide +kernel
theorem dL_law_920 : decode cL_law 920 = .ok (.iaload, 1) := by decide +kernel
theorem dL_law_921 : decode cL_law 921 = .ok (.aload_n 0, 1) := by decide +kernel
theorem dL_law_922 : decode cL_law 922 = .ok (.iload 4, 2) := by decide +kernel
theorem dL_law_924 : decode cL_law 924 = .ok (.iconst 2, 1) := by decide +kernel
theorem dL_law_925 : decode cL_law 925 = .ok (.iadd, 1) := by decide +kernel
theorem dL_law_926 : decode cL_law 926 = .ok (.iaload, 1) := by decide +kernel
theorem dL_law_927 : decode cL_law 927 = .ok (.aload_n 3, 1) := by decide +kernel
theorem dL_law_928 : decode cL_law 928 = .ok (.invokestatic 116, 3) := by decide +kernel
theorem dL_law_931 : decode cL_law 931 = .ok (.istore 5, 2) := by decide +kernel
theorem dL_law_933 : decode cL_law 933 = .ok (.aload_n 2, 1) := by decide +kernel
theorem dL_law_934 : decode cL_law 934 = .ok (.aload_n 0, 1) := by decide +kernel
theorem dL_law_935 : decode cL_law 935 = .ok (.iload 4, 2) := by decide +kernel
theorem dL_law_937 : decode cL_law 937 = .ok (.iconst 1, 1) := by decide +kernel
theorem dL_law_938 : decode cL_law 938 = .ok (.iadd, 1) := by decide +kernel
theorem dL_law_939 : decode cL_law 939 = .ok (.iaload, 1) := by decide +kernel
theorem dL_law_940 : decode cL_law 940 = .ok (.aload_n 0, 1) := by decide +kernel
theorem dL_law_941 : decode cL_law 941 = .ok (.iload 4, 2) := by decide +kernel
theorem dL_law_943 : decode cL_law 943 = .ok (.iconst 2, 1) := by decide +kernel
theorem dL_law_944 : decode cL_law 944 = .ok (.iadd, 1) := by decide +kernel
theorem dL_law_945 : decode cL_law 945 = .ok (.iaload, 1) := by decide +kernel
theorem dL_law_946 : decode cL_law 946 = .ok (.invokevirtual 118, 3) := by decide +kernel
theorem dL_law_949 : decode cL_law 949 = .ok (.istore 6, 2) := by decide +kernel
theorem dL_law_951 : decode cL_law 951 = .ok (.aload_n 2, 1) := by decide +kernel
theorem dL_law_952 : decode cL_law 952 = .ok (.invokevirtual 83, 3) := by decide +kernel
theorem dL_law_955 : decode cL_law 955 = .ok (.iload 5, 2) := by decide +kernel
theorem dL_law_957 : decode cL_law 957 = .ok (.if_icmp .eq 5, 3) := by decide +kernel
theorem dL_law_960 : decode cL_law 960 = .ok (.iconst 0, 1) := by decide +kernel
theorem dL_law_961 : decode cL_law 961 = .ok (.ireturn, 1) := by decide +kernel
theorem dL_law_962 : decode cL_law 962 = .ok (.iload 5, 2) := by decide +kernel
theorem dL_law_964 : decode cL_law 964 = .ok (.ifCond .ne 15, 3) := by decide +kernel
theorem dL_law_967 : decode cL_law 967 = .ok (.aload_n 3, 1) := by decide +kernel
theorem dL_law_968 : decode cL_law 968 = .ok (.iconst 0, 1) := by decide +kernel
theorem dL_law_969 : decode cL_law 969 = .ok (.laload, 1) := by decide +kernel
theorem dL_law_970 : decode cL_law 970 = .ok (.iload 6, 2) := by decide +kernel
theorem dL_law_972 : decode cL_law 972 = .ok (.i2l, 1) := by decide +kernel
theorem dL_law_973 : decode cL_law 973 = .ok (.lcmp, 1) := by decide +kernel
theorem dL_law_974 : decode cL_law 974 = .ok (.ifCond .eq 5, 3) := by decide +kernel
theorem dL_law_977 : decode cL_law 977 = .ok (.iconst 0, 1) := by decide +kernel
theorem dL_law_978 : decode cL_law 978 = .ok (.ireturn, 1) := by decide +kernel
theorem dL_law_979 : decode cL_law 979 = .ok (.goto 498, 3) := by decide +kernel
theorem dL_law_982 : decode cL_law 982 = .ok (.aload_n 1, 1) := by decide +kernel
theorem dL_law_983 : decode cL_law 983 = .ok (.aload_n 0, 1) := by decide +kernel
theorem dL_law_984 : decode cL_law 984 = .ok (.iload 4, 2) := by decide +kernel
theorem dL_law_986 : decode cL_law 986 = .ok (.iconst 1, 1) := by decide +kernel
theorem dL_law_987 : decode cL_law 987 = .ok (.iadd, 1) := by decide +kernel
theorem dL_law_988 : decode cL_law 988 = .ok (.iaload, 1) := by decide +kernel
theorem dL_law_989 : decode cL_law 989 = .ok (.aload_n 3, 1) := by decide +kernel
theorem dL_law_990 : decode cL_law 990 = .ok (.invokestatic 119, 3) := by decide +kernel
theorem dL_law_993 : decode cL_law 993 = .ok (.istore 5, 2) := by decide +kernel
theorem dL_law_995 : decode cL_law 995 = .ok (.aload_n 2, 1) := by decide +kernel
theorem dL_law_996 : decode cL_law 996 = .ok (.aload_n 0, 1) := by decide +kernel
theorem dL_law_997 : decode cL_law 997 = .ok (.iload 4, 2) := by decide +kernel
theorem dL_law_999 : decode cL_law 999 = .ok (.iconst 1, 1) := by decide +kernel
theorem dL_law_1000 : decode cL_law 1000 = .ok (.iadd, 1) := by decide +kernel
theorem dL_law_1001 : decode cL_law 1001 = .ok (.iaload, 1) := by decide +kernel
theorem dL_law_1002 : decode cL_law 1002 = .ok (.invokevirtual 122, 3) := by decide +kernel
theorem dL_law_1005 : decode cL_law 1005 = .ok (.istore 6, 2) := by decide +kernel
theorem dL_law_1007 : decode cL_law 1007 = .ok (.aload_n 2, 1) := by decide +kernel
theorem dL_law_1008 : decode cL_law 1008 = .ok (.invokevirtual 83, 3) := by decide +kernel
theorem dL_law_1011 : decode cL_law 1011 = .ok (.iload 5, 2) := by decide +kernel
theorem dL_law_1013 : decode cL_law 1013 = .ok (.if_icmp .eq 5, 3) := by decide +kernel
theorem dL_law_1016 : decode cL_law 1016 = .ok (.iconst 0, 1) := by decide +kernel
theorem dL_law_1017 : decode cL_law 1017 = .ok (.ireturn, 1) := by decide +kernel
theorem dL_law_1018 : decode cL_law 1018 = .ok (.iload 5, 2) := by decide +kernel
theorem dL_law_1020 : decode cL_law 1020 = .ok (.ifCond .ne 15, 3) := by decide +kernel
theorem dL_law_1023 : decode cL_law 1023 = .ok (.aload_n 3, 1) := by decide +kernel
theorem dL_law_1024 : decode cL_law 1024 = .ok (.iconst 0, 1) := by decide +kernel
theorem dL_law_1025 : decode cL_law 1025 = .ok (.laload, 1) := by decide +kernel
theorem dL_law_1026 : decode cL_law 1026 = .ok (.iload 6, 2) := by decide +kernel
theorem dL_law_1028 : decode cL_law 1028 = .ok (.i2l, 1) := by decide +kernel
theorem dL_law_1029 : decode cL_law 1029 = .ok (.lcmp, 1) := by decide +kernel
theorem dL_law_1030 : decode cL_law 1030 = .ok (.ifCond .eq 5, 3) := by decide +kernel
theorem dL_law_1033 : decode cL_law 1033 = .ok (.iconst 0, 1) := by decide +kernel
theorem dL_law_1034 : decode cL_law 1034 = .ok (.ireturn, 1) := by decide +kernel
theorem dL_law_1035 : decode cL_law 1035 = .ok (.goto 442, 3) := by decide +kernel
theorem dL_law_1038 : decode cL_law 1038 = .ok (.aload_n 1, 1) := by decide +kernel
theorem dL_law_1039 : decode cL_law 1039 = .ok (.aload_n 0, 1) := by decide +kernel
theorem dL_law_1040 : decode cL_law 1040 = .ok (.iload 4, 2) := by decide +kernel
theorem dL_law_1042 : decode cL_law 1042 = .ok (.iconst 1, 1) := by decide +kernel
theorem dL_law_1043 : decode cL_law 1043 = .ok (.iadd, 1) := by decide +kernel
theorem dL_law_1044 : decode cL_law 1044 = .ok (.iaload, 1) := by decide +kernel
theorem dL_law_1045 : decode cL_law 1045 = .ok (.aload_n 3, 1) := by decide +kernel
theorem dL_law_1046 : decode cL_law 1046 = .ok (.invokestatic 123, 3) := by decide +kernel
theorem dL_law_1049 : decode cL_law 1049 = .ok (.istore 5, 2) := by decide +kernel
theorem dL_law_1051 : decode cL_law 1051 = .ok (.aload_n 2, 1) := by decide +kernel
theorem dL_law_1052 : decode cL_law 1052 = .ok (.aload_n 0, 1) := by decide +kernel
theorem dL_law_1053 : decode cL_law 1053 = .ok (.iload 4, 2) := by decide +kernel
theorem dL_law_1055 : decode cL_law 1055 = .ok (.iconst 1, 1) := by decide +kernel
theorem dL_law_1056 : decode cL_law 1056 = .ok (.iadd, 1) := by decide +kernel
theorem dL_law_1057 : decode cL_law 1057 = .ok (.iaload, 1) := by decide +kernel
theorem dL_law_1058 : decode cL_law 1058 = .ok (.invokevirtual 125, 3) := by decide +kernel
theorem dL_law_1061 : decode cL_law 1061 = .ok (.istore 6, 2) := by decide +kernel
theorem dL_law_1063 : decode cL_law 1063 = .ok (.aload_n 2, 1) := by decide +kernel
theorem dL_law_1064 : decode cL_law 1064 = .ok (.invokevirtual 83, 3) := by decide +kernel
theorem dL_law_1067 : decode cL_law 1067 = .ok (.iload 5, 2) := by decide +kernel
theorem dL_law_1069 : decode cL_law 1069 = .ok (.if_icmp .eq 5, 3) := by decide +kernel
theorem dL_law_1072 : decode cL_law 1072 = .ok (.iconst 0, 1) := by decide +kernel
theorem dL_law_1073 : decode cL_law 1073 = .ok (.ireturn, 1) := by decide +kernel
theorem dL_law_1074 : decode cL_law 1074 = .ok (.iload 5, 2) := by decide +kernel
theorem dL_law_1076 : decode cL_law 1076 = .ok (.ifCond .ne 15, 3) := by decide +kernel
theorem dL_law_1079 : decode cL_law 1079 = .ok (.aload_n 3, 1) := by decide +kernel
theorem dL_law_1080 : decode cL_law 1080 = .ok (.iconst 0, 1) := by decide +kernel
theorem dL_law_1081 : decode cL_law 1081 = .ok (.laload, 1) := by decide +kernel
theorem dL_law_1082 : decode cL_law 1082 = .ok (.iload 6, 2) := by decide +kernel
theorem dL_law_1084 : decode cL_law 1084 = .ok (.i2l, 1) := by decide +kernel
theorem dL_law_1085 : decode cL_law 1085 = .ok (.lcmp, 1) := by decide +kernel
theorem dL_law_1086 : decode cL_law 1086 = .ok (.ifCond .eq 5, 3) := by decide +kernel
theorem dL_law_1089 : decode cL_law 1089 = .ok (.iconst 0, 1) := by decide +kernel
theorem dL_law_1090 : decode cL_law 1090 = .ok (.ireturn, 1) := by decide +kernel
theorem dL_law_1091 : decode cL_law 1091 = .ok (.goto 386, 3) := by decide +kernel
theorem dL_law_1094 : decode cL_law 1094 = .ok (.aload_n 1, 1) := by decide +kernel
theorem dL_law_1095 : decode cL_law 1095 = .ok (.aload_n 0, 1) := by decide +kernel
theorem dL_law_1096 : decode cL_law 1096 = .ok (.iload 4, 2) := by decide +kernel
theorem dL_law_1098 : decode cL_law 1098 = .ok (.iconst 1, 1) := by decide +kernel
theorem dL_law_1099 : decode cL_law 1099 = .ok (.iadd, 1) := by decide +kernel
theorem dL_law_1100 : decode cL_law 1100 = .ok (.iaload, 1) := by decide +kernel
theorem dL_law_1101 : decode cL_law 1101 = .ok (.aload_n 0, 1) := by decide +kernel
theorem dL_law_1102 : decode cL_law 1102 = .ok (.iload 4, 2) := by decide +kernel
theorem dL_law_1104 : decode cL_law 1104 = .ok (.iconst 2, 1) := by decide +kernel
theorem dL_law_1105 : decode cL_law 1105 = .ok (.iadd, 1) := by decide +kernel
theorem dL_law_1106 : decode cL_law 1106 = .ok (.iaload, 1) := by decide +kernel
theorem dL_law_1107 : decode cL_law 1107 = .ok (.aload_n 3, 1) := by decide +kernel
theorem dL_law_1108 : decode cL_law 1108 = .ok (.invokestatic 126, 3) := by decide +kernel
theorem dL_law_1111 : decode cL_law 1111 = .ok (.istore 5, 2) := by decide +kernel
theorem dL_law_1113 : decode cL_law 1113 = .ok (.aload_n 2, 1) := by decide +kernel
theorem dL_law_1114 : decode cL_law 1114 = .ok (.aload_n 0, 1) := by decide +kernel
theorem dL_law_1115 : decode cL_law 1115 = .ok (.iload 4, 2) := by decide +kernel
theorem dL_law_1117 : decode cL_law 1117 = .ok (.iconst 1, 1) := by decide +kernel
theorem dL_law_1118 : decode cL_law 1118 = .ok (.iadd, 1) := by decide +kernel
theorem dL_law_1119 : decode cL_law 1119 = .ok (.iaload, 1) := by decide +kernel
theorem dL_law_1120 : decode cL_law 1120 = .ok (.aload_n 0, 1) := by decide +kernel
theorem dL_law_1121 : decode cL_law 1121 = .ok (.iload 4, 2) := by decide +kernel
theorem dL_law_1123 : decode cL_law 1123 = .ok (.iconst 2, 1) := by decide +kernel
theorem dL_law_1124 : decode cL_law 1124 = .ok (.iadd, 1) := by decide +kernel
theorem dL_law_1125 : decode cL_law 1125 = .ok (.iaload, 1) := by decide +kernel
theorem dL_law_1126 : decode cL_law 1126 = .ok (.invokevirtual 128, 3) := by decide +kernel
theorem dL_law_1129 : decode cL_law 1129 = .ok (.istore 6, 2) := by decide +kernel
theorem dL_law_1131 : decode cL_law 1131 = .ok (.aload_n 2, 1) := by decide +kernel
theorem dL_law_1132 : decode cL_law 1132 = .ok (.invokevirtual 83, 3) := by decide +kernel
theorem dL_law_1135 : decode cL_law 1135 = .ok (.iload 5, 2) := by decide +kernel
theorem dL_law_1137 : decode cL_law 1137 = .ok (.if_icmp .eq 5, 3) := by decide +kernel
theorem dL_law_1140 : decode cL_law 1140 = .ok (.iconst 0, 1) := by decide +kernel
theorem dL_law_1141 : decode cL_law 1141 = .ok (.ireturn, 1) := by decide +kernel
theorem dL_law_1142 : decode cL_law 1142 = .ok (.iload 5, 2) := by decide +kernel
theorem dL_law_1144 : decode cL_law 1144 = .ok (.ifCond .ne 15, 3) := by decide +kernel
theorem dL_law_1147 : decode cL_law 1147 = .ok (.aload_n 3, 1) := by decide +kernel
theorem dL_law_1148 : decode cL_law 1148 = .ok (.iconst 0, 1) := by decide +kernel
theorem dL_law_1149 : decode cL_law 1149 = .ok (.laload, 1) := by decide +kernel
theorem dL_law_1150 : decode cL_law 1150 = .ok (.iload 6, 2) := by decide +kernel
theorem dL_law_1152 : decode cL_law 1152 = .ok (.i2l, 1) := by decide +kernel
theorem dL_law_1153 : decode cL_law 1153 = .ok (.lcmp, 1) := by decide +kernel
theorem dL_law_1154 : decode cL_law 1154 = .ok (.ifCond .eq 5, 3) := by decide +kernel
theorem dL_law_1157 : decode cL_law 1157 = .ok (.iconst 0, 1) := by decide +kernel
theorem dL_law_1158 : decode cL_law 1158 = .ok (.ireturn, 1) := by decide +kernel
theorem dL_law_1159 : decode cL_law 1159 = .ok (.goto 318, 3) := by decide +kernel
theorem dL_law_1162 : decode cL_law 1162 = .ok (.aload_n 1, 1) := by decide +kernel
theorem dL_law_1163 : decode cL_law 1163 = .ok (.aload_n 0, 1) := by decide +kernel
theorem dL_law_1164 : decode cL_law 1164 = .ok (.iload 4, 2) := by decide +kernel
theorem dL_law_1166 : decode cL_law 1166 = .ok (.iconst 1, 1) := by decide +kernel
theorem dL_law_1167 : decode cL_law 1167 = .ok (.iadd, 1) := by decide +kernel
theorem dL_law_1168 : decode cL_law 1168 = .ok (.iaload, 1) := by decide +kernel
theorem dL_law_1169 : decode cL_law 1169 = .ok (.aload_n 3, 1) := by decide +kernel
theorem dL_law_1170 : decode cL_law 1170 = .ok (.invokestatic 129, 3) := by decide +kernel
theorem dL_law_1173 : decode cL_law 1173 = .ok (.istore 5, 2) := by decide +kernel
theorem dL_law_1175 : decode cL_law 1175 = .ok (.aload_n 2, 1) := by decide +kernel
theorem dL_law_1176 : decode cL_law 1176 = .ok (.aload_n 0, 1) := by decide +kernel
theorem dL_law_1177 : decode cL_law 1177 = .ok (.iload 4, 2) := by decide +kernel
theorem dL_law_1179 : decode cL_law 1179 = .ok (.iconst 1, 1) := by decide +kernel
theorem dL_law_1180 : decode cL_law 1180 = .ok (.iadd, 1) := by decide +kernel
theorem dL_law_1181 : decode cL_law 1181 = .ok (.iaload, 1) := by decide +kernel
theorem dL_law_1182 : decode cL_law 1182 = .ok (.invokevirtual 131, 3) := by decide +kernel
theorem dL_law_1185 : decode cL_law 1185 = .ok (.istore 6, 2) := by decide +kernel
theorem dL_law_1187 : decode cL_law 1187 = .ok (.aload_n 2, 1) := by decide +kernel
theorem dL_law_1188 : decode cL_law 1188 = .ok (.invokevirtual 83, 3) := by decide +kernel
theorem dL_law_1191 : decode cL_law 1191 = .ok (.iload 5, 2) := by decide +kernel
theorem dL_law_1193 : decode cL_law 1193 = .ok (.if_icmp .eq 5, 3) := by decide +kernel
theorem dL_law_1196 : decode cL_law 1196 = .ok (.iconst 0, 1) := by decide +kernel
theorem dL_law_1197 : decode cL_law 1197 = .ok (.ireturn, 1) := by decide +kernel
theorem dL_law_1198 : decode cL_law 1198 = .ok (.iload 5, 2) := by decide +kernel
theorem dL_law_1200 : decode cL_law 1200 = .ok (.ifCond .ne 15, 3) := by decide +kernel
theorem dL_law_1203 : decode cL_law 1203 = .ok (.aload_n 3, 1) := by decide +kernel
theorem dL_law_1204 : decode cL_law 1204 = .ok (.iconst 0, 1) := by decide +kernel
theorem dL_law_1205 : decode cL_law 1205 = .ok (.laload, 1) := by decide +kernel
theorem dL_law_1206 : decode cL_law 1206 = .ok (.iload 6, 2) := by decide +kernel
theorem dL_law_1208 : decode cL_law 1208 = .ok (.i2l, 1) := by decide +kernel
theorem dL_law_1209 : decode cL_law 1209 = .ok (.lcmp, 1) := by decide +kernel
theorem dL_law_1210 : decode cL_law 1210 = .ok (.ifCond .eq 5, 3) := by decide +kernel
theorem dL_law_1213 : decode cL_law 1213 = .ok (.iconst 0, 1) := by decide +kernel
theorem dL_law_1214 : decode cL_law 1214 = .ok (.ireturn, 1) := by decide +kernel
theorem dL_law_1215 : decode cL_law 1215 = .ok (.goto 262, 3) := by decide +kernel
theorem dL_law_1218 : decode cL_law 1218 = .ok (.aload_n 1, 1) := by decide +kernel
theorem dL_law_1219 : decode cL_law 1219 = .ok (.aload_n 0, 1) := by decide +kernel
theorem dL_law_1220 : decode cL_law 1220 = .ok (.iload 4, 2) := by decide +kernel
theorem dL_law_1222 : decode cL_law 1222 = .ok (.iconst 1, 1) := by decide +kernel
theorem dL_law_1223 : decode cL_law 1223 = .ok (.iadd, 1) := by decide +kernel
theorem dL_law_1224 : decode cL_law 1224 = .ok (.iaload, 1) := by decide +kernel
theorem dL_law_1225 : decode cL_law 1225 = .ok (.aload_n 0, 1) := by decide +kernel
theorem dL_law_1226 : decode cL_law 1226 = .ok (.iload 4, 2) := by decide +kernel
theorem dL_law_1228 : decode cL_law 1228 = .ok (.iconst 2, 1) := by decide +kernel
theorem dL_law_1229 : decode cL_law 1229 = .ok (.iadd, 1) := by decide +kernel
theorem dL_law_1230 : decode cL_law 1230 = .ok (.iaload, 1) := by decide +kernel
theorem dL_law_1231 : decode cL_law 1231 = .ok (.aload_n 0, 1) := by decide +kernel
theorem dL_law_1232 : decode cL_law 1232 = .ok (.iload 4, 2) := by decide +kernel
theorem dL_law_1234 : decode cL_law 1234 = .ok (.iconst 3, 1) := by decide +kernel
theorem dL_law_1235 : decode cL_law 1235 = .ok (.iadd, 1) := by decide +kernel
theorem dL_law_1236 : decode cL_law 1236 = .ok (.iaload, 1) := by decide +kernel
theorem dL_law_1237 : decode cL_law 1237 = .ok (.aload_n 3, 1) := by decide +kernel
theorem dL_law_1238 : decode cL_law 1238 = .ok (.invokestatic 132, 3) := by decide +kernel
theorem dL_law_1241 : decode cL_law 1241 = .ok (.istore 5, 2) := by decide +kernel
theorem dL_law_1243 : decode cL_law 1243 = .ok (.aload_n 2, 1) := by decide +kernel
theorem dL_law_1244 : decode cL_law 1244 = .ok (.aload_n 0, 1) := by decide +kernel
theorem dL_law_1245 : decode cL_law 1245 = .ok (.iload 4, 2) := by decide +kernel
theorem dL_law_1247 : decode cL_law 1247 = .ok (.iconst 1, 1) := by decide +kernel
theorem dL_law_1248 : decode cL_law 1248 = .ok (.iadd, 1) := by decide +kernel
theorem dL_law_1249 : decode cL_law 1249 = .ok (.iaload, 1) := by decide +kernel
theorem dL_law_1250 : decode cL_law 1250 = .ok (.aload_n 0, 1) := by decide +kernel
theorem dL_law_1251 : decode cL_law 1251 = .ok (.iload 4, 2) := by decide +kernel
theorem dL_law_1253 : decode cL_law 1253 = .ok (.iconst 2, 1) := by decide +kernel
theorem dL_law_1254 : decode cL_law 1254 = .ok (.iadd, 1) := by decide +kernel
theorem dL_law_1255 : decode cL_law 1255 = .ok (.iaload, 1) := by decide +kernel
theorem dL_law_1256 : decode cL_law 1256 = .ok (.aload_n 0, 1) := by decide +kernel
theorem dL_law_1257 : decode cL_law 1257 = .ok (.iload 4, 2) := by decide +kernel
theorem dL_law_1259 : decode cL_law 1259 = .ok (.iconst 3, 1) := by decide +kernel
theorem dL_law_1260 : decode cL_law 1260 = .ok (.iadd, 1) := by decide +kernel
theorem dL_law_1261 : decode cL_law 1261 = .ok (.iaload, 1) := by decide +kernel
theorem dL_law_1262 : decode cL_law 1262 = .ok (.invokevirtual 134, 3) := by decide +kernel
theorem dL_law_1265 : decode cL_law 1265 = .ok (.istore 6, 2) := by decide +kernel
theorem dL_law_1267 : decode cL_law 1267 = .ok (.aload_n 2, 1) := by decide +kernel
theorem dL_law_1268 : decode cL_law 1268 = .ok (.invokevirtual 83, 3) := by decide +kernel
theorem dL_law_1271 : decode cL_law 1271 = .ok (.iload 5, 2) := by decide +kernel
theorem dL_law_1273 : decode cL_law 1273 = .ok (.if_icmp .eq 5, 3) := by decide +kernel
theorem dL_law_1276 : decode cL_law 1276 = .ok (.iconst 0, 1) := by decide +kernel
theorem dL_law_1277 : decode cL_law 1277 = .ok (.ireturn, 1) := by decide +kernel
theorem dL_law_1278 : decode cL_law 1278 = .ok (.iload 5, 2) := by decide +kernel
theorem dL_law_1280 : decode cL_law 1280 = .ok (.ifCond .ne 15, 3) := by decide +kernel
theorem dL_law_1283 : decode cL_law 1283 = .ok (.aload_n 3, 1) := by decide +kernel
theorem dL_law_1284 : decode cL_law 1284 = .ok (.iconst 0, 1) := by decide +kernel
theorem dL_law_1285 : decode cL_law 1285 = .ok (.laload, 1) := by decide +kernel
theorem dL_law_1286 : decode cL_law 1286 = .ok (.iload 6, 2) := by decide +kernel
theorem dL_law_1288 : decode cL_law 1288 = .ok (.i2l, 1) := by decide +kernel
theorem dL_law_1289 : decode cL_law 1289 = .ok (.lcmp, 1) := by decide +kernel
theorem dL_law_1290 : decode cL_law 1290 = .ok (.ifCond .eq 5, 3) := by decide +kernel
theorem dL_law_1293 : decode cL_law 1293 = .ok (.iconst 0, 1) := by decide +kernel
theorem dL_law_1294 : decode cL_law 1294 = .ok (.ireturn, 1) := by decide +kernel
theorem dL_law_1295 : decode cL_law 1295 = .ok (.goto 182, 3) := by decide +kernel
theorem dL_law_1298 : decode cL_law 1298 = .ok (.aload_n 1, 1) := by decide +kernel
theorem dL_law_1299 : decode cL_law 1299 = .ok (.aload_n 0, 1) := by decide +kernel
theorem dL_law_1300 : decode cL_law 1300 = .ok (.iload 4, 2) := by decide +kernel
theorem dL_law_1302 : decode cL_law 1302 = .ok (.iconst 1, 1) := by decide +kernel
theorem dL_law_1303 : decode cL_law 1303 = .ok (.iadd, 1) := by decide +kernel
theorem dL_law_1304 : decode cL_law 1304 = .ok (.iaload, 1) := by decide +kernel
theorem dL_law_1305 : decode cL_law 1305 = .ok (.aload_n 0, 1) := by decide +kernel
theorem dL_law_1306 : decode cL_law 1306 = .ok (.iload 4, 2) := by decide +kernel
theorem dL_law_1308 : decode cL_law 1308 = .ok (.iconst 2, 1) := by decide +kernel
theorem dL_law_1309 : decode cL_law 1309 = .ok (.iadd, 1) := by decide +kernel
theorem dL_law_1310 : decode cL_law 1310 = .ok (.iaload, 1) := by decide +kernel
theorem dL_law_1311 : decode cL_law 1311 = .ok (.aload_n 3, 1) := by decide +kernel
theorem dL_law_1312 : decode cL_law 1312 = .ok (.invokestatic 135, 3) := by decide +kernel
theorem dL_law_1315 : decode cL_law 1315 = .ok (.istore 5, 2) := by decide +kernel
theorem dL_law_1317 : decode cL_law 1317 = .ok (.aload_n 2, 1) := by decide +kernel
theorem dL_law_1318 : decode cL_law 1318 = .ok (.aload_n 0, 1) := by decide +kernel
theorem dL_law_1319 : decode cL_law 1319 = .ok (.iload 4, 2) := by decide +kernel
theorem dL_law_1321 : decode cL_law 1321 = .ok (.iconst 1, 1) := by decide +kernel
theorem dL_law_1322 : decode cL_law 1322 = .ok (.iadd, 1) := by decide +kernel
theorem dL_law_1323 : decode cL_law 1323 = .ok (.iaload, 1) := by decide +kernel
theorem dL_law_1324 : decode cL_law 1324 = .ok (.aload_n 0, 1) := by decide +kernel
theorem dL_law_1325 : decode cL_law 1325 = .ok (.iload 4, 2) := by decide +kernel
theorem dL_law_1327 : decode cL_law 1327 = .ok (.iconst 2, 1) := by decide +kernel
theorem dL_law_1328 : decode cL_law 1328 = .ok (.iadd, 1) := by decide +kernel
theorem dL_law_1329 : decode cL_law 1329 = .ok (.iaload, 1) := by decide +kernel
theorem dL_law_1330 : decode cL_law 1330 = .ok (.invokevirtual 137, 3) := by decide +kernel
theorem dL_law_1333 : decode cL_law 1333 = .ok (.istore 6, 2) := by decide +kernel
theorem dL_law_1335 : decode cL_law 1335 = .ok (.aload_n 2, 1) := by decide +kernel
theorem dL_law_1336 : decode cL_law 1336 = .ok (.invokevirtual 83, 3) := by decide +kernel
theorem dL_law_1339 : decode cL_law 1339 = .ok (.iload 5, 2) := by decide +kernel
theorem dL_law_1341 : decode cL_law 1341 = .ok (.if_icmp .eq 5, 3) := by decide +kernel
theorem dL_law_1344 : decode cL_law 1344 = .ok (.iconst 0, 1) := by decide +kernel
theorem dL_law_1345 : decode cL_law 1345 = .ok (.ireturn, 1) := by decide +kernel
theorem dL_law_1346 : decode cL_law 1346 = .ok (.iload 5, 2) := by decide +kernel
theorem dL_law_1348 : decode cL_law 1348 = .ok (.ifCond .ne 15, 3) := by decide +kernel
theorem dL_law_1351 : decode cL_law 1351 = .ok (.aload_n 3, 1) := by decide +kernel
theorem dL_law_1352 : decode cL_law 1352 = .ok (.iconst 0, 1) := by decide +kernel
theorem dL_law_1353 : decode cL_law 1353 = .ok (.laload, 1) := by decide +kernel
theorem dL_law_1354 : decode cL_law 1354 = .ok (.iload 6, 2) := by decide +kernel
theorem dL_law_1356 : decode cL_law 1356 = .ok (.i2l, 1) := by decide +kernel
theorem dL_law_1357 : decode cL_law 1357 = .ok (.lcmp, 1) := by decide +kernel
theorem dL_law_1358 : decode cL_law 1358 = .ok (.ifCond .eq 5, 3) := by decide +kernel
theorem dL_law_1361 : decode cL_law 1361 = .ok (.iconst 0, 1) := by decide +kernel
theorem dL_law_1362 : decode cL_law 1362 = .ok (.ireturn, 1) := by decide +kernel
theorem dL_law_1363 : decode cL_law 1363 = .ok (.goto 114, 3) := by decide +kernel
theorem dL_law_1366 : decode cL_law 1366 = .ok (.aload_n 1, 1) := by decide +kernel
theorem dL_law_1367 : decode cL_law 1367 = .ok (.aload_n 0, 1) := by decide +kernel
theorem dL_law_1368 : decode cL_law 1368 = .ok (.iload 4, 2) := by decide +kernel
theorem dL_law_1370 : decode cL_law 1370 = .ok (.iconst 1, 1) := by decide +kernel
theorem dL_law_1371 : decode cL_law 1371 = .ok (.iadd, 1) := by decide +kernel
theorem dL_law_1372 : decode cL_law 1372 = .ok (.iaload, 1) := by decide +kernel
theorem dL_law_1373 : decode cL_law 1373 = .ok (.aload_n 3, 1) := by decide +kernel
theorem dL_law_1374 : decode cL_law 1374 = .ok (.invokestatic 138, 3) := by decide +kernel
theorem dL_law_1377 : decode cL_law 1377 = .ok (.istore 5, 2) := by decide +kernel
theorem dL_law_1379 : decode cL_law 1379 = .ok (.aload_n 2, 1) := by decide +kernel
theorem dL_law_1380 : decode cL_law 1380 = .ok (.aload_n 0, 1) := by decide +kernel
theorem dL_law_1381 : decode cL_law 1381 = .ok (.iload 4, 2) := by decide +kernel
theorem dL_law_1383 : decode cL_law 1383 = .ok (.iconst 1, 1) := by decide +kernel
theorem dL_law_1384 : decode cL_law 1384 = .ok (.iadd, 1) := by decide +kernel
theorem dL_law_1385 : decode cL_law 1385 = .ok (.iaload, 1) := by decide +kernel
theorem dL_law_1386 : decode cL_law 1386 = .ok (.invokevirtual 140, 3) := by decide +kernel
theorem dL_law_1389 : decode cL_law 1389 = .ok (.istore 6, 2) := by decide +kernel
theorem dL_law_1391 : decode cL_law 1391 = .ok (.aload_n 2, 1) := by decide +kernel
theorem dL_law_1392 : decode cL_law 1392 = .ok (.invokevirtual 83, 3) := by decide +kernel
theorem dL_law_1395 : decode cL_law 1395 = .ok (.iload 5, 2) := by decide +kernel
theorem dL_law_1397 : decode cL_law 1397 = .ok (.if_icmp .eq 5, 3) := by decide +kernel
theorem dL_law_1400 : decode cL_law 1400 = .ok (.iconst 0, 1) := by decide +kernel
theorem dL_law_1401 : decode cL_law 1401 = .ok (.ireturn, 1) := by decide +kernel
theorem dL_law_1402 : decode cL_law 1402 = .ok (.iload 5, 2) := by decide +kernel
theorem dL_law_1404 : decode cL_law 1404 = .ok (.ifCond .ne 15, 3) := by decide +kernel
theorem dL_law_1407 : decode cL_law 1407 = .ok (.aload_n 3, 1) := by decide +kernel
theorem dL_law_1408 : decode cL_law 1408 = .ok (.iconst 0, 1) := by decide +kernel
theorem dL_law_1409 : decode cL_law 1409 = .ok (.laload, 1) := by decide +kernel
theorem dL_law_1410 : decode cL_law 1410 = .ok (.iload 6, 2) := by decide +kernel
theorem dL_law_1412 : decode cL_law 1412 = .ok (.i2l, 1) := by decide +kernel
theorem dL_law_1413 : decode cL_law 1413 = .ok (.lcmp, 1) := by decide +kernel
theorem dL_law_1414 : decode cL_law 1414 = .ok (.ifCond .eq 5, 3) := by decide +kernel
theorem dL_law_1417 : decode cL_law 1417 = .ok (.iconst 0, 1) := by decide +kernel
theorem dL_law_1418 : decode cL_law 1418 = .ok (.ireturn, 1) := by decide +kernel
theorem dL_law_1419 : decode cL_law 1419 = .ok (.goto 58, 3) := by decide +kernel
theorem dL_law_1422 : decode cL_law 1422 = .ok (.aload_n 1, 1) := by decide +kernel
theorem dL_law_1423 : decode cL_law 1423 = .ok (.invokevirtual 141, 3) := by decide +kernel
theorem dL_law_1426 : decode cL_law 1426 = .ok (.dstore 5, 2) := by decide +kernel
theorem dL_law_1428 : decode cL_law 1428 = .ok (.aload_n 2, 1) := by decide +kernel
theorem dL_law_1429 : decode cL_law 1429 = .ok (.invokevirtual 145, 3) := by decide +kernel
theorem dL_law_1432 : decode cL_law 1432 = .ok (.dstore 7, 2) := by decide +kernel
theorem dL_law_1434 : decode cL_law 1434 = .ok (.dload 5, 2) := by decide +kernel
theorem dL_law_1436 : decode cL_law 1436 = .ok (.dload 7, 2) := by decide +kernel
theorem dL_law_1438 : decode cL_law 1438 = .ok (.dcmp .l, 1) := by decide +kernel
theorem dL_law_1439 : decode cL_law 1439 = .ok (.ifCond .eq 21, 3) := by decide +kernel
theorem dL_law_1442 : decode cL_law 1442 = .ok (.dload 5, 2) := by decide +kernel
theorem dL_law_1444 : decode cL_law 1444 = .ok (.dload 5, 2) := by decide +kernel
theorem dL_law_1446 : decode cL_law 1446 = .ok (.dcmp .l, 1) := by decide +kernel
theorem dL_law_1447 : decode cL_law 1447 = .ok (.ifCond .eq 11, 3) := by decide +kernel
theorem dL_law_1450 : decode cL_law 1450 = .ok (.dload 7, 2) := by decide +kernel
theorem dL_law_1452 : decode cL_law 1452 = .ok (.dload 7, 2) := by decide +kernel
theorem dL_law_1454 : decode cL_law 1454 = .ok (.dcmp .l, 1) := by decide +kernel
theorem dL_law_1455 : decode cL_law 1455 = .ok (.ifCond .ne 5, 3) := by decide +kernel
theorem dL_law_1458 : decode cL_law 1458 = .ok (.iconst 0, 1) := by decide +kernel
theorem dL_law_1459 : decode cL_law 1459 = .ok (.ireturn, 1) := by decide +kernel
theorem dL_law_1460 : decode cL_law 1460 = .ok (.goto 17, 3) := by decide +kernel
theorem dL_law_1463 : decode cL_law 1463 = .ok (.aload_n 1, 1) := by decide +kernel
theorem dL_law_1464 : decode cL_law 1464 = .ok (.invokevirtual 146, 3) := by decide +kernel
theorem dL_law_1467 : decode cL_law 1467 = .ok (.aload_n 2, 1) := by decide +kernel
theorem dL_law_1468 : decode cL_law 1468 = .ok (.invokevirtual 150, 3) := by decide +kernel
theorem dL_law_1471 : decode cL_law 1471 = .ok (.lcmp, 1) := by decide +kernel
theorem dL_law_1472 : decode cL_law 1472 = .ok (.ifCond .eq 5, 3) := by decide +kernel
theorem dL_law_1475 : decode cL_law 1475 = .ok (.iconst 0, 1) := by decide +kernel
theorem dL_law_1476 : decode cL_law 1476 = .ok (.ireturn, 1) := by decide +kernel
theorem dL_law_1477 : decode cL_law 1477 = .ok (.iinc 4 7, 3) := by decide +kernel
theorem dL_law_1480 : decode cL_law 1480 = .ok (.goto (-1457), 3) := by decide +kernel
theorem dL_law_1483 : decode cL_law 1483 = .ok (.iconst 1, 1) := by decide +kernel
theorem dL_law_1484 : decode cL_law 1484 = .ok (.ireturn, 1) := by decide +kernel
end
section
/-- the words of the tables that stay good everywhere -/
def GW : List Cond := lw_tbl.filter goodWord
theorem gw {w : Cond} (i : Nat) (h : lw_tbl[i]? = some w) (hg : goodWord w = true) : w ∈ GW := List.mem_filter.mpr ⟨List.mem_of_getElem? h, hg⟩
theorem gw_good {w : Cond} (h : w ∈ GW) : (w.onTables && w.keeps) = true ∨ ∃ ty, w = .arrayClass ty := good_of_word (List.mem_filter.mp h).2
theorem gw_in {ws : List Cond} (h : ∀ w ∈ ws, w ∈ GW) : GoodIn GW ws := fun w hw => ⟨h w hw, gw_good (h w hw)⟩
theorem gw_sub (ws : List Cond) (ps : List Nat) (hp : ws = ps.filterMap (fun i => lw_tbl[i]?)) (h : ws.all goodWord = true) : ∀ w ∈ ws, w ∈ GW := by
  intro w hw
  have h1 := List.all_eq_true.mp h w hw
  rw [hp] at hw
  obtain ⟨i, -, hi⟩ := List.mem_filterMap.mp hw
  exact gw i hi h1
theorem se_X0_lengthenAll : Cond.selects RX0 yX0_lengthenAll yX0_lengthenAll ∈ GW := gw 0 (by decide +kernel) (by decide +kernel)
theorem se_X0_lengthen : Cond.selects RX0 yX0_lengthen yX0_lengthen ∈ GW := gw 1 (by decide +kernel) (by decide +kernel)
theorem se_X0_findFirst : Cond.selects RX0 yX0_findFirst yX0_findFirst ∈ GW := gw 2 (by decide +kernel) (by decide +kernel)
theorem se_X0_begins : Cond.selects RX0 yX0_begins yX0_begins ∈ GW := gw 3 (by decide +kernel) (by decide +kernel)
theorem se_X8_digestOfCounts : Cond.selects RX8 yX8_digestOfCounts yX8_digestOfCounts ∈ GW := gw 4 (by decide +kernel) (by decide +kernel)
theorem se_X8_tellCount : Cond.selects RX8 yX8_tellCount yX8_tellCount ∈ GW := gw 5 (by decide +kernel) (by decide +kernel)
theorem se_X8_digestOfPlain : Cond.selects RX8 yX8_digestOfPlain yX8_digestOfPlain ∈ GW := gw 6 (by decide +kernel) (by decide +kernel)
theorem se_X8_tellLanding : Cond.selects RX8 yX8_tellLanding yX8_tellLanding ∈ GW := gw 7 (by decide +kernel) (by decide +kernel)
theorem se_X8_tellPunt : Cond.selects RX8 yX8_tellPunt yX8_tellPunt ∈ GW := gw 8 (by decide +kernel) (by decide +kernel)
theorem se_X1_draw : Cond.selects RX1 yX1_draw yX1_draw ∈ GW := gw 9 (by decide +kernel) (by decide +kernel)
theorem se_X8_tellTraveller : Cond.selects RX8 yX8_tellTraveller yX8_tellTraveller ∈ GW := gw 10 (by decide +kernel) (by decide +kernel)
theorem se_X6_hasLanded : Cond.selects RX6 yX6_hasLanded yX6_hasLanded ∈ GW := gw 12 (by decide +kernel) (by decide +kernel)
theorem se_X6_turnRound : Cond.selects RX6 yX6_turnRound yX6_turnRound ∈ GW := gw 13 (by decide +kernel) (by decide +kernel)
theorem se_X6_load : Cond.selects RX6 yX6_load yX6_load ∈ GW := gw 14 (by decide +kernel) (by decide +kernel)
theorem se_X6_takes : Cond.selects RX6 yX6_takes yX6_takes ∈ GW := gw 15 (by decide +kernel) (by decide +kernel)
theorem se_X6_stepOn : Cond.selects RX6 yX6_stepOn yX6_stepOn ∈ GW := gw 16 (by decide +kernel) (by decide +kernel)
theorem se_X8_crossingAt : Cond.selects RX8 yX8_crossingAt yX8_crossingAt ∈ GW := gw 17 (by decide +kernel) (by decide +kernel)
theorem se_X0_cheapestFrom : Cond.selects RX0 yX0_cheapestFrom yX0_cheapestFrom ∈ GW := gw 18 (by decide +kernel) (by decide +kernel)
theorem se_X9_fail : Cond.selects RX9 yX9_fail yX9_fail ∈ GW := gw 19 (by decide +kernel) (by decide +kernel)
theorem se_X9_cellTold : Cond.selects RX9 yX9_cellTold yX9_cellTold ∈ GW := gw 20 (by decide +kernel) (by decide +kernel)
theorem se_X9_go : Cond.selects RX9 yX9_go yX9_go ∈ GW := gw 21 (by decide +kernel) (by decide +kernel)
theorem se_X9_level : Cond.selects RX9 yX9_level yX9_level ∈ GW := gw 22 (by decide +kernel) (by decide +kernel)
theorem se_X9_depth : Cond.selects RX9 yX9_depth yX9_depth ∈ GW := gw 23 (by decide +kernel) (by decide +kernel)
theorem se_X9_landingAt : Cond.selects RX9 yX9_landingAt yX9_landingAt ∈ GW := gw 24 (by decide +kernel) (by decide +kernel)
theorem se_X9_isLanding : Cond.selects RX9 yX9_isLanding yX9_isLanding ∈ GW := gw 25 (by decide +kernel) (by decide +kernel)
theorem se_X9_setGo : Cond.selects RX9 yX9_setGo yX9_setGo ∈ GW := gw 26 (by decide +kernel) (by decide +kernel)
theorem se_X9_isPunt : Cond.selects RX9 yX9_isPunt yX9_isPunt ∈ GW := gw 27 (by decide +kernel) (by decide +kernel)
theorem se_X9_pu : Cond.selects RX9 yX9_pu yX9_pu ∈ GW := gw 28 (by decide +kernel) (by decide +kernel)
theorem se_X9_puntTold : Cond.selects RX9 yX9_puntTold yX9_puntTold ∈ GW := gw 29 (by decide +kernel) (by decide +kernel)
theorem se_X9_ridersOf : Cond.selects RX9 yX9_ridersOf yX9_ridersOf ∈ GW := gw 30 (by decide +kernel) (by decide +kernel)
theorem se_X9_who : Cond.selects RX9 yX9_who yX9_who ∈ GW := gw 31 (by decide +kernel) (by decide +kernel)
theorem se_X9_isAground : Cond.selects RX9 yX9_isAground yX9_isAground ∈ GW := gw 32 (by decide +kernel) (by decide +kernel)
theorem se_X9_floats : Cond.selects RX9 yX9_floats yX9_floats ∈ GW := gw 33 (by decide +kernel) (by decide +kernel)
theorem se_X9_boundCell : Cond.selects RX9 yX9_boundCell yX9_boundCell ∈ GW := gw 34 (by decide +kernel) (by decide +kernel)
theorem se_X9_look : Cond.selects RX9 yX9_look yX9_look ∈ GW := gw 35 (by decide +kernel) (by decide +kernel)
theorem se_X9_travellerTold : Cond.selects RX9 yX9_travellerTold yX9_travellerTold ∈ GW := gw 36 (by decide +kernel) (by decide +kernel)
theorem se_X9_hasCome : Cond.selects RX9 yX9_hasCome yX9_hasCome ∈ GW := gw 37 (by decide +kernel) (by decide +kernel)
theorem se_X9_chainFrom : Cond.selects RX9 yX9_chainFrom yX9_chainFrom ∈ GW := gw 38 (by decide +kernel) (by decide +kernel)
theorem se_X9_link : Cond.selects RX9 yX9_link yX9_link ∈ GW := gw 39 (by decide +kernel) (by decide +kernel)
theorem se_X9_across : Cond.selects RX9 yX9_across yX9_across ∈ GW := gw 40 (by decide +kernel) (by decide +kernel)
theorem se_X9_landingTold : Cond.selects RX9 yX9_landingTold yX9_landingTold ∈ GW := gw 41 (by decide +kernel) (by decide +kernel)
theorem se_X9_hourOn : Cond.selects RX9 yX9_hourOn yX9_hourOn ∈ GW := gw 42 (by decide +kernel) (by decide +kernel)
theorem se_X9_land : Cond.selects RX9 yX9_land yX9_land ∈ GW := gw 43 (by decide +kernel) (by decide +kernel)
theorem se_X9_setWho : Cond.selects RX9 yX9_setWho yX9_setWho ∈ GW := gw 44 (by decide +kernel) (by decide +kernel)
theorem se_X9_takes : Cond.selects RX9 yX9_takes yX9_takes ∈ GW := gw 45 (by decide +kernel) (by decide +kernel)
theorem se_X9_step : Cond.selects RX9 yX9_step yX9_step ∈ GW := gw 46 (by decide +kernel) (by decide +kernel)
theorem se_X9_counted : Cond.selects RX9 yX9_counted yX9_counted ∈ GW := gw 47 (by decide +kernel) (by decide +kernel)
theorem se_X9_crossingAt : Cond.selects RX9 yX9_crossingAt yX9_crossingAt ∈ GW := gw 48 (by decide +kernel) (by decide +kernel)
theorem se_X9_kept : Cond.selects RX9 yX9_kept yX9_kept ∈ GW := gw 49 (by decide +kernel) (by decide +kernel)
theorem se_X9_bringBack : Cond.selects RX9 yX9_bringBack yX9_bringBack ∈ GW := gw 50 (by decide +kernel) (by decide +kernel)
theorem in_L : Cond.initialized RL ∈ GW := gw 51 (by decide +kernel) (by decide +kernel)
theorem in_X8 : Cond.initialized RX8 ∈ GW := gw 52 (by decide +kernel) (by decide +kernel)
theorem in_X4 : Cond.initialized RX4 ∈ GW := gw 53 (by decide +kernel) (by decide +kernel)
theorem in_X5 : Cond.initialized RX5 ∈ GW := gw 54 (by decide +kernel) (by decide +kernel)
theorem in_J7 : Cond.initialized RJ7 ∈ GW := gw 55 (by decide +kernel) (by decide +kernel)
theorem in_X3 : Cond.initialized RX3 ∈ GW := gw 56 (by decide +kernel) (by decide +kernel)
theorem in_X2 : Cond.initialized RX2 ∈ GW := gw 57 (by decide +kernel) (by decide +kernel)
theorem in_X0 : Cond.initialized RX0 ∈ GW := gw 58 (by decide +kernel) (by decide +kernel)
theorem in_X1 : Cond.initialized RX1 ∈ GW := gw 59 (by decide +kernel) (by decide +kernel)
theorem in_X6 : Cond.initialized RX6 ∈ GW := gw 60 (by decide +kernel) (by decide +kernel)
theorem in_X7 : Cond.initialized RX7 ∈ GW := gw 61 (by decide +kernel) (by decide +kernel)
theorem in_X9 : Cond.initialized RX9 ∈ GW := gw 62 (by decide +kernel) (by decide +kernel)
theorem in_J9 : Cond.initialized RJ9 ∈ GW := gw 68 (by decide +kernel) (by decide +kernel)
theorem in_J10 : Cond.initialized RJ10 ∈ GW := gw 70 (by decide +kernel) (by decide +kernel)
theorem cl_L_8 : Cond.classLink RL 8 RX8 ∈ GW := gw 71 (by decide +kernel) (by decide +kernel)
theorem it_X8 : Cond.instantiable RX8 7 ∈ GW := gw 72 (by decide +kernel) (by decide +kernel)
theorem ml_L_73 : Cond.methodLink RL 73 yX8_init ∈ GW := gw 73 (by decide +kernel) (by decide +kernel)
theorem im_X8_init : Cond.instanceMethod yX8_init ∈ GW := gw 74 (by decide +kernel) (by decide +kernel)
theorem co_X8_init : Cond.code yX8_init cX8_init 1 none ∈ GW := gw 75 (by decide +kernel) (by decide +kernel)
theorem ml_X8_3 : Cond.methodLink RX8 3 objectInit ∈ GW := gw 76 (by decide +kernel) (by decide +kernel)
theorem im_obj : Cond.instanceMethod objectInit ∈ GW := gw 77 (by decide +kernel) (by decide +kernel)
theorem co_obj : Cond.code objectInit ⟨#[0xb1]⟩ 1 none ∈ GW := gw 78 (by decide +kernel) (by decide +kernel)
theorem cl_X8_9 : Cond.classLink RX8 9 RX4 ∈ GW := gw 79 (by decide +kernel) (by decide +kernel)
theorem it_X4 : Cond.instantiable RX4 3 ∈ GW := gw 80 (by decide +kernel) (by decide +kernel)
theorem ml_X8_11 : Cond.methodLink RX8 11 yX4_init ∈ GW := gw 81 (by decide +kernel) (by decide +kernel)
theorem im_X4_init : Cond.instanceMethod yX4_init ∈ GW := gw 82 (by decide +kernel) (by decide +kernel)
theorem co_X4_init : Cond.code yX4_init cX4_init 1 none ∈ GW := gw 83 (by decide +kernel) (by decide +kernel)
theorem ml_X4_3 : Cond.methodLink RX4 3 objectInit ∈ GW := gw 84 (by decide +kernel) (by decide +kernel)
theorem cl_X4_9 : Cond.classLink RX4 9 RX5 ∈ GW := gw 85 (by decide +kernel) (by decide +kernel)
theorem it_X5 : Cond.instantiable RX5 1 ∈ GW := gw 86 (by decide +kernel) (by decide +kernel)
theorem ml_X4_11 : Cond.methodLink RX4 11 yX5_init ∈ GW := gw 87 (by decide +kernel) (by decide +kernel)
theorem im_X5_init : Cond.instanceMethod yX5_init ∈ GW := gw 88 (by decide +kernel) (by decide +kernel)
theorem co_X5_init : Cond.code yX5_init cX5_init 2 none ∈ GW := gw 89 (by decide +kernel) (by decide +kernel)
theorem ml_X5_1 : Cond.methodLink RX5 1 objectInit ∈ GW := gw 90 (by decide +kernel) (by decide +kernel)
theorem fl_X5_7 : Cond.fieldLink RX5 7 "FloodFerry$Row" "numbers" "[I" ∈ GW := gw 91 (by decide +kernel) (by decide +kernel)
theorem ac_int : Cond.arrayClass .int ∈ GW := gw 95 (by decide +kernel) (by decide +kernel)
theorem ml_X4_26 : Cond.methodLink RX4 26 yX5_fill ∈ GW := gw 96 (by decide +kernel) (by decide +kernel)
theorem im_X5_fill : Cond.instanceMethod yX5_fill ∈ GW := gw 97 (by decide +kernel) (by decide +kernel)
theorem se_X5_fill : Cond.selects RX5 yX5_fill yX5_fill ∈ GW := gw 98 (by decide +kernel) (by decide +kernel)
theorem co_X5_fill : Cond.code yX5_fill cX5_fill 2 none ∈ GW := gw 99 (by decide +kernel) (by decide +kernel)
theorem ml_X5_21 : Cond.methodLink RX5 21 yJ7_fill_53178 ∈ GW := gw 100 (by decide +kernel) (by decide +kernel)
theorem sm_J7_fill_53178 : Cond.static yJ7_fill_53178 ∈ GW := gw 101 (by decide +kernel) (by decide +kernel)
theorem co_J7_fill_53178 : Cond.code yJ7_fill_53178 cJ7_fill_53178 4 none ∈ GW := gw 102 (by decide +kernel) (by decide +kernel)
theorem fl_X4_14 : Cond.fieldLink RX4 14 "FloodFerry$Plain" "ground" "LFloodFerry$Row;" ∈ GW := gw 103 (by decide +kernel) (by decide +kernel)
theorem fl_X8_75 : Cond.fieldLink RX8 75 "FloodFerry$Plain" "ground" "LFloodFerry$Row;" ∈ GW := gw 104 (by decide +kernel) (by decide +kernel)
theorem fl_X4_20 : Cond.fieldLink RX4 20 "FloodFerry$Plain" "stake" "LFloodFerry$Row;" ∈ GW := gw 105 (by decide +kernel) (by decide +kernel)
theorem fl_X8_97 : Cond.fieldLink RX8 97 "FloodFerry$Plain" "stake" "LFloodFerry$Row;" ∈ GW := gw 106 (by decide +kernel) (by decide +kernel)
theorem fl_X4_23 : Cond.fieldLink RX4 23 "FloodFerry$Plain" "water" "LFloodFerry$Row;" ∈ GW := gw 107 (by decide +kernel) (by decide +kernel)
theorem fl_X8_94 : Cond.fieldLink RX8 94 "FloodFerry$Plain" "water" "LFloodFerry$Row;" ∈ GW := gw 108 (by decide +kernel) (by decide +kernel)
theorem cl_X8_16 : Cond.classLink RX8 16 RX3 ∈ GW := gw 116 (by decide +kernel) (by decide +kernel)
theorem it_X3 : Cond.instantiable RX3 2 ∈ GW := gw 117 (by decide +kernel) (by decide +kernel)
theorem im_X3_init : Cond.instanceMethod yX3_init ∈ GW := gw 119 (by decide +kernel) (by decide +kernel)
theorem co_X3_init : Cond.code yX3_init cX3_init 1 none ∈ GW := gw 120 (by decide +kernel) (by decide +kernel)
theorem ml_X3_3 : Cond.methodLink RX3 3 objectInit ∈ GW := gw 121 (by decide +kernel) (by decide +kernel)
theorem cl_X3_9 : Cond.classLink RX3 9 RX5 ∈ GW := gw 122 (by decide +kernel) (by decide +kernel)
theorem ml_X3_11 : Cond.methodLink RX3 11 yX5_init ∈ GW := gw 123 (by decide +kernel) (by decide +kernel)
theorem fl_X3_20 : Cond.fieldLink RX3 20 "FloodFerry$Landings" "number" "I" ∈ GW := gw 124 (by decide +kernel) (by decide +kernel)
theorem fl_X8_127 : Cond.fieldLink RX8 127 "FloodFerry$Landings" "number" "I" ∈ GW := gw 125 (by decide +kernel) (by decide +kernel)
theorem fl_X3_14 : Cond.fieldLink RX3 14 "FloodFerry$Landings" "cell" "LFloodFerry$Row;" ∈ GW := gw 126 (by decide +kernel) (by decide +kernel)
theorem fl_X1_55 : Cond.fieldLink RX1 55 "FloodFerry$Landings" "cell" "LFloodFerry$Row;" ∈ GW := gw 127 (by decide +kernel) (by decide +kernel)
theorem fl_X8_140 : Cond.fieldLink RX8 140 "FloodFerry$Landings" "cell" "LFloodFerry$Row;" ∈ GW := gw 128 (by decide +kernel) (by decide +kernel)
theorem fl_X6_136 : Cond.fieldLink RX6 136 "FloodFerry$Landings" "cell" "LFloodFerry$Row;" ∈ GW := gw 129 (by decide +kernel) (by decide +kernel)
theorem cl_X8_23 : Cond.classLink RX8 23 RX2 ∈ GW := gw 135 (by decide +kernel) (by decide +kernel)
theorem it_X2 : Cond.instantiable RX2 7 ∈ GW := gw 136 (by decide +kernel) (by decide +kernel)
theorem im_X2_init : Cond.instanceMethod yX2_init ∈ GW := gw 138 (by decide +kernel) (by decide +kernel)
theorem co_X2_init : Cond.code yX2_init cX2_init 1 none ∈ GW := gw 139 (by decide +kernel) (by decide +kernel)
theorem ml_X2_3 : Cond.methodLink RX2 3 objectInit ∈ GW := gw 140 (by decide +kernel) (by decide +kernel)
theorem cl_X2_9 : Cond.classLink RX2 9 RX5 ∈ GW := gw 141 (by decide +kernel) (by decide +kernel)
theorem ml_X2_11 : Cond.methodLink RX2 11 yX5_init ∈ GW := gw 142 (by decide +kernel) (by decide +kernel)
theorem fl_X2_35 : Cond.fieldLink RX2 35 "FloodFerry$Fleet" "number" "I" ∈ GW := gw 143 (by decide +kernel) (by decide +kernel)
theorem fl_X0_51 : Cond.fieldLink RX0 51 "FloodFerry$Fleet" "number" "I" ∈ GW := gw 144 (by decide +kernel) (by decide +kernel)
theorem fl_X8_120 : Cond.fieldLink RX8 120 "FloodFerry$Fleet" "number" "I" ∈ GW := gw 145 (by decide +kernel) (by decide +kernel)
theorem fl_X6_103 : Cond.fieldLink RX6 103 "FloodFerry$Fleet" "number" "I" ∈ GW := gw 146 (by decide +kernel) (by decide +kernel)
theorem fl_X2_14 : Cond.fieldLink RX2 14 "FloodFerry$Fleet" "home" "LFloodFerry$Row;" ∈ GW := gw 147 (by decide +kernel) (by decide +kernel)
theorem fl_X1_42 : Cond.fieldLink RX1 42 "FloodFerry$Fleet" "home" "LFloodFerry$Row;" ∈ GW := gw 148 (by decide +kernel) (by decide +kernel)
theorem fl_X0_57 : Cond.fieldLink RX0 57 "FloodFerry$Fleet" "home" "LFloodFerry$Row;" ∈ GW := gw 149 (by decide +kernel) (by decide +kernel)
theorem fl_X8_258 : Cond.fieldLink RX8 258 "FloodFerry$Fleet" "home" "LFloodFerry$Row;" ∈ GW := gw 150 (by decide +kernel) (by decide +kernel)
theorem fl_X2_20 : Cond.fieldLink RX2 20 "FloodFerry$Fleet" "goal" "LFloodFerry$Row;" ∈ GW := gw 151 (by decide +kernel) (by decide +kernel)
theorem fl_X0_60 : Cond.fieldLink RX0 60 "FloodFerry$Fleet" "goal" "LFloodFerry$Row;" ∈ GW := gw 152 (by decide +kernel) (by decide +kernel)
theorem fl_X8_252 : Cond.fieldLink RX8 252 "FloodFerry$Fleet" "goal" "LFloodFerry$Row;" ∈ GW := gw 153 (by decide +kernel) (by decide +kernel)
theorem fl_X2_23 : Cond.fieldLink RX2 23 "FloodFerry$Fleet" "draught" "LFloodFerry$Row;" ∈ GW := gw 154 (by decide +kernel) (by decide +kernel)
theorem fl_X2_26 : Cond.fieldLink RX2 26 "FloodFerry$Fleet" "pole" "LFloodFerry$Row;" ∈ GW := gw 155 (by decide +kernel) (by decide +kernel)
theorem fl_X2_29 : Cond.fieldLink RX2 29 "FloodFerry$Fleet" "room" "LFloodFerry$Row;" ∈ GW := gw 156 (by decide +kernel) (by decide +kernel)
theorem fl_X6_151 : Cond.fieldLink RX6 151 "FloodFerry$Fleet" "room" "LFloodFerry$Row;" ∈ GW := gw 157 (by decide +kernel) (by decide +kernel)
theorem fl_X2_32 : Cond.fieldLink RX2 32 "FloodFerry$Fleet" "toll" "LFloodFerry$Row;" ∈ GW := gw 158 (by decide +kernel) (by decide +kernel)
theorem fl_X8_148 : Cond.fieldLink RX8 148 "FloodFerry$Fleet" "toll" "LFloodFerry$Row;" ∈ GW := gw 159 (by decide +kernel) (by decide +kernel)
theorem fl_X0_84 : Cond.fieldLink RX0 84 "FloodFerry$Fleet" "toll" "LFloodFerry$Row;" ∈ GW := gw 160 (by decide +kernel) (by decide +kernel)
theorem fl_X6_148 : Cond.fieldLink RX6 148 "FloodFerry$Fleet" "toll" "LFloodFerry$Row;" ∈ GW := gw 161 (by decide +kernel) (by decide +kernel)
theorem cl_X8_30 : Cond.classLink RX8 30 RX0 ∈ GW := gw 177 (by decide +kernel) (by decide +kernel)
theorem it_X0 : Cond.instantiable RX0 4 ∈ GW := gw 178 (by decide +kernel) (by decide +kernel)
theorem ml_X8_32 : Cond.methodLink RX8 32 yX0_init ∈ GW := gw 179 (by decide +kernel) (by decide +kernel)
theorem im_X0_init : Cond.instanceMethod yX0_init ∈ GW := gw 180 (by decide +kernel) (by decide +kernel)
theorem co_X0_init : Cond.code yX0_init cX0_init 2 none ∈ GW := gw 181 (by decide +kernel) (by decide +kernel)
theorem ml_X0_3 : Cond.methodLink RX0 3 objectInit ∈ GW := gw 182 (by decide +kernel) (by decide +kernel)
theorem cl_X0_9 : Cond.classLink RX0 9 RX5 ∈ GW := gw 183 (by decide +kernel) (by decide +kernel)
theorem ml_X0_11 : Cond.methodLink RX0 11 yX5_init ∈ GW := gw 184 (by decide +kernel) (by decide +kernel)
theorem ml_X0_30 : Cond.methodLink RX0 30 yX0_reckon ∈ GW := gw 185 (by decide +kernel) (by decide +kernel)
theorem im_X0_reckon : Cond.instanceMethod yX0_reckon ∈ GW := gw 186 (by decide +kernel) (by decide +kernel)
theorem se_X0_reckon : Cond.selects RX0 yX0_reckon yX0_reckon ∈ GW := gw 187 (by decide +kernel) (by decide +kernel)
theorem co_X0_reckon : Cond.code yX0_reckon cX0_reckon 3 none ∈ GW := gw 188 (by decide +kernel) (by decide +kernel)
theorem ml_X0_37 : Cond.methodLink RX0 37 yX5_fill ∈ GW := gw 189 (by decide +kernel) (by decide +kernel)
theorem ml_X0_40 : Cond.methodLink RX0 40 yX5_set ∈ GW := gw 190 (by decide +kernel) (by decide +kernel)
theorem im_X5_set : Cond.instanceMethod yX5_set ∈ GW := gw 191 (by decide +kernel) (by decide +kernel)
theorem se_X5_set : Cond.selects RX5 yX5_set yX5_set ∈ GW := gw 192 (by decide +kernel) (by decide +kernel)
theorem co_X5_set : Cond.code yX5_set cX5_set 3 none ∈ GW := gw 193 (by decide +kernel) (by decide +kernel)
theorem ml_X0_44 : Cond.methodLink RX0 44 yX0_lengthenAll ∈ GW := gw 194 (by decide +kernel) (by decide +kernel)
theorem im_X0_lengthenAll : Cond.instanceMethod yX0_lengthenAll ∈ GW := gw 196 (by decide +kernel) (by decide +kernel)
theorem co_X0_lengthenAll : Cond.code yX0_lengthenAll cX0_lengthenAll 4 none ∈ GW := gw 197 (by decide +kernel) (by decide +kernel)
theorem ml_X0_33 : Cond.methodLink RX0 33 yX5_get ∈ GW := gw 198 (by decide +kernel) (by decide +kernel)
theorem im_X5_get : Cond.instanceMethod yX5_get ∈ GW := gw 199 (by decide +kernel) (by decide +kernel)
theorem se_X5_get : Cond.selects RX5 yX5_get yX5_get ∈ GW := gw 200 (by decide +kernel) (by decide +kernel)
theorem co_X5_get : Cond.code yX5_get cX5_get 2 (some .int) ∈ GW := gw 201 (by decide +kernel) (by decide +kernel)
theorem ml_X0_63 : Cond.methodLink RX0 63 yX0_lengthen ∈ GW := gw 202 (by decide +kernel) (by decide +kernel)
theorem im_X0_lengthen : Cond.instanceMethod yX0_lengthen ∈ GW := gw 204 (by decide +kernel) (by decide +kernel)
theorem co_X0_lengthen : Cond.code yX0_lengthen cX0_lengthen 5 none ∈ GW := gw 205 (by decide +kernel) (by decide +kernel)
theorem ml_X0_67 : Cond.methodLink RX0 67 yX0_length ∈ GW := gw 206 (by decide +kernel) (by decide +kernel)
theorem im_X0_length : Cond.instanceMethod yX0_length ∈ GW := gw 207 (by decide +kernel) (by decide +kernel)
theorem se_X0_length : Cond.selects RX0 yX0_length yX0_length ∈ GW := gw 208 (by decide +kernel) (by decide +kernel)
theorem co_X0_length : Cond.code yX0_length cX0_length 3 (some .int) ∈ GW := gw 209 (by decide +kernel) (by decide +kernel)
theorem ml_X0_47 : Cond.methodLink RX0 47 yX0_findFirst ∈ GW := gw 210 (by decide +kernel) (by decide +kernel)
theorem im_X0_findFirst : Cond.instanceMethod yX0_findFirst ∈ GW := gw 212 (by decide +kernel) (by decide +kernel)
theorem co_X0_findFirst : Cond.code yX0_findFirst cX0_findFirst 4 (some .int) ∈ GW := gw 213 (by decide +kernel) (by decide +kernel)
theorem ml_X0_70 : Cond.methodLink RX0 70 yX0_begins ∈ GW := gw 214 (by decide +kernel) (by decide +kernel)
theorem im_X0_begins : Cond.instanceMethod yX0_begins ∈ GW := gw 216 (by decide +kernel) (by decide +kernel)
theorem co_X0_begins : Cond.code yX0_begins cX0_begins 4 (some .boolean) ∈ GW := gw 217 (by decide +kernel) (by decide +kernel)
theorem ml_X0_74 : Cond.methodLink RX0 74 yX2_goesFrom ∈ GW := gw 218 (by decide +kernel) (by decide +kernel)
theorem im_X2_goesFrom : Cond.instanceMethod yX2_goesFrom ∈ GW := gw 219 (by decide +kernel) (by decide +kernel)
theorem se_X2_goesFrom : Cond.selects RX2 yX2_goesFrom yX2_goesFrom ∈ GW := gw 220 (by decide +kernel) (by decide +kernel)
theorem co_X2_goesFrom : Cond.code yX2_goesFrom cX2_goesFrom 3 (some .boolean) ∈ GW := gw 221 (by decide +kernel) (by decide +kernel)
theorem ml_X2_43 : Cond.methodLink RX2 43 yX5_get ∈ GW := gw 222 (by decide +kernel) (by decide +kernel)
theorem ml_X0_78 : Cond.methodLink RX0 78 yX2_otherEnd ∈ GW := gw 223 (by decide +kernel) (by decide +kernel)
theorem im_X2_otherEnd : Cond.instanceMethod yX2_otherEnd ∈ GW := gw 224 (by decide +kernel) (by decide +kernel)
theorem se_X2_otherEnd : Cond.selects RX2 yX2_otherEnd yX2_otherEnd ∈ GW := gw 225 (by decide +kernel) (by decide +kernel)
theorem co_X2_otherEnd : Cond.code yX2_otherEnd cX2_otherEnd 3 (some .int) ∈ GW := gw 226 (by decide +kernel) (by decide +kernel)
theorem fl_X0_26 : Cond.fieldLink RX0 26 "FloodFerry$Chains" "fleet" "LFloodFerry$Fleet;" ∈ GW := gw 227 (by decide +kernel) (by decide +kernel)
theorem fl_X0_14 : Cond.fieldLink RX0 14 "FloodFerry$Chains" "lengths" "LFloodFerry$Row;" ∈ GW := gw 228 (by decide +kernel) (by decide +kernel)
theorem fl_X0_20 : Cond.fieldLink RX0 20 "FloodFerry$Chains" "firstPunts" "LFloodFerry$Row;" ∈ GW := gw 229 (by decide +kernel) (by decide +kernel)
theorem fl_X0_23 : Cond.fieldLink RX0 23 "FloodFerry$Chains" "tolls" "LFloodFerry$Row;" ∈ GW := gw 230 (by decide +kernel) (by decide +kernel)
theorem cl_X8_39 : Cond.classLink RX8 39 RX1 ∈ GW := gw 240 (by decide +kernel) (by decide +kernel)
theorem it_X1 : Cond.instantiable RX1 6 ∈ GW := gw 241 (by decide +kernel) (by decide +kernel)
theorem ml_X8_41 : Cond.methodLink RX8 41 yX1_init ∈ GW := gw 242 (by decide +kernel) (by decide +kernel)
theorem im_X1_init : Cond.instanceMethod yX1_init ∈ GW := gw 243 (by decide +kernel) (by decide +kernel)
theorem co_X1_init : Cond.code yX1_init cX1_init 4 none ∈ GW := gw 244 (by decide +kernel) (by decide +kernel)
theorem ml_X1_3 : Cond.methodLink RX1 3 objectInit ∈ GW := gw 245 (by decide +kernel) (by decide +kernel)
theorem cl_X1_9 : Cond.classLink RX1 9 RX5 ∈ GW := gw 246 (by decide +kernel) (by decide +kernel)
theorem kc_X1_13 : Cond.constant RX1 13 58800 ∈ GW := gw 247 (by decide +kernel) (by decide +kernel)
theorem ml_X1_14 : Cond.methodLink RX1 14 yX5_init ∈ GW := gw 248 (by decide +kernel) (by decide +kernel)
theorem fl_X1_27 : Cond.fieldLink RX1 27 "FloodFerry$Charts" "plain" "LFloodFerry$Plain;" ∈ GW := gw 249 (by decide +kernel) (by decide +kernel)
theorem fl_X1_31 : Cond.fieldLink RX1 31 "FloodFerry$Charts" "landings" "LFloodFerry$Landings;" ∈ GW := gw 250 (by decide +kernel) (by decide +kernel)
theorem fl_X1_35 : Cond.fieldLink RX1 35 "FloodFerry$Charts" "fleet" "LFloodFerry$Fleet;" ∈ GW := gw 251 (by decide +kernel) (by decide +kernel)
theorem fl_X1_17 : Cond.fieldLink RX1 17 "FloodFerry$Charts" "ways" "LFloodFerry$Row;" ∈ GW := gw 252 (by decide +kernel) (by decide +kernel)
theorem fl_X1_21 : Cond.fieldLink RX1 21 "FloodFerry$Charts" "drawn" "LFloodFerry$Row;" ∈ GW := gw 253 (by decide +kernel) (by decide +kernel)
theorem fl_X1_24 : Cond.fieldLink RX1 24 "FloodFerry$Charts" "queue" "LFloodFerry$Row;" ∈ GW := gw 254 (by decide +kernel) (by decide +kernel)
theorem cl_X8_48 : Cond.classLink RX8 48 RX6 ∈ GW := gw 268 (by decide +kernel) (by decide +kernel)
theorem it_X6 : Cond.instantiable RX6 11 ∈ GW := gw 269 (by decide +kernel) (by decide +kernel)
theorem ml_X8_50 : Cond.methodLink RX8 50 yX6_init ∈ GW := gw 270 (by decide +kernel) (by decide +kernel)
theorem im_X6_init : Cond.instanceMethod yX6_init ∈ GW := gw 271 (by decide +kernel) (by decide +kernel)
theorem co_X6_init : Cond.code yX6_init cX6_init 6 none ∈ GW := gw 272 (by decide +kernel) (by decide +kernel)
theorem ml_X6_3 : Cond.methodLink RX6 3 objectInit ∈ GW := gw 273 (by decide +kernel) (by decide +kernel)
theorem cl_X6_9 : Cond.classLink RX6 9 RX5 ∈ GW := gw 274 (by decide +kernel) (by decide +kernel)
theorem ml_X6_11 : Cond.methodLink RX6 11 yX5_init ∈ GW := gw 275 (by decide +kernel) (by decide +kernel)
theorem cl_X6_29 : Cond.classLink RX6 29 RX7 ∈ GW := gw 276 (by decide +kernel) (by decide +kernel)
theorem it_X7 : Cond.instantiable RX7 6 ∈ GW := gw 277 (by decide +kernel) (by decide +kernel)
theorem im_X7_init : Cond.instanceMethod yX7_init ∈ GW := gw 279 (by decide +kernel) (by decide +kernel)
theorem co_X7_init : Cond.code yX7_init cX7_init 1 none ∈ GW := gw 280 (by decide +kernel) (by decide +kernel)
theorem ml_X7_3 : Cond.methodLink RX7 3 objectInit ∈ GW := gw 281 (by decide +kernel) (by decide +kernel)
theorem cl_X7_9 : Cond.classLink RX7 9 RX5 ∈ GW := gw 282 (by decide +kernel) (by decide +kernel)
theorem ml_X7_11 : Cond.methodLink RX7 11 yX5_init ∈ GW := gw 283 (by decide +kernel) (by decide +kernel)
theorem fl_X7_32 : Cond.fieldLink RX7 32 "FloodFerry$Travellers" "number" "I" ∈ GW := gw 284 (by decide +kernel) (by decide +kernel)
theorem fl_X8_172 : Cond.fieldLink RX8 172 "FloodFerry$Travellers" "number" "I" ∈ GW := gw 285 (by decide +kernel) (by decide +kernel)
theorem fl_X6_154 : Cond.fieldLink RX6 154 "FloodFerry$Travellers" "number" "I" ∈ GW := gw 286 (by decide +kernel) (by decide +kernel)
theorem fl_X7_14 : Cond.fieldLink RX7 14 "FloodFerry$Travellers" "wish" "LFloodFerry$Row;" ∈ GW := gw 287 (by decide +kernel) (by decide +kernel)
theorem fl_X6_110 : Cond.fieldLink RX6 110 "FloodFerry$Travellers" "wish" "LFloodFerry$Row;" ∈ GW := gw 288 (by decide +kernel) (by decide +kernel)
theorem fl_X8_192 : Cond.fieldLink RX8 192 "FloodFerry$Travellers" "wish" "LFloodFerry$Row;" ∈ GW := gw 289 (by decide +kernel) (by decide +kernel)
theorem fl_X7_20 : Cond.fieldLink RX7 20 "FloodFerry$Travellers" "purse" "LFloodFerry$Row;" ∈ GW := gw 290 (by decide +kernel) (by decide +kernel)
theorem fl_X8_195 : Cond.fieldLink RX8 195 "FloodFerry$Travellers" "purse" "LFloodFerry$Row;" ∈ GW := gw 291 (by decide +kernel) (by decide +kernel)
theorem fl_X6_159 : Cond.fieldLink RX6 159 "FloodFerry$Travellers" "purse" "LFloodFerry$Row;" ∈ GW := gw 292 (by decide +kernel) (by decide +kernel)
theorem fl_X7_23 : Cond.fieldLink RX7 23 "FloodFerry$Travellers" "landing" "LFloodFerry$Row;" ∈ GW := gw 293 (by decide +kernel) (by decide +kernel)
theorem fl_X6_116 : Cond.fieldLink RX6 116 "FloodFerry$Travellers" "landing" "LFloodFerry$Row;" ∈ GW := gw 294 (by decide +kernel) (by decide +kernel)
theorem fl_X8_198 : Cond.fieldLink RX8 198 "FloodFerry$Travellers" "landing" "LFloodFerry$Row;" ∈ GW := gw 295 (by decide +kernel) (by decide +kernel)
theorem fl_X7_26 : Cond.fieldLink RX7 26 "FloodFerry$Travellers" "punt" "LFloodFerry$Row;" ∈ GW := gw 296 (by decide +kernel) (by decide +kernel)
theorem fl_X6_124 : Cond.fieldLink RX6 124 "FloodFerry$Travellers" "punt" "LFloodFerry$Row;" ∈ GW := gw 297 (by decide +kernel) (by decide +kernel)
theorem fl_X8_167 : Cond.fieldLink RX8 167 "FloodFerry$Travellers" "punt" "LFloodFerry$Row;" ∈ GW := gw 298 (by decide +kernel) (by decide +kernel)
theorem fl_X7_29 : Cond.fieldLink RX7 29 "FloodFerry$Travellers" "cameAt" "LFloodFerry$Row;" ∈ GW := gw 299 (by decide +kernel) (by decide +kernel)
theorem fl_X8_207 : Cond.fieldLink RX8 207 "FloodFerry$Travellers" "cameAt" "LFloodFerry$Row;" ∈ GW := gw 300 (by decide +kernel) (by decide +kernel)
theorem fl_X6_36 : Cond.fieldLink RX6 36 "FloodFerry$Traffic" "plain" "LFloodFerry$Plain;" ∈ GW := gw 314 (by decide +kernel) (by decide +kernel)
theorem fl_X6_40 : Cond.fieldLink RX6 40 "FloodFerry$Traffic" "landings" "LFloodFerry$Landings;" ∈ GW := gw 315 (by decide +kernel) (by decide +kernel)
theorem fl_X6_44 : Cond.fieldLink RX6 44 "FloodFerry$Traffic" "fleet" "LFloodFerry$Fleet;" ∈ GW := gw 316 (by decide +kernel) (by decide +kernel)
theorem fl_X6_48 : Cond.fieldLink RX6 48 "FloodFerry$Traffic" "chains" "LFloodFerry$Chains;" ∈ GW := gw 317 (by decide +kernel) (by decide +kernel)
theorem fl_X6_52 : Cond.fieldLink RX6 52 "FloodFerry$Traffic" "charts" "LFloodFerry$Charts;" ∈ GW := gw 318 (by decide +kernel) (by decide +kernel)
theorem fl_X6_56 : Cond.fieldLink RX6 56 "FloodFerry$Traffic" "hour" "I" ∈ GW := gw 319 (by decide +kernel) (by decide +kernel)
theorem fl_X8_228 : Cond.fieldLink RX8 228 "FloodFerry$Traffic" "hour" "I" ∈ GW := gw 320 (by decide +kernel) (by decide +kernel)
theorem fl_X6_14 : Cond.fieldLink RX6 14 "FloodFerry$Traffic" "cell" "LFloodFerry$Row;" ∈ GW := gw 321 (by decide +kernel) (by decide +kernel)
theorem fl_X8_117 : Cond.fieldLink RX8 117 "FloodFerry$Traffic" "cell" "LFloodFerry$Row;" ∈ GW := gw 322 (by decide +kernel) (by decide +kernel)
theorem fl_X6_20 : Cond.fieldLink RX6 20 "FloodFerry$Traffic" "bound" "LFloodFerry$Row;" ∈ GW := gw 323 (by decide +kernel) (by decide +kernel)
theorem fl_X8_160 : Cond.fieldLink RX8 160 "FloodFerry$Traffic" "bound" "LFloodFerry$Row;" ∈ GW := gw 324 (by decide +kernel) (by decide +kernel)
theorem fl_X6_23 : Cond.fieldLink RX6 23 "FloodFerry$Traffic" "takings" "LFloodFerry$Row;" ∈ GW := gw 325 (by decide +kernel) (by decide +kernel)
theorem fl_X8_180 : Cond.fieldLink RX8 180 "FloodFerry$Traffic" "takings" "LFloodFerry$Row;" ∈ GW := gw 326 (by decide +kernel) (by decide +kernel)
theorem fl_X6_26 : Cond.fieldLink RX6 26 "FloodFerry$Traffic" "steps" "LFloodFerry$Row;" ∈ GW := gw 327 (by decide +kernel) (by decide +kernel)
theorem fl_X8_183 : Cond.fieldLink RX8 183 "FloodFerry$Traffic" "steps" "LFloodFerry$Row;" ∈ GW := gw 328 (by decide +kernel) (by decide +kernel)
theorem fl_X6_32 : Cond.fieldLink RX6 32 "FloodFerry$Traffic" "travellers" "LFloodFerry$Travellers;" ∈ GW := gw 329 (by decide +kernel) (by decide +kernel)
theorem fl_X8_163 : Cond.fieldLink RX8 163 "FloodFerry$Traffic" "travellers" "LFloodFerry$Travellers;" ∈ GW := gw 330 (by decide +kernel) (by decide +kernel)
theorem fl_X8_12 : Cond.fieldLink RX8 12 "FloodFerry" "plain" "LFloodFerry$Plain;" ∈ GW := gw 354 (by decide +kernel) (by decide +kernel)
theorem fl_X8_19 : Cond.fieldLink RX8 19 "FloodFerry" "landings" "LFloodFerry$Landings;" ∈ GW := gw 355 (by decide +kernel) (by decide +kernel)
theorem fl_X8_26 : Cond.fieldLink RX8 26 "FloodFerry" "fleet" "LFloodFerry$Fleet;" ∈ GW := gw 356 (by decide +kernel) (by decide +kernel)
theorem fl_X8_35 : Cond.fieldLink RX8 35 "FloodFerry" "chains" "LFloodFerry$Chains;" ∈ GW := gw 357 (by decide +kernel) (by decide +kernel)
theorem fl_X8_44 : Cond.fieldLink RX8 44 "FloodFerry" "charts" "LFloodFerry$Charts;" ∈ GW := gw 358 (by decide +kernel) (by decide +kernel)
theorem fl_X8_53 : Cond.fieldLink RX8 53 "FloodFerry" "now" "LFloodFerry$Traffic;" ∈ GW := gw 359 (by decide +kernel) (by decide +kernel)
theorem fl_X8_57 : Cond.fieldLink RX8 57 "FloodFerry" "ahead" "LFloodFerry$Traffic;" ∈ GW := gw 360 (by decide +kernel) (by decide +kernel)
theorem ml_L_141 : Cond.methodLink RL 141 yX8_mean ∈ GW := gw 376 (by decide +kernel) (by decide +kernel)
theorem im_X8_mean : Cond.instanceMethod yX8_mean ∈ GW := gw 377 (by decide +kernel) (by decide +kernel)
theorem se_X8_mean : Cond.selects RX8 yX8_mean yX8_mean ∈ GW := gw 378 (by decide +kernel) (by decide +kernel)
theorem co_X8_mean : Cond.code yX8_mean cX8_mean 4 (some .double) ∈ GW := gw 379 (by decide +kernel) (by decide +kernel)
theorem ml_X8_100 : Cond.methodLink RX8 100 yX6_level ∈ GW := gw 380 (by decide +kernel) (by decide +kernel)
theorem im_X6_level : Cond.instanceMethod yX6_level ∈ GW := gw 381 (by decide +kernel) (by decide +kernel)
theorem se_X6_level : Cond.selects RX6 yX6_level yX6_level ∈ GW := gw 382 (by decide +kernel) (by decide +kernel)
theorem co_X6_level : Cond.code yX6_level cX6_level 1 (some .int) ∈ GW := gw 383 (by decide +kernel) (by decide +kernel)
theorem ml_X6_71 : Cond.methodLink RX6 71 yX4_levelAt ∈ GW := gw 384 (by decide +kernel) (by decide +kernel)
theorem im_X4_levelAt : Cond.instanceMethod yX4_levelAt ∈ GW := gw 385 (by decide +kernel) (by decide +kernel)
theorem se_X4_levelAt : Cond.selects RX4 yX4_levelAt yX4_levelAt ∈ GW := gw 386 (by decide +kernel) (by decide +kernel)
theorem co_X4_levelAt : Cond.code yX4_levelAt cX4_levelAt 2 (some .int) ∈ GW := gw 387 (by decide +kernel) (by decide +kernel)
theorem ml_X4_29 : Cond.methodLink RX4 29 yX5_get ∈ GW := gw 388 (by decide +kernel) (by decide +kernel)
theorem ml_X8_108 : Cond.methodLink RX8 108 yX4_depth ∈ GW := gw 389 (by decide +kernel) (by decide +kernel)
theorem im_X4_depth : Cond.instanceMethod yX4_depth ∈ GW := gw 390 (by decide +kernel) (by decide +kernel)
theorem se_X4_depth : Cond.selects RX4 yX4_depth yX4_depth ∈ GW := gw 391 (by decide +kernel) (by decide +kernel)
theorem co_X4_depth : Cond.code yX4_depth cX4_depth 3 (some .int) ∈ GW := gw 392 (by decide +kernel) (by decide +kernel)
theorem ml_X4_33 : Cond.methodLink RX4 33 Lib.Math.max.name ∈ GW := gw 393 (by decide +kernel) (by decide +kernel)
theorem sm_M_max : Cond.static Lib.Math.max.name ∈ GW := gw 394 (by decide +kernel) (by decide +kernel)
theorem co_M_max : Cond.code Lib.Math.max.name Lib.Math.max.code 2 (some .int) ∈ GW := gw 395 (by decide +kernel) (by decide +kernel)
theorem kc_X8_277 : Cond.constantDouble RX8 277 4641100153493651456 ∈ GW := gw 396 (by decide +kernel) (by decide +kernel)
theorem ml_L_146 : Cond.methodLink RL 146 yX8_digest ∈ GW := gw 397 (by decide +kernel) (by decide +kernel)
theorem im_X8_digest : Cond.instanceMethod yX8_digest ∈ GW := gw 398 (by decide +kernel) (by decide +kernel)
theorem se_X8_digest : Cond.selects RX8 yX8_digest yX8_digest ∈ GW := gw 399 (by decide +kernel) (by decide +kernel)
theorem co_X8_digest : Cond.code yX8_digest cX8_digest 5 (some .long) ∈ GW := gw 400 (by decide +kernel) (by decide +kernel)
theorem kc_X8_279 : Cond.constantLong RX8 279 557 ∈ GW := gw 401 (by decide +kernel) (by decide +kernel)
theorem ml_X8_281 : Cond.methodLink RX8 281 yX8_digestOfCounts ∈ GW := gw 402 (by decide +kernel) (by decide +kernel)
theorem im_X8_digestOfCounts : Cond.instanceMethod yX8_digestOfCounts ∈ GW := gw 404 (by decide +kernel) (by decide +kernel)
theorem co_X8_digestOfCounts : Cond.code yX8_digestOfCounts cX8_digestOfCounts 6 (some .long) ∈ GW := gw 405 (by decide +kernel) (by decide +kernel)
theorem kc_X8_288 : Cond.constantLong RX8 288 31 ∈ GW := gw 406 (by decide +kernel) (by decide +kernel)
theorem ml_X8_225 : Cond.methodLink RX8 225 yX8_tellCount ∈ GW := gw 407 (by decide +kernel) (by decide +kernel)
theorem im_X8_tellCount : Cond.instanceMethod yX8_tellCount ∈ GW := gw 409 (by decide +kernel) (by decide +kernel)
theorem co_X8_tellCount : Cond.code yX8_tellCount cX8_tellCount 2 (some .int) ∈ GW := gw 410 (by decide +kernel) (by decide +kernel)
theorem ml_X8_231 : Cond.methodLink RX8 231 yX7_waiting ∈ GW := gw 411 (by decide +kernel) (by decide +kernel)
theorem im_X7_waiting : Cond.instanceMethod yX7_waiting ∈ GW := gw 412 (by decide +kernel) (by decide +kernel)
theorem se_X7_waiting : Cond.selects RX7 yX7_waiting yX7_waiting ∈ GW := gw 413 (by decide +kernel) (by decide +kernel)
theorem co_X7_waiting : Cond.code yX7_waiting cX7_waiting 1 (some .int) ∈ GW := gw 414 (by decide +kernel) (by decide +kernel)
theorem ml_X7_62 : Cond.methodLink RX7 62 yX7_riding ∈ GW := gw 415 (by decide +kernel) (by decide +kernel)
theorem im_X7_riding : Cond.instanceMethod yX7_riding ∈ GW := gw 416 (by decide +kernel) (by decide +kernel)
theorem se_X7_riding : Cond.selects RX7 yX7_riding yX7_riding ∈ GW := gw 417 (by decide +kernel) (by decide +kernel)
theorem co_X7_riding : Cond.code yX7_riding cX7_riding 1 (some .int) ∈ GW := gw 418 (by decide +kernel) (by decide +kernel)
theorem ml_X7_55 : Cond.methodLink RX7 55 yX5_howMany ∈ GW := gw 419 (by decide +kernel) (by decide +kernel)
theorem im_X5_howMany : Cond.instanceMethod yX5_howMany ∈ GW := gw 420 (by decide +kernel) (by decide +kernel)
theorem se_X5_howMany : Cond.selects RX5 yX5_howMany yX5_howMany ∈ GW := gw 421 (by decide +kernel) (by decide +kernel)
theorem co_X5_howMany : Cond.code yX5_howMany cX5_howMany 5 (some .int) ∈ GW := gw 422 (by decide +kernel) (by decide +kernel)
theorem ml_X7_66 : Cond.methodLink RX7 66 yX7_come ∈ GW := gw 423 (by decide +kernel) (by decide +kernel)
theorem im_X7_come : Cond.instanceMethod yX7_come ∈ GW := gw 424 (by decide +kernel) (by decide +kernel)
theorem se_X7_come : Cond.selects RX7 yX7_come yX7_come ∈ GW := gw 425 (by decide +kernel) (by decide +kernel)
theorem co_X7_come : Cond.code yX7_come cX7_come 1 (some .int) ∈ GW := gw 426 (by decide +kernel) (by decide +kernel)
theorem ml_X8_234 : Cond.methodLink RX8 234 yX7_riding ∈ GW := gw 427 (by decide +kernel) (by decide +kernel)
theorem ml_X8_237 : Cond.methodLink RX8 237 yX7_come ∈ GW := gw 428 (by decide +kernel) (by decide +kernel)
theorem ml_X8_240 : Cond.methodLink RX8 240 yX6_takingsInAll ∈ GW := gw 429 (by decide +kernel) (by decide +kernel)
theorem im_X6_takingsInAll : Cond.instanceMethod yX6_takingsInAll ∈ GW := gw 430 (by decide +kernel) (by decide +kernel)
theorem se_X6_takingsInAll : Cond.selects RX6 yX6_takingsInAll yX6_takingsInAll ∈ GW := gw 431 (by decide +kernel) (by decide +kernel)
theorem co_X6_takingsInAll : Cond.code yX6_takingsInAll cX6_takingsInAll 3 (some .int) ∈ GW := gw 432 (by decide +kernel) (by decide +kernel)
theorem ml_X6_77 : Cond.methodLink RX6 77 yX5_get ∈ GW := gw 433 (by decide +kernel) (by decide +kernel)
theorem ml_X8_243 : Cond.methodLink RX8 243 yX6_puntsAground ∈ GW := gw 434 (by decide +kernel) (by decide +kernel)
theorem im_X6_puntsAground : Cond.instanceMethod yX6_puntsAground ∈ GW := gw 435 (by decide +kernel) (by decide +kernel)
theorem se_X6_puntsAground : Cond.selects RX6 yX6_puntsAground yX6_puntsAground ∈ GW := gw 436 (by decide +kernel) (by decide +kernel)
theorem co_X6_puntsAground : Cond.code yX6_puntsAground cX6_puntsAground 3 (some .int) ∈ GW := gw 437 (by decide +kernel) (by decide +kernel)
theorem ml_X6_106 : Cond.methodLink RX6 106 yX6_isAground ∈ GW := gw 438 (by decide +kernel) (by decide +kernel)
theorem im_X6_isAground : Cond.instanceMethod yX6_isAground ∈ GW := gw 439 (by decide +kernel) (by decide +kernel)
theorem se_X6_isAground : Cond.selects RX6 yX6_isAground yX6_isAground ∈ GW := gw 440 (by decide +kernel) (by decide +kernel)
theorem co_X6_isAground : Cond.code yX6_isAground cX6_isAground 2 (some .boolean) ∈ GW := gw 441 (by decide +kernel) (by decide +kernel)
theorem ml_X6_80 : Cond.methodLink RX6 80 yX6_level ∈ GW := gw 442 (by decide +kernel) (by decide +kernel)
theorem ml_X6_84 : Cond.methodLink RX6 84 yX4_depth ∈ GW := gw 443 (by decide +kernel) (by decide +kernel)
theorem ml_X6_88 : Cond.methodLink RX6 88 yX2_floats ∈ GW := gw 444 (by decide +kernel) (by decide +kernel)
theorem im_X2_floats : Cond.instanceMethod yX2_floats ∈ GW := gw 445 (by decide +kernel) (by decide +kernel)
theorem se_X2_floats : Cond.selects RX2 yX2_floats yX2_floats ∈ GW := gw 446 (by decide +kernel) (by decide +kernel)
theorem co_X2_floats : Cond.code yX2_floats cX2_floats 3 (some .boolean) ∈ GW := gw 447 (by decide +kernel) (by decide +kernel)
theorem ml_X8_246 : Cond.methodLink RX8 246 yX4_stakesShown ∈ GW := gw 448 (by decide +kernel) (by decide +kernel)
theorem im_X4_stakesShown : Cond.instanceMethod yX4_stakesShown ∈ GW := gw 449 (by decide +kernel) (by decide +kernel)
theorem se_X4_stakesShown : Cond.selects RX4 yX4_stakesShown yX4_stakesShown ∈ GW := gw 450 (by decide +kernel) (by decide +kernel)
theorem co_X4_stakesShown : Cond.code yX4_stakesShown cX4_stakesShown 4 (some .int) ∈ GW := gw 451 (by decide +kernel) (by decide +kernel)
theorem ml_X4_42 : Cond.methodLink RX4 42 yX4_showsStake ∈ GW := gw 452 (by decide +kernel) (by decide +kernel)
theorem im_X4_showsStake : Cond.instanceMethod yX4_showsStake ∈ GW := gw 453 (by decide +kernel) (by decide +kernel)
theorem se_X4_showsStake : Cond.selects RX4 yX4_showsStake yX4_showsStake ∈ GW := gw 454 (by decide +kernel) (by decide +kernel)
theorem co_X4_showsStake : Cond.code yX4_showsStake cX4_showsStake 3 (some .boolean) ∈ GW := gw 455 (by decide +kernel) (by decide +kernel)
theorem ml_X4_39 : Cond.methodLink RX4 39 yX4_depth ∈ GW := gw 456 (by decide +kernel) (by decide +kernel)
theorem ml_X8_285 : Cond.methodLink RX8 285 yX8_digestOfPlain ∈ GW := gw 457 (by decide +kernel) (by decide +kernel)
theorem im_X8_digestOfPlain : Cond.instanceMethod yX8_digestOfPlain ∈ GW := gw 459 (by decide +kernel) (by decide +kernel)
theorem co_X8_digestOfPlain : Cond.code yX8_digestOfPlain cX8_digestOfPlain 6 (some .long) ∈ GW := gw 460 (by decide +kernel) (by decide +kernel)
theorem ml_X8_104 : Cond.methodLink RX8 104 yX5_get ∈ GW := gw 461 (by decide +kernel) (by decide +kernel)
theorem ml_X8_210 : Cond.methodLink RX8 210 yX8_tellLanding ∈ GW := gw 462 (by decide +kernel) (by decide +kernel)
theorem im_X8_tellLanding : Cond.instanceMethod yX8_tellLanding ∈ GW := gw 464 (by decide +kernel) (by decide +kernel)
theorem co_X8_tellLanding : Cond.code yX8_tellLanding cX8_tellLanding 3 (some .int) ∈ GW := gw 465 (by decide +kernel) (by decide +kernel)
theorem ml_X8_154 : Cond.methodLink RX8 154 yX8_columnOf ∈ GW := gw 466 (by decide +kernel) (by decide +kernel)
theorem sm_X8_columnOf : Cond.static yX8_columnOf ∈ GW := gw 467 (by decide +kernel) (by decide +kernel)
theorem co_X8_columnOf : Cond.code yX8_columnOf cX8_columnOf 1 (some .int) ∈ GW := gw 468 (by decide +kernel) (by decide +kernel)
theorem ml_X8_157 : Cond.methodLink RX8 157 yX8_rowOf ∈ GW := gw 469 (by decide +kernel) (by decide +kernel)
theorem sm_X8_rowOf : Cond.static yX8_rowOf ∈ GW := gw 470 (by decide +kernel) (by decide +kernel)
theorem co_X8_rowOf : Cond.code yX8_rowOf cX8_rowOf 1 (some .int) ∈ GW := gw 471 (by decide +kernel) (by decide +kernel)
theorem ml_X8_213 : Cond.methodLink RX8 213 yX7_waitingAt ∈ GW := gw 472 (by decide +kernel) (by decide +kernel)
theorem im_X7_waitingAt : Cond.instanceMethod yX7_waitingAt ∈ GW := gw 473 (by decide +kernel) (by decide +kernel)
theorem se_X7_waitingAt : Cond.selects RX7 yX7_waitingAt yX7_waitingAt ∈ GW := gw 474 (by decide +kernel) (by decide +kernel)
theorem co_X7_waitingAt : Cond.code yX7_waitingAt cX7_waitingAt 4 (some .int) ∈ GW := gw 475 (by decide +kernel) (by decide +kernel)
theorem ml_X7_51 : Cond.methodLink RX7 51 yX7_waitsAt ∈ GW := gw 476 (by decide +kernel) (by decide +kernel)
theorem im_X7_waitsAt : Cond.instanceMethod yX7_waitsAt ∈ GW := gw 477 (by decide +kernel) (by decide +kernel)
theorem se_X7_waitsAt : Cond.selects RX7 yX7_waitsAt yX7_waitsAt ∈ GW := gw 478 (by decide +kernel) (by decide +kernel)
theorem co_X7_waitsAt : Cond.code yX7_waitsAt cX7_waitsAt 3 (some .boolean) ∈ GW := gw 479 (by decide +kernel) (by decide +kernel)
theorem ml_X7_44 : Cond.methodLink RX7 44 yX5_get ∈ GW := gw 480 (by decide +kernel) (by decide +kernel)
theorem ml_X8_216 : Cond.methodLink RX8 216 yX7_comeTo ∈ GW := gw 481 (by decide +kernel) (by decide +kernel)
theorem im_X7_comeTo : Cond.instanceMethod yX7_comeTo ∈ GW := gw 482 (by decide +kernel) (by decide +kernel)
theorem se_X7_comeTo : Cond.selects RX7 yX7_comeTo yX7_comeTo ∈ GW := gw 483 (by decide +kernel) (by decide +kernel)
theorem co_X7_comeTo : Cond.code yX7_comeTo cX7_comeTo 2 (some .int) ∈ GW := gw 484 (by decide +kernel) (by decide +kernel)
theorem ml_X7_59 : Cond.methodLink RX7 59 yX7_waitingAt ∈ GW := gw 485 (by decide +kernel) (by decide +kernel)
theorem ml_X8_219 : Cond.methodLink RX8 219 yX2_puntsFrom ∈ GW := gw 486 (by decide +kernel) (by decide +kernel)
theorem im_X2_puntsFrom : Cond.instanceMethod yX2_puntsFrom ∈ GW := gw 487 (by decide +kernel) (by decide +kernel)
theorem se_X2_puntsFrom : Cond.selects RX2 yX2_puntsFrom yX2_puntsFrom ∈ GW := gw 488 (by decide +kernel) (by decide +kernel)
theorem co_X2_puntsFrom : Cond.code yX2_puntsFrom cX2_puntsFrom 2 (some .int) ∈ GW := gw 489 (by decide +kernel) (by decide +kernel)
theorem ml_X2_47 : Cond.methodLink RX2 47 yX5_howMany ∈ GW := gw 490 (by decide +kernel) (by decide +kernel)
theorem ml_X8_151 : Cond.methodLink RX8 151 yX8_tellPunt ∈ GW := gw 491 (by decide +kernel) (by decide +kernel)
theorem im_X8_tellPunt : Cond.instanceMethod yX8_tellPunt ∈ GW := gw 493 (by decide +kernel) (by decide +kernel)
theorem co_X8_tellPunt : Cond.code yX8_tellPunt cX8_tellPunt 3 (some .int) ∈ GW := gw 494 (by decide +kernel) (by decide +kernel)
theorem ml_X8_124 : Cond.methodLink RX8 124 yX5_howMany ∈ GW := gw 495 (by decide +kernel) (by decide +kernel)
theorem ml_X8_173 : Cond.methodLink RX8 173 yX6_isAground ∈ GW := gw 496 (by decide +kernel) (by decide +kernel)
theorem ml_X8_177 : Cond.methodLink RX8 177 yX6_wayLeft ∈ GW := gw 497 (by decide +kernel) (by decide +kernel)
theorem im_X6_wayLeft : Cond.instanceMethod yX6_wayLeft ∈ GW := gw 498 (by decide +kernel) (by decide +kernel)
theorem se_X6_wayLeft : Cond.selects RX6 yX6_wayLeft yX6_wayLeft ∈ GW := gw 499 (by decide +kernel) (by decide +kernel)
theorem co_X6_wayLeft : Cond.code yX6_wayLeft cX6_wayLeft 2 (some .int) ∈ GW := gw 500 (by decide +kernel) (by decide +kernel)
theorem ml_X6_94 : Cond.methodLink RX6 94 yX1_chartOf ∈ GW := gw 501 (by decide +kernel) (by decide +kernel)
theorem im_X1_chartOf : Cond.instanceMethod yX1_chartOf ∈ GW := gw 502 (by decide +kernel) (by decide +kernel)
theorem se_X1_chartOf : Cond.selects RX1 yX1_chartOf yX1_chartOf ∈ GW := gw 503 (by decide +kernel) (by decide +kernel)
theorem co_X1_chartOf : Cond.code yX1_chartOf cX1_chartOf 7 (some .int) ∈ GW := gw 504 (by decide +kernel) (by decide +kernel)
theorem ml_X1_47 : Cond.methodLink RX1 47 yX5_get ∈ GW := gw 505 (by decide +kernel) (by decide +kernel)
theorem ml_X1_51 : Cond.methodLink RX1 51 yX5_put ∈ GW := gw 506 (by decide +kernel) (by decide +kernel)
theorem im_X5_put : Cond.instanceMethod yX5_put ∈ GW := gw 507 (by decide +kernel) (by decide +kernel)
theorem se_X5_put : Cond.selects RX5 yX5_put yX5_put ∈ GW := gw 508 (by decide +kernel) (by decide +kernel)
theorem co_X5_put : Cond.code yX5_put cX5_put 4 (some .int) ∈ GW := gw 509 (by decide +kernel) (by decide +kernel)
theorem ml_X5_13 : Cond.methodLink RX5 13 yX5_get ∈ GW := gw 510 (by decide +kernel) (by decide +kernel)
theorem ml_X5_17 : Cond.methodLink RX5 17 yX5_set ∈ GW := gw 511 (by decide +kernel) (by decide +kernel)
theorem ml_X1_60 : Cond.methodLink RX1 60 yX1_draw ∈ GW := gw 512 (by decide +kernel) (by decide +kernel)
theorem im_X1_draw : Cond.instanceMethod yX1_draw ∈ GW := gw 514 (by decide +kernel) (by decide +kernel)
theorem co_X1_draw : Cond.code yX1_draw cX1_draw 10 none ∈ GW := gw 515 (by decide +kernel) (by decide +kernel)
theorem ml_X1_72 : Cond.methodLink RX1 72 yX5_set ∈ GW := gw 516 (by decide +kernel) (by decide +kernel)
theorem ml_X1_76 : Cond.methodLink RX1 76 yX4_depth ∈ GW := gw 517 (by decide +kernel) (by decide +kernel)
theorem ml_X1_79 : Cond.methodLink RX1 79 yX2_floats ∈ GW := gw 518 (by decide +kernel) (by decide +kernel)
theorem ml_X1_67 : Cond.methodLink RX1 67 yX4_beside ∈ GW := gw 519 (by decide +kernel) (by decide +kernel)
theorem sm_X4_beside : Cond.static yX4_beside ∈ GW := gw 520 (by decide +kernel) (by decide +kernel)
theorem co_X4_beside : Cond.code yX4_beside cX4_beside 2 (some .int) ∈ GW := gw 521 (by decide +kernel) (by decide +kernel)
theorem ml_X6_100 : Cond.methodLink RX6 100 yX1_way ∈ GW := gw 524 (by decide +kernel) (by decide +kernel)
theorem im_X1_way : Cond.instanceMethod yX1_way ∈ GW := gw 525 (by decide +kernel) (by decide +kernel)
theorem se_X1_way : Cond.selects RX1 yX1_way yX1_way ∈ GW := gw 526 (by decide +kernel) (by decide +kernel)
theorem co_X1_way : Cond.code yX1_way cX1_way 3 (some .int) ∈ GW := gw 527 (by decide +kernel) (by decide +kernel)
theorem ml_X8_189 : Cond.methodLink RX8 189 yX8_tellTraveller ∈ GW := gw 528 (by decide +kernel) (by decide +kernel)
theorem im_X8_tellTraveller : Cond.instanceMethod yX8_tellTraveller ∈ GW := gw 530 (by decide +kernel) (by decide +kernel)
theorem co_X8_tellTraveller : Cond.code yX8_tellTraveller cX8_tellTraveller 4 (some .int) ∈ GW := gw 531 (by decide +kernel) (by decide +kernel)
theorem ml_X8_201 : Cond.methodLink RX8 201 yX7_hasCome ∈ GW := gw 532 (by decide +kernel) (by decide +kernel)
theorem im_X7_hasCome : Cond.instanceMethod yX7_hasCome ∈ GW := gw 533 (by decide +kernel) (by decide +kernel)
theorem se_X7_hasCome : Cond.selects RX7 yX7_hasCome yX7_hasCome ∈ GW := gw 534 (by decide +kernel) (by decide +kernel)
theorem co_X7_hasCome : Cond.code yX7_hasCome cX7_hasCome 2 (some .boolean) ∈ GW := gw 535 (by decide +kernel) (by decide +kernel)
theorem ml_X8_204 : Cond.methodLink RX8 204 yX6_chainLeft ∈ GW := gw 536 (by decide +kernel) (by decide +kernel)
theorem im_X6_chainLeft : Cond.instanceMethod yX6_chainLeft ∈ GW := gw 537 (by decide +kernel) (by decide +kernel)
theorem se_X6_chainLeft : Cond.selects RX6 yX6_chainLeft yX6_chainLeft ∈ GW := gw 538 (by decide +kernel) (by decide +kernel)
theorem co_X6_chainLeft : Cond.code yX6_chainLeft cX6_chainLeft 4 (some .int) ∈ GW := gw 539 (by decide +kernel) (by decide +kernel)
theorem ml_X6_113 : Cond.methodLink RX6 113 yX7_rides ∈ GW := gw 540 (by decide +kernel) (by decide +kernel)
theorem im_X7_rides : Cond.instanceMethod yX7_rides ∈ GW := gw 541 (by decide +kernel) (by decide +kernel)
theorem se_X7_rides : Cond.selects RX7 yX7_rides yX7_rides ∈ GW := gw 542 (by decide +kernel) (by decide +kernel)
theorem co_X7_rides : Cond.code yX7_rides cX7_rides 2 (some .boolean) ∈ GW := gw 543 (by decide +kernel) (by decide +kernel)
theorem ml_X6_119 : Cond.methodLink RX6 119 yX0_length ∈ GW := gw 544 (by decide +kernel) (by decide +kernel)
theorem ml_L_77 : Cond.methodLink RL 77 yL_setGround ∈ GW := gw 545 (by decide +kernel) (by decide +kernel)
theorem sm_L_setGround : Cond.static yL_setGround ∈ GW := gw 546 (by decide +kernel) (by decide +kernel)
theorem cl_L_13 : Cond.classLink RL 13 "java/lang/IndexOutOfBoundsException" ∈ GW := gw 548 (by decide +kernel) (by decide +kernel)
theorem cl_L_15 : Cond.classLink RL 15 "java/lang/IllegalArgumentException" ∈ GW := gw 549 (by decide +kernel) (by decide +kernel)
theorem ml_L_7 : Cond.methodLink RL 7 yX8_setGround ∈ GW := gw 550 (by decide +kernel) (by decide +kernel)
theorem im_X8_setGround : Cond.instanceMethod yX8_setGround ∈ GW := gw 551 (by decide +kernel) (by decide +kernel)
theorem se_X8_setGround : Cond.selects RX8 yX8_setGround yX8_setGround ∈ GW := gw 552 (by decide +kernel) (by decide +kernel)
theorem co_X8_setGround : Cond.code yX8_setGround cX8_setGround 5 (some .int) ∈ GW := gw 553 (by decide +kernel) (by decide +kernel)
theorem ml_X8_60 : Cond.methodLink RX8 60 yX8_onPlain ∈ GW := gw 554 (by decide +kernel) (by decide +kernel)
theorem sm_X8_onPlain : Cond.static yX8_onPlain ∈ GW := gw 555 (by decide +kernel) (by decide +kernel)
theorem co_X8_onPlain : Cond.code yX8_onPlain cX8_onPlain 2 (some .boolean) ∈ GW := gw 556 (by decide +kernel) (by decide +kernel)
theorem ml_X8_91 : Cond.methodLink RX8 91 yX8_isOneOf ∈ GW := gw 557 (by decide +kernel) (by decide +kernel)
theorem sm_X8_isOneOf : Cond.static yX8_isOneOf ∈ GW := gw 558 (by decide +kernel) (by decide +kernel)
theorem co_X8_isOneOf : Cond.code yX8_isOneOf cX8_isOneOf 2 (some .boolean) ∈ GW := gw 559 (by decide +kernel) (by decide +kernel)
theorem ml_X8_64 : Cond.methodLink RX8 64 yX8_needIndex ∈ GW := gw 560 (by decide +kernel) (by decide +kernel)
theorem sm_X8_needIndex : Cond.static yX8_needIndex ∈ GW := gw 561 (by decide +kernel) (by decide +kernel)
theorem co_X8_needIndex : Cond.code yX8_needIndex cX8_needIndex 1 none ∈ GW := gw 562 (by decide +kernel) (by decide +kernel)
theorem cl_X8_290 : Cond.classLink RX8 290 "java/lang/IndexOutOfBoundsException" ∈ GW := gw 563 (by decide +kernel) (by decide +kernel)
theorem ml_X8_68 : Cond.methodLink RX8 68 yX8_within ∈ GW := gw 631 (by decide +kernel) (by decide +kernel)
theorem sm_X8_within : Cond.static yX8_within ∈ GW := gw 632 (by decide +kernel) (by decide +kernel)
theorem co_X8_within : Cond.code yX8_within cX8_within 3 (some .boolean) ∈ GW := gw 633 (by decide +kernel) (by decide +kernel)
theorem ml_X8_72 : Cond.methodLink RX8 72 yX8_needArgument ∈ GW := gw 634 (by decide +kernel) (by decide +kernel)
theorem sm_X8_needArgument : Cond.static yX8_needArgument ∈ GW := gw 635 (by decide +kernel) (by decide +kernel)
theorem co_X8_needArgument : Cond.code yX8_needArgument cX8_needArgument 1 none ∈ GW := gw 636 (by decide +kernel) (by decide +kernel)
theorem cl_X8_297 : Cond.classLink RX8 297 "java/lang/IllegalArgumentException" ∈ GW := gw 637 (by decide +kernel) (by decide +kernel)
theorem ml_X8_79 : Cond.methodLink RX8 79 yX8_cellOf ∈ GW := gw 653 (by decide +kernel) (by decide +kernel)
theorem sm_X8_cellOf : Cond.static yX8_cellOf ∈ GW := gw 654 (by decide +kernel) (by decide +kernel)
theorem co_X8_cellOf : Cond.code yX8_cellOf cX8_cellOf 2 (some .int) ∈ GW := gw 655 (by decide +kernel) (by decide +kernel)
theorem ml_X8_83 : Cond.methodLink RX8 83 yX5_put ∈ GW := gw 656 (by decide +kernel) (by decide +kernel)
theorem ml_X8_88 : Cond.methodLink RX8 88 yX1_forget ∈ GW := gw 657 (by decide +kernel) (by decide +kernel)
theorem im_X1_forget : Cond.instanceMethod yX1_forget ∈ GW := gw 658 (by decide +kernel) (by decide +kernel)
theorem se_X1_forget : Cond.selects RX1 yX1_forget yX1_forget ∈ GW := gw 659 (by decide +kernel) (by decide +kernel)
theorem co_X1_forget : Cond.code yX1_forget cX1_forget 1 none ∈ GW := gw 660 (by decide +kernel) (by decide +kernel)
theorem ml_X1_39 : Cond.methodLink RX1 39 yX5_fill ∈ GW := gw 661 (by decide +kernel) (by decide +kernel)
theorem ml_L_87 : Cond.methodLink RL 87 yL_setWater ∈ GW := gw 662 (by decide +kernel) (by decide +kernel)
theorem sm_L_setWater : Cond.static yL_setWater ∈ GW := gw 663 (by decide +kernel) (by decide +kernel)
theorem ml_L_17 : Cond.methodLink RL 17 yX8_setWater ∈ GW := gw 665 (by decide +kernel) (by decide +kernel)
theorem im_X8_setWater : Cond.instanceMethod yX8_setWater ∈ GW := gw 666 (by decide +kernel) (by decide +kernel)
theorem se_X8_setWater : Cond.selects RX8 yX8_setWater yX8_setWater ∈ GW := gw 667 (by decide +kernel) (by decide +kernel)
theorem co_X8_setWater : Cond.code yX8_setWater cX8_setWater 3 (some .int) ∈ GW := gw 668 (by decide +kernel) (by decide +kernel)
theorem ml_L_91 : Cond.methodLink RL 91 yL_setStake ∈ GW := gw 669 (by decide +kernel) (by decide +kernel)
theorem sm_L_setStake : Cond.static yL_setStake ∈ GW := gw 670 (by decide +kernel) (by decide +kernel)
theorem ml_L_21 : Cond.methodLink RL 21 yX8_setStake ∈ GW := gw 672 (by decide +kernel) (by decide +kernel)
theorem im_X8_setStake : Cond.instanceMethod yX8_setStake ∈ GW := gw 673 (by decide +kernel) (by decide +kernel)
theorem se_X8_setStake : Cond.selects RX8 yX8_setStake yX8_setStake ∈ GW := gw 674 (by decide +kernel) (by decide +kernel)
theorem co_X8_setStake : Cond.code yX8_setStake cX8_setStake 4 (some .int) ∈ GW := gw 675 (by decide +kernel) (by decide +kernel)
theorem ml_L_94 : Cond.methodLink RL 94 yL_cell ∈ GW := gw 676 (by decide +kernel) (by decide +kernel)
theorem sm_L_cell : Cond.static yL_cell ∈ GW := gw 677 (by decide +kernel) (by decide +kernel)
theorem ml_L_24 : Cond.methodLink RL 24 yX8_cell ∈ GW := gw 679 (by decide +kernel) (by decide +kernel)
theorem im_X8_cell : Cond.instanceMethod yX8_cell ∈ GW := gw 680 (by decide +kernel) (by decide +kernel)
theorem se_X8_cell : Cond.selects RX8 yX8_cell yX8_cell ∈ GW := gw 681 (by decide +kernel) (by decide +kernel)
theorem co_X8_cell : Cond.code yX8_cell cX8_cell 6 (some .int) ∈ GW := gw 682 (by decide +kernel) (by decide +kernel)
theorem ml_X8_111 : Cond.methodLink RX8 111 yX4_showsStake ∈ GW := gw 683 (by decide +kernel) (by decide +kernel)
theorem ml_X8_114 : Cond.methodLink RX8 114 yX3_on ∈ GW := gw 684 (by decide +kernel) (by decide +kernel)
theorem im_X3_on : Cond.instanceMethod yX3_on ∈ GW := gw 685 (by decide +kernel) (by decide +kernel)
theorem se_X3_on : Cond.selects RX3 yX3_on yX3_on ∈ GW := gw 686 (by decide +kernel) (by decide +kernel)
theorem co_X3_on : Cond.code yX3_on cX3_on 3 (some .int) ∈ GW := gw 687 (by decide +kernel) (by decide +kernel)
theorem ml_X3_28 : Cond.methodLink RX3 28 yX5_get ∈ GW := gw 688 (by decide +kernel) (by decide +kernel)
theorem ml_L_97 : Cond.methodLink RL 97 yL_addLanding ∈ GW := gw 689 (by decide +kernel) (by decide +kernel)
theorem sm_L_addLanding : Cond.static yL_addLanding ∈ GW := gw 690 (by decide +kernel) (by decide +kernel)
theorem cl_L_30 : Cond.classLink RL 30 "java/lang/IllegalStateException" ∈ GW := gw 692 (by decide +kernel) (by decide +kernel)
theorem ml_L_27 : Cond.methodLink RL 27 yX8_addLanding ∈ GW := gw 693 (by decide +kernel) (by decide +kernel)
theorem im_X8_addLanding : Cond.instanceMethod yX8_addLanding ∈ GW := gw 694 (by decide +kernel) (by decide +kernel)
theorem se_X8_addLanding : Cond.selects RX8 yX8_addLanding yX8_addLanding ∈ GW := gw 695 (by decide +kernel) (by decide +kernel)
theorem co_X8_addLanding : Cond.code yX8_addLanding cX8_addLanding 4 (some .int) ∈ GW := gw 696 (by decide +kernel) (by decide +kernel)
theorem ml_X8_128 : Cond.methodLink RX8 128 yX8_needState ∈ GW := gw 697 (by decide +kernel) (by decide +kernel)
theorem sm_X8_needState : Cond.static yX8_needState ∈ GW := gw 698 (by decide +kernel) (by decide +kernel)
theorem co_X8_needState : Cond.code yX8_needState cX8_needState 1 none ∈ GW := gw 699 (by decide +kernel) (by decide +kernel)
theorem cl_X8_302 : Cond.classLink RX8 302 "java/lang/IllegalStateException" ∈ GW := gw 700 (by decide +kernel) (by decide +kernel)
theorem ml_X8_131 : Cond.methodLink RX8 131 yX3_add ∈ GW := gw 716 (by decide +kernel) (by decide +kernel)
theorem im_X3_add : Cond.instanceMethod yX3_add ∈ GW := gw 717 (by decide +kernel) (by decide +kernel)
theorem se_X3_add : Cond.selects RX3 yX3_add yX3_add ∈ GW := gw 718 (by decide +kernel) (by decide +kernel)
theorem co_X3_add : Cond.code yX3_add cX3_add 3 (some .int) ∈ GW := gw 719 (by decide +kernel) (by decide +kernel)
theorem ml_X3_24 : Cond.methodLink RX3 24 yX5_set ∈ GW := gw 720 (by decide +kernel) (by decide +kernel)
theorem ml_L_100 : Cond.methodLink RL 100 yL_launch ∈ GW := gw 721 (by decide +kernel) (by decide +kernel)
theorem sm_L_launch : Cond.static yL_launch ∈ GW := gw 722 (by decide +kernel) (by decide +kernel)
theorem ml_L_32 : Cond.methodLink RL 32 yX8_launch ∈ GW := gw 724 (by decide +kernel) (by decide +kernel)
theorem im_X8_launch : Cond.instanceMethod yX8_launch ∈ GW := gw 725 (by decide +kernel) (by decide +kernel)
theorem se_X8_launch : Cond.selects RX8 yX8_launch yX8_launch ∈ GW := gw 726 (by decide +kernel) (by decide +kernel)
theorem co_X8_launch : Cond.code yX8_launch cX8_launch 8 (some .int) ∈ GW := gw 727 (by decide +kernel) (by decide +kernel)
theorem ml_X8_134 : Cond.methodLink RX8 134 yX2_add ∈ GW := gw 728 (by decide +kernel) (by decide +kernel)
theorem im_X2_add : Cond.instanceMethod yX2_add ∈ GW := gw 729 (by decide +kernel) (by decide +kernel)
theorem se_X2_add : Cond.selects RX2 yX2_add yX2_add ∈ GW := gw 730 (by decide +kernel) (by decide +kernel)
theorem co_X2_add : Cond.code yX2_add cX2_add 4 (some .int) ∈ GW := gw 731 (by decide +kernel) (by decide +kernel)
theorem ml_X2_39 : Cond.methodLink RX2 39 yX5_set ∈ GW := gw 732 (by decide +kernel) (by decide +kernel)
theorem ml_X8_136 : Cond.methodLink RX8 136 yX2_fitOut ∈ GW := gw 733 (by decide +kernel) (by decide +kernel)
theorem im_X2_fitOut : Cond.instanceMethod yX2_fitOut ∈ GW := gw 734 (by decide +kernel) (by decide +kernel)
theorem se_X2_fitOut : Cond.selects RX2 yX2_fitOut yX2_fitOut ∈ GW := gw 735 (by decide +kernel) (by decide +kernel)
theorem co_X2_fitOut : Cond.code yX2_fitOut cX2_fitOut 6 none ∈ GW := gw 736 (by decide +kernel) (by decide +kernel)
theorem ml_X8_141 : Cond.methodLink RX8 141 yX6_place ∈ GW := gw 737 (by decide +kernel) (by decide +kernel)
theorem im_X6_place : Cond.instanceMethod yX6_place ∈ GW := gw 738 (by decide +kernel) (by decide +kernel)
theorem se_X6_place : Cond.selects RX6 yX6_place yX6_place ∈ GW := gw 739 (by decide +kernel) (by decide +kernel)
theorem co_X6_place : Cond.code yX6_place cX6_place 4 none ∈ GW := gw 740 (by decide +kernel) (by decide +kernel)
theorem ml_X6_67 : Cond.methodLink RX6 67 yX5_set ∈ GW := gw 741 (by decide +kernel) (by decide +kernel)
theorem ml_X8_145 : Cond.methodLink RX8 145 yX0_reckon ∈ GW := gw 742 (by decide +kernel) (by decide +kernel)
theorem ml_L_104 : Cond.methodLink RL 104 yL_setToll ∈ GW := gw 743 (by decide +kernel) (by decide +kernel)
theorem sm_L_setToll : Cond.static yL_setToll ∈ GW := gw 744 (by decide +kernel) (by decide +kernel)
theorem ml_L_36 : Cond.methodLink RL 36 yX8_setToll ∈ GW := gw 746 (by decide +kernel) (by decide +kernel)
theorem im_X8_setToll : Cond.instanceMethod yX8_setToll ∈ GW := gw 747 (by decide +kernel) (by decide +kernel)
theorem se_X8_setToll : Cond.selects RX8 yX8_setToll yX8_setToll ∈ GW := gw 748 (by decide +kernel) (by decide +kernel)
theorem co_X8_setToll : Cond.code yX8_setToll cX8_setToll 3 (some .int) ∈ GW := gw 749 (by decide +kernel) (by decide +kernel)
theorem ml_L_107 : Cond.methodLink RL 107 yL_punt ∈ GW := gw 750 (by decide +kernel) (by decide +kernel)
theorem sm_L_punt : Cond.static yL_punt ∈ GW := gw 751 (by decide +kernel) (by decide +kernel)
theorem ml_L_39 : Cond.methodLink RL 39 yX8_punt ∈ GW := gw 753 (by decide +kernel) (by decide +kernel)
theorem im_X8_punt : Cond.instanceMethod yX8_punt ∈ GW := gw 754 (by decide +kernel) (by decide +kernel)
theorem se_X8_punt : Cond.selects RX8 yX8_punt yX8_punt ∈ GW := gw 755 (by decide +kernel) (by decide +kernel)
theorem co_X8_punt : Cond.code yX8_punt cX8_punt 3 (some .int) ∈ GW := gw 756 (by decide +kernel) (by decide +kernel)
theorem ml_L_110 : Cond.methodLink RL 110 yL_addTraveller ∈ GW := gw 757 (by decide +kernel) (by decide +kernel)
theorem sm_L_addTraveller : Cond.static yL_addTraveller ∈ GW := gw 758 (by decide +kernel) (by decide +kernel)
theorem ml_L_42 : Cond.methodLink RL 42 yX8_addTraveller ∈ GW := gw 760 (by decide +kernel) (by decide +kernel)
theorem im_X8_addTraveller : Cond.instanceMethod yX8_addTraveller ∈ GW := gw 761 (by decide +kernel) (by decide +kernel)
theorem se_X8_addTraveller : Cond.selects RX8 yX8_addTraveller yX8_addTraveller ∈ GW := gw 762 (by decide +kernel) (by decide +kernel)
theorem co_X8_addTraveller : Cond.code yX8_addTraveller cX8_addTraveller 4 (some .int) ∈ GW := gw 763 (by decide +kernel) (by decide +kernel)
theorem ml_X8_186 : Cond.methodLink RX8 186 yX7_add ∈ GW := gw 764 (by decide +kernel) (by decide +kernel)
theorem im_X7_add : Cond.instanceMethod yX7_add ∈ GW := gw 765 (by decide +kernel) (by decide +kernel)
theorem se_X7_add : Cond.selects RX7 yX7_add yX7_add ∈ GW := gw 766 (by decide +kernel) (by decide +kernel)
theorem co_X7_add : Cond.code yX7_add cX7_add 5 (some .int) ∈ GW := gw 767 (by decide +kernel) (by decide +kernel)
theorem ml_X7_40 : Cond.methodLink RX7 40 yX5_set ∈ GW := gw 768 (by decide +kernel) (by decide +kernel)
theorem ml_L_113 : Cond.methodLink RL 113 yL_traveller ∈ GW := gw 769 (by decide +kernel) (by decide +kernel)
theorem sm_L_traveller : Cond.static yL_traveller ∈ GW := gw 770 (by decide +kernel) (by decide +kernel)
theorem ml_L_45 : Cond.methodLink RL 45 yX8_traveller ∈ GW := gw 772 (by decide +kernel) (by decide +kernel)
theorem im_X8_traveller : Cond.instanceMethod yX8_traveller ∈ GW := gw 773 (by decide +kernel) (by decide +kernel)
theorem se_X8_traveller : Cond.selects RX8 yX8_traveller yX8_traveller ∈ GW := gw 774 (by decide +kernel) (by decide +kernel)
theorem co_X8_traveller : Cond.code yX8_traveller cX8_traveller 3 (some .int) ∈ GW := gw 775 (by decide +kernel) (by decide +kernel)
theorem ml_L_116 : Cond.methodLink RL 116 yL_landing ∈ GW := gw 776 (by decide +kernel) (by decide +kernel)
theorem sm_L_landing : Cond.static yL_landing ∈ GW := gw 777 (by decide +kernel) (by decide +kernel)
theorem ml_L_48 : Cond.methodLink RL 48 yX8_landing ∈ GW := gw 779 (by decide +kernel) (by decide +kernel)
theorem im_X8_landing : Cond.instanceMethod yX8_landing ∈ GW := gw 780 (by decide +kernel) (by decide +kernel)
theorem se_X8_landing : Cond.selects RX8 yX8_landing yX8_landing ∈ GW := gw 781 (by decide +kernel) (by decide +kernel)
theorem co_X8_landing : Cond.code yX8_landing cX8_landing 3 (some .int) ∈ GW := gw 782 (by decide +kernel) (by decide +kernel)
theorem ml_L_119 : Cond.methodLink RL 119 yL_pass ∈ GW := gw 783 (by decide +kernel) (by decide +kernel)
theorem sm_L_pass : Cond.static yL_pass ∈ GW := gw 784 (by decide +kernel) (by decide +kernel)
theorem ml_L_51 : Cond.methodLink RL 51 yX8_pass ∈ GW := gw 786 (by decide +kernel) (by decide +kernel)
theorem im_X8_pass : Cond.instanceMethod yX8_pass ∈ GW := gw 787 (by decide +kernel) (by decide +kernel)
theorem se_X8_pass : Cond.selects RX8 yX8_pass yX8_pass ∈ GW := gw 788 (by decide +kernel) (by decide +kernel)
theorem co_X8_pass : Cond.code yX8_pass cX8_pass 4 (some .int) ∈ GW := gw 789 (by decide +kernel) (by decide +kernel)
theorem ml_X8_222 : Cond.methodLink RX8 222 yX6_goOn ∈ GW := gw 790 (by decide +kernel) (by decide +kernel)
theorem im_X6_goOn : Cond.instanceMethod yX6_goOn ∈ GW := gw 791 (by decide +kernel) (by decide +kernel)
theorem se_X6_goOn : Cond.selects RX6 yX6_goOn yX6_goOn ∈ GW := gw 792 (by decide +kernel) (by decide +kernel)
theorem co_X6_goOn : Cond.code yX6_goOn cX6_goOn 3 (some .int) ∈ GW := gw 793 (by decide +kernel) (by decide +kernel)
theorem ml_X6_127 : Cond.methodLink RX6 127 yX6_hasLanded ∈ GW := gw 794 (by decide +kernel) (by decide +kernel)
theorem im_X6_hasLanded : Cond.instanceMethod yX6_hasLanded ∈ GW := gw 796 (by decide +kernel) (by decide +kernel)
theorem co_X6_hasLanded : Cond.code yX6_hasLanded cX6_hasLanded 2 (some .boolean) ∈ GW := gw 797 (by decide +kernel) (by decide +kernel)
theorem ml_X6_130 : Cond.methodLink RX6 130 yX6_turnRound ∈ GW := gw 798 (by decide +kernel) (by decide +kernel)
theorem im_X6_turnRound : Cond.instanceMethod yX6_turnRound ∈ GW := gw 800 (by decide +kernel) (by decide +kernel)
theorem co_X6_turnRound : Cond.code yX6_turnRound cX6_turnRound 4 (some .int) ∈ GW := gw 801 (by decide +kernel) (by decide +kernel)
theorem ml_X6_139 : Cond.methodLink RX6 139 yX7_getOut ∈ GW := gw 802 (by decide +kernel) (by decide +kernel)
theorem im_X7_getOut : Cond.instanceMethod yX7_getOut ∈ GW := gw 803 (by decide +kernel) (by decide +kernel)
theorem se_X7_getOut : Cond.selects RX7 yX7_getOut yX7_getOut ∈ GW := gw 804 (by decide +kernel) (by decide +kernel)
theorem co_X7_getOut : Cond.code yX7_getOut cX7_getOut 6 (some .int) ∈ GW := gw 805 (by decide +kernel) (by decide +kernel)
theorem ml_X6_142 : Cond.methodLink RX6 142 yX2_otherEnd ∈ GW := gw 806 (by decide +kernel) (by decide +kernel)
theorem ml_X6_145 : Cond.methodLink RX6 145 yX6_load ∈ GW := gw 807 (by decide +kernel) (by decide +kernel)
theorem im_X6_load : Cond.instanceMethod yX6_load ∈ GW := gw 809 (by decide +kernel) (by decide +kernel)
theorem co_X6_load : Cond.code yX6_load cX6_load 6 none ∈ GW := gw 810 (by decide +kernel) (by decide +kernel)
theorem ml_X6_155 : Cond.methodLink RX6 155 yX6_takes ∈ GW := gw 811 (by decide +kernel) (by decide +kernel)
theorem im_X6_takes : Cond.instanceMethod yX6_takes ∈ GW := gw 813 (by decide +kernel) (by decide +kernel)
theorem co_X6_takes : Cond.code yX6_takes cX6_takes 4 (some .boolean) ∈ GW := gw 814 (by decide +kernel) (by decide +kernel)
theorem ml_X6_169 : Cond.methodLink RX6 169 yX7_waitsAt ∈ GW := gw 815 (by decide +kernel) (by decide +kernel)
theorem ml_X6_172 : Cond.methodLink RX6 172 yX0_firstPunt ∈ GW := gw 816 (by decide +kernel) (by decide +kernel)
theorem im_X0_firstPunt : Cond.instanceMethod yX0_firstPunt ∈ GW := gw 817 (by decide +kernel) (by decide +kernel)
theorem se_X0_firstPunt : Cond.selects RX0 yX0_firstPunt yX0_firstPunt ∈ GW := gw 818 (by decide +kernel) (by decide +kernel)
theorem co_X0_firstPunt : Cond.code yX0_firstPunt cX0_firstPunt 3 (some .int) ∈ GW := gw 819 (by decide +kernel) (by decide +kernel)
theorem ml_X6_162 : Cond.methodLink RX6 162 yX7_getIn ∈ GW := gw 820 (by decide +kernel) (by decide +kernel)
theorem im_X7_getIn : Cond.instanceMethod yX7_getIn ∈ GW := gw 821 (by decide +kernel) (by decide +kernel)
theorem se_X7_getIn : Cond.selects RX7 yX7_getIn yX7_getIn ∈ GW := gw 822 (by decide +kernel) (by decide +kernel)
theorem co_X7_getIn : Cond.code yX7_getIn cX7_getIn 4 none ∈ GW := gw 823 (by decide +kernel) (by decide +kernel)
theorem ml_X7_48 : Cond.methodLink RX7 48 yX5_add ∈ GW := gw 824 (by decide +kernel) (by decide +kernel)
theorem im_X5_add : Cond.instanceMethod yX5_add ∈ GW := gw 825 (by decide +kernel) (by decide +kernel)
theorem se_X5_add : Cond.selects RX5 yX5_add yX5_add ∈ GW := gw 826 (by decide +kernel) (by decide +kernel)
theorem co_X5_add : Cond.code yX5_add cX5_add 3 none ∈ GW := gw 827 (by decide +kernel) (by decide +kernel)
theorem ml_X6_166 : Cond.methodLink RX6 166 yX5_add ∈ GW := gw 828 (by decide +kernel) (by decide +kernel)
theorem ml_X6_133 : Cond.methodLink RX6 133 yX6_stepOn ∈ GW := gw 829 (by decide +kernel) (by decide +kernel)
theorem im_X6_stepOn : Cond.instanceMethod yX6_stepOn ∈ GW := gw 831 (by decide +kernel) (by decide +kernel)
theorem co_X6_stepOn : Cond.code yX6_stepOn cX6_stepOn 4 none ∈ GW := gw 832 (by decide +kernel) (by decide +kernel)
theorem ml_X6_175 : Cond.methodLink RX6 175 yX1_nextStep ∈ GW := gw 833 (by decide +kernel) (by decide +kernel)
theorem im_X1_nextStep : Cond.instanceMethod yX1_nextStep ∈ GW := gw 834 (by decide +kernel) (by decide +kernel)
theorem se_X1_nextStep : Cond.selects RX1 yX1_nextStep yX1_nextStep ∈ GW := gw 835 (by decide +kernel) (by decide +kernel)
theorem co_X1_nextStep : Cond.code yX1_nextStep cX1_nextStep 6 (some .int) ∈ GW := gw 836 (by decide +kernel) (by decide +kernel)
theorem ml_X1_64 : Cond.methodLink RX1 64 yX1_way ∈ GW := gw 837 (by decide +kernel) (by decide +kernel)
theorem ml_L_123 : Cond.methodLink RL 123 yL_count ∈ GW := gw 838 (by decide +kernel) (by decide +kernel)
theorem sm_L_count : Cond.static yL_count ∈ GW := gw 839 (by decide +kernel) (by decide +kernel)
theorem ml_L_55 : Cond.methodLink RL 55 yX8_count ∈ GW := gw 841 (by decide +kernel) (by decide +kernel)
theorem im_X8_count : Cond.instanceMethod yX8_count ∈ GW := gw 842 (by decide +kernel) (by decide +kernel)
theorem se_X8_count : Cond.selects RX8 yX8_count yX8_count ∈ GW := gw 843 (by decide +kernel) (by decide +kernel)
theorem co_X8_count : Cond.code yX8_count cX8_count 2 (some .int) ∈ GW := gw 844 (by decide +kernel) (by decide +kernel)
theorem ml_L_126 : Cond.methodLink RL 126 yL_crossing ∈ GW := gw 845 (by decide +kernel) (by decide +kernel)
theorem sm_L_crossing : Cond.static yL_crossing ∈ GW := gw 846 (by decide +kernel) (by decide +kernel)
theorem ml_L_58 : Cond.methodLink RL 58 yX8_crossing ∈ GW := gw 848 (by decide +kernel) (by decide +kernel)
theorem im_X8_crossing : Cond.instanceMethod yX8_crossing ∈ GW := gw 849 (by decide +kernel) (by decide +kernel)
theorem se_X8_crossing : Cond.selects RX8 yX8_crossing yX8_crossing ∈ GW := gw 850 (by decide +kernel) (by decide +kernel)
theorem co_X8_crossing : Cond.code yX8_crossing cX8_crossing 3 (some .int) ∈ GW := gw 851 (by decide +kernel) (by decide +kernel)
theorem ml_X8_249 : Cond.methodLink RX8 249 yX8_crossingAt ∈ GW := gw 852 (by decide +kernel) (by decide +kernel)
theorem im_X8_crossingAt : Cond.instanceMethod yX8_crossingAt ∈ GW := gw 854 (by decide +kernel) (by decide +kernel)
theorem co_X8_crossingAt : Cond.code yX8_crossingAt cX8_crossingAt 4 (some .int) ∈ GW := gw 855 (by decide +kernel) (by decide +kernel)
theorem ml_X8_255 : Cond.methodLink RX8 255 yX1_chartOf ∈ GW := gw 856 (by decide +kernel) (by decide +kernel)
theorem ml_X8_261 : Cond.methodLink RX8 261 yX1_way ∈ GW := gw 857 (by decide +kernel) (by decide +kernel)
theorem ml_L_129 : Cond.methodLink RL 129 yL_opens ∈ GW := gw 858 (by decide +kernel) (by decide +kernel)
theorem sm_L_opens : Cond.static yL_opens ∈ GW := gw 859 (by decide +kernel) (by decide +kernel)
theorem ml_L_61 : Cond.methodLink RL 61 yX8_opens ∈ GW := gw 861 (by decide +kernel) (by decide +kernel)
theorem im_X8_opens : Cond.instanceMethod yX8_opens ∈ GW := gw 862 (by decide +kernel) (by decide +kernel)
theorem se_X8_opens : Cond.selects RX8 yX8_opens yX8_opens ∈ GW := gw 863 (by decide +kernel) (by decide +kernel)
theorem co_X8_opens : Cond.code yX8_opens cX8_opens 3 (some .int) ∈ GW := gw 864 (by decide +kernel) (by decide +kernel)
theorem ml_L_132 : Cond.methodLink RL 132 yL_chain ∈ GW := gw 865 (by decide +kernel) (by decide +kernel)
theorem sm_L_chain : Cond.static yL_chain ∈ GW := gw 866 (by decide +kernel) (by decide +kernel)
theorem ml_L_64 : Cond.methodLink RL 64 yX8_chain ∈ GW := gw 868 (by decide +kernel) (by decide +kernel)
theorem im_X8_chain : Cond.instanceMethod yX8_chain ∈ GW := gw 869 (by decide +kernel) (by decide +kernel)
theorem se_X8_chain : Cond.selects RX8 yX8_chain yX8_chain ∈ GW := gw 870 (by decide +kernel) (by decide +kernel)
theorem co_X8_chain : Cond.code yX8_chain cX8_chain 4 (some .int) ∈ GW := gw 871 (by decide +kernel) (by decide +kernel)
theorem ml_X8_264 : Cond.methodLink RX8 264 yX0_length ∈ GW := gw 872 (by decide +kernel) (by decide +kernel)
theorem ml_X8_267 : Cond.methodLink RX8 267 yX0_firstPunt ∈ GW := gw 873 (by decide +kernel) (by decide +kernel)
theorem ml_X8_270 : Cond.methodLink RX8 270 yX0_leastTolls ∈ GW := gw 874 (by decide +kernel) (by decide +kernel)
theorem im_X0_leastTolls : Cond.instanceMethod yX0_leastTolls ∈ GW := gw 875 (by decide +kernel) (by decide +kernel)
theorem se_X0_leastTolls : Cond.selects RX0 yX0_leastTolls yX0_leastTolls ∈ GW := gw 876 (by decide +kernel) (by decide +kernel)
theorem co_X0_leastTolls : Cond.code yX0_leastTolls cX0_leastTolls 6 (some .int) ∈ GW := gw 877 (by decide +kernel) (by decide +kernel)
theorem ml_X0_81 : Cond.methodLink RX0 81 yX0_cheapestFrom ∈ GW := gw 878 (by decide +kernel) (by decide +kernel)
theorem im_X0_cheapestFrom : Cond.instanceMethod yX0_cheapestFrom ∈ GW := gw 880 (by decide +kernel) (by decide +kernel)
theorem co_X0_cheapestFrom : Cond.code yX0_cheapestFrom cX0_cheapestFrom 6 (some .int) ∈ GW := gw 881 (by decide +kernel) (by decide +kernel)
theorem ml_X0_87 : Cond.methodLink RX0 87 Lib.Math.min.name ∈ GW := gw 882 (by decide +kernel) (by decide +kernel)
theorem sm_M_min : Cond.static Lib.Math.min.name ∈ GW := gw 883 (by decide +kernel) (by decide +kernel)
theorem co_M_min : Cond.code Lib.Math.min.name Lib.Math.min.code 2 (some .int) ∈ GW := gw 884 (by decide +kernel) (by decide +kernel)
theorem ml_L_135 : Cond.methodLink RL 135 yL_aground ∈ GW := gw 885 (by decide +kernel) (by decide +kernel)
theorem sm_L_aground : Cond.static yL_aground ∈ GW := gw 886 (by decide +kernel) (by decide +kernel)
theorem ml_L_67 : Cond.methodLink RL 67 yX8_aground ∈ GW := gw 888 (by decide +kernel) (by decide +kernel)
theorem im_X8_aground : Cond.instanceMethod yX8_aground ∈ GW := gw 889 (by decide +kernel) (by decide +kernel)
theorem se_X8_aground : Cond.selects RX8 yX8_aground yX8_aground ∈ GW := gw 890 (by decide +kernel) (by decide +kernel)
theorem co_X8_aground : Cond.code yX8_aground cX8_aground 4 (some .int) ∈ GW := gw 891 (by decide +kernel) (by decide +kernel)
theorem ml_X8_273 : Cond.methodLink RX8 273 yX6_takeOver ∈ GW := gw 892 (by decide +kernel) (by decide +kernel)
theorem im_X6_takeOver : Cond.instanceMethod yX6_takeOver ∈ GW := gw 893 (by decide +kernel) (by decide +kernel)
theorem se_X6_takeOver : Cond.selects RX6 yX6_takeOver yX6_takeOver ∈ GW := gw 894 (by decide +kernel) (by decide +kernel)
theorem co_X6_takeOver : Cond.code yX6_takeOver cX6_takeOver 2 none ∈ GW := gw 895 (by decide +kernel) (by decide +kernel)
theorem ml_X6_60 : Cond.methodLink RX6 60 yX5_takeOver ∈ GW := gw 896 (by decide +kernel) (by decide +kernel)
theorem im_X5_takeOver : Cond.instanceMethod yX5_takeOver ∈ GW := gw 897 (by decide +kernel) (by decide +kernel)
theorem se_X5_takeOver : Cond.selects RX5 yX5_takeOver yX5_takeOver ∈ GW := gw 898 (by decide +kernel) (by decide +kernel)
theorem co_X5_takeOver : Cond.code yX5_takeOver cX5_takeOver 3 none ∈ GW := gw 899 (by decide +kernel) (by decide +kernel)
theorem ml_X6_64 : Cond.methodLink RX6 64 yX7_takeOver ∈ GW := gw 900 (by decide +kernel) (by decide +kernel)
theorem im_X7_takeOver : Cond.instanceMethod yX7_takeOver ∈ GW := gw 901 (by decide +kernel) (by decide +kernel)
theorem se_X7_takeOver : Cond.selects RX7 yX7_takeOver yX7_takeOver ∈ GW := gw 902 (by decide +kernel) (by decide +kernel)
theorem co_X7_takeOver : Cond.code yX7_takeOver cX7_takeOver 2 none ∈ GW := gw 903 (by decide +kernel) (by decide +kernel)
theorem ml_X7_36 : Cond.methodLink RX7 36 yX5_takeOver ∈ GW := gw 904 (by decide +kernel) (by decide +kernel)
theorem ml_L_138 : Cond.methodLink RL 138 yL_arrives ∈ GW := gw 905 (by decide +kernel) (by decide +kernel)
theorem sm_L_arrives : Cond.static yL_arrives ∈ GW := gw 906 (by decide +kernel) (by decide +kernel)
theorem ml_L_70 : Cond.methodLink RL 70 yX8_arrives ∈ GW := gw 908 (by decide +kernel) (by decide +kernel)
theorem im_X8_arrives : Cond.instanceMethod yX8_arrives ∈ GW := gw 909 (by decide +kernel) (by decide +kernel)
theorem se_X8_arrives : Cond.selects RX8 yX8_arrives yX8_arrives ∈ GW := gw 910 (by decide +kernel) (by decide +kernel)
theorem co_X8_arrives : Cond.code yX8_arrives cX8_arrives 3 (some .int) ∈ GW := gw 911 (by decide +kernel) (by decide +kernel)
theorem cl_L_74 : Cond.classLink RL 74 RX9 ∈ GW := gw 912 (by decide +kernel) (by decide +kernel)
theorem it_X9 : Cond.instantiable RX9 15 ∈ GW := gw 913 (by decide +kernel) (by decide +kernel)
theorem ml_L_76 : Cond.methodLink RL 76 yX9_init ∈ GW := gw 914 (by decide +kernel) (by decide +kernel)
theorem im_X9_init : Cond.instanceMethod yX9_init ∈ GW := gw 915 (by decide +kernel) (by decide +kernel)
theorem co_X9_init : Cond.code yX9_init cX9_init 2 none ∈ GW := gw 916 (by decide +kernel) (by decide +kernel)
theorem ml_X9_1 : Cond.methodLink RX9 1 objectInit ∈ GW := gw 917 (by decide +kernel) (by decide +kernel)
theorem fl_X9_40 : Cond.fieldLink RX9 40 "FloodFerryModel" "thrown" "I" ∈ GW := gw 918 (by decide +kernel) (by decide +kernel)
theorem fl_X9_9 : Cond.fieldLink RX9 9 "FloodFerryModel" "ground" "[I" ∈ GW := gw 919 (by decide +kernel) (by decide +kernel)
theorem fl_X9_13 : Cond.fieldLink RX9 13 "FloodFerryModel" "stakes" "[I" ∈ GW := gw 920 (by decide +kernel) (by decide +kernel)
theorem fl_X9_16 : Cond.fieldLink RX9 16 "FloodFerryModel" "water" "[I" ∈ GW := gw 921 (by decide +kernel) (by decide +kernel)
theorem fl_X9_48 : Cond.fieldLink RX9 48 "FloodFerryModel" "landings" "I" ∈ GW := gw 922 (by decide +kernel) (by decide +kernel)
theorem fl_X9_19 : Cond.fieldLink RX9 19 "FloodFerryModel" "cells" "[I" ∈ GW := gw 923 (by decide +kernel) (by decide +kernel)
theorem fl_X9_51 : Cond.fieldLink RX9 51 "FloodFerryModel" "punts" "I" ∈ GW := gw 924 (by decide +kernel) (by decide +kernel)
theorem fl_X9_22 : Cond.fieldLink RX9 22 "FloodFerryModel" "made" "[I" ∈ GW := gw 925 (by decide +kernel) (by decide +kernel)
theorem fl_X9_113 : Cond.fieldLink RX9 113 "FloodFerryModel" "travellers" "I" ∈ GW := gw 926 (by decide +kernel) (by decide +kernel)
theorem fl_X9_54 : Cond.fieldLink RX9 54 "FloodFerryModel" "hour" "I" ∈ GW := gw 927 (by decide +kernel) (by decide +kernel)
theorem fl_X9_25 : Cond.fieldLink RX9 25 "FloodFerryModel" "going" "[I" ∈ GW := gw 928 (by decide +kernel) (by decide +kernel)
theorem fl_X9_28 : Cond.fieldLink RX9 28 "FloodFerryModel" "people" "[I" ∈ GW := gw 929 (by decide +kernel) (by decide +kernel)
theorem fl_X9_31 : Cond.fieldLink RX9 31 "FloodFerryModel" "wave" "[I" ∈ GW := gw 930 (by decide +kernel) (by decide +kernel)
theorem fl_X9_34 : Cond.fieldLink RX9 34 "FloodFerryModel" "few" "[I" ∈ GW := gw 931 (by decide +kernel) (by decide +kernel)
theorem fl_X9_37 : Cond.fieldLink RX9 37 "FloodFerryModel" "tolls" "[I" ∈ GW := gw 932 (by decide +kernel) (by decide +kernel)
theorem ml_L_83 : Cond.methodLink RL 83 yX9_thrown ∈ GW := gw 964 (by decide +kernel) (by decide +kernel)
theorem im_X9_thrown : Cond.instanceMethod yX9_thrown ∈ GW := gw 965 (by decide +kernel) (by decide +kernel)
theorem se_X9_thrown : Cond.selects RX9 yX9_thrown yX9_thrown ∈ GW := gw 966 (by decide +kernel) (by decide +kernel)
theorem co_X9_thrown : Cond.code yX9_thrown cX9_thrown 1 (some .int) ∈ GW := gw 967 (by decide +kernel) (by decide +kernel)
theorem ml_L_82 : Cond.methodLink RL 82 yX9_setGround ∈ GW := gw 968 (by decide +kernel) (by decide +kernel)
theorem im_X9_setGround : Cond.instanceMethod yX9_setGround ∈ GW := gw 969 (by decide +kernel) (by decide +kernel)
theorem se_X9_setGround : Cond.selects RX9 yX9_setGround yX9_setGround ∈ GW := gw 970 (by decide +kernel) (by decide +kernel)
theorem co_X9_setGround : Cond.code yX9_setGround cX9_setGround 5 (some .int) ∈ GW := gw 971 (by decide +kernel) (by decide +kernel)
theorem ml_X9_69 : Cond.methodLink RX9 69 yX9_isCell ∈ GW := gw 972 (by decide +kernel) (by decide +kernel)
theorem sm_X9_isCell : Cond.static yX9_isCell ∈ GW := gw 973 (by decide +kernel) (by decide +kernel)
theorem co_X9_isCell : Cond.code yX9_isCell cX9_isCell 2 (some .boolean) ∈ GW := gw 974 (by decide +kernel) (by decide +kernel)
theorem ml_X9_44 : Cond.methodLink RX9 44 yX9_isIn ∈ GW := gw 975 (by decide +kernel) (by decide +kernel)
theorem sm_X9_isIn : Cond.static yX9_isIn ∈ GW := gw 976 (by decide +kernel) (by decide +kernel)
theorem co_X9_isIn : Cond.code yX9_isIn cX9_isIn 3 (some .boolean) ∈ GW := gw 977 (by decide +kernel) (by decide +kernel)
theorem ml_X9_73 : Cond.methodLink RX9 73 yX9_fail ∈ GW := gw 978 (by decide +kernel) (by decide +kernel)
theorem im_X9_fail : Cond.instanceMethod yX9_fail ∈ GW := gw 980 (by decide +kernel) (by decide +kernel)
theorem co_X9_fail : Cond.code yX9_fail cX9_fail 2 (some .int) ∈ GW := gw 981 (by decide +kernel) (by decide +kernel)
theorem ml_L_90 : Cond.methodLink RL 90 yX9_setWater ∈ GW := gw 982 (by decide +kernel) (by decide +kernel)
theorem im_X9_setWater : Cond.instanceMethod yX9_setWater ∈ GW := gw 983 (by decide +kernel) (by decide +kernel)
theorem se_X9_setWater : Cond.selects RX9 yX9_setWater yX9_setWater ∈ GW := gw 984 (by decide +kernel) (by decide +kernel)
theorem co_X9_setWater : Cond.code yX9_setWater cX9_setWater 4 (some .int) ∈ GW := gw 985 (by decide +kernel) (by decide +kernel)
theorem ml_L_93 : Cond.methodLink RL 93 yX9_setStake ∈ GW := gw 986 (by decide +kernel) (by decide +kernel)
theorem im_X9_setStake : Cond.instanceMethod yX9_setStake ∈ GW := gw 987 (by decide +kernel) (by decide +kernel)
theorem se_X9_setStake : Cond.selects RX9 yX9_setStake yX9_setStake ∈ GW := gw 988 (by decide +kernel) (by decide +kernel)
theorem co_X9_setStake : Cond.code yX9_setStake cX9_setStake 5 (some .int) ∈ GW := gw 989 (by decide +kernel) (by decide +kernel)
theorem ml_L_96 : Cond.methodLink RL 96 yX9_cell ∈ GW := gw 990 (by decide +kernel) (by decide +kernel)
theorem im_X9_cell : Cond.instanceMethod yX9_cell ∈ GW := gw 991 (by decide +kernel) (by decide +kernel)
theorem se_X9_cell : Cond.selects RX9 yX9_cell yX9_cell ∈ GW := gw 992 (by decide +kernel) (by decide +kernel)
theorem co_X9_cell : Cond.code yX9_cell cX9_cell 4 (some .int) ∈ GW := gw 993 (by decide +kernel) (by decide +kernel)
theorem ml_X9_87 : Cond.methodLink RX9 87 yX9_cellTold ∈ GW := gw 994 (by decide +kernel) (by decide +kernel)
theorem im_X9_cellTold : Cond.instanceMethod yX9_cellTold ∈ GW := gw 996 (by decide +kernel) (by decide +kernel)
theorem co_X9_cellTold : Cond.code yX9_cellTold cX9_cellTold 5 (some .int) ∈ GW := gw 997 (by decide +kernel) (by decide +kernel)
theorem ml_X9_77 : Cond.methodLink RX9 77 yX9_go ∈ GW := gw 998 (by decide +kernel) (by decide +kernel)
theorem im_X9_go : Cond.instanceMethod yX9_go ∈ GW := gw 1000 (by decide +kernel) (by decide +kernel)
theorem co_X9_go : Cond.code yX9_go cX9_go 3 (some .int) ∈ GW := gw 1001 (by decide +kernel) (by decide +kernel)
theorem ml_X9_80 : Cond.methodLink RX9 80 yX9_level ∈ GW := gw 1002 (by decide +kernel) (by decide +kernel)
theorem im_X9_level : Cond.instanceMethod yX9_level ∈ GW := gw 1004 (by decide +kernel) (by decide +kernel)
theorem co_X9_level : Cond.code yX9_level cX9_level 1 (some .int) ∈ GW := gw 1005 (by decide +kernel) (by decide +kernel)
theorem ml_X9_63 : Cond.methodLink RX9 63 yX9_depth ∈ GW := gw 1006 (by decide +kernel) (by decide +kernel)
theorem im_X9_depth : Cond.instanceMethod yX9_depth ∈ GW := gw 1008 (by decide +kernel) (by decide +kernel)
theorem co_X9_depth : Cond.code yX9_depth cX9_depth 3 (some .int) ∈ GW := gw 1009 (by decide +kernel) (by decide +kernel)
theorem ml_X9_57 : Cond.methodLink RX9 57 Lib.Math.max.name ∈ GW := gw 1010 (by decide +kernel) (by decide +kernel)
theorem ml_X9_84 : Cond.methodLink RX9 84 yX9_landingAt ∈ GW := gw 1011 (by decide +kernel) (by decide +kernel)
theorem im_X9_landingAt : Cond.instanceMethod yX9_landingAt ∈ GW := gw 1013 (by decide +kernel) (by decide +kernel)
theorem co_X9_landingAt : Cond.code yX9_landingAt cX9_landingAt 3 (some .int) ∈ GW := gw 1014 (by decide +kernel) (by decide +kernel)
theorem ml_L_99 : Cond.methodLink RL 99 yX9_addLanding ∈ GW := gw 1015 (by decide +kernel) (by decide +kernel)
theorem im_X9_addLanding : Cond.instanceMethod yX9_addLanding ∈ GW := gw 1016 (by decide +kernel) (by decide +kernel)
theorem se_X9_addLanding : Cond.selects RX9 yX9_addLanding yX9_addLanding ∈ GW := gw 1017 (by decide +kernel) (by decide +kernel)
theorem co_X9_addLanding : Cond.code yX9_addLanding cX9_addLanding 3 (some .int) ∈ GW := gw 1018 (by decide +kernel) (by decide +kernel)
theorem ml_L_103 : Cond.methodLink RL 103 yX9_launch ∈ GW := gw 1019 (by decide +kernel) (by decide +kernel)
theorem im_X9_launch : Cond.instanceMethod yX9_launch ∈ GW := gw 1020 (by decide +kernel) (by decide +kernel)
theorem se_X9_launch : Cond.selects RX9 yX9_launch yX9_launch ∈ GW := gw 1021 (by decide +kernel) (by decide +kernel)
theorem co_X9_launch : Cond.code yX9_launch cX9_launch 8 (some .int) ∈ GW := gw 1022 (by decide +kernel) (by decide +kernel)
theorem ml_X9_90 : Cond.methodLink RX9 90 yX9_isLanding ∈ GW := gw 1023 (by decide +kernel) (by decide +kernel)
theorem im_X9_isLanding : Cond.instanceMethod yX9_isLanding ∈ GW := gw 1025 (by decide +kernel) (by decide +kernel)
theorem co_X9_isLanding : Cond.code yX9_isLanding cX9_isLanding 2 (some .boolean) ∈ GW := gw 1026 (by decide +kernel) (by decide +kernel)
theorem ml_X9_100 : Cond.methodLink RX9 100 yX9_setGo ∈ GW := gw 1030 (by decide +kernel) (by decide +kernel)
theorem im_X9_setGo : Cond.instanceMethod yX9_setGo ∈ GW := gw 1032 (by decide +kernel) (by decide +kernel)
theorem co_X9_setGo : Cond.code yX9_setGo cX9_setGo 4 none ∈ GW := gw 1033 (by decide +kernel) (by decide +kernel)
theorem ml_L_106 : Cond.methodLink RL 106 yX9_setToll ∈ GW := gw 1034 (by decide +kernel) (by decide +kernel)
theorem im_X9_setToll : Cond.instanceMethod yX9_setToll ∈ GW := gw 1035 (by decide +kernel) (by decide +kernel)
theorem se_X9_setToll : Cond.selects RX9 yX9_setToll yX9_setToll ∈ GW := gw 1036 (by decide +kernel) (by decide +kernel)
theorem co_X9_setToll : Cond.code yX9_setToll cX9_setToll 4 (some .int) ∈ GW := gw 1037 (by decide +kernel) (by decide +kernel)
theorem ml_X9_104 : Cond.methodLink RX9 104 yX9_isPunt ∈ GW := gw 1038 (by decide +kernel) (by decide +kernel)
theorem im_X9_isPunt : Cond.instanceMethod yX9_isPunt ∈ GW := gw 1040 (by decide +kernel) (by decide +kernel)
theorem co_X9_isPunt : Cond.code yX9_isPunt cX9_isPunt 2 (some .boolean) ∈ GW := gw 1041 (by decide +kernel) (by decide +kernel)
theorem ml_X9_66 : Cond.methodLink RX9 66 yX9_pu ∈ GW := gw 1042 (by decide +kernel) (by decide +kernel)
theorem im_X9_pu : Cond.instanceMethod yX9_pu ∈ GW := gw 1044 (by decide +kernel) (by decide +kernel)
theorem co_X9_pu : Cond.code yX9_pu cX9_pu 3 (some .int) ∈ GW := gw 1045 (by decide +kernel) (by decide +kernel)
theorem ml_L_109 : Cond.methodLink RL 109 yX9_punt ∈ GW := gw 1046 (by decide +kernel) (by decide +kernel)
theorem im_X9_punt : Cond.instanceMethod yX9_punt ∈ GW := gw 1047 (by decide +kernel) (by decide +kernel)
theorem se_X9_punt : Cond.selects RX9 yX9_punt yX9_punt ∈ GW := gw 1048 (by decide +kernel) (by decide +kernel)
theorem co_X9_punt : Cond.code yX9_punt cX9_punt 3 (some .int) ∈ GW := gw 1049 (by decide +kernel) (by decide +kernel)
theorem ml_X9_131 : Cond.methodLink RX9 131 yX9_puntTold ∈ GW := gw 1050 (by decide +kernel) (by decide +kernel)
theorem im_X9_puntTold : Cond.instanceMethod yX9_puntTold ∈ GW := gw 1052 (by decide +kernel) (by decide +kernel)
theorem co_X9_puntTold : Cond.code yX9_puntTold cX9_puntTold 3 (some .int) ∈ GW := gw 1053 (by decide +kernel) (by decide +kernel)
theorem ml_X9_119 : Cond.methodLink RX9 119 yX9_ridersOf ∈ GW := gw 1054 (by decide +kernel) (by decide +kernel)
theorem im_X9_ridersOf : Cond.instanceMethod yX9_ridersOf ∈ GW := gw 1056 (by decide +kernel) (by decide +kernel)
theorem co_X9_ridersOf : Cond.code yX9_ridersOf cX9_ridersOf 4 (some .int) ∈ GW := gw 1057 (by decide +kernel) (by decide +kernel)
theorem ml_X9_116 : Cond.methodLink RX9 116 yX9_who ∈ GW := gw 1058 (by decide +kernel) (by decide +kernel)
theorem im_X9_who : Cond.instanceMethod yX9_who ∈ GW := gw 1060 (by decide +kernel) (by decide +kernel)
theorem co_X9_who : Cond.code yX9_who cX9_who 3 (some .int) ∈ GW := gw 1061 (by decide +kernel) (by decide +kernel)
theorem ml_X9_122 : Cond.methodLink RX9 122 yX9_isAground ∈ GW := gw 1062 (by decide +kernel) (by decide +kernel)
theorem im_X9_isAground : Cond.instanceMethod yX9_isAground ∈ GW := gw 1064 (by decide +kernel) (by decide +kernel)
theorem co_X9_isAground : Cond.code yX9_isAground cX9_isAground 2 (some .boolean) ∈ GW := gw 1065 (by decide +kernel) (by decide +kernel)
theorem ml_X9_107 : Cond.methodLink RX9 107 yX9_floats ∈ GW := gw 1066 (by decide +kernel) (by decide +kernel)
theorem im_X9_floats : Cond.instanceMethod yX9_floats ∈ GW := gw 1068 (by decide +kernel) (by decide +kernel)
theorem co_X9_floats : Cond.code yX9_floats cX9_floats 4 (some .boolean) ∈ GW := gw 1069 (by decide +kernel) (by decide +kernel)
theorem ml_X9_125 : Cond.methodLink RX9 125 yX9_boundCell ∈ GW := gw 1070 (by decide +kernel) (by decide +kernel)
theorem im_X9_boundCell : Cond.instanceMethod yX9_boundCell ∈ GW := gw 1072 (by decide +kernel) (by decide +kernel)
theorem co_X9_boundCell : Cond.code yX9_boundCell cX9_boundCell 2 (some .int) ∈ GW := gw 1073 (by decide +kernel) (by decide +kernel)
theorem ml_X9_128 : Cond.methodLink RX9 128 yX9_look ∈ GW := gw 1074 (by decide +kernel) (by decide +kernel)
theorem im_X9_look : Cond.instanceMethod yX9_look ∈ GW := gw 1076 (by decide +kernel) (by decide +kernel)
theorem co_X9_look : Cond.code yX9_look cX9_look 9 none ∈ GW := gw 1077 (by decide +kernel) (by decide +kernel)
theorem ml_X9_110 : Cond.methodLink RX9 110 yX9_beside ∈ GW := gw 1078 (by decide +kernel) (by decide +kernel)
theorem sm_X9_beside : Cond.static yX9_beside ∈ GW := gw 1079 (by decide +kernel) (by decide +kernel)
theorem co_X9_beside : Cond.code yX9_beside cX9_beside 2 (some .int) ∈ GW := gw 1080 (by decide +kernel) (by decide +kernel)
theorem ml_L_112 : Cond.methodLink RL 112 yX9_addTraveller ∈ GW := gw 1081 (by decide +kernel) (by decide +kernel)
theorem im_X9_addTraveller : Cond.instanceMethod yX9_addTraveller ∈ GW := gw 1082 (by decide +kernel) (by decide +kernel)
theorem se_X9_addTraveller : Cond.selects RX9 yX9_addTraveller yX9_addTraveller ∈ GW := gw 1083 (by decide +kernel) (by decide +kernel)
theorem co_X9_addTraveller : Cond.code yX9_addTraveller cX9_addTraveller 5 (some .int) ∈ GW := gw 1084 (by decide +kernel) (by decide +kernel)
theorem ml_L_115 : Cond.methodLink RL 115 yX9_traveller ∈ GW := gw 1085 (by decide +kernel) (by decide +kernel)
theorem im_X9_traveller : Cond.instanceMethod yX9_traveller ∈ GW := gw 1086 (by decide +kernel) (by decide +kernel)
theorem se_X9_traveller : Cond.selects RX9 yX9_traveller yX9_traveller ∈ GW := gw 1087 (by decide +kernel) (by decide +kernel)
theorem co_X9_traveller : Cond.code yX9_traveller cX9_traveller 3 (some .int) ∈ GW := gw 1088 (by decide +kernel) (by decide +kernel)
theorem ml_X9_150 : Cond.methodLink RX9 150 yX9_travellerTold ∈ GW := gw 1089 (by decide +kernel) (by decide +kernel)
theorem im_X9_travellerTold : Cond.instanceMethod yX9_travellerTold ∈ GW := gw 1091 (by decide +kernel) (by decide +kernel)
theorem co_X9_travellerTold : Cond.code yX9_travellerTold cX9_travellerTold 3 (some .int) ∈ GW := gw 1092 (by decide +kernel) (by decide +kernel)
theorem ml_X9_144 : Cond.methodLink RX9 144 yX9_hasCome ∈ GW := gw 1093 (by decide +kernel) (by decide +kernel)
theorem im_X9_hasCome : Cond.instanceMethod yX9_hasCome ∈ GW := gw 1095 (by decide +kernel) (by decide +kernel)
theorem co_X9_hasCome : Cond.code yX9_hasCome cX9_hasCome 2 (some .boolean) ∈ GW := gw 1096 (by decide +kernel) (by decide +kernel)
theorem ml_X9_147 : Cond.methodLink RX9 147 yX9_chainFrom ∈ GW := gw 1097 (by decide +kernel) (by decide +kernel)
theorem im_X9_chainFrom : Cond.instanceMethod yX9_chainFrom ∈ GW := gw 1099 (by decide +kernel) (by decide +kernel)
theorem co_X9_chainFrom : Cond.code yX9_chainFrom cX9_chainFrom 3 (some .int) ∈ GW := gw 1100 (by decide +kernel) (by decide +kernel)
theorem ml_X9_140 : Cond.methodLink RX9 140 yX9_link ∈ GW := gw 1101 (by decide +kernel) (by decide +kernel)
theorem im_X9_link : Cond.instanceMethod yX9_link ∈ GW := gw 1103 (by decide +kernel) (by decide +kernel)
theorem co_X9_link : Cond.code yX9_link cX9_link 7 none ∈ GW := gw 1104 (by decide +kernel) (by decide +kernel)
theorem ml_X9_134 : Cond.methodLink RX9 134 yX9_across ∈ GW := gw 1105 (by decide +kernel) (by decide +kernel)
theorem im_X9_across : Cond.instanceMethod yX9_across ∈ GW := gw 1107 (by decide +kernel) (by decide +kernel)
theorem co_X9_across : Cond.code yX9_across cX9_across 3 (some .int) ∈ GW := gw 1108 (by decide +kernel) (by decide +kernel)
theorem ml_X9_137 : Cond.methodLink RX9 137 Lib.Math.min.name ∈ GW := gw 1109 (by decide +kernel) (by decide +kernel)
theorem ml_L_118 : Cond.methodLink RL 118 yX9_landing ∈ GW := gw 1110 (by decide +kernel) (by decide +kernel)
theorem im_X9_landing : Cond.instanceMethod yX9_landing ∈ GW := gw 1111 (by decide +kernel) (by decide +kernel)
theorem se_X9_landing : Cond.selects RX9 yX9_landing yX9_landing ∈ GW := gw 1112 (by decide +kernel) (by decide +kernel)
theorem co_X9_landing : Cond.code yX9_landing cX9_landing 3 (some .int) ∈ GW := gw 1113 (by decide +kernel) (by decide +kernel)
theorem ml_X9_153 : Cond.methodLink RX9 153 yX9_landingTold ∈ GW := gw 1114 (by decide +kernel) (by decide +kernel)
theorem im_X9_landingTold : Cond.instanceMethod yX9_landingTold ∈ GW := gw 1116 (by decide +kernel) (by decide +kernel)
theorem co_X9_landingTold : Cond.code yX9_landingTold cX9_landingTold 5 (some .int) ∈ GW := gw 1117 (by decide +kernel) (by decide +kernel)
theorem ml_L_122 : Cond.methodLink RL 122 yX9_pass ∈ GW := gw 1118 (by decide +kernel) (by decide +kernel)
theorem im_X9_pass : Cond.instanceMethod yX9_pass ∈ GW := gw 1119 (by decide +kernel) (by decide +kernel)
theorem se_X9_pass : Cond.selects RX9 yX9_pass yX9_pass ∈ GW := gw 1120 (by decide +kernel) (by decide +kernel)
theorem co_X9_pass : Cond.code yX9_pass cX9_pass 4 (some .int) ∈ GW := gw 1121 (by decide +kernel) (by decide +kernel)
theorem ml_X9_168 : Cond.methodLink RX9 168 yX9_hourOn ∈ GW := gw 1122 (by decide +kernel) (by decide +kernel)
theorem im_X9_hourOn : Cond.instanceMethod yX9_hourOn ∈ GW := gw 1124 (by decide +kernel) (by decide +kernel)
theorem co_X9_hourOn : Cond.code yX9_hourOn cX9_hourOn 3 (some .int) ∈ GW := gw 1125 (by decide +kernel) (by decide +kernel)
theorem ml_X9_162 : Cond.methodLink RX9 162 yX9_land ∈ GW := gw 1126 (by decide +kernel) (by decide +kernel)
theorem im_X9_land : Cond.instanceMethod yX9_land ∈ GW := gw 1128 (by decide +kernel) (by decide +kernel)
theorem co_X9_land : Cond.code yX9_land cX9_land 6 (some .int) ∈ GW := gw 1129 (by decide +kernel) (by decide +kernel)
theorem ml_X9_156 : Cond.methodLink RX9 156 yX9_setWho ∈ GW := gw 1130 (by decide +kernel) (by decide +kernel)
theorem im_X9_setWho : Cond.instanceMethod yX9_setWho ∈ GW := gw 1132 (by decide +kernel) (by decide +kernel)
theorem co_X9_setWho : Cond.code yX9_setWho cX9_setWho 4 none ∈ GW := gw 1133 (by decide +kernel) (by decide +kernel)
theorem ml_X9_159 : Cond.methodLink RX9 159 yX9_takes ∈ GW := gw 1134 (by decide +kernel) (by decide +kernel)
theorem im_X9_takes : Cond.instanceMethod yX9_takes ∈ GW := gw 1136 (by decide +kernel) (by decide +kernel)
theorem co_X9_takes : Cond.code yX9_takes cX9_takes 5 (some .int) ∈ GW := gw 1137 (by decide +kernel) (by decide +kernel)
theorem ml_X9_165 : Cond.methodLink RX9 165 yX9_step ∈ GW := gw 1138 (by decide +kernel) (by decide +kernel)
theorem im_X9_step : Cond.instanceMethod yX9_step ∈ GW := gw 1140 (by decide +kernel) (by decide +kernel)
theorem co_X9_step : Cond.code yX9_step cX9_step 5 none ∈ GW := gw 1141 (by decide +kernel) (by decide +kernel)
theorem ml_L_125 : Cond.methodLink RL 125 yX9_count ∈ GW := gw 1142 (by decide +kernel) (by decide +kernel)
theorem im_X9_count : Cond.instanceMethod yX9_count ∈ GW := gw 1143 (by decide +kernel) (by decide +kernel)
theorem se_X9_count : Cond.selects RX9 yX9_count yX9_count ∈ GW := gw 1144 (by decide +kernel) (by decide +kernel)
theorem co_X9_count : Cond.code yX9_count cX9_count 2 (some .int) ∈ GW := gw 1145 (by decide +kernel) (by decide +kernel)
theorem ml_X9_171 : Cond.methodLink RX9 171 yX9_counted ∈ GW := gw 1146 (by decide +kernel) (by decide +kernel)
theorem im_X9_counted : Cond.instanceMethod yX9_counted ∈ GW := gw 1148 (by decide +kernel) (by decide +kernel)
theorem co_X9_counted : Cond.code yX9_counted cX9_counted 4 (some .int) ∈ GW := gw 1149 (by decide +kernel) (by decide +kernel)
theorem ml_L_128 : Cond.methodLink RL 128 yX9_crossing ∈ GW := gw 1150 (by decide +kernel) (by decide +kernel)
theorem im_X9_crossing : Cond.instanceMethod yX9_crossing ∈ GW := gw 1151 (by decide +kernel) (by decide +kernel)
theorem se_X9_crossing : Cond.selects RX9 yX9_crossing yX9_crossing ∈ GW := gw 1152 (by decide +kernel) (by decide +kernel)
theorem co_X9_crossing : Cond.code yX9_crossing cX9_crossing 3 (some .int) ∈ GW := gw 1153 (by decide +kernel) (by decide +kernel)
theorem ml_X9_174 : Cond.methodLink RX9 174 yX9_crossingAt ∈ GW := gw 1154 (by decide +kernel) (by decide +kernel)
theorem im_X9_crossingAt : Cond.instanceMethod yX9_crossingAt ∈ GW := gw 1156 (by decide +kernel) (by decide +kernel)
theorem co_X9_crossingAt : Cond.code yX9_crossingAt cX9_crossingAt 3 (some .int) ∈ GW := gw 1157 (by decide +kernel) (by decide +kernel)
theorem ml_L_131 : Cond.methodLink RL 131 yX9_opens ∈ GW := gw 1158 (by decide +kernel) (by decide +kernel)
theorem im_X9_opens : Cond.instanceMethod yX9_opens ∈ GW := gw 1159 (by decide +kernel) (by decide +kernel)
theorem se_X9_opens : Cond.selects RX9 yX9_opens yX9_opens ∈ GW := gw 1160 (by decide +kernel) (by decide +kernel)
theorem co_X9_opens : Cond.code yX9_opens cX9_opens 3 (some .int) ∈ GW := gw 1161 (by decide +kernel) (by decide +kernel)
theorem ml_L_134 : Cond.methodLink RL 134 yX9_chain ∈ GW := gw 1162 (by decide +kernel) (by decide +kernel)
theorem im_X9_chain : Cond.instanceMethod yX9_chain ∈ GW := gw 1163 (by decide +kernel) (by decide +kernel)
theorem se_X9_chain : Cond.selects RX9 yX9_chain yX9_chain ∈ GW := gw 1164 (by decide +kernel) (by decide +kernel)
theorem co_X9_chain : Cond.code yX9_chain cX9_chain 4 (some .int) ∈ GW := gw 1165 (by decide +kernel) (by decide +kernel)
theorem ml_L_137 : Cond.methodLink RL 137 yX9_aground ∈ GW := gw 1166 (by decide +kernel) (by decide +kernel)
theorem im_X9_aground : Cond.instanceMethod yX9_aground ∈ GW := gw 1167 (by decide +kernel) (by decide +kernel)
theorem se_X9_aground : Cond.selects RX9 yX9_aground yX9_aground ∈ GW := gw 1168 (by decide +kernel) (by decide +kernel)
theorem co_X9_aground : Cond.code yX9_aground cX9_aground 6 (some .int) ∈ GW := gw 1169 (by decide +kernel) (by decide +kernel)
theorem ml_X9_182 : Cond.methodLink RX9 182 yX9_kept ∈ GW := gw 1170 (by decide +kernel) (by decide +kernel)
theorem im_X9_kept : Cond.instanceMethod yX9_kept ∈ GW := gw 1172 (by decide +kernel) (by decide +kernel)
theorem cl_X9_177 : Cond.classLink RX9 177 "[I" ∈ GW := gw 1174 (by decide +kernel) (by decide +kernel)
theorem ml_X9_186 : Cond.methodLink RX9 186 yX9_bringBack ∈ GW := gw 1182 (by decide +kernel) (by decide +kernel)
theorem im_X9_bringBack : Cond.instanceMethod yX9_bringBack ∈ GW := gw 1184 (by decide +kernel) (by decide +kernel)
theorem co_X9_bringBack : Cond.code yX9_bringBack cX9_bringBack 2 none ∈ GW := gw 1185 (by decide +kernel) (by decide +kernel)
theorem ml_L_140 : Cond.methodLink RL 140 yX9_arrives ∈ GW := gw 1186 (by decide +kernel) (by decide +kernel)
theorem im_X9_arrives : Cond.instanceMethod yX9_arrives ∈ GW := gw 1187 (by decide +kernel) (by decide +kernel)
theorem se_X9_arrives : Cond.selects RX9 yX9_arrives yX9_arrives ∈ GW := gw 1188 (by decide +kernel) (by decide +kernel)
theorem co_X9_arrives : Cond.code yX9_arrives cX9_arrives 4 (some .int) ∈ GW := gw 1189 (by decide +kernel) (by decide +kernel)
theorem ml_L_145 : Cond.methodLink RL 145 yX9_mean ∈ GW := gw 1190 (by decide +kernel) (by decide +kernel)
theorem im_X9_mean : Cond.instanceMethod yX9_mean ∈ GW := gw 1191 (by decide +kernel) (by decide +kernel)
theorem se_X9_mean : Cond.selects RX9 yX9_mean yX9_mean ∈ GW := gw 1192 (by decide +kernel) (by decide +kernel)
theorem co_X9_mean : Cond.code yX9_mean cX9_mean 3 (some .double) ∈ GW := gw 1193 (by decide +kernel) (by decide +kernel)
theorem kc_X9_190 : Cond.constantDouble RX9 190 4641100153493651456 ∈ GW := gw 1194 (by decide +kernel) (by decide +kernel)
theorem ml_L_150 : Cond.methodLink RL 150 yX9_digest ∈ GW := gw 1195 (by decide +kernel) (by decide +kernel)
theorem im_X9_digest : Cond.instanceMethod yX9_digest ∈ GW := gw 1196 (by decide +kernel) (by decide +kernel)
theorem se_X9_digest : Cond.selects RX9 yX9_digest yX9_digest ∈ GW := gw 1197 (by decide +kernel) (by decide +kernel)
theorem co_X9_digest : Cond.code yX9_digest cX9_digest 5 (some .long) ∈ GW := gw 1198 (by decide +kernel) (by decide +kernel)
theorem kc_X9_192 : Cond.constantLong RX9 192 557 ∈ GW := gw 1199 (by decide +kernel) (by decide +kernel)
theorem kc_X9_194 : Cond.constantLong RX9 194 31 ∈ GW := gw 1200 (by decide +kernel) (by decide +kernel)
theorem ac_long : Cond.arrayClass .long ∈ GW := gw 1201 (by decide +kernel) (by decide +kernel)
theorem us_X0 : ∀ w ∈ u_ws RX0 TX0 4, w ∈ GW := gw_sub _ [231, 233, 235, 237] (by decide +kernel) (by decide +kernel)
theorem us_X1 : ∀ w ∈ u_ws RX1 TX1 6, w ∈ GW := gw_sub _ [255, 257, 259, 261, 263, 265] (by decide +kernel) (by decide +kernel)
theorem us_X2 : ∀ w ∈ u_ws RX2 TX2 7, w ∈ GW := gw_sub _ [162, 164, 166, 168, 170, 172, 174] (by decide +kernel) (by decide +kernel)
theorem us_X3 : ∀ w ∈ u_ws RX3 TX3 2, w ∈ GW := gw_sub _ [130, 132] (by decide +kernel) (by decide +kernel)
theorem us_X4 : ∀ w ∈ u_ws RX4 TX4 3, w ∈ GW := gw_sub _ [109, 111, 113] (by decide +kernel) (by decide +kernel)
theorem us_X5 : ∀ w ∈ u_ws RX5 TX5 1, w ∈ GW := gw_sub _ [92] (by decide +kernel) (by decide +kernel)
theorem us_X6 : ∀ w ∈ u_ws RX6 TX6 11, w ∈ GW := gw_sub _ [331, 333, 335, 337, 339, 341, 343, 345, 347, 349, 351] (by decide +kernel) (by decide +kernel)
theorem us_X7 : ∀ w ∈ u_ws RX7 TX7 6, w ∈ GW := gw_sub _ [301, 303, 305, 307, 309, 311] (by decide +kernel) (by decide +kernel)
theorem us_X8 : ∀ w ∈ u_ws RX8 TX8 7, w ∈ GW := gw_sub _ [361, 363, 365, 367, 369, 371, 373] (by decide +kernel) (by decide +kernel)
theorem us_X9 : ∀ w ∈ u_ws RX9 TX9 15, w ∈ GW := gw_sub _ [933, 935, 937, 939, 941, 943, 945, 947, 949, 951, 953, 955, 957, 959, 961] (by decide +kernel) (by decide +kernel)
end
section
/-! THE OWN LAYER: one word list for all methods; the world of the class as one map from places to cells. -/
abbrev Mem : Type := Nat → Nat → Int32
abbrev Adr : Type := Nat → Nat
/-- the map of places: 0..33 int rows (25..33 the second traffic's), 40.. the Row objects, 80..89 the other objects -/
def inX (k : Nat) : Bool := (Nat.ble 10 k && Nat.ble k 15) || (Nat.ble 25 k && Nat.ble k 33) || k == 87 || k == 88
def me (S X : Mem) (k : Nat) : Nat → Int32 := if inX k = true then X k else S k
def ln (k : Nat) : Nat := match k with
  | 0 => 196 | 1 => 196 | 2 => 12 | 3 => 8
  | 4 => 6 | 5 => 6 | 6 => 6 | 7 => 6 | 8 => 6 | 9 => 6
  | 10 => 64 | 11 => 64 | 12 => 8 | 13 => 58800 | 14 => 300 | 15 => 196
  | 16 => 6 | 17 => 6 | 18 => 6 | 19 => 6 | 20 => 30 | 21 => 30 | 22 => 30 | 23 => 30 | 24 => 30
  | 25 => 6 | 26 => 6 | 27 => 6 | 28 => 6 | _ => 30
def ct (cA : ClassId) (a : Adr) (S X : Mem) (k : Nat) : va_E :=
  if k < 34 then .inl (cA, ln k, .inl (me S X k)) else if k < 74 then .inr (5, [.ref (a (k - 40))]) else match k with
  | 80 => .inr (4, [.ref (a 40), .ref (a 41), .ref (a 42)])
  | 81 => .inr (3, [.int (S 81 0), .ref (a 43)])
  | 82 => .inr (2, [.int (S 82 0), .ref (a 44), .ref (a 45), .ref (a 46), .ref (a 47), .ref (a 48), .ref (a 49)])
  | 83 => .inr (0, [.ref (a 82), .ref (a 50), .ref (a 51), .ref (a 52)])
  | 84 => .inr (1, [.ref (a 80), .ref (a 81), .ref (a 82), .ref (a 53), .ref (a 54), .ref (a 55)])
  | 85 => .inr (7, [.int (S 85 0), .ref (a 60), .ref (a 61), .ref (a 62), .ref (a 63), .ref (a 64)])
  | 86 => .inr (6, [.ref (a 80), .ref (a 81), .ref (a 82), .ref (a 83), .ref (a 84), .int (S 86 0), .ref (a 56), .ref (a 57), .ref (a 58), .ref (a 59), .ref (a 85)])
  | 87 => .inr (7, [.int (X 87 0), .ref (a 69), .ref (a 70), .ref (a 71), .ref (a 72), .ref (a 73)])
  | 88 => .inr (6, [.ref (a 80), .ref (a 81), .ref (a 82), .ref (a 83), .ref (a 84), .int (X 88 0), .ref (a 65), .ref (a 66), .ref (a 67), .ref (a 68), .ref (a 87)])
  | _ => .inr (8, [.ref (a 80), .ref (a 81), .ref (a 82), .ref (a 83), .ref (a 84), .ref (a 86), .ref (a 88)])
/-- the heap holds the cells of the places I -/
def WP (D : va_G) (cA : ClassId) (a : Adr) (S X : Mem) (I : Nat → Prop) (H : Heap) : Prop := ∀ k, I k → va_at D vwCl (a k, ct cA a S X k) H
/-- the cells that a method may change -/
def AI (a : Adr) (I : Nat → Prop) : Nat → Prop := fun q => ∃ k, I k ∧ a k = q
/-- the places n are among I, which are the class's own and lie apart -/
def Hd (n : List Nat) (a : Adr) (I : Nat → Prop) : Prop := (∀ k ∈ n, I k) ∧ (∀ k, I k → k < 90) ∧ ∀ i j, I i → I j → a i = a j → i = j
theorem Hd.sub {n n' : List Nat} {a : Adr} {I : Nat → Prop} (h : Hd n a I) (hs : ∀ k ∈ n', k ∈ n) : Hd n' a I := ⟨fun k hk => h.1 k (hs k hk), h.2⟩
def nest46 : Cond := .methodLinkNest RX4 46 yX8_rowOf RX8
def nest49 : Cond := .methodLinkNest RX4 49 yX8_columnOf RX8
/-- what is known of the tables -/
def KK (D : va_G) (cA : ClassId) (U : State) : Prop := va_K D vwCl [(cA, .int)] U ∧ va_Nw nest46 U ∧ va_Nw nest49 U
theorem KK.warm {D : va_G} {cA : ClassId} {s U : State} (h : KK D cA s) (hW : s.WarmedH U.vm) : KK D cA U := ⟨va_K.moved hW.alike h.1, va_Nw.warmM hW h.2.1, va_Nw.warmM hW h.2.2⟩
theorem KK.same {D : va_G} {cA : ClassId} {s U : State} (h : KK D cA s) (hvm : s.vm = U.vm) : KK D cA U := ⟨va_K.moved (by rw [hvm]; exact Vm.Alike.refl _) h.1, va_Nw.same rfl hvm h.2.1, va_Nw.same rfl hvm h.2.2⟩
/-- a method's start -/
def PC (D : va_G) (cA : ClassId) (a : Adr) (S X : Mem) (I : Nat → Prop) (av : List Value) : Array Value → State → Prop := va_Pc av (fun U => WP D cA a S X I U.heap ∧ KK D cA U)
theorem PC.blind {D : va_G} {cA : ClassId} {a : Adr} {S X : Mem} {I : Nat → Prop} {av : List Value} : FrameBlind (PC D cA a S X I av) := fun _ _ _ _ h => ⟨h.1, h.2.1, h.2.2.same rfl⟩
abbrev WB (D : va_G) (cA : ClassId) (a : Adr) (I : Nat → Prop) : Mem × Mem → State → Prop := fun u t => WP D cA a u.1 u.2 I t.heap
/-- the ends: an int, a long, nothing; the worlds behind them -/
def QpI (D : va_G) (cA : ClassId) (a : Adr) (I : Nat → Prop) (post : Int32 → Mem → Mem → Prop) : Array Value → State → Outcome → State → Prop := va_Qi (fun r (u : Mem × Mem) => post r u.1 u.2) (WB D cA a I) (AI a I)
def QpL (D : va_G) (cA : ClassId) (a : Adr) (I : Nat → Prop) (post : Int64 → Mem → Mem → Prop) : Array Value → State → Outcome → State → Prop := va_Ql (fun r (u : Mem × Mem) => post r u.1 u.2) (WB D cA a I) (AI a I)
def QpV (D : va_G) (cA : ClassId) (a : Adr) (I : Nat → Prop) (post : Mem → Mem → Prop) : Array Value → State → Outcome → State → Prop := va_Qv (fun (u : Mem × Mem) => post u.1 u.2) (WB D cA a I) (AI a I)
/-- contracts: an int (or boolean), a long, nothing -/
def MI (l : Launch) (y : MethodName) (cc : ByteArray) (n : Nat) (ret : Option FieldType) (fr lo : Nat) (D : va_G) (cA : ClassId) (a : Adr) (S X : Mem) (I : Nat → Prop) (av : List Value) (post : Int32 → Mem → Mem → Prop) : Prop :=
  Met l y (.code y cc n ret :: GW) { frames := fr, cells := 0, slots := 0, locals := lo } (PC D cA a S X I av) (QpI D cA a I post) 0 0 (AI a I)
def ML (l : Launch) (y : MethodName) (cc : ByteArray) (n : Nat) (ret : Option FieldType) (fr lo : Nat) (D : va_G) (cA : ClassId) (a : Adr) (S X : Mem) (I : Nat → Prop) (av : List Value) (post : Int64 → Mem → Mem → Prop) : Prop :=
  Met l y (.code y cc n ret :: GW) { frames := fr, cells := 0, slots := 0, locals := lo } (PC D cA a S X I av) (QpL D cA a I post) 0 0 (AI a I)
def MV (l : Launch) (y : MethodName) (cc : ByteArray) (n : Nat) (ret : Option FieldType) (fr lo : Nat) (D : va_G) (cA : ClassId) (a : Adr) (S X : Mem) (I : Nat → Prop) (av : List Value) (post : Mem → Mem → Prop) : Prop :=
  Met l y (.code y cc n ret :: GW) { frames := fr, cells := 0, slots := 0, locals := lo } (PC D cA a S X I av) (QpV D cA a I post) 0 0 (AI a I)
section OWN
variable {p : Program} {l : Launch} {e : Env} {R : Room} {s : State} {m : MethodId} {args : Array Value} {below : List Frame} {meth : Method} {c : Code} {H : Heap} {locs : List Loc} {cells slots : Nat} {Q : State → Prop}
variable {cc : ByteArray} {nL : Nat} {own : String} {pc : Nat} {ls : Array Slot} {rest : List Value} {D : va_G} {cA : ClassId} {a : Adr} {S X : Mem} {I : Nat → Prop} {H0 : Heap}
theorem va_at.P1 {cl : List vw_C} {q : Nat × va_E} (h : va_at D cl q H) : va_P D cl [q] H := by
  intro k q' hk
  match k, hk with
  | 0, hk => cases hk; exact h
  | k + 1, hk => simp at hk
/-- the start of a body -/
theorem mGo {y : MethodName} {n : Nat} {ret : Option FieldType} {rm : Room} {av : List Value} {Qc : Array Value → State → Outcome → State → Prop} {free : Addr → Prop} (hy : plainName y.cls = true) (hav : (lg_sl av).length ≤ n)
    (body : ∀ (p : Program) (e : Env) (s : State) (m : MethodId) (args : Array Value) (below : List Frame) (meth : Method) (c : Code) (ls : Array Slot), CallFix p m c cc n s args GW y.cls → meth.sig.returnType = ret → meth.locks = false → KK D cA s → WP D cA a S X I s.heap → va_S (AI a I) s.heap s.heap [] → lv_has ls n (lv_args 0 av) → args = av.toArray →
      W p l e rm s m args below meth c s.heap [] 0 0 (MQ below Qc args s 0 0 free) (F0 m 0 ls [])) :
    Met l y (.code y cc n ret :: GW) rm (PC D cA a S X I av) Qc 0 0 free := by
  refine Met.ofW (cc := cc) (maxL := n) (ret := ret) hy rfl ?_
  intro p e s m args below meth c s₁ B hml hv
  obtain ⟨rfl, hP, hK⟩ := hv
  have hts := atoms_spec (ws := .code y cc n ret :: GW) B.pre
  have hl := lv_entry av (n := n) hav
  rw [lg_entry_eq]
  exact body p e s m _ below meth c _ ⟨B.exec, B.bytes, hml, findClass_of_methodNamed B.named, fun w h => hts w (List.mem_cons_of_mem _ h)⟩ B.returns B.notSynchronized hK hP va_S.rf hl rfl
theorem retI {post : Int32 → Mem → Mem → Prop} {v : Int32} {S1 X1 : Mem} (C0 : CallFix p m c cc nL s args GW own) (hr : meth.sig.returnType = some .int) (hlk : meth.locks = false) (hP : WP D cA a S1 X1 I H) (hS : va_S (AI a I) s.heap H locs) (hp : post v S1 X1) (hdg : decode cc pc = .ok (.ireturn, 1)) :
    W p l e R s m args below meth c H locs 0 0 (MQ below (QpI D cA a I post) args s 0 0 (AI a I)) (F0 m pc ls [.int v]) :=
  W.iret C0.1 C0.2.1 hr (fun t ht _ => ⟨⟨v, (S1, X1), rfl, hp, by show WP D cA a S1 X1 I t.heap; rw [ht]; exact hP⟩, hS.F ht⟩) hS.2.2 hdg hlk
theorem retZ {post : Int32 → Mem → Mem → Prop} {v : Int32} {S1 X1 : Mem} (C0 : CallFix p m c cc nL s args GW own) (hr : meth.sig.returnType = some .boolean) (hlk : meth.locks = false) (hP : WP D cA a S1 X1 I H) (hS : va_S (AI a I) s.heap H locs) (hn : narrow .boolean (.int v) = .int v) (hp : post v S1 X1) (hdg : decode cc pc = .ok (.ireturn, 1)) :
    W p l e R s m args below meth c H locs 0 0 (MQ below (QpI D cA a I post) args s 0 0 (AI a I)) (F0 m pc ls [.int v]) :=
  W.zret C0.1 C0.2.1 hr hn (fun t ht _ => ⟨⟨v, (S1, X1), rfl, hp, by show WP D cA a S1 X1 I t.heap; rw [ht]; exact hP⟩, hS.F ht⟩) hS.2.2 hdg hlk
theorem retL {post : Int64 → Mem → Mem → Prop} {v : Int64} {S1 X1 : Mem} (C0 : CallFix p m c cc nL s args GW own) (hr : meth.sig.returnType = some .long) (hlk : meth.locks = false) (hP : WP D cA a S1 X1 I H) (hS : va_S (AI a I) s.heap H locs) (hp : post v S1 X1) (hdg : decode cc pc = .ok (.lreturn, 1)) :
    W p l e R s m args below meth c H locs 0 0 (MQ below (QpL D cA a I post) args s 0 0 (AI a I)) (F0 m pc ls [.long v]) :=
  W.lret C0.1 C0.2.1 hr (fun t ht _ => ⟨⟨v, (S1, X1), rfl, hp, by show WP D cA a S1 X1 I t.heap; rw [ht]; exact hP⟩, hS.F ht⟩) hS.2.2 hdg hlk
theorem retV {post : Mem → Mem → Prop} {S1 X1 : Mem} (C0 : CallFix p m c cc nL s args GW own) (hr : meth.sig.returnType = none) (hlk : meth.locks = false) (hP : WP D cA a S1 X1 I H) (hS : va_S (AI a I) s.heap H locs) (hp : post S1 X1) (hdg : decode cc pc = .ok (.return_, 1)) :
    W p l e R s m args below meth c H locs 0 0 (MQ below (QpV D cA a I post) args s 0 0 (AI a I)) (F0 m pc ls []) :=
  W.vret C0.1 C0.2.1 hr (fun t ht _ => ⟨⟨(S1, X1), rfl, hp, by show WP D cA a S1 X1 I t.heap; rw [ht]; exact hP⟩, hS.F ht⟩) hS.2.2 hdg hlk
/-- getfield of a place's object -/
theorem gf {b ci : Nat} {fs : List Value} {C : String} {T : u_T} {N : Nat} (C0 : CallFix p m c cc nL s args GW own) (hK : KK D cA s) (h : va_at D vwCl (b, .inr (ci, fs)) H) (hin : ∀ w ∈ u_ws C T N, w ∈ GW) (hc : vwCl[ci]? = some (C, T, N)) (j : Nat) (hj : j < N) {idx : Nat}
    (hlink : Cond.fieldLink own idx (T j).1 (T j).2.1 (T j).2.2.1 ∈ GW) {v : Value} (hv : fs[j]? = some v) (hdg : decode cc pc = .ok (.getfield idx, 3))
    (kk : W p l e R s m args below meth c H locs cells slots Q (F0 m (pc + 3) ls (v :: rest))) : W p l e R s m args below meth c H locs cells slots Q (F0 m pc ls (.ref b :: rest)) :=
  va_get C0.1 C0.2.1 C0.2.2.2.2 hin C0.2.2.2.1 hK.1 h.P1 0 rfl hc j hj (C0.2.2.2.2 _ hlink) (fun _ h9 => h9) hv hdg kk
/-- an int row's element and length -/
theorem ald {b n : Nat} {f : Nat → Int32} (C0 : CallFix p m c cc nL s args GW own) (hK : KK D cA s) (h : va_at D vwCl (b, .inl (cA, n, .inl f)) H) {i : Int32} (hin : vp_in i n) (hdg : decode cc pc = .ok (.iaload, 1))
    (kk : W p l e R s m args below meth c H locs cells slots Q (F0 m (pc + 1) ls (.int (f i.toNatClampNeg) :: rest))) : W p l e R s m args below meth c H locs cells slots Q (F0 m pc ls (.int i :: .ref b :: rest)) :=
  va_iald C0.1 C0.2.1 hK.1 h.P1 0 0 rfl rfl hin hdg kk
theorem alen {b n : Nat} {f : Nat → Int32} (C0 : CallFix p m c cc nL s args GW own) (hK : KK D cA s) (h : va_at D vwCl (b, .inl (cA, n, .inl f)) H) (hdg : decode cc pc = .ok (.arraylength, 1))
    (kk : W p l e R s m args below meth c H locs cells slots Q (F0 m (pc + 1) ls (.int (nI n) :: rest))) : W p l e R s m args below meth c H locs cells slots Q (F0 m pc ls (.ref b :: rest)) :=
  va_alen C0.1 C0.2.1 hK.1 h.P1 0 0 rfl rfl rfl hdg kk
end OWN
def up (S : Mem) (k : Nat) (f : Nat → Int32) : Mem := fun j => if j = k then f else S j
theorem up_ne {S : Mem} {k j : Nat} {f : Nat → Int32} (h : j ≠ k) : up S k f j = S j := if_neg h
theorem up_eq {S : Mem} {k : Nat} {f : Nat → Int32} : up S k f k = f := if_pos rfl
/-- a row or a number written: in the one memory or in the other -/
def wS (S : Mem) (k : Nat) (f : Nat → Int32) : Mem := if inX k = true then S else up S k f
def wX (X : Mem) (k : Nat) (f : Nat → Int32) : Mem := if inX k = true then up X k f else X
theorem me_eq (S X : Mem) (k : Nat) (f : Nat → Int32) : me (wS S k f) (wX X k f) k = f := by
  unfold me wS wX
  cases inX k <;> simp [up]
theorem me_ne (S X : Mem) {k j : Nat} (f : Nat → Int32) (h : j ≠ k) : me (wS S k f) (wX X k f) j = me S X j := by
  unfold me wS wX
  cases inX k <;> cases inX j <;> simp [up, h]
/-- what a place holds hangs on the memory at that place alone -/
theorem ct_ne (cA : ClassId) (a : Adr) (S X : Mem) {k j : Nat} (f : Nat → Int32) (h : j ≠ k) : ct cA a (wS S k f) (wX X k f) j = ct cA a S X j := by
  have hs : ∀ i, i ≠ k → wS S k f i = S i := fun i hi => by unfold wS; cases inX k <;> simp [up, hi]
  have hx : ∀ i, i ≠ k → wX X k f i = X i := fun i hi => by unfold wX; cases inX k <;> simp [up, hi]
  unfold ct
  rw [me_ne S X f h]
  split
  · rfl
  · split
    · rfl
    · split <;> first | rfl | rw [hs _ h] | rw [hx _ h]
theorem WP.set {D : va_G} {cA : ClassId} {a : Adr} {S X : Mem} {I : Nat → Prop} {H H1 : Heap} (h : WP D cA a S X I H) (hinj : ∀ i j, I i → I j → a i = a j → i = j) {k : Nat} (hk : I k) (f : Nat → Int32) (he : va_at D vwCl (a k, ct cA a (wS S k f) (wX X k f) k) H1) (hq : ∀ q : Nat, q ≠ a k → H1[q]? = H[q]?) : WP D cA a (wS S k f) (wX X k f) I H1 := by
  intro j hj
  by_cases hjk : j = k
  · subst hjk; exact he
  · rw [ct_ne cA a S X f hjk]
    exact (h j hj).kept (hq _ (fun h1 => hjk (hinj j k hj hk h1)))
theorem ct_arr (cA : ClassId) (a : Adr) (S X : Mem) {k : Nat} (hk : k < 34) : ct cA a S X k = .inl (cA, ln k, .inl (me S X k)) := if_pos hk
theorem ct_row (cA : ClassId) (a : Adr) (S X : Mem) {k : Nat} (hk : k < 34) : ct cA a S X (40 + k) = .inr (5, [.ref (a k)]) := by
  unfold ct
  rw [if_neg (by omega), if_pos (by omega), show 40 + k - 40 = k from by omega]
end
section
section OWN2
variable {p : Program} {l : Launch} {e : Env} {R : Room} {s : State} {m : MethodId} {args : Array Value} {below : List Frame} {meth : Method} {c : Code} {H : Heap} {locs : List Loc} {cells slots : Nat} {Q : State → Prop}
variable {cc : ByteArray} {nL : Nat} {own : String} {pc : Nat} {ls : Array Slot} {rest : List Value} {D : va_G} {cA : ClassId} {a : Adr} {S X : Mem} {I : Nat → Prop} {H0 : Heap}
/-- an int row written at a place of it -/
theorem ast {k : Nat} (hk34 : k < 34) (C0 : CallFix p m c cc nL s args GW own) (hK : KK D cA s) (hP : WP D cA a S X I H) (hS : va_S (AI a I) H0 H locs) (hk : I k) (hinj : ∀ i j, I i → I j → a i = a j → i = j) {i x : Int32} (hin : vp_in i (ln k)) (hdg : decode cc pc = .ok (.iastore, 1))
    (kk : ∀ (H1 : Heap) (locs1 : List Loc), WP D cA a (wS S k (upd (me S X k) i.toNatClampNeg x)) (wX X k (upd (me S X k) i.toNatClampNeg x)) I H1 → va_S (AI a I) H0 H1 locs1 → W p l e R s m args below meth c H1 locs1 cells slots Q (F0 m (pc + 1) ls rest)) : W p l e R s m args below meth c H locs cells slots Q (F0 m pc ls (.int x :: .int i :: .ref (a k) :: rest)) := by
  have hat : H[a k]? = some (vp_cell cA (ln k, .inl (me S X k))) := by
    have h := hP k hk
    rw [ct_arr cA a S X hk34] at h
    exact h
  refine W.iast C0.1 C0.2.1 hat ((hK.1.2 0 _ rfl).1 (ln k) (fun j => .int (me S X k j))) (fun q => by cases q) (by show ¬ (i < 0 ∨ (arrV _ _ _).slots.size ≤ _); rw [arrV_size]; exact hin) rfl rfl hdg fun H1 e z oq => ?_
  refine kk H1 _ (hP.set hinj hk _ ?_ oq) (hS.put z oq ⟨k, hk, rfl⟩)
  rw [ct_arr cA a _ _ hk34, me_eq]
  show H1[a k]? = some (vp_cell _ _)
  rw [e]
  rw [vp_cell_i, vp_cell_i, arrV_store]
  congr 2
  funext q
  by_cases hq : q = i.toNatClampNeg
  · subst hq
    simp [updV, upd]
  · simp [updV, upd, hq]
/-- a number of a place's object written -/
theorem pf {k ci : Nat} {fs : List Value} {C : String} {T : u_T} {N : Nat} (C0 : CallFix p m c cc nL s args GW own) (hK : KK D cA s) (hP : WP D cA a S X I H) (hS : va_S (AI a I) H0 H locs) (hk : I k) (hinj : ∀ i j, I i → I j → a i = a j → i = j) (hct : ct cA a S X k = .inr (ci, fs))
    (hin : ∀ w ∈ u_ws C T N, w ∈ GW) (ty0 : Nat → FieldType) (hty : ∀ k, k < N → parseFieldDescriptor (T k).2.2.1 = some (ty0 k)) (hnm : ∀ a, a < N → ∀ b, b < N → a ≠ b → (T a).2.1 ≠ (T b).2.1) (hc : vwCl[ci]? = some (C, T, N)) (j : Nat) (hj : j < N) {idx : Nat}
    (hlink : Cond.fieldLink own idx (T j).1 (T j).2.1 (T j).2.2.1 ∈ GW) (hfin : (T j).2.2.2 = false) (hd : parseFieldDescriptor (T j).2.2.1 = some .int) (hlen : j < fs.length) {x : Int32} {f : Nat → Int32} (hnew : ct cA a (wS S k f) (wX X k f) k = .inr (ci, fs.set j (.int x)))
    (hdg : decode cc pc = .ok (.putfield idx, 3)) (kk : ∀ (H1 : Heap) (locs1 : List Loc), WP D cA a (wS S k f) (wX X k f) I H1 → va_S (AI a I) H0 H1 locs1 → W p l e R s m args below meth c H1 locs1 cells slots Q (F0 m (pc + 3) ls rest)) : W p l e R s m args below meth c H locs cells slots Q (F0 m pc ls (.int x :: .ref (a k) :: rest)) := by
  have hts := C0.2.2.2.2
  have hap := va_apart (own := own) hts hin ty0 hty hnm hK.1 hc
  have hcell := hP k hk
  rw [hct] at hcell
  obtain ⟨r, h1, cell, q1, q2, q3, q4⟩ := hcell
  have hr : r = (C, T, N) := Option.some.inj (h1.symm.trans hc)
  subst hr
  obtain ⟨hS1, hfc, kC, hkC, hkind⟩ := hK.1.1 ci _ hc
  obtain ⟨cf, kf, fi, fd, hi, hsl⟩ := hS1 j hj
  have hlay := hts _ (hin _ (u_in_lay hj))
  unfold u_lay at hlay
  rw [if_neg (by rw [hfin]; decide)] at hlay
  have hst := (u_facts hfc hkC (u_lays hts hin hj) hi).1
  have h6 := u_store hfc hkC hkind hlay hi hd (show narrow .int (.int x) = .int x from rfl) (show fits .int (.int x) = true from rfl)
  refine W.putK C0.1 C0.2.1 (f := fd) ⟨C0.2.2.2.1, hts _ hlink, ⟨_, _, _, hi⟩, hst⟩ (by rw [q2]; exact h6) q1 q3 (by rw [hsl]; exact k2_hasslot (q4 j hj)) rfl rfl hdg fun H' e1 e2 e3 => ?_
  rw [hsl] at e1 ⊢
  refine kk H' _ (hP.set hinj hk f ?_ e3) (hS.put e2 e3 ⟨k, hk, rfl⟩)
  rw [hnew]
  exact ⟨_, hc, t_OB.to (V := updV (vp_V fs) j (.int x)) ⟨_, e1, q2, q3, t_set q4 hap hj _⟩ (fun i _ => vp_updV_set hlen _ i)⟩
/-- the words of a virtual call, a static one, a static one of a nest mate -/
abbrev wV (own : String) (idx : Nat) (y : MethodName) (by_ : ByteArray) (mL : Nat) (ret : Option FieldType) (n : Nat) : Prop :=
  (Cond.methodLink own idx y ∈ GW ∧ Cond.instanceMethod y ∈ GW ∧ Cond.selects y.cls y y ∈ GW ∧ Cond.initialized y.cls ∈ GW ∧ Cond.code y by_ mL ret ∈ GW) ∧ y.cls ≠ "java/lang/invoke/MethodHandle" ∧ y.cls ≠ "java/lang/invoke/VarHandle" ∧ (parseMethodDescriptor y.desc).map (fun d => d.parameters.length) = some n
theorem gV {c0 : Cond} {idx : Nat} {y : MethodName} (h1 : Cond.methodLink own idx y ∈ GW) (h2 : Cond.instanceMethod y ∈ GW) (h3 : Cond.selects y.cls y y ∈ GW) (h4 : Cond.initialized y.cls ∈ GW) (h5 : c0 ∈ GW) : GoodIn GW (wsV own idx y.cls y (c0 :: GW)) := by
  refine gw_in fun w hw => ?_
  unfold wsV at hw
  simp only [List.cons_append, List.nil_append, List.mem_cons] at hw
  rcases hw with rfl | rfl | rfl | rfl | rfl | hw
  · exact h1
  · exact h2
  · exact h3
  · exact h4
  · exact h5
  · exact hw
theorem gS {c0 : Cond} {idx : Nat} {y : MethodName} (h1 : Cond.methodLink own idx y ∈ GW) (h2 : Cond.static y ∈ GW) (h4 : Cond.initialized y.cls ∈ GW) (h5 : c0 ∈ GW) : GoodIn GW (va_wsS own idx y (c0 :: GW)) := by
  refine gw_in fun w hw => ?_
  unfold va_wsS at hw
  simp only [List.cons_append, List.nil_append, List.mem_cons] at hw
  rcases hw with rfl | rfl | rfl | rfl | hw
  · exact h1
  · exact h2
  · exact h4
  · exact h5
  · exact hw
theorem rV {y : MethodName} {by_ : ByteArray} {mL fr lo n idx : Nat} {ret : Option FieldType} {As : List Value} {Qc : Array Value → State → Outcome → State → Prop} {k ci : Nat} {fs : List Value} {T : u_T} {N : Nat}
    (hM : Met l y (.code y by_ mL ret :: GW) { frames := fr, cells := 0, slots := 0, locals := lo } (PC D cA a S X I (.ref (a k) :: As)) Qc 0 0 (AI a I)) (C0 : CallFix p m c cc nL s args GW own) (w1 : Cond.methodLink own idx y ∈ GW) (w2 : Cond.instanceMethod y ∈ GW) (w3 : Cond.selects y.cls y y ∈ GW) (w4 : Cond.initialized y.cls ∈ GW) (w5 : Cond.code y by_ mL ret ∈ GW)
    (hyd : y.cls = y.cls ∧ y.cls ≠ "java/lang/invoke/MethodHandle" ∧ y.cls ≠ "java/lang/invoke/VarHandle" ∧ (parseMethodDescriptor y.desc).map (fun d => d.parameters.length) = some n) (hR : fr + 1 ≤ R.frames ∧ 8 + (mL + 11) + lo ≤ R.locals) (hK : KK D cA s) (hP : WP D cA a S X I H) (hk : I k) (hct : ct cA a S X k = .inr (ci, fs)) (hc : vwCl[ci]? = some (y.cls, T, N))
    (hn : As.length = n) (hls : ls.size = nL) (hrest : (rest.map fun v => v.category).sum ≤ 8) {st : List Value} (hst : st = As.reverse ++ .ref (a k) :: rest) (hdg : decode cc pc = .ok (.invokevirtual idx, 3)) (hf : cells + 0 ≤ R.cells ∧ slots + 0 ≤ R.slots) :
    va_Run p l e R s m args below meth c H locs cells slots 0 0 (F0 m pc ls st) rest (Qc (Value.ref (a k) :: As).toArray) (AI a I) := by
  have hcell := hP k hk
  rw [hct] at hcell
  refine va_runV (As := As) (C := y.cls) (n := n) C0 hM (cwV n C0.2.2.2.2 (gV w1 w2 w3 w4 w5) rfl rfl rfl hyd hR) ⟨PC.blind, va_recv hK.1 hcell.P1 (q0 := 0) hc rfl, fun U hU hW => ⟨rfl, by rw [hU]; exact hP, hK.warm hW⟩⟩ rfl hn hls hst ?_ hdg hf
  show 2 * 0 + _ ≤ 8
  omega
theorem rS {y : MethodName} {by_ : ByteArray} {mL fr lo n idx : Nat} {ret : Option FieldType} {As : List Value} {Qc : Array Value → State → Outcome → State → Prop}
    (hM : Met l y (.code y by_ mL ret :: GW) { frames := fr, cells := 0, slots := 0, locals := lo } (PC D cA a S X I As) Qc 0 0 (AI a I)) (C0 : CallFix p m c cc nL s args GW own) (w1 : Cond.methodLink own idx y ∈ GW) (w2 : Cond.static y ∈ GW) (w4 : Cond.initialized y.cls ∈ GW) (w5 : Cond.code y by_ mL ret ∈ GW)
    (hyd : y.cls ≠ "java/lang/invoke/MethodHandle" ∧ y.cls ≠ "java/lang/invoke/VarHandle" ∧ (parseMethodDescriptor y.desc).map (fun d => d.parameters.length) = some n) (hR : fr + 1 ≤ R.frames ∧ 8 + (mL + 11) + lo ≤ R.locals) (hK : KK D cA s) (hP : WP D cA a S X I H)
    (hn : As.length = n) (hls : ls.size = nL) (hrest : (rest.map fun v => v.category).sum ≤ 8) {st : List Value} (hst : st = As.reverse ++ rest) (hdg : decode cc pc = .ok (.invokestatic idx, 3)) (hf : cells + 0 ≤ R.cells ∧ slots + 0 ≤ R.slots) :
    va_Run p l e R s m args below meth c H locs cells slots 0 0 (F0 m pc ls st) rest (Qc As.toArray) (AI a I) := by
  refine va_runS (As := As) (n := n) C0 hM (va_cwS n C0.2.2.2.2 (gS w1 w2 w4 w5) rfl rfl rfl hyd hR) ⟨PC.blind, fun U hU hW => ⟨rfl, by rw [hU]; exact hP, hK.warm hW⟩⟩ rfl hn hls hst ?_ hdg hf
  show 2 * 0 + _ ≤ 8
  omega
theorem rSN {host : String} {y : MethodName} {by_ : ByteArray} {mL fr lo n idx : Nat} {ret : Option FieldType} {As : List Value} {Qc : Array Value → State → Outcome → State → Prop}
    (hM : Met l y (.code y by_ mL ret :: GW) { frames := fr, cells := 0, slots := 0, locals := lo } (PC D cA a S X I As) Qc 0 0 (AI a I)) (C0 : CallFix p m c cc nL s args GW own) (w1 : va_Nw (.methodLinkNest own idx y host) s) (w2 : Cond.static y ∈ GW) (w4 : Cond.initialized y.cls ∈ GW) (w5 : Cond.code y by_ mL ret ∈ GW)
    (hyd : y.cls ≠ "java/lang/invoke/MethodHandle" ∧ y.cls ≠ "java/lang/invoke/VarHandle" ∧ (parseMethodDescriptor y.desc).map (fun d => d.parameters.length) = some n) (hR : fr + 1 ≤ R.frames ∧ 8 + (mL + 11) + lo ≤ R.locals) (hK : KK D cA s) (hP : WP D cA a S X I H)
    (hn : As.length = n) (hls : ls.size = nL) (hrest : (rest.map fun v => v.category).sum ≤ 8) {st : List Value} (hst : st = As.reverse ++ rest) (hdg : decode cc pc = .ok (.invokestatic idx, 3)) (hf : cells + 0 ≤ R.cells ∧ slots + 0 ≤ R.slots) :
    va_Run p l e R s m args below meth c H locs cells slots 0 0 (F0 m pc ls st) rest (Qc As.toArray) (AI a I) := by
  have hts := C0.2.2.2.2
  refine va_runSN (As := As) (n := n) C0 hM ⟨va_cnB n hts (gw_in fun w hw => (List.mem_cons.mp hw).elim (fun h => h ▸ w5) id) rfl rfl rfl w1 (hts _ w4) hyd hR, hts _ w2, trivial⟩ ⟨PC.blind, fun U hU hW => ⟨rfl, by rw [hU]; exact hP, hK.warm hW⟩⟩ rfl hn hls hst ?_ hdg hf
  show 2 * 0 + _ ≤ 8
  omega
/-- behind a call -/
theorem goI {st : List Value} {post : Int32 → Mem → Mem → Prop} {a0 : Array Value} (hr : va_Run p l e R s m args below meth c H locs cells slots 0 0 (F0 m pc ls st) rest (QpI D cA a I post a0) (AI a I)) (hS : va_S (AI a I) H0 H locs)
    (kk : ∀ (r : Int32) (S1 X1 : Mem) (H1 : Heap) (locs1 : List Loc), post r S1 X1 → WP D cA a S1 X1 I H1 → va_S (AI a I) H0 H1 locs1 → W p l e R s m args below meth c H1 locs1 cells slots Q (F0 m (pc + 3) ls (.int r :: rest))) : W p l e R s m args below meth c H locs cells slots Q (F0 m pc ls st) :=
  va_calli hr hS (fun _ _ h => h) (fun _ h => h) (fun r u t H1 locs1 ht _ hp hB _ _ hS1 => kk r u.1 u.2 H1 locs1 hp (by rw [← ht]; exact hB) hS1)
theorem goL {st : List Value} {post : Int64 → Mem → Mem → Prop} {a0 : Array Value} (hr : va_Run p l e R s m args below meth c H locs cells slots 0 0 (F0 m pc ls st) rest (QpL D cA a I post a0) (AI a I)) (hS : va_S (AI a I) H0 H locs)
    (kk : ∀ (r : Int64) (S1 X1 : Mem) (H1 : Heap) (locs1 : List Loc), post r S1 X1 → WP D cA a S1 X1 I H1 → va_S (AI a I) H0 H1 locs1 → W p l e R s m args below meth c H1 locs1 cells slots Q (F0 m (pc + 3) ls (.long r :: rest))) : W p l e R s m args below meth c H locs cells slots Q (F0 m pc ls st) :=
  va_calll hr hS (fun _ _ h => h) (fun _ h => h) (fun r u t H1 locs1 ht _ hp hB _ _ hS1 => kk r u.1 u.2 H1 locs1 hp (by rw [← ht]; exact hB) hS1)
theorem goV {st : List Value} {post : Mem → Mem → Prop} {a0 : Array Value} (hr : va_Run p l e R s m args below meth c H locs cells slots 0 0 (F0 m pc ls st) rest (QpV D cA a I post a0) (AI a I)) (hS : va_S (AI a I) H0 H locs)
    (kk : ∀ (S1 X1 : Mem) (H1 : Heap) (locs1 : List Loc), post S1 X1 → WP D cA a S1 X1 I H1 → va_S (AI a I) H0 H1 locs1 → W p l e R s m args below meth c H1 locs1 cells slots Q (F0 m (pc + 3) ls rest)) : W p l e R s m args below meth c H locs cells slots Q (F0 m pc ls st) :=
  va_callv hr hS (fun _ _ h => h) (fun _ h => h) (fun u t H1 locs1 ht _ hp hB _ _ hS1 => kk u.1 u.2 H1 locs1 hp (by rw [← ht]; exact hB) hS1)
end OWN2
end
section
section FLD
variable {p : Program} {l : Launch} {e : Env} {R : Room} {s : State} {m : MethodId} {args : Array Value} {below : List Frame} {meth : Method} {c : Code} {H : Heap} {locs : List Loc} {cells slots : Nat} {Q : State → Prop}
variable {cc : ByteArray} {nL : Nat} {own : String} {pc : Nat} {ls : Array Slot} {rest : List Value} {D : va_G} {cA : ClassId} {a : Adr} {S X : Mem} {I : Nat → Prop} {H0 : Heap}
theorem g80_ground (C0 : CallFix p m c cc nL s args GW own) (hK : KK D cA s) (hP : WP D cA a S X I H) (hI : I 80) {idx : Nat} (hlink : Cond.fieldLink own idx "FloodFerry$Plain" "ground" "LFloodFerry$Row;" ∈ GW) (hdg : decode cc pc = .ok (.getfield idx, 3)) (kk : W p l e R s m args below meth c H locs cells slots Q (F0 m (pc + 3) ls (.ref (a 40) :: rest))) : W p l e R s m args below meth c H locs cells slots Q (F0 m pc ls (.ref (a 80) :: rest)) := gf C0 hK (hP 80 hI) us_X4 rfl 0 (by decide) hlink rfl hdg kk
theorem g80_stake (C0 : CallFix p m c cc nL s args GW own) (hK : KK D cA s) (hP : WP D cA a S X I H) (hI : I 80) {idx : Nat} (hlink : Cond.fieldLink own idx "FloodFerry$Plain" "stake" "LFloodFerry$Row;" ∈ GW) (hdg : decode cc pc = .ok (.getfield idx, 3)) (kk : W p l e R s m args below meth c H locs cells slots Q (F0 m (pc + 3) ls (.ref (a 41) :: rest))) : W p l e R s m args below meth c H locs cells slots Q (F0 m pc ls (.ref (a 80) :: rest)) := gf C0 hK (hP 80 hI) us_X4 rfl 1 (by decide) hlink rfl hdg kk
theorem g80_water (C0 : CallFix p m c cc nL s args GW own) (hK : KK D cA s) (hP : WP D cA a S X I H) (hI : I 80) {idx : Nat} (hlink : Cond.fieldLink own idx "FloodFerry$Plain" "water" "LFloodFerry$Row;" ∈ GW) (hdg : decode cc pc = .ok (.getfield idx, 3)) (kk : W p l e R s m args below meth c H locs cells slots Q (F0 m (pc + 3) ls (.ref (a 42) :: rest))) : W p l e R s m args below meth c H locs cells slots Q (F0 m pc ls (.ref (a 80) :: rest)) := gf C0 hK (hP 80 hI) us_X4 rfl 2 (by decide) hlink rfl hdg kk
theorem g81_number {v : Int32} (C0 : CallFix p m c cc nL s args GW own) (hK : KK D cA s) (hP : WP D cA a S X I H) (hI : I 81) {idx : Nat} (hlink : Cond.fieldLink own idx "FloodFerry$Landings" "number" "I" ∈ GW) (hv : S 81 0 = v) (hdg : decode cc pc = .ok (.getfield idx, 3)) (kk : W p l e R s m args below meth c H locs cells slots Q (F0 m (pc + 3) ls (.int v :: rest))) : W p l e R s m args below meth c H locs cells slots Q (F0 m pc ls (.ref (a 81) :: rest)) := by
  subst hv
  exact gf C0 hK (hP 81 hI) us_X3 rfl 0 (by decide) hlink rfl hdg kk
theorem p81_number {x : Int32} (C0 : CallFix p m c cc nL s args GW own) (hK : KK D cA s) (hP : WP D cA a S X I H) (hS : va_S (AI a I) H0 H locs) (hI : I 81) (hinj : ∀ i j, I i → I j → a i = a j → i = j) {idx : Nat} (hlink : Cond.fieldLink own idx "FloodFerry$Landings" "number" "I" ∈ GW) (hdg : decode cc pc = .ok (.putfield idx, 3)) (kk : ∀ (H1 : Heap) (locs1 : List Loc), WP D cA a (up S 81 (fun _ => x)) X I H1 → va_S (AI a I) H0 H1 locs1 → W p l e R s m args below meth c H1 locs1 cells slots Q (F0 m (pc + 3) ls rest)) : W p l e R s m args below meth c H locs cells slots Q (F0 m pc ls (.int x :: .ref (a 81) :: rest)) := pf C0 hK hP hS hI hinj rfl us_X3 tyX3 tyX3_ok nmX3 rfl 0 (by decide) hlink rfl (by decide +kernel) (Nat.le_of_ble_eq_true rfl) (f := fun _ => x) rfl hdg kk
theorem g81_cell (C0 : CallFix p m c cc nL s args GW own) (hK : KK D cA s) (hP : WP D cA a S X I H) (hI : I 81) {idx : Nat} (hlink : Cond.fieldLink own idx "FloodFerry$Landings" "cell" "LFloodFerry$Row;" ∈ GW) (hdg : decode cc pc = .ok (.getfield idx, 3)) (kk : W p l e R s m args below meth c H locs cells slots Q (F0 m (pc + 3) ls (.ref (a 43) :: rest))) : W p l e R s m args below meth c H locs cells slots Q (F0 m pc ls (.ref (a 81) :: rest)) := gf C0 hK (hP 81 hI) us_X3 rfl 1 (by decide) hlink rfl hdg kk
theorem g82_number {v : Int32} (C0 : CallFix p m c cc nL s args GW own) (hK : KK D cA s) (hP : WP D cA a S X I H) (hI : I 82) {idx : Nat} (hlink : Cond.fieldLink own idx "FloodFerry$Fleet" "number" "I" ∈ GW) (hv : S 82 0 = v) (hdg : decode cc pc = .ok (.getfield idx, 3)) (kk : W p l e R s m args below meth c H locs cells slots Q (F0 m (pc + 3) ls (.int v :: rest))) : W p l e R s m args below meth c H locs cells slots Q (F0 m pc ls (.ref (a 82) :: rest)) := by
  subst hv
  exact gf C0 hK (hP 82 hI) us_X2 rfl 0 (by decide) hlink rfl hdg kk
theorem p82_number {x : Int32} (C0 : CallFix p m c cc nL s args GW own) (hK : KK D cA s) (hP : WP D cA a S X I H) (hS : va_S (AI a I) H0 H locs) (hI : I 82) (hinj : ∀ i j, I i → I j → a i = a j → i = j) {idx : Nat} (hlink : Cond.fieldLink own idx "FloodFerry$Fleet" "number" "I" ∈ GW) (hdg : decode cc pc = .ok (.putfield idx, 3)) (kk : ∀ (H1 : Heap) (locs1 : List Loc), WP D cA a (up S 82 (fun _ => x)) X I H1 → va_S (AI a I) H0 H1 locs1 → W p l e R s m args below meth c H1 locs1 cells slots Q (F0 m (pc + 3) ls rest)) : W p l e R s m args below meth c H locs cells slots Q (F0 m pc ls (.int x :: .ref (a 82) :: rest)) := pf C0 hK hP hS hI hinj rfl us_X2 tyX2 tyX2_ok nmX2 rfl 0 (by decide) hlink rfl (by decide +kernel) (Nat.le_of_ble_eq_true rfl) (f := fun _ => x) rfl hdg kk
theorem g82_home (C0 : CallFix p m c cc nL s args GW own) (hK : KK D cA s) (hP : WP D cA a S X I H) (hI : I 82) {idx : Nat} (hlink : Cond.fieldLink own idx "FloodFerry$Fleet" "home" "LFloodFerry$Row;" ∈ GW) (hdg : decode cc pc = .ok (.getfield idx, 3)) (kk : W p l e R s m args below meth c H locs cells slots Q (F0 m (pc + 3) ls (.ref (a 44) :: rest))) : W p l e R s m args below meth c H locs cells slots Q (F0 m pc ls (.ref (a 82) :: rest)) := gf C0 hK (hP 82 hI) us_X2 rfl 1 (by decide) hlink rfl hdg kk
theorem g82_goal (C0 : CallFix p m c cc nL s args GW own) (hK : KK D cA s) (hP : WP D cA a S X I H) (hI : I 82) {idx : Nat} (hlink : Cond.fieldLink own idx "FloodFerry$Fleet" "goal" "LFloodFerry$Row;" ∈ GW) (hdg : decode cc pc = .ok (.getfield idx, 3)) (kk : W p l e R s m args below meth c H locs cells slots Q (F0 m (pc + 3) ls (.ref (a 45) :: rest))) : W p l e R s m args below meth c H locs cells slots Q (F0 m pc ls (.ref (a 82) :: rest)) := gf C0 hK (hP 82 hI) us_X2 rfl 2 (by decide) hlink rfl hdg kk
theorem g82_draught (C0 : CallFix p m c cc nL s args GW own) (hK : KK D cA s) (hP : WP D cA a S X I H) (hI : I 82) {idx : Nat} (hlink : Cond.fieldLink own idx "FloodFerry$Fleet" "draught" "LFloodFerry$Row;" ∈ GW) (hdg : decode cc pc = .ok (.getfield idx, 3)) (kk : W p l e R s m args below meth c H locs cells slots Q (F0 m (pc + 3) ls (.ref (a 46) :: rest))) : W p l e R s m args below meth c H locs cells slots Q (F0 m pc ls (.ref (a 82) :: rest)) := gf C0 hK (hP 82 hI) us_X2 rfl 3 (by decide) hlink rfl hdg kk
theorem g82_pole (C0 : CallFix p m c cc nL s args GW own) (hK : KK D cA s) (hP : WP D cA a S X I H) (hI : I 82) {idx : Nat} (hlink : Cond.fieldLink own idx "FloodFerry$Fleet" "pole" "LFloodFerry$Row;" ∈ GW) (hdg : decode cc pc = .ok (.getfield idx, 3)) (kk : W p l e R s m args below meth c H locs cells slots Q (F0 m (pc + 3) ls (.ref (a 47) :: rest))) : W p l e R s m args below meth c H locs cells slots Q (F0 m pc ls (.ref (a 82) :: rest)) := gf C0 hK (hP 82 hI) us_X2 rfl 4 (by decide) hlink rfl hdg kk
theorem g82_room (C0 : CallFix p m c cc nL s args GW own) (hK : KK D cA s) (hP : WP D cA a S X I H) (hI : I 82) {idx : Nat} (hlink : Cond.fieldLink own idx "FloodFerry$Fleet" "room" "LFloodFerry$Row;" ∈ GW) (hdg : decode cc pc = .ok (.getfield idx, 3)) (kk : W p l e R s m args below meth c H locs cells slots Q (F0 m (pc + 3) ls (.ref (a 48) :: rest))) : W p l e R s m args below meth c H locs cells slots Q (F0 m pc ls (.ref (a 82) :: rest)) := gf C0 hK (hP 82 hI) us_X2 rfl 5 (by decide) hlink rfl hdg kk
theorem g82_toll (C0 : CallFix p m c cc nL s args GW own) (hK : KK D cA s) (hP : WP D cA a S X I H) (hI : I 82) {idx : Nat} (hlink : Cond.fieldLink own idx "FloodFerry$Fleet" "toll" "LFloodFerry$Row;" ∈ GW) (hdg : decode cc pc = .ok (.getfield idx, 3)) (kk : W p l e R s m args below meth c H locs cells slots Q (F0 m (pc + 3) ls (.ref (a 49) :: rest))) : W p l e R s m args below meth c H locs cells slots Q (F0 m pc ls (.ref (a 82) :: rest)) := gf C0 hK (hP 82 hI) us_X2 rfl 6 (by decide) hlink rfl hdg kk
theorem g83_fleet (C0 : CallFix p m c cc nL s args GW own) (hK : KK D cA s) (hP : WP D cA a S X I H) (hI : I 83) {idx : Nat} (hlink : Cond.fieldLink own idx "FloodFerry$Chains" "fleet" "LFloodFerry$Fleet;" ∈ GW) (hdg : decode cc pc = .ok (.getfield idx, 3)) (kk : W p l e R s m args below meth c H locs cells slots Q (F0 m (pc + 3) ls (.ref (a 82) :: rest))) : W p l e R s m args below meth c H locs cells slots Q (F0 m pc ls (.ref (a 83) :: rest)) := gf C0 hK (hP 83 hI) us_X0 rfl 0 (by decide) hlink rfl hdg kk
theorem g83_lengths (C0 : CallFix p m c cc nL s args GW own) (hK : KK D cA s) (hP : WP D cA a S X I H) (hI : I 83) {idx : Nat} (hlink : Cond.fieldLink own idx "FloodFerry$Chains" "lengths" "LFloodFerry$Row;" ∈ GW) (hdg : decode cc pc = .ok (.getfield idx, 3)) (kk : W p l e R s m args below meth c H locs cells slots Q (F0 m (pc + 3) ls (.ref (a 50) :: rest))) : W p l e R s m args below meth c H locs cells slots Q (F0 m pc ls (.ref (a 83) :: rest)) := gf C0 hK (hP 83 hI) us_X0 rfl 1 (by decide) hlink rfl hdg kk
theorem g83_firstPunts (C0 : CallFix p m c cc nL s args GW own) (hK : KK D cA s) (hP : WP D cA a S X I H) (hI : I 83) {idx : Nat} (hlink : Cond.fieldLink own idx "FloodFerry$Chains" "firstPunts" "LFloodFerry$Row;" ∈ GW) (hdg : decode cc pc = .ok (.getfield idx, 3)) (kk : W p l e R s m args below meth c H locs cells slots Q (F0 m (pc + 3) ls (.ref (a 51) :: rest))) : W p l e R s m args below meth c H locs cells slots Q (F0 m pc ls (.ref (a 83) :: rest)) := gf C0 hK (hP 83 hI) us_X0 rfl 2 (by decide) hlink rfl hdg kk
theorem g83_tolls (C0 : CallFix p m c cc nL s args GW own) (hK : KK D cA s) (hP : WP D cA a S X I H) (hI : I 83) {idx : Nat} (hlink : Cond.fieldLink own idx "FloodFerry$Chains" "tolls" "LFloodFerry$Row;" ∈ GW) (hdg : decode cc pc = .ok (.getfield idx, 3)) (kk : W p l e R s m args below meth c H locs cells slots Q (F0 m (pc + 3) ls (.ref (a 52) :: rest))) : W p l e R s m args below meth c H locs cells slots Q (F0 m pc ls (.ref (a 83) :: rest)) := gf C0 hK (hP 83 hI) us_X0 rfl 3 (by decide) hlink rfl hdg kk
theorem g84_plain (C0 : CallFix p m c cc nL s args GW own) (hK : KK D cA s) (hP : WP D cA a S X I H) (hI : I 84) {idx : Nat} (hlink : Cond.fieldLink own idx "FloodFerry$Charts" "plain" "LFloodFerry$Plain;" ∈ GW) (hdg : decode cc pc = .ok (.getfield idx, 3)) (kk : W p l e R s m args below meth c H locs cells slots Q (F0 m (pc + 3) ls (.ref (a 80) :: rest))) : W p l e R s m args below meth c H locs cells slots Q (F0 m pc ls (.ref (a 84) :: rest)) := gf C0 hK (hP 84 hI) us_X1 rfl 0 (by decide) hlink rfl hdg kk
theorem g84_landings (C0 : CallFix p m c cc nL s args GW own) (hK : KK D cA s) (hP : WP D cA a S X I H) (hI : I 84) {idx : Nat} (hlink : Cond.fieldLink own idx "FloodFerry$Charts" "landings" "LFloodFerry$Landings;" ∈ GW) (hdg : decode cc pc = .ok (.getfield idx, 3)) (kk : W p l e R s m args below meth c H locs cells slots Q (F0 m (pc + 3) ls (.ref (a 81) :: rest))) : W p l e R s m args below meth c H locs cells slots Q (F0 m pc ls (.ref (a 84) :: rest)) := gf C0 hK (hP 84 hI) us_X1 rfl 1 (by decide) hlink rfl hdg kk
theorem g84_fleet (C0 : CallFix p m c cc nL s args GW own) (hK : KK D cA s) (hP : WP D cA a S X I H) (hI : I 84) {idx : Nat} (hlink : Cond.fieldLink own idx "FloodFerry$Charts" "fleet" "LFloodFerry$Fleet;" ∈ GW) (hdg : decode cc pc = .ok (.getfield idx, 3)) (kk : W p l e R s m args below meth c H locs cells slots Q (F0 m (pc + 3) ls (.ref (a 82) :: rest))) : W p l e R s m args below meth c H locs cells slots Q (F0 m pc ls (.ref (a 84) :: rest)) := gf C0 hK (hP 84 hI) us_X1 rfl 2 (by decide) hlink rfl hdg kk
theorem g84_ways (C0 : CallFix p m c cc nL s args GW own) (hK : KK D cA s) (hP : WP D cA a S X I H) (hI : I 84) {idx : Nat} (hlink : Cond.fieldLink own idx "FloodFerry$Charts" "ways" "LFloodFerry$Row;" ∈ GW) (hdg : decode cc pc = .ok (.getfield idx, 3)) (kk : W p l e R s m args below meth c H locs cells slots Q (F0 m (pc + 3) ls (.ref (a 53) :: rest))) : W p l e R s m args below meth c H locs cells slots Q (F0 m pc ls (.ref (a 84) :: rest)) := gf C0 hK (hP 84 hI) us_X1 rfl 3 (by decide) hlink rfl hdg kk
theorem g84_drawn (C0 : CallFix p m c cc nL s args GW own) (hK : KK D cA s) (hP : WP D cA a S X I H) (hI : I 84) {idx : Nat} (hlink : Cond.fieldLink own idx "FloodFerry$Charts" "drawn" "LFloodFerry$Row;" ∈ GW) (hdg : decode cc pc = .ok (.getfield idx, 3)) (kk : W p l e R s m args below meth c H locs cells slots Q (F0 m (pc + 3) ls (.ref (a 54) :: rest))) : W p l e R s m args below meth c H locs cells slots Q (F0 m pc ls (.ref (a 84) :: rest)) := gf C0 hK (hP 84 hI) us_X1 rfl 4 (by decide) hlink rfl hdg kk
theorem g84_queue (C0 : CallFix p m c cc nL s args GW own) (hK : KK D cA s) (hP : WP D cA a S X I H) (hI : I 84) {idx : Nat} (hlink : Cond.fieldLink own idx "FloodFerry$Charts" "queue" "LFloodFerry$Row;" ∈ GW) (hdg : decode cc pc = .ok (.getfield idx, 3)) (kk : W p l e R s m args below meth c H locs cells slots Q (F0 m (pc + 3) ls (.ref (a 55) :: rest))) : W p l e R s m args below meth c H locs cells slots Q (F0 m pc ls (.ref (a 84) :: rest)) := gf C0 hK (hP 84 hI) us_X1 rfl 5 (by decide) hlink rfl hdg kk
theorem g85_number {v : Int32} (C0 : CallFix p m c cc nL s args GW own) (hK : KK D cA s) (hP : WP D cA a S X I H) (hI : I 85) {idx : Nat} (hlink : Cond.fieldLink own idx "FloodFerry$Travellers" "number" "I" ∈ GW) (hv : S 85 0 = v) (hdg : decode cc pc = .ok (.getfield idx, 3)) (kk : W p l e R s m args below meth c H locs cells slots Q (F0 m (pc + 3) ls (.int v :: rest))) : W p l e R s m args below meth c H locs cells slots Q (F0 m pc ls (.ref (a 85) :: rest)) := by
  subst hv
  exact gf C0 hK (hP 85 hI) us_X7 rfl 0 (by decide) hlink rfl hdg kk
theorem p85_number {x : Int32} (C0 : CallFix p m c cc nL s args GW own) (hK : KK D cA s) (hP : WP D cA a S X I H) (hS : va_S (AI a I) H0 H locs) (hI : I 85) (hinj : ∀ i j, I i → I j → a i = a j → i = j) {idx : Nat} (hlink : Cond.fieldLink own idx "FloodFerry$Travellers" "number" "I" ∈ GW) (hdg : decode cc pc = .ok (.putfield idx, 3)) (kk : ∀ (H1 : Heap) (locs1 : List Loc), WP D cA a (up S 85 (fun _ => x)) X I H1 → va_S (AI a I) H0 H1 locs1 → W p l e R s m args below meth c H1 locs1 cells slots Q (F0 m (pc + 3) ls rest)) : W p l e R s m args below meth c H locs cells slots Q (F0 m pc ls (.int x :: .ref (a 85) :: rest)) := pf C0 hK hP hS hI hinj rfl us_X7 tyX7 tyX7_ok nmX7 rfl 0 (by decide) hlink rfl (by decide +kernel) (Nat.le_of_ble_eq_true rfl) (f := fun _ => x) rfl hdg kk
theorem g85_wish (C0 : CallFix p m c cc nL s args GW own) (hK : KK D cA s) (hP : WP D cA a S X I H) (hI : I 85) {idx : Nat} (hlink : Cond.fieldLink own idx "FloodFerry$Travellers" "wish" "LFloodFerry$Row;" ∈ GW) (hdg : decode cc pc = .ok (.getfield idx, 3)) (kk : W p l e R s m args below meth c H locs cells slots Q (F0 m (pc + 3) ls (.ref (a 60) :: rest))) : W p l e R s m args below meth c H locs cells slots Q (F0 m pc ls (.ref (a 85) :: rest)) := gf C0 hK (hP 85 hI) us_X7 rfl 1 (by decide) hlink rfl hdg kk
theorem g85_purse (C0 : CallFix p m c cc nL s args GW own) (hK : KK D cA s) (hP : WP D cA a S X I H) (hI : I 85) {idx : Nat} (hlink : Cond.fieldLink own idx "FloodFerry$Travellers" "purse" "LFloodFerry$Row;" ∈ GW) (hdg : decode cc pc = .ok (.getfield idx, 3)) (kk : W p l e R s m args below meth c H locs cells slots Q (F0 m (pc + 3) ls (.ref (a 61) :: rest))) : W p l e R s m args below meth c H locs cells slots Q (F0 m pc ls (.ref (a 85) :: rest)) := gf C0 hK (hP 85 hI) us_X7 rfl 2 (by decide) hlink rfl hdg kk
theorem g85_landing (C0 : CallFix p m c cc nL s args GW own) (hK : KK D cA s) (hP : WP D cA a S X I H) (hI : I 85) {idx : Nat} (hlink : Cond.fieldLink own idx "FloodFerry$Travellers" "landing" "LFloodFerry$Row;" ∈ GW) (hdg : decode cc pc = .ok (.getfield idx, 3)) (kk : W p l e R s m args below meth c H locs cells slots Q (F0 m (pc + 3) ls (.ref (a 62) :: rest))) : W p l e R s m args below meth c H locs cells slots Q (F0 m pc ls (.ref (a 85) :: rest)) := gf C0 hK (hP 85 hI) us_X7 rfl 3 (by decide) hlink rfl hdg kk
theorem g85_punt (C0 : CallFix p m c cc nL s args GW own) (hK : KK D cA s) (hP : WP D cA a S X I H) (hI : I 85) {idx : Nat} (hlink : Cond.fieldLink own idx "FloodFerry$Travellers" "punt" "LFloodFerry$Row;" ∈ GW) (hdg : decode cc pc = .ok (.getfield idx, 3)) (kk : W p l e R s m args below meth c H locs cells slots Q (F0 m (pc + 3) ls (.ref (a 63) :: rest))) : W p l e R s m args below meth c H locs cells slots Q (F0 m pc ls (.ref (a 85) :: rest)) := gf C0 hK (hP 85 hI) us_X7 rfl 4 (by decide) hlink rfl hdg kk
theorem g85_cameAt (C0 : CallFix p m c cc nL s args GW own) (hK : KK D cA s) (hP : WP D cA a S X I H) (hI : I 85) {idx : Nat} (hlink : Cond.fieldLink own idx "FloodFerry$Travellers" "cameAt" "LFloodFerry$Row;" ∈ GW) (hdg : decode cc pc = .ok (.getfield idx, 3)) (kk : W p l e R s m args below meth c H locs cells slots Q (F0 m (pc + 3) ls (.ref (a 64) :: rest))) : W p l e R s m args below meth c H locs cells slots Q (F0 m pc ls (.ref (a 85) :: rest)) := gf C0 hK (hP 85 hI) us_X7 rfl 5 (by decide) hlink rfl hdg kk
theorem g86_plain (C0 : CallFix p m c cc nL s args GW own) (hK : KK D cA s) (hP : WP D cA a S X I H) (hI : I 86) {idx : Nat} (hlink : Cond.fieldLink own idx "FloodFerry$Traffic" "plain" "LFloodFerry$Plain;" ∈ GW) (hdg : decode cc pc = .ok (.getfield idx, 3)) (kk : W p l e R s m args below meth c H locs cells slots Q (F0 m (pc + 3) ls (.ref (a 80) :: rest))) : W p l e R s m args below meth c H locs cells slots Q (F0 m pc ls (.ref (a 86) :: rest)) := gf C0 hK (hP 86 hI) us_X6 rfl 0 (by decide) hlink rfl hdg kk
theorem g86_landings (C0 : CallFix p m c cc nL s args GW own) (hK : KK D cA s) (hP : WP D cA a S X I H) (hI : I 86) {idx : Nat} (hlink : Cond.fieldLink own idx "FloodFerry$Traffic" "landings" "LFloodFerry$Landings;" ∈ GW) (hdg : decode cc pc = .ok (.getfield idx, 3)) (kk : W p l e R s m args below meth c H locs cells slots Q (F0 m (pc + 3) ls (.ref (a 81) :: rest))) : W p l e R s m args below meth c H locs cells slots Q (F0 m pc ls (.ref (a 86) :: rest)) := gf C0 hK (hP 86 hI) us_X6 rfl 1 (by decide) hlink rfl hdg kk
theorem g86_fleet (C0 : CallFix p m c cc nL s args GW own) (hK : KK D cA s) (hP : WP D cA a S X I H) (hI : I 86) {idx : Nat} (hlink : Cond.fieldLink own idx "FloodFerry$Traffic" "fleet" "LFloodFerry$Fleet;" ∈ GW) (hdg : decode cc pc = .ok (.getfield idx, 3)) (kk : W p l e R s m args below meth c H locs cells slots Q (F0 m (pc + 3) ls (.ref (a 82) :: rest))) : W p l e R s m args below meth c H locs cells slots Q (F0 m pc ls (.ref (a 86) :: rest)) := gf C0 hK (hP 86 hI) us_X6 rfl 2 (by decide) hlink rfl hdg kk
theorem g86_chains (C0 : CallFix p m c cc nL s args GW own) (hK : KK D cA s) (hP : WP D cA a S X I H) (hI : I 86) {idx : Nat} (hlink : Cond.fieldLink own idx "FloodFerry$Traffic" "chains" "LFloodFerry$Chains;" ∈ GW) (hdg : decode cc pc = .ok (.getfield idx, 3)) (kk : W p l e R s m args below meth c H locs cells slots Q (F0 m (pc + 3) ls (.ref (a 83) :: rest))) : W p l e R s m args below meth c H locs cells slots Q (F0 m pc ls (.ref (a 86) :: rest)) := gf C0 hK (hP 86 hI) us_X6 rfl 3 (by decide) hlink rfl hdg kk
theorem g86_charts (C0 : CallFix p m c cc nL s args GW own) (hK : KK D cA s) (hP : WP D cA a S X I H) (hI : I 86) {idx : Nat} (hlink : Cond.fieldLink own idx "FloodFerry$Traffic" "charts" "LFloodFerry$Charts;" ∈ GW) (hdg : decode cc pc = .ok (.getfield idx, 3)) (kk : W p l e R s m args below meth c H locs cells slots Q (F0 m (pc + 3) ls (.ref (a 84) :: rest))) : W p l e R s m args below meth c H locs cells slots Q (F0 m pc ls (.ref (a 86) :: rest)) := gf C0 hK (hP 86 hI) us_X6 rfl 4 (by decide) hlink rfl hdg kk
theorem g86_hour {v : Int32} (C0 : CallFix p m c cc nL s args GW own) (hK : KK D cA s) (hP : WP D cA a S X I H) (hI : I 86) {idx : Nat} (hlink : Cond.fieldLink own idx "FloodFerry$Traffic" "hour" "I" ∈ GW) (hv : S 86 0 = v) (hdg : decode cc pc = .ok (.getfield idx, 3)) (kk : W p l e R s m args below meth c H locs cells slots Q (F0 m (pc + 3) ls (.int v :: rest))) : W p l e R s m args below meth c H locs cells slots Q (F0 m pc ls (.ref (a 86) :: rest)) := by
  subst hv
  exact gf C0 hK (hP 86 hI) us_X6 rfl 5 (by decide) hlink rfl hdg kk
theorem p86_hour {x : Int32} (C0 : CallFix p m c cc nL s args GW own) (hK : KK D cA s) (hP : WP D cA a S X I H) (hS : va_S (AI a I) H0 H locs) (hI : I 86) (hinj : ∀ i j, I i → I j → a i = a j → i = j) {idx : Nat} (hlink : Cond.fieldLink own idx "FloodFerry$Traffic" "hour" "I" ∈ GW) (hdg : decode cc pc = .ok (.putfield idx, 3)) (kk : ∀ (H1 : Heap) (locs1 : List Loc), WP D cA a (up S 86 (fun _ => x)) X I H1 → va_S (AI a I) H0 H1 locs1 → W p l e R s m args below meth c H1 locs1 cells slots Q (F0 m (pc + 3) ls rest)) : W p l e R s m args below meth c H locs cells slots Q (F0 m pc ls (.int x :: .ref (a 86) :: rest)) := pf C0 hK hP hS hI hinj rfl us_X6 tyX6 tyX6_ok nmX6 rfl 5 (by decide) hlink rfl (by decide +kernel) (Nat.le_of_ble_eq_true rfl) (f := fun _ => x) rfl hdg kk
theorem g86_cell (C0 : CallFix p m c cc nL s args GW own) (hK : KK D cA s) (hP : WP D cA a S X I H) (hI : I 86) {idx : Nat} (hlink : Cond.fieldLink own idx "FloodFerry$Traffic" "cell" "LFloodFerry$Row;" ∈ GW) (hdg : decode cc pc = .ok (.getfield idx, 3)) (kk : W p l e R s m args below meth c H locs cells slots Q (F0 m (pc + 3) ls (.ref (a 56) :: rest))) : W p l e R s m args below meth c H locs cells slots Q (F0 m pc ls (.ref (a 86) :: rest)) := gf C0 hK (hP 86 hI) us_X6 rfl 6 (by decide) hlink rfl hdg kk
theorem g86_bound (C0 : CallFix p m c cc nL s args GW own) (hK : KK D cA s) (hP : WP D cA a S X I H) (hI : I 86) {idx : Nat} (hlink : Cond.fieldLink own idx "FloodFerry$Traffic" "bound" "LFloodFerry$Row;" ∈ GW) (hdg : decode cc pc = .ok (.getfield idx, 3)) (kk : W p l e R s m args below meth c H locs cells slots Q (F0 m (pc + 3) ls (.ref (a 57) :: rest))) : W p l e R s m args below meth c H locs cells slots Q (F0 m pc ls (.ref (a 86) :: rest)) := gf C0 hK (hP 86 hI) us_X6 rfl 7 (by decide) hlink rfl hdg kk
theorem g86_takings (C0 : CallFix p m c cc nL s args GW own) (hK : KK D cA s) (hP : WP D cA a S X I H) (hI : I 86) {idx : Nat} (hlink : Cond.fieldLink own idx "FloodFerry$Traffic" "takings" "LFloodFerry$Row;" ∈ GW) (hdg : decode cc pc = .ok (.getfield idx, 3)) (kk : W p l e R s m args below meth c H locs cells slots Q (F0 m (pc + 3) ls (.ref (a 58) :: rest))) : W p l e R s m args below meth c H locs cells slots Q (F0 m pc ls (.ref (a 86) :: rest)) := gf C0 hK (hP 86 hI) us_X6 rfl 8 (by decide) hlink rfl hdg kk
theorem g86_steps (C0 : CallFix p m c cc nL s args GW own) (hK : KK D cA s) (hP : WP D cA a S X I H) (hI : I 86) {idx : Nat} (hlink : Cond.fieldLink own idx "FloodFerry$Traffic" "steps" "LFloodFerry$Row;" ∈ GW) (hdg : decode cc pc = .ok (.getfield idx, 3)) (kk : W p l e R s m args below meth c H locs cells slots Q (F0 m (pc + 3) ls (.ref (a 59) :: rest))) : W p l e R s m args below meth c H locs cells slots Q (F0 m pc ls (.ref (a 86) :: rest)) := gf C0 hK (hP 86 hI) us_X6 rfl 9 (by decide) hlink rfl hdg kk
theorem g86_travellers (C0 : CallFix p m c cc nL s args GW own) (hK : KK D cA s) (hP : WP D cA a S X I H) (hI : I 86) {idx : Nat} (hlink : Cond.fieldLink own idx "FloodFerry$Traffic" "travellers" "LFloodFerry$Travellers;" ∈ GW) (hdg : decode cc pc = .ok (.getfield idx, 3)) (kk : W p l e R s m args below meth c H locs cells slots Q (F0 m (pc + 3) ls (.ref (a 85) :: rest))) : W p l e R s m args below meth c H locs cells slots Q (F0 m pc ls (.ref (a 86) :: rest)) := gf C0 hK (hP 86 hI) us_X6 rfl 10 (by decide) hlink rfl hdg kk
theorem g87_number {v : Int32} (C0 : CallFix p m c cc nL s args GW own) (hK : KK D cA s) (hP : WP D cA a S X I H) (hI : I 87) {idx : Nat} (hlink : Cond.fieldLink own idx "FloodFerry$Travellers" "number" "I" ∈ GW) (hv : X 87 0 = v) (hdg : decode cc pc = .ok (.getfield idx, 3)) (kk : W p l e R s m args below meth c H locs cells slots Q (F0 m (pc + 3) ls (.int v :: rest))) : W p l e R s m args below meth c H locs cells slots Q (F0 m pc ls (.ref (a 87) :: rest)) := by
  subst hv
  exact gf C0 hK (hP 87 hI) us_X7 rfl 0 (by decide) hlink rfl hdg kk
theorem p87_number {x : Int32} (C0 : CallFix p m c cc nL s args GW own) (hK : KK D cA s) (hP : WP D cA a S X I H) (hS : va_S (AI a I) H0 H locs) (hI : I 87) (hinj : ∀ i j, I i → I j → a i = a j → i = j) {idx : Nat} (hlink : Cond.fieldLink own idx "FloodFerry$Travellers" "number" "I" ∈ GW) (hdg : decode cc pc = .ok (.putfield idx, 3)) (kk : ∀ (H1 : Heap) (locs1 : List Loc), WP D cA a S (up X 87 (fun _ => x)) I H1 → va_S (AI a I) H0 H1 locs1 → W p l e R s m args below meth c H1 locs1 cells slots Q (F0 m (pc + 3) ls rest)) : W p l e R s m args below meth c H locs cells slots Q (F0 m pc ls (.int x :: .ref (a 87) :: rest)) := pf C0 hK hP hS hI hinj rfl us_X7 tyX7 tyX7_ok nmX7 rfl 0 (by decide) hlink rfl (by decide +kernel) (Nat.le_of_ble_eq_true rfl) (f := fun _ => x) rfl hdg kk
theorem g87_wish (C0 : CallFix p m c cc nL s args GW own) (hK : KK D cA s) (hP : WP D cA a S X I H) (hI : I 87) {idx : Nat} (hlink : Cond.fieldLink own idx "FloodFerry$Travellers" "wish" "LFloodFerry$Row;" ∈ GW) (hdg : decode cc pc = .ok (.getfield idx, 3)) (kk : W p l e R s m args below meth c H locs cells slots Q (F0 m (pc + 3) ls (.ref (a 69) :: rest))) : W p l e R s m args below meth c H locs cells slots Q (F0 m pc ls (.ref (a 87) :: rest)) := gf C0 hK (hP 87 hI) us_X7 rfl 1 (by decide) hlink rfl hdg kk
theorem g87_purse (C0 : CallFix p m c cc nL s args GW own) (hK : KK D cA s) (hP : WP D cA a S X I H) (hI : I 87) {idx : Nat} (hlink : Cond.fieldLink own idx "FloodFerry$Travellers" "purse" "LFloodFerry$Row;" ∈ GW) (hdg : decode cc pc = .ok (.getfield idx, 3)) (kk : W p l e R s m args below meth c H locs cells slots Q (F0 m (pc + 3) ls (.ref (a 70) :: rest))) : W p l e R s m args below meth c H locs cells slots Q (F0 m pc ls (.ref (a 87) :: rest)) := gf C0 hK (hP 87 hI) us_X7 rfl 2 (by decide) hlink rfl hdg kk
theorem g87_landing (C0 : CallFix p m c cc nL s args GW own) (hK : KK D cA s) (hP : WP D cA a S X I H) (hI : I 87) {idx : Nat} (hlink : Cond.fieldLink own idx "FloodFerry$Travellers" "landing" "LFloodFerry$Row;" ∈ GW) (hdg : decode cc pc = .ok (.getfield idx, 3)) (kk : W p l e R s m args below meth c H locs cells slots Q (F0 m (pc + 3) ls (.ref (a 71) :: rest))) : W p l e R s m args below meth c H locs cells slots Q (F0 m pc ls (.ref (a 87) :: rest)) := gf C0 hK (hP 87 hI) us_X7 rfl 3 (by decide) hlink rfl hdg kk
theorem g87_punt (C0 : CallFix p m c cc nL s args GW own) (hK : KK D cA s) (hP : WP D cA a S X I H) (hI : I 87) {idx : Nat} (hlink : Cond.fieldLink own idx "FloodFerry$Travellers" "punt" "LFloodFerry$Row;" ∈ GW) (hdg : decode cc pc = .ok (.getfield idx, 3)) (kk : W p l e R s m args below meth c H locs cells slots Q (F0 m (pc + 3) ls (.ref (a 72) :: rest))) : W p l e R s m args below meth c H locs cells slots Q (F0 m pc ls (.ref (a 87) :: rest)) := gf C0 hK (hP 87 hI) us_X7 rfl 4 (by decide) hlink rfl hdg kk
theorem g87_cameAt (C0 : CallFix p m c cc nL s args GW own) (hK : KK D cA s) (hP : WP D cA a S X I H) (hI : I 87) {idx : Nat} (hlink : Cond.fieldLink own idx "FloodFerry$Travellers" "cameAt" "LFloodFerry$Row;" ∈ GW) (hdg : decode cc pc = .ok (.getfield idx, 3)) (kk : W p l e R s m args below meth c H locs cells slots Q (F0 m (pc + 3) ls (.ref (a 73) :: rest))) : W p l e R s m args below meth c H locs cells slots Q (F0 m pc ls (.ref (a 87) :: rest)) := gf C0 hK (hP 87 hI) us_X7 rfl 5 (by decide) hlink rfl hdg kk
theorem g88_plain (C0 : CallFix p m c cc nL s args GW own) (hK : KK D cA s) (hP : WP D cA a S X I H) (hI : I 88) {idx : Nat} (hlink : Cond.fieldLink own idx "FloodFerry$Traffic" "plain" "LFloodFerry$Plain;" ∈ GW) (hdg : decode cc pc = .ok (.getfield idx, 3)) (kk : W p l e R s m args below meth c H locs cells slots Q (F0 m (pc + 3) ls (.ref (a 80) :: rest))) : W p l e R s m args below meth c H locs cells slots Q (F0 m pc ls (.ref (a 88) :: rest)) := gf C0 hK (hP 88 hI) us_X6 rfl 0 (by decide) hlink rfl hdg kk
theorem g88_landings (C0 : CallFix p m c cc nL s args GW own) (hK : KK D cA s) (hP : WP D cA a S X I H) (hI : I 88) {idx : Nat} (hlink : Cond.fieldLink own idx "FloodFerry$Traffic" "landings" "LFloodFerry$Landings;" ∈ GW) (hdg : decode cc pc = .ok (.getfield idx, 3)) (kk : W p l e R s m args below meth c H locs cells slots Q (F0 m (pc + 3) ls (.ref (a 81) :: rest))) : W p l e R s m args below meth c H locs cells slots Q (F0 m pc ls (.ref (a 88) :: rest)) := gf C0 hK (hP 88 hI) us_X6 rfl 1 (by decide) hlink rfl hdg kk
theorem g88_fleet (C0 : CallFix p m c cc nL s args GW own) (hK : KK D cA s) (hP : WP D cA a S X I H) (hI : I 88) {idx : Nat} (hlink : Cond.fieldLink own idx "FloodFerry$Traffic" "fleet" "LFloodFerry$Fleet;" ∈ GW) (hdg : decode cc pc = .ok (.getfield idx, 3)) (kk : W p l e R s m args below meth c H locs cells slots Q (F0 m (pc + 3) ls (.ref (a 82) :: rest))) : W p l e R s m args below meth c H locs cells slots Q (F0 m pc ls (.ref (a 88) :: rest)) := gf C0 hK (hP 88 hI) us_X6 rfl 2 (by decide) hlink rfl hdg kk
theorem g88_chains (C0 : CallFix p m c cc nL s args GW own) (hK : KK D cA s) (hP : WP D cA a S X I H) (hI : I 88) {idx : Nat} (hlink : Cond.fieldLink own idx "FloodFerry$Traffic" "chains" "LFloodFerry$Chains;" ∈ GW) (hdg : decode cc pc = .ok (.getfield idx, 3)) (kk : W p l e R s m args below meth c H locs cells slots Q (F0 m (pc + 3) ls (.ref (a 83) :: rest))) : W p l e R s m args below meth c H locs cells slots Q (F0 m pc ls (.ref (a 88) :: rest)) := gf C0 hK (hP 88 hI) us_X6 rfl 3 (by decide) hlink rfl hdg kk
theorem g88_charts (C0 : CallFix p m c cc nL s args GW own) (hK : KK D cA s) (hP : WP D cA a S X I H) (hI : I 88) {idx : Nat} (hlink : Cond.fieldLink own idx "FloodFerry$Traffic" "charts" "LFloodFerry$Charts;" ∈ GW) (hdg : decode cc pc = .ok (.getfield idx, 3)) (kk : W p l e R s m args below meth c H locs cells slots Q (F0 m (pc + 3) ls (.ref (a 84) :: rest))) : W p l e R s m args below meth c H locs cells slots Q (F0 m pc ls (.ref (a 88) :: rest)) := gf C0 hK (hP 88 hI) us_X6 rfl 4 (by decide) hlink rfl hdg kk
theorem g88_hour {v : Int32} (C0 : CallFix p m c cc nL s args GW own) (hK : KK D cA s) (hP : WP D cA a S X I H) (hI : I 88) {idx : Nat} (hlink : Cond.fieldLink own idx "FloodFerry$Traffic" "hour" "I" ∈ GW) (hv : X 88 0 = v) (hdg : decode cc pc = .ok (.getfield idx, 3)) (kk : W p l e R s m args below meth c H locs cells slots Q (F0 m (pc + 3) ls (.int v :: rest))) : W p l e R s m args below meth c H locs cells slots Q (F0 m pc ls (.ref (a 88) :: rest)) := by
  subst hv
  exact gf C0 hK (hP 88 hI) us_X6 rfl 5 (by decide) hlink rfl hdg kk
theorem p88_hour {x : Int32} (C0 : CallFix p m c cc nL s args GW own) (hK : KK D cA s) (hP : WP D cA a S X I H) (hS : va_S (AI a I) H0 H locs) (hI : I 88) (hinj : ∀ i j, I i → I j → a i = a j → i = j) {idx : Nat} (hlink : Cond.fieldLink own idx "FloodFerry$Traffic" "hour" "I" ∈ GW) (hdg : decode cc pc = .ok (.putfield idx, 3)) (kk : ∀ (H1 : Heap) (locs1 : List Loc), WP D cA a S (up X 88 (fun _ => x)) I H1 → va_S (AI a I) H0 H1 locs1 → W p l e R s m args below meth c H1 locs1 cells slots Q (F0 m (pc + 3) ls rest)) : W p l e R s m args below meth c H locs cells slots Q (F0 m pc ls (.int x :: .ref (a 88) :: rest)) := pf C0 hK hP hS hI hinj rfl us_X6 tyX6 tyX6_ok nmX6 rfl 5 (by decide) hlink rfl (by decide +kernel) (Nat.le_of_ble_eq_true rfl) (f := fun _ => x) rfl hdg kk
theorem g88_cell (C0 : CallFix p m c cc nL s args GW own) (hK : KK D cA s) (hP : WP D cA a S X I H) (hI : I 88) {idx : Nat} (hlink : Cond.fieldLink own idx "FloodFerry$Traffic" "cell" "LFloodFerry$Row;" ∈ GW) (hdg : decode cc pc = .ok (.getfield idx, 3)) (kk : W p l e R s m args below meth c H locs cells slots Q (F0 m (pc + 3) ls (.ref (a 65) :: rest))) : W p l e R s m args below meth c H locs cells slots Q (F0 m pc ls (.ref (a 88) :: rest)) := gf C0 hK (hP 88 hI) us_X6 rfl 6 (by decide) hlink rfl hdg kk
theorem g88_bound (C0 : CallFix p m c cc nL s args GW own) (hK : KK D cA s) (hP : WP D cA a S X I H) (hI : I 88) {idx : Nat} (hlink : Cond.fieldLink own idx "FloodFerry$Traffic" "bound" "LFloodFerry$Row;" ∈ GW) (hdg : decode cc pc = .ok (.getfield idx, 3)) (kk : W p l e R s m args below meth c H locs cells slots Q (F0 m (pc + 3) ls (.ref (a 66) :: rest))) : W p l e R s m args below meth c H locs cells slots Q (F0 m pc ls (.ref (a 88) :: rest)) := gf C0 hK (hP 88 hI) us_X6 rfl 7 (by decide) hlink rfl hdg kk
theorem g88_takings (C0 : CallFix p m c cc nL s args GW own) (hK : KK D cA s) (hP : WP D cA a S X I H) (hI : I 88) {idx : Nat} (hlink : Cond.fieldLink own idx "FloodFerry$Traffic" "takings" "LFloodFerry$Row;" ∈ GW) (hdg : decode cc pc = .ok (.getfield idx, 3)) (kk : W p l e R s m args below meth c H locs cells slots Q (F0 m (pc + 3) ls (.ref (a 67) :: rest))) : W p l e R s m args below meth c H locs cells slots Q (F0 m pc ls (.ref (a 88) :: rest)) := gf C0 hK (hP 88 hI) us_X6 rfl 8 (by decide) hlink rfl hdg kk
theorem g88_steps (C0 : CallFix p m c cc nL s args GW own) (hK : KK D cA s) (hP : WP D cA a S X I H) (hI : I 88) {idx : Nat} (hlink : Cond.fieldLink own idx "FloodFerry$Traffic" "steps" "LFloodFerry$Row;" ∈ GW) (hdg : decode cc pc = .ok (.getfield idx, 3)) (kk : W p l e R s m args below meth c H locs cells slots Q (F0 m (pc + 3) ls (.ref (a 68) :: rest))) : W p l e R s m args below meth c H locs cells slots Q (F0 m pc ls (.ref (a 88) :: rest)) := gf C0 hK (hP 88 hI) us_X6 rfl 9 (by decide) hlink rfl hdg kk
theorem g88_travellers (C0 : CallFix p m c cc nL s args GW own) (hK : KK D cA s) (hP : WP D cA a S X I H) (hI : I 88) {idx : Nat} (hlink : Cond.fieldLink own idx "FloodFerry$Traffic" "travellers" "LFloodFerry$Travellers;" ∈ GW) (hdg : decode cc pc = .ok (.getfield idx, 3)) (kk : W p l e R s m args below meth c H locs cells slots Q (F0 m (pc + 3) ls (.ref (a 87) :: rest))) : W p l e R s m args below meth c H locs cells slots Q (F0 m pc ls (.ref (a 88) :: rest)) := gf C0 hK (hP 88 hI) us_X6 rfl 10 (by decide) hlink rfl hdg kk
theorem g89_plain (C0 : CallFix p m c cc nL s args GW own) (hK : KK D cA s) (hP : WP D cA a S X I H) (hI : I 89) {idx : Nat} (hlink : Cond.fieldLink own idx "FloodFerry" "plain" "LFloodFerry$Plain;" ∈ GW) (hdg : decode cc pc = .ok (.getfield idx, 3)) (kk : W p l e R s m args below meth c H locs cells slots Q (F0 m (pc + 3) ls (.ref (a 80) :: rest))) : W p l e R s m args below meth c H locs cells slots Q (F0 m pc ls (.ref (a 89) :: rest)) := gf C0 hK (hP 89 hI) us_X8 rfl 0 (by decide) hlink rfl hdg kk
theorem g89_landings (C0 : CallFix p m c cc nL s args GW own) (hK : KK D cA s) (hP : WP D cA a S X I H) (hI : I 89) {idx : Nat} (hlink : Cond.fieldLink own idx "FloodFerry" "landings" "LFloodFerry$Landings;" ∈ GW) (hdg : decode cc pc = .ok (.getfield idx, 3)) (kk : W p l e R s m args below meth c H locs cells slots Q (F0 m (pc + 3) ls (.ref (a 81) :: rest))) : W p l e R s m args below meth c H locs cells slots Q (F0 m pc ls (.ref (a 89) :: rest)) := gf C0 hK (hP 89 hI) us_X8 rfl 1 (by decide) hlink rfl hdg kk
theorem g89_fleet (C0 : CallFix p m c cc nL s args GW own) (hK : KK D cA s) (hP : WP D cA a S X I H) (hI : I 89) {idx : Nat} (hlink : Cond.fieldLink own idx "FloodFerry" "fleet" "LFloodFerry$Fleet;" ∈ GW) (hdg : decode cc pc = .ok (.getfield idx, 3)) (kk : W p l e R s m args below meth c H locs cells slots Q (F0 m (pc + 3) ls (.ref (a 82) :: rest))) : W p l e R s m args below meth c H locs cells slots Q (F0 m pc ls (.ref (a 89) :: rest)) := gf C0 hK (hP 89 hI) us_X8 rfl 2 (by decide) hlink rfl hdg kk
theorem g89_chains (C0 : CallFix p m c cc nL s args GW own) (hK : KK D cA s) (hP : WP D cA a S X I H) (hI : I 89) {idx : Nat} (hlink : Cond.fieldLink own idx "FloodFerry" "chains" "LFloodFerry$Chains;" ∈ GW) (hdg : decode cc pc = .ok (.getfield idx, 3)) (kk : W p l e R s m args below meth c H locs cells slots Q (F0 m (pc + 3) ls (.ref (a 83) :: rest))) : W p l e R s m args below meth c H locs cells slots Q (F0 m pc ls (.ref (a 89) :: rest)) := gf C0 hK (hP 89 hI) us_X8 rfl 3 (by decide) hlink rfl hdg kk
theorem g89_charts (C0 : CallFix p m c cc nL s args GW own) (hK : KK D cA s) (hP : WP D cA a S X I H) (hI : I 89) {idx : Nat} (hlink : Cond.fieldLink own idx "FloodFerry" "charts" "LFloodFerry$Charts;" ∈ GW) (hdg : decode cc pc = .ok (.getfield idx, 3)) (kk : W p l e R s m args below meth c H locs cells slots Q (F0 m (pc + 3) ls (.ref (a 84) :: rest))) : W p l e R s m args below meth c H locs cells slots Q (F0 m pc ls (.ref (a 89) :: rest)) := gf C0 hK (hP 89 hI) us_X8 rfl 4 (by decide) hlink rfl hdg kk
theorem g89_now (C0 : CallFix p m c cc nL s args GW own) (hK : KK D cA s) (hP : WP D cA a S X I H) (hI : I 89) {idx : Nat} (hlink : Cond.fieldLink own idx "FloodFerry" "now" "LFloodFerry$Traffic;" ∈ GW) (hdg : decode cc pc = .ok (.getfield idx, 3)) (kk : W p l e R s m args below meth c H locs cells slots Q (F0 m (pc + 3) ls (.ref (a 86) :: rest))) : W p l e R s m args below meth c H locs cells slots Q (F0 m pc ls (.ref (a 89) :: rest)) := gf C0 hK (hP 89 hI) us_X8 rfl 5 (by decide) hlink rfl hdg kk
theorem g89_ahead (C0 : CallFix p m c cc nL s args GW own) (hK : KK D cA s) (hP : WP D cA a S X I H) (hI : I 89) {idx : Nat} (hlink : Cond.fieldLink own idx "FloodFerry" "ahead" "LFloodFerry$Traffic;" ∈ GW) (hdg : decode cc pc = .ok (.getfield idx, 3)) (kk : W p l e R s m args below meth c H locs cells slots Q (F0 m (pc + 3) ls (.ref (a 88) :: rest))) : W p l e R s m args below meth c H locs cells slots Q (F0 m pc ls (.ref (a 89) :: rest)) := gf C0 hK (hP 89 hI) us_X8 rfl 6 (by decide) hlink rfl hdg kk
theorem gRow {k : Nat} (hk : k < 34) (C0 : CallFix p m c cc nL s args GW own) (hK : KK D cA s) (hP : WP D cA a S X I H) (hI : I (40 + k)) {idx : Nat} (hlink : Cond.fieldLink own idx "FloodFerry$Row" "numbers" "[I" ∈ GW) (hdg : decode cc pc = .ok (.getfield idx, 3)) (kk : W p l e R s m args below meth c H locs cells slots Q (F0 m (pc + 3) ls (.ref (a k) :: rest))) : W p l e R s m args below meth c H locs cells slots Q (F0 m pc ls (.ref (a (40 + k)) :: rest)) := gf C0 hK (by have h := hP _ hI; rw [ct_row cA a S X hk] at h; exact h) us_X5 rfl 0 (by decide) hlink rfl hdg kk
theorem arrLen {k : Nat} (hk : k < 34) (C0 : CallFix p m c cc nL s args GW own) (hK : KK D cA s) (hP : WP D cA a S X I H) (hI : I k) (hdg : decode cc pc = .ok (.arraylength, 1)) (kk : W p l e R s m args below meth c H locs cells slots Q (F0 m (pc + 1) ls (.int (nI (ln k)) :: rest))) : W p l e R s m args below meth c H locs cells slots Q (F0 m pc ls (.ref (a k) :: rest)) := alen C0 hK (by have h := hP _ hI; rw [ct_arr cA a S X hk] at h; exact h) hdg kk
theorem arrLd {k : Nat} (hk : k < 34) (C0 : CallFix p m c cc nL s args GW own) (hK : KK D cA s) (hP : WP D cA a S X I H) (hI : I k) {i : Int32} (hin : vp_in i (ln k)) (hdg : decode cc pc = .ok (.iaload, 1)) (kk : W p l e R s m args below meth c H locs cells slots Q (F0 m (pc + 1) ls (.int (me S X k i.toNatClampNeg) :: rest))) : W p l e R s m args below meth c H locs cells slots Q (F0 m pc ls (.int i :: .ref (a k) :: rest)) := ald C0 hK (by have h := hP _ hI; rw [ct_arr cA a S X hk] at h; exact h) hin hdg kk
end FLD
end
section
def rg (f : Nat → Int32) (n : Nat) (i : Int32) : Int32 := if i < 0 ∨ n ≤ i.toNatClampNeg then 0 else f i.toNatClampNeg
def us (f : Nat → Int32) (n : Nat) (i x : Int32) : Nat → Int32 := if i < 0 ∨ n ≤ i.toNatClampNeg then f else upd f i.toNatClampNeg x
def fl (f : Nat → Int32) (n : Nat) (v : Int32) : Nat → Int32 := fun j => if j < n then v else f j
def tk (f g : Nat → Int32) (n : Nat) : Nat → Int32 := fun j => if j < n then g j else f j
def cnt (P : Nat → Bool) : Nat → Nat
  | 0 => 0
  | n + 1 => cnt P n + (if P n = true then 1 else 0)
theorem cnt_le (P : Nat → Bool) (n : Nat) : cnt P n ≤ n := by
  induction n with
  | zero => exact Nat.le_refl _
  | succ n ih => unfold cnt; split <;> omega
theorem ln_lt (k : Nat) : ln k < 2 ^ 31 := by unfold ln; split <;> decide
theorem ix_hi {i : Int32} {n : Nat} (h0 : ¬ i < 0) (hn : n < 2 ^ 31) (h : nI n ≤ i) : n ≤ i.toNatClampNeg := by
  obtain ⟨j, hj, rfl⟩ := nI_of h0
  rw [nI_clamp hj]
  exact (nI_leI hn hj).mp h
theorem ix_lo {i : Int32} {n : Nat} (h0 : ¬ i < 0) (hn : n < 2 ^ 31) (h : ¬ nI n ≤ i) : ¬ n ≤ i.toNatClampNeg := by
  obtain ⟨j, hj, rfl⟩ := nI_of h0
  rw [nI_clamp hj]
  exact fun q => h ((nI_leI hn hj).mpr q)
theorem rg_lo {f : Nat → Int32} {n : Nat} {i : Int32} (h : i < 0) : rg f n i = 0 := if_pos (Or.inl h)
theorem rg_hi {f : Nat → Int32} {n : Nat} {i : Int32} (h0 : ¬ i < 0) (hn : n < 2 ^ 31) (h : nI n ≤ i) : rg f n i = 0 := if_pos (Or.inr (ix_hi h0 hn h))
theorem rg_in {f : Nat → Int32} {n : Nat} {i : Int32} (h : vp_in i n) : rg f n i = f i.toNatClampNeg := if_neg h
theorem us_lo {f : Nat → Int32} {n : Nat} {i x : Int32} (h : i < 0) : us f n i x = f := if_pos (Or.inl h)
theorem us_hi {f : Nat → Int32} {n : Nat} {i x : Int32} (h0 : ¬ i < 0) (hn : n < 2 ^ 31) (h : nI n ≤ i) : us f n i x = f := if_pos (Or.inr (ix_hi h0 hn h))
theorem us_in {f : Nat → Int32} {n : Nat} {i x : Int32} (h : vp_in i n) : us f n i x = upd f i.toNatClampNeg x := if_neg h
theorem rg_nI {f : Nat → Int32} {n j : Nat} (h : j < n) (hn : n < 2 ^ 31) : rg f n (nI j) = f j := by rw [rg_in (vp_in_nI h hn), nI_clamp (by omega)]
theorem us_nI {f : Nat → Int32} {n j : Nat} {x : Int32} (h : j < n) (hn : n < 2 ^ 31) : us f n (nI j) x = upd f j x := by rw [us_in (vp_in_nI h hn), nI_clamp (by omega)]
theorem up_self (S : Mem) (k : Nat) : up S k (S k) = S := by funext j; by_cases h : j = k <;> simp [up, h]
theorem wS_me (S X : Mem) (k : Nat) : wS S k (me S X k) = S := by unfold wS me; cases inX k <;> simp [up_self]
theorem wX_me (S X : Mem) (k : Nat) : wX X k (me S X k) = X := by unfold wX me; cases inX k <;> simp [up_self]
theorem up_up (S : Mem) (k : Nat) (f g : Nat → Int32) : up (up S k f) k g = up S k g := by funext j; by_cases h : j = k <;> simp [up, h]
theorem wS_wS (S : Mem) (k : Nat) (f g : Nat → Int32) : wS (wS S k f) k g = wS S k g := by unfold wS; cases inX k <;> simp [up_up]
theorem wX_wX (X : Mem) (k : Nat) (f g : Nat → Int32) : wX (wX X k f) k g = wX X k g := by unfold wX; cases inX k <;> simp [up_up]

section ROW
variable {p : Program} {l : Launch} {e : Env} {R : Room} {s : State} {m : MethodId} {args : Array Value} {below : List Frame} {meth : Method} {c : Code} {H : Heap} {locs : List Loc} {cells slots : Nat} {Q : State → Prop}
variable {cc : ByteArray} {nL : Nat} {own : String} {pc : Nat} {ls : Array Slot} {rest : List Value} {D : va_G} {cA : ClassId} {a : Adr} {S X : Mem} {I : Nat → Prop} {H0 : Heap}
set_option maxHeartbeats 4000000 in
set_option maxRecDepth 100000 in
theorem c_X5_get (l : Launch) (D : va_G) (cA : ClassId) (a : Adr) (S X : Mem) (I : Nat → Prop) (k : Nat) (hk : k < 34) (hd : Hd [k, 40 + k] a I) (i : Int32) : MI l yX5_get cX5_get 2 (some .int) 0 0 D cA a S X I [.ref (a (40 + k)), .int i] (fun r S1 X1 => r = rg (me S X k) (ln k) i ∧ S1 = S ∧ X1 = X) := by
  refine mGo (by decide) (Nat.le_of_ble_eq_true rfl) ?_
  intro p e s m args below meth c ls C0 hr hlk hK hP hS hl hargs
  refine lv_iload_n C0.1 C0.2.1 dX5_get_0 rfl (lv_at hl 1 rfl) ?_
  refine lv_if_lt (tgt := 22) C0.1 C0.2.1 dX5_get_1 (by decide) (fun c_1 => ?_) (fun c_1 => ?_)
  · refine lv_iconst (v := 0) C0.1 C0.2.1 dX5_get_22 (by decide) ?_
    exact retI C0 hr hlk hP hS ⟨(rg_lo c_1).symm, rfl, rfl⟩ dX5_get_23
  · refine lv_iload_n C0.1 C0.2.1 dX5_get_4 rfl (lv_at hl 1 rfl) ?_
    refine lv_aload_n C0.1 C0.2.1 dX5_get_5 rfl (lv_at hl 0 rfl) ?_
    refine gRow hk C0 hK hP (hd.1 _ (by simp)) fl_X5_7 dX5_get_6 ?_
    refine arrLen hk C0 hK hP (hd.1 _ (by simp)) dX5_get_9 ?_
    refine lv_icmp_ge (tgt := 22) C0.1 C0.2.1 dX5_get_10 (by decide) (fun c_10 => ?_) (fun c_10 => ?_)
    · refine lv_iconst (v := 0) C0.1 C0.2.1 dX5_get_22 (by decide) ?_
      exact retI C0 hr hlk hP hS ⟨(rg_hi c_1 (ln_lt k) c_10).symm, rfl, rfl⟩ dX5_get_23
    · have hin : vp_in i (ln k) := fun q => q.elim c_1 (ix_lo c_1 (ln_lt k) c_10)
      refine lv_aload_n C0.1 C0.2.1 dX5_get_13 rfl (lv_at hl 0 rfl) ?_
      refine gRow hk C0 hK hP (hd.1 _ (by simp)) fl_X5_7 dX5_get_14 ?_
      refine lv_iload_n C0.1 C0.2.1 dX5_get_17 rfl (lv_at hl 1 rfl) ?_
      refine arrLd hk C0 hK hP (hd.1 _ (by simp)) hin dX5_get_18 ?_
      refine lv_goto (tgt := 23) C0.1 C0.2.1 dX5_get_19 (by decide) ?_
      exact retI C0 hr hlk hP hS ⟨(rg_in hin).symm, rfl, rfl⟩ dX5_get_23

theorem k_X5_get {n : List Nat} (k : Nat) (hk : k < 34) (hd : Hd n a I) (h1 : k ∈ n) (h2 : 40 + k ∈ n) {i : Int32}  {v : Int32} (hv : rg (me S X k) (ln k) i = v) (C0 : CallFix p m c cc nL s args GW own) (hK : KK D cA s) (hP : WP D cA a S X I H) (hS : va_S (AI a I) H0 H locs) (hls : ls.size = nL) {idx : Nat} (hlink : Cond.methodLink own idx yX5_get ∈ GW) (hR : 1 ≤ R.frames ∧ 21 ≤ R.locals) (hcs : cells ≤ R.cells ∧ slots ≤ R.slots) (hrest : (rest.map fun v => v.category).sum ≤ 8) (hdg : decode cc pc = .ok (.invokevirtual idx, 3)) (kk : ∀ (H1 : Heap) (locs1 : List Loc), WP D cA a S X I H1 → va_S (AI a I) H0 H1 locs1 → W p l e R s m args below meth c H1 locs1 cells slots Q (F0 m (pc + 3) ls (.int v :: rest))) : W p l e R s m args below meth c H locs cells slots Q (F0 m pc ls (.int i :: .ref (a (40 + k)) :: rest)) := by
  subst hv
  exact goI (rV (n := 1) (c_X5_get l D cA a S X I k hk (hd.sub (by simp [h1, h2])) i) C0 hlink im_X5_get se_X5_get in_X5 co_X5_get ⟨rfl, by decide⟩ hR hK hP (hd.1 _ h2) (ct_row cA a S X hk) rfl rfl hls hrest rfl hdg hcs) hS (fun r S1 X1 H1 locs1 hp hP1 hS1 => by obtain ⟨rfl, rfl, rfl⟩ := hp; exact kk H1 locs1 hP1 hS1)

set_option maxHeartbeats 4000000 in
set_option maxRecDepth 100000 in
theorem c_X5_set (l : Launch) (D : va_G) (cA : ClassId) (a : Adr) (S X : Mem) (I : Nat → Prop) (k : Nat) (hk : k < 34) (hd : Hd [k, 40 + k] a I) (i x : Int32) : MV l yX5_set cX5_set 3 none 0 0 D cA a S X I [.ref (a (40 + k)), .int i, .int x] (fun S1 X1 => S1 = (wS S k (us (me S X k) (ln k) i x)) ∧ X1 = (wX X k (us (me S X k) (ln k) i x))) := by
  refine mGo (by decide) (Nat.le_of_ble_eq_true rfl) ?_
  intro p e s m args below meth c ls C0 hr hlk hK hP hS hl hargs
  refine lv_iload_n C0.1 C0.2.1 dX5_set_0 rfl (lv_at hl 1 rfl) ?_
  refine lv_if_lt (tgt := 20) C0.1 C0.2.1 dX5_set_1 (by decide) (fun c_1 => ?_) (fun c_1 => ?_)
  · exact retV C0 hr hlk hP hS ⟨by rw [us_lo c_1, wS_me], by rw [us_lo c_1, wX_me]⟩ dX5_set_20
  · refine lv_iload_n C0.1 C0.2.1 dX5_set_4 rfl (lv_at hl 1 rfl) ?_
    refine lv_aload_n C0.1 C0.2.1 dX5_set_5 rfl (lv_at hl 0 rfl) ?_
    refine gRow hk C0 hK hP (hd.1 _ (by simp)) fl_X5_7 dX5_set_6 ?_
    refine arrLen hk C0 hK hP (hd.1 _ (by simp)) dX5_set_9 ?_
    refine lv_icmp_ge (tgt := 20) C0.1 C0.2.1 dX5_set_10 (by decide) (fun c_10 => ?_) (fun c_10 => ?_)
    · exact retV C0 hr hlk hP hS ⟨by rw [us_hi c_1 (ln_lt k) c_10, wS_me], by rw [us_hi c_1 (ln_lt k) c_10, wX_me]⟩ dX5_set_20
    · have hin : vp_in i (ln k) := fun q => q.elim c_1 (ix_lo c_1 (ln_lt k) c_10)
      refine lv_aload_n C0.1 C0.2.1 dX5_set_13 rfl (lv_at hl 0 rfl) ?_
      refine gRow hk C0 hK hP (hd.1 _ (by simp)) fl_X5_7 dX5_set_14 ?_
      refine lv_iload_n C0.1 C0.2.1 dX5_set_17 rfl (lv_at hl 1 rfl) ?_
      refine lv_iload_n C0.1 C0.2.1 dX5_set_18 rfl (lv_at hl 2 rfl) ?_
      refine ast hk C0 hK hP hS (hd.1 _ (by simp)) hd.2.2 hin dX5_set_19 (fun H locs hP hS => ?_)
      exact retV C0 hr hlk hP hS ⟨by rw [us_in hin], by rw [us_in hin]⟩ dX5_set_20

theorem k_X5_set {n : List Nat} (k : Nat) (hk : k < 34) (hd : Hd n a I) (h1 : k ∈ n) (h2 : 40 + k ∈ n) {i x : Int32}  (C0 : CallFix p m c cc nL s args GW own) (hK : KK D cA s) (hP : WP D cA a S X I H) (hS : va_S (AI a I) H0 H locs) (hls : ls.size = nL) {idx : Nat} (hlink : Cond.methodLink own idx yX5_set ∈ GW) (hR : 1 ≤ R.frames ∧ 22 ≤ R.locals) (hcs : cells ≤ R.cells ∧ slots ≤ R.slots) (hrest : (rest.map fun v => v.category).sum ≤ 8) (hdg : decode cc pc = .ok (.invokevirtual idx, 3)) (kk : ∀ (H1 : Heap) (locs1 : List Loc), WP D cA a (wS S k (us (me S X k) (ln k) i x)) (wX X k (us (me S X k) (ln k) i x)) I H1 → va_S (AI a I) H0 H1 locs1 → W p l e R s m args below meth c H1 locs1 cells slots Q (F0 m (pc + 3) ls rest)) : W p l e R s m args below meth c H locs cells slots Q (F0 m pc ls (.int x :: .int i :: .ref (a (40 + k)) :: rest)) := by
  exact goV (rV (n := 2) (c_X5_set l D cA a S X I k hk (hd.sub (by simp [h1, h2])) i x) C0 hlink im_X5_set se_X5_set in_X5 co_X5_set ⟨rfl, by decide⟩ hR hK hP (hd.1 _ h2) (ct_row cA a S X hk) rfl rfl hls hrest rfl hdg hcs) hS (fun S1 X1 H1 locs1 hp hP1 hS1 => by obtain ⟨rfl, rfl⟩ := hp; exact kk H1 locs1 hP1 hS1)

set_option maxHeartbeats 4000000 in
set_option maxRecDepth 100000 in
theorem c_X5_put (l : Launch) (D : va_G) (cA : ClassId) (a : Adr) (S X : Mem) (I : Nat → Prop) (k : Nat) (hk : k < 34) (hd : Hd [k, 40 + k] a I) (i x : Int32) : MI l yX5_put cX5_put 4 (some .int) 1 22 D cA a S X I [.ref (a (40 + k)), .int i, .int x] (fun r S1 X1 => r = rg (me S X k) (ln k) i ∧ S1 = (wS S k (us (me S X k) (ln k) i x)) ∧ X1 = (wX X k (us (me S X k) (ln k) i x))) := by
  refine mGo (by decide) (Nat.le_of_ble_eq_true rfl) ?_
  intro p e s m args below meth c ls C0 hr hlk hK hP hS hl hargs
  refine lv_aload_n C0.1 C0.2.1 dX5_put_0 rfl (lv_at hl 0 rfl) ?_
  refine lv_iload_n C0.1 C0.2.1 dX5_put_1 rfl (lv_at hl 1 rfl) ?_
  refine k_X5_get (v := rg (me S X k) (ln k) i) k hk hd (by simp) (by simp) rfl C0 hK hP hS hl.1 ml_X5_13 ⟨Nat.le_of_ble_eq_true rfl, Nat.le_of_ble_eq_true rfl⟩ ⟨Nat.zero_le _, Nat.zero_le _⟩ (Nat.le_of_ble_eq_true rfl) dX5_put_2 (fun H locs hP hS => ?_)
  refine lv_istore_n (lv' := [(3, .int (rg (me S X k) (ln k) i)), (0, .ref (a (40 + k))), (1, .int i), (2, .int x)]) C0.1 C0.2.1 dX5_put_5 rfl hl (by decide) rfl (fun ls hl => ?_)
  refine lv_aload_n C0.1 C0.2.1 dX5_put_6 rfl (lv_at hl 1 rfl) ?_
  refine lv_iload_n C0.1 C0.2.1 dX5_put_7 rfl (lv_at hl 2 rfl) ?_
  refine lv_iload_n C0.1 C0.2.1 dX5_put_8 rfl (lv_at hl 3 rfl) ?_
  refine k_X5_set k hk hd (by simp) (by simp) C0 hK hP hS hl.1 ml_X5_17 ⟨Nat.le_of_ble_eq_true rfl, Nat.le_of_ble_eq_true rfl⟩ ⟨Nat.zero_le _, Nat.zero_le _⟩ (Nat.le_of_ble_eq_true rfl) dX5_put_9 (fun H locs hP hS => ?_)
  refine lv_iload_n C0.1 C0.2.1 dX5_put_12 rfl (lv_at hl 0 rfl) ?_
  exact retI C0 hr hlk hP hS ⟨rfl, rfl, rfl⟩ dX5_put_13

theorem k_X5_put {n : List Nat} (k : Nat) (hk : k < 34) (hd : Hd n a I) (h1 : k ∈ n) (h2 : 40 + k ∈ n) {i x : Int32}  {v : Int32} (hv : rg (me S X k) (ln k) i = v) (C0 : CallFix p m c cc nL s args GW own) (hK : KK D cA s) (hP : WP D cA a S X I H) (hS : va_S (AI a I) H0 H locs) (hls : ls.size = nL) {idx : Nat} (hlink : Cond.methodLink own idx yX5_put ∈ GW) (hR : 2 ≤ R.frames ∧ 45 ≤ R.locals) (hcs : cells ≤ R.cells ∧ slots ≤ R.slots) (hrest : (rest.map fun v => v.category).sum ≤ 8) (hdg : decode cc pc = .ok (.invokevirtual idx, 3)) (kk : ∀ (H1 : Heap) (locs1 : List Loc), WP D cA a (wS S k (us (me S X k) (ln k) i x)) (wX X k (us (me S X k) (ln k) i x)) I H1 → va_S (AI a I) H0 H1 locs1 → W p l e R s m args below meth c H1 locs1 cells slots Q (F0 m (pc + 3) ls (.int v :: rest))) : W p l e R s m args below meth c H locs cells slots Q (F0 m pc ls (.int x :: .int i :: .ref (a (40 + k)) :: rest)) := by
  subst hv
  exact goI (rV (n := 2) (c_X5_put l D cA a S X I k hk (hd.sub (by simp [h1, h2])) i x) C0 hlink im_X5_put se_X5_put in_X5 co_X5_put ⟨rfl, by decide⟩ hR hK hP (hd.1 _ h2) (ct_row cA a S X hk) rfl rfl hls hrest rfl hdg hcs) hS (fun r S1 X1 H1 locs1 hp hP1 hS1 => by obtain ⟨rfl, rfl, rfl⟩ := hp; exact kk H1 locs1 hP1 hS1)

set_option maxHeartbeats 4000000 in
set_option maxRecDepth 100000 in
theorem c_X5_add (l : Launch) (D : va_G) (cA : ClassId) (a : Adr) (S X : Mem) (I : Nat → Prop) (k : Nat) (hk : k < 34) (hd : Hd [k, 40 + k] a I) (i x : Int32) : MV l yX5_add cX5_add 3 none 1 22 D cA a S X I [.ref (a (40 + k)), .int i, .int x] (fun S1 X1 => S1 = (wS S k (us (me S X k) (ln k) i (rg (me S X k) (ln k) i + x))) ∧ X1 = (wX X k (us (me S X k) (ln k) i (rg (me S X k) (ln k) i + x)))) := by
  refine mGo (by decide) (Nat.le_of_ble_eq_true rfl) ?_
  intro p e s m args below meth c ls C0 hr hlk hK hP hS hl hargs
  refine lv_aload_n C0.1 C0.2.1 dX5_add_0 rfl (lv_at hl 0 rfl) ?_
  refine lv_iload_n C0.1 C0.2.1 dX5_add_1 rfl (lv_at hl 1 rfl) ?_
  refine lv_aload_n C0.1 C0.2.1 dX5_add_2 rfl (lv_at hl 0 rfl) ?_
  refine lv_iload_n C0.1 C0.2.1 dX5_add_3 rfl (lv_at hl 1 rfl) ?_
  refine k_X5_get (v := rg (me S X k) (ln k) i) k hk hd (by simp) (by simp) rfl C0 hK hP hS hl.1 ml_X5_13 ⟨Nat.le_of_ble_eq_true rfl, Nat.le_of_ble_eq_true rfl⟩ ⟨Nat.zero_le _, Nat.zero_le _⟩ (Nat.le_of_ble_eq_true rfl) dX5_add_4 (fun H locs hP hS => ?_)
  refine lv_iload_n C0.1 C0.2.1 dX5_add_7 rfl (lv_at hl 2 rfl) ?_
  refine lv_iadd C0.1 C0.2.1 dX5_add_8 ?_
  refine k_X5_set k hk hd (by simp) (by simp) C0 hK hP hS hl.1 ml_X5_17 ⟨Nat.le_of_ble_eq_true rfl, Nat.le_of_ble_eq_true rfl⟩ ⟨Nat.zero_le _, Nat.zero_le _⟩ (Nat.le_of_ble_eq_true rfl) dX5_add_9 (fun H locs hP hS => ?_)
  exact retV C0 hr hlk hP hS ⟨rfl, rfl⟩ dX5_add_12

theorem k_X5_add {n : List Nat} (k : Nat) (hk : k < 34) (hd : Hd n a I) (h1 : k ∈ n) (h2 : 40 + k ∈ n) {i x : Int32}  (C0 : CallFix p m c cc nL s args GW own) (hK : KK D cA s) (hP : WP D cA a S X I H) (hS : va_S (AI a I) H0 H locs) (hls : ls.size = nL) {idx : Nat} (hlink : Cond.methodLink own idx yX5_add ∈ GW) (hR : 2 ≤ R.frames ∧ 44 ≤ R.locals) (hcs : cells ≤ R.cells ∧ slots ≤ R.slots) (hrest : (rest.map fun v => v.category).sum ≤ 8) (hdg : decode cc pc = .ok (.invokevirtual idx, 3)) (kk : ∀ (H1 : Heap) (locs1 : List Loc), WP D cA a (wS S k (us (me S X k) (ln k) i (rg (me S X k) (ln k) i + x))) (wX X k (us (me S X k) (ln k) i (rg (me S X k) (ln k) i + x))) I H1 → va_S (AI a I) H0 H1 locs1 → W p l e R s m args below meth c H1 locs1 cells slots Q (F0 m (pc + 3) ls rest)) : W p l e R s m args below meth c H locs cells slots Q (F0 m pc ls (.int x :: .int i :: .ref (a (40 + k)) :: rest)) := by
  exact goV (rV (n := 2) (c_X5_add l D cA a S X I k hk (hd.sub (by simp [h1, h2])) i x) C0 hlink im_X5_add se_X5_add in_X5 co_X5_add ⟨rfl, by decide⟩ hR hK hP (hd.1 _ h2) (ct_row cA a S X hk) rfl rfl hls hrest rfl hdg hcs) hS (fun S1 X1 H1 locs1 hp hP1 hS1 => by obtain ⟨rfl, rfl⟩ := hp; exact kk H1 locs1 hP1 hS1)

theorem fl_zero (f : Nat → Int32) (v : Int32) : fl f 0 v = f := by funext j; simp [fl]
theorem fl_succ (f : Nat → Int32) (i : Nat) (v : Int32) : upd (fl f i v) i v = fl f (i + 1) v := by
  funext j
  unfold upd fl
  by_cases h : j = i
  · subst h; simp
  · by_cases h2 : j < i
    · simp [h, h2, show j < i + 1 by omega]
    · simp [h, h2, show ¬ j < i + 1 by omega]
theorem tk_zero (f g : Nat → Int32) : tk f g 0 = f := by funext j; simp [tk]
theorem tk_succ (f g : Nat → Int32) (i : Nat) : upd (tk f g i) i (g i) = tk f g (i + 1) := by
  funext j
  unfold upd tk
  by_cases h : j = i
  · subst h; simp
  · by_cases h2 : j < i
    · simp [h, h2, show j < i + 1 by omega]
    · simp [h, h2, show ¬ j < i + 1 by omega]

set_option maxHeartbeats 4000000 in
set_option maxRecDepth 100000 in
theorem c_J7_fill_53178 (l : Launch) (D : va_G) (cA : ClassId) (a : Adr) (S X : Mem) (I : Nat → Prop) (k : Nat) (hk : k < 34) (hd : Hd [k] a I) (v : Int32) : MV l yJ7_fill_53178 cJ7_fill_53178 4 none 0 0 D cA a S X I [.ref (a k), .int v] (fun S1 X1 => S1 = (wS S k (fl (me S X k) (ln k) v)) ∧ X1 = (wX X k (fl (me S X k) (ln k) v))) := by
  refine mGo (by decide) (Nat.le_of_ble_eq_true rfl) ?_
  intro p e s m args below meth c ls C0 hr hlk hK hP hS hl hargs
  obtain ⟨H, hHe⟩ : ∃ H, H = s.heap := ⟨_, rfl⟩
  obtain ⟨locs, hlo⟩ : ∃ L : List Loc, L = [] := ⟨_, rfl⟩
  have hP : WP D cA a S X I H := hHe ▸ hP
  have hS : va_S (AI a I) s.heap H locs := by rw [hHe, hlo]; exact hS
  rw [← hHe, ← hlo]
  have hn := ln_lt k
  refine lv_iconst (v := 0) C0.1 C0.2.1 dJ7_fill_53178_0 (by decide) ?_
  refine lv_istore_n (lv' := [(2, .int 0), (0, .ref (a k)), (1, .int v)]) C0.1 C0.2.1 dJ7_fill_53178_1 rfl hl (by decide) rfl (fun ls hl => ?_)
  refine lv_aload_n C0.1 C0.2.1 dJ7_fill_53178_2 rfl (lv_at hl 1 rfl) ?_
  refine arrLen hk C0 hK hP (hd.1 _ (by simp)) dJ7_fill_53178_3 ?_
  refine lv_istore_n (lv' := [(3, .int (nI (ln k))), (2, .int 0), (0, .ref (a k)), (1, .int v)]) C0.1 C0.2.1 dJ7_fill_53178_4 rfl hl (by decide) rfl (fun ls hl => ?_)
  have loop5 : ∀ (n : Nat) (i : Nat), (i ≤ ln k) → (ln k + 1 ≤ i + n) → ∀ (H : Heap) (locs : List Loc) (ls : Array Slot), WP D cA a (wS S k (fl (me S X k) i v)) (wX X k (fl (me S X k) i v)) I H → va_S (AI a I) s.heap H locs → lv_has ls 4 [(2, .int (nI i)), (3, .int (nI (ln k))), (0, .ref (a k)), (1, .int v)] → W p l e { frames := 0, cells := 0, slots := 0, locals := 0 } s m args below meth c H locs 0 0 (MQ below (QpV D cA a I (fun S1 X1 => S1 = (wS S k (fl (me S X k) (ln k) v)) ∧ X1 = (wX X k (fl (me S X k) (ln k) v)))) args s 0 0 (AI a I)) (F0 m 5 ls []) := by
    intro n
    induction n with
    | zero => intro i hi hf; exfalso; omega
    | succ n ih5 =>
      intro i hi hf H locs ls hP hS hl
      refine lv_iload_n C0.1 C0.2.1 dJ7_fill_53178_5 rfl (lv_at hl 0 rfl) ?_
      refine lv_iload_n C0.1 C0.2.1 dJ7_fill_53178_6 rfl (lv_at hl 1 rfl) ?_
      refine lv_icmp_ge (tgt := 20) C0.1 C0.2.1 dJ7_fill_53178_7 (by decide) (fun c_7 => ?_) (fun c_7 => ?_)
      · have hge : ln k ≤ i := (nI_leI hn (by omega)).mp c_7
        exact retV C0 hr hlk hP hS ⟨by rw [show i = ln k by omega], by rw [show i = ln k by omega]⟩ dJ7_fill_53178_20
      · have hlt : i < ln k := Nat.not_le.mp fun q => c_7 (nI_le q (by omega))
        have hin : vp_in (nI i) (ln k) := vp_in_nI hlt hn
        refine lv_aload_n C0.1 C0.2.1 dJ7_fill_53178_10 rfl (lv_at hl 2 rfl) ?_
        refine lv_iload_n C0.1 C0.2.1 dJ7_fill_53178_11 rfl (lv_at hl 0 rfl) ?_
        refine lv_iload_n C0.1 C0.2.1 dJ7_fill_53178_12 rfl (lv_at hl 3 rfl) ?_
        refine ast hk C0 hK hP hS (hd.1 _ (by simp)) hd.2.2 hin dJ7_fill_53178_13 (fun H locs hP hS => ?_)
        refine lv_iinc (v := nI (i + 1)) (lv' := [(2, .int (nI (i + 1))), (3, .int (nI (ln k))), (0, .ref (a k)), (1, .int v)]) C0.1 C0.2.1 dJ7_fill_53178_14 hl (k := 0) rfl (nI_1 _) (by decide) rfl (fun ls hl => ?_)
        refine lv_goto (tgt := 5) C0.1 C0.2.1 dJ7_fill_53178_17 (by decide) ?_
        rw [me_eq, wS_wS, wX_wX, nI_clamp (by omega), fl_succ] at hP
        exact ih5 (i + 1) (by omega) (by omega) _ _ _ hP hS (lv_sub hl [0, 1, 2, 3] rfl)
  have hP : WP D cA a (wS S k (fl (me S X k) 0 v)) (wX X k (fl (me S X k) 0 v)) I H := by rw [fl_zero, wS_me, wX_me]; exact hP
  exact loop5 (ln k + 1) 0 (by omega) (by omega) _ _ _ hP hS (lv_sub hl [1, 0, 2, 3] rfl)

set_option maxHeartbeats 4000000 in
set_option maxRecDepth 100000 in
theorem c_X5_fill (l : Launch) (D : va_G) (cA : ClassId) (a : Adr) (S X : Mem) (I : Nat → Prop) (k : Nat) (hk : k < 34) (hd : Hd [k, 40 + k] a I) (v : Int32) : MV l yX5_fill cX5_fill 2 none 1 23 D cA a S X I [.ref (a (40 + k)), .int v] (fun S1 X1 => S1 = (wS S k (fl (me S X k) (ln k) v)) ∧ X1 = (wX X k (fl (me S X k) (ln k) v))) := by
  refine mGo (by decide) (Nat.le_of_ble_eq_true rfl) ?_
  intro p e s m args below meth c ls C0 hr hlk hK hP hS hl hargs
  refine lv_aload_n C0.1 C0.2.1 dX5_fill_0 rfl (lv_at hl 0 rfl) ?_
  refine gRow hk C0 hK hP (hd.1 _ (by simp)) fl_X5_7 dX5_fill_1 ?_
  refine lv_iload_n C0.1 C0.2.1 dX5_fill_4 rfl (lv_at hl 1 rfl) ?_
  refine goV (rS (n := 2) (c_J7_fill_53178 l D cA a S X I k hk (hd.sub (by simp)) v) C0 ml_X5_21 sm_J7_fill_53178 in_J7 co_J7_fill_53178 (by decide) ⟨Nat.le_of_ble_eq_true rfl, Nat.le_of_ble_eq_true rfl⟩ hK hP rfl hl.1 (Nat.le_of_ble_eq_true rfl) rfl dX5_fill_5 ⟨Nat.zero_le _, Nat.zero_le _⟩) hS (fun S1 X1 H locs hp hP hS => ?_)
  obtain ⟨rfl, rfl⟩ := hp
  exact retV C0 hr hlk hP hS ⟨rfl, rfl⟩ dX5_fill_8

theorem k_X5_fill {n : List Nat} (k : Nat) (hk : k < 34) (hd : Hd n a I) (h1 : k ∈ n) (h2 : 40 + k ∈ n) {v : Int32}  (C0 : CallFix p m c cc nL s args GW own) (hK : KK D cA s) (hP : WP D cA a S X I H) (hS : va_S (AI a I) H0 H locs) (hls : ls.size = nL) {idx : Nat} (hlink : Cond.methodLink own idx yX5_fill ∈ GW) (hR : 2 ≤ R.frames ∧ 44 ≤ R.locals) (hcs : cells ≤ R.cells ∧ slots ≤ R.slots) (hrest : (rest.map fun v => v.category).sum ≤ 8) (hdg : decode cc pc = .ok (.invokevirtual idx, 3)) (kk : ∀ (H1 : Heap) (locs1 : List Loc), WP D cA a (wS S k (fl (me S X k) (ln k) v)) (wX X k (fl (me S X k) (ln k) v)) I H1 → va_S (AI a I) H0 H1 locs1 → W p l e R s m args below meth c H1 locs1 cells slots Q (F0 m (pc + 3) ls rest)) : W p l e R s m args below meth c H locs cells slots Q (F0 m pc ls (.int v :: .ref (a (40 + k)) :: rest)) := by
  exact goV (rV (n := 1) (c_X5_fill l D cA a S X I k hk (hd.sub (by simp [h1, h2])) v) C0 hlink im_X5_fill se_X5_fill in_X5 co_X5_fill ⟨rfl, by decide⟩ hR hK hP (hd.1 _ h2) (ct_row cA a S X hk) rfl rfl hls hrest rfl hdg hcs) hS (fun S1 X1 H1 locs1 hp hP1 hS1 => by obtain ⟨rfl, rfl⟩ := hp; exact kk H1 locs1 hP1 hS1)

theorem cnt_yes {P : Nat → Bool} {i : Nat} (h : P i = true) : cnt P (i + 1) = cnt P i + 1 := by show cnt P i + _ = _; rw [if_pos h]
theorem cnt_no {P : Nat → Bool} {i : Nat} (h : ¬ P i = true) : cnt P (i + 1) = cnt P i := by show cnt P i + _ = _; rw [if_neg h]; rfl

set_option maxHeartbeats 4000000 in
set_option maxRecDepth 100000 in
theorem c_X5_howMany (l : Launch) (D : va_G) (cA : ClassId) (a : Adr) (S X : Mem) (I : Nat → Prop) (k : Nat) (hk : k < 34) (hd : Hd [k, 40 + k] a I) (v : Int32) (q : Nat) (hq : q ≤ ln k) : MI l yX5_howMany cX5_howMany 5 (some .int) 0 0 D cA a S X I [.ref (a (40 + k)), .int v, .int (nI q)] (fun r S1 X1 => r = nI (cnt (fun j => decide (me S X k j = v)) q) ∧ S1 = S ∧ X1 = X) := by
  refine mGo (by decide) (Nat.le_of_ble_eq_true rfl) ?_
  intro p e s m args below meth c ls C0 hr hlk hK hP hS hl hargs
  obtain ⟨H, hHe⟩ : ∃ H, H = s.heap := ⟨_, rfl⟩
  obtain ⟨locs, hlo⟩ : ∃ L : List Loc, L = [] := ⟨_, rfl⟩
  have hP : WP D cA a S X I H := hHe ▸ hP
  have hS : va_S (AI a I) s.heap H locs := by rw [hHe, hlo]; exact hS
  rw [← hHe, ← hlo]
  have hn := ln_lt k
  refine lv_iconst (v := 0) C0.1 C0.2.1 dX5_howMany_0 (by decide) ?_
  refine lv_istore_n (lv' := [(3, .int 0), (0, .ref (a (40 + k))), (1, .int v), (2, .int (nI q))]) C0.1 C0.2.1 dX5_howMany_1 rfl hl (by decide) rfl (fun ls hl => ?_)
  refine lv_iconst (v := 0) C0.1 C0.2.1 dX5_howMany_2 (by decide) ?_
  refine lv_istore (lv' := [(4, .int 0), (3, .int 0), (0, .ref (a (40 + k))), (1, .int v), (2, .int (nI q))]) C0.1 C0.2.1 dX5_howMany_3 hl (by decide) rfl (fun ls hl => ?_)
  have loop5 : ∀ (n : Nat) (i : Nat) (f : Int32), (i ≤ q) → (q + 1 ≤ i + n) → (f = nI (cnt (fun j => decide (me S X k j = v)) i)) → ∀ (H : Heap) (locs : List Loc) (ls : Array Slot), WP D cA a S X I H → va_S (AI a I) s.heap H locs → lv_has ls 5 [(3, .int f), (4, .int (nI i)), (0, .ref (a (40 + k))), (1, .int v), (2, .int (nI q))] → W p l e { frames := 0, cells := 0, slots := 0, locals := 0 } s m args below meth c H locs 0 0 (MQ below (QpI D cA a I (fun r S1 X1 => r = nI (cnt (fun j => decide (me S X k j = v)) q) ∧ S1 = S ∧ X1 = X)) args s 0 0 (AI a I)) (F0 m 5 ls []) := by
    intro n
    induction n with
    | zero => intro i f hi hf hcn; exfalso; omega
    | succ n ih5 =>
      intro i f hi hf hcn H locs ls hP hS hl
      refine lv_iload C0.1 C0.2.1 dX5_howMany_5 (lv_at hl 1 rfl) ?_
      refine lv_iload_n C0.1 C0.2.1 dX5_howMany_7 rfl (lv_at hl 4 rfl) ?_
      refine lv_icmp_ge (tgt := 41) C0.1 C0.2.1 dX5_howMany_8 (by decide) (fun c_8 => ?_) (fun c_8 => ?_)
      · have hge : q ≤ i := (nI_leI (by omega) (by omega)).mp c_8
        refine lv_iload_n C0.1 C0.2.1 dX5_howMany_41 rfl (lv_at hl 0 rfl) ?_
        exact retI C0 hr hlk hP hS ⟨by rw [hcn, show i = q by omega], rfl, rfl⟩ dX5_howMany_42
      · have hlt : i < q := Nat.not_le.mp fun h => c_8 (nI_le h (by omega))
        have hin : vp_in (nI i) (ln k) := vp_in_nI (by omega) hn
        refine lv_iload C0.1 C0.2.1 dX5_howMany_11 (lv_at hl 1 rfl) ?_
        refine lv_aload_n C0.1 C0.2.1 dX5_howMany_13 rfl (lv_at hl 2 rfl) ?_
        refine gRow hk C0 hK hP (hd.1 _ (by simp)) fl_X5_7 dX5_howMany_14 ?_
        refine arrLen hk C0 hK hP (hd.1 _ (by simp)) dX5_howMany_17 ?_
        refine lv_icmp_ge (tgt := 41) C0.1 C0.2.1 dX5_howMany_18 (by decide) (fun c_18 => ?_) (fun c_18 => ?_)
        · exact absurd c_18 (nI_ge (by omega) hn)
        · refine lv_aload_n C0.1 C0.2.1 dX5_howMany_21 rfl (lv_at hl 2 rfl) ?_
          refine gRow hk C0 hK hP (hd.1 _ (by simp)) fl_X5_7 dX5_howMany_22 ?_
          refine lv_iload C0.1 C0.2.1 dX5_howMany_25 (lv_at hl 1 rfl) ?_
          refine arrLd hk C0 hK hP (hd.1 _ (by simp)) hin dX5_howMany_27 ?_
          refine lv_iload_n C0.1 C0.2.1 dX5_howMany_28 rfl (lv_at hl 3 rfl) ?_
          refine lv_icmp_ne (tgt := 35) C0.1 C0.2.1 dX5_howMany_29 (by decide) (fun c_29 => ?_) (fun c_29 => ?_)
          · have hv : ¬ me S X k i = v := by rw [nI_clamp (by omega)] at c_29; exact c_29
            refine lv_iinc (v := nI (i + 1)) (lv' := [(4, .int (nI (i + 1))), (3, .int f), (0, .ref (a (40 + k))), (1, .int v), (2, .int (nI q))]) C0.1 C0.2.1 dX5_howMany_35 hl (k := 1) rfl (nI_1 _) (by decide) rfl (fun ls hl => ?_)
            refine lv_goto (tgt := 5) C0.1 C0.2.1 dX5_howMany_38 (by decide) ?_
            exact ih5 (i + 1) _ (by omega) (by omega) (by rw [hcn, cnt_no (fun h => hv (of_decide_eq_true h))]) _ _ _ hP hS (lv_sub hl [1, 0, 2, 3, 4] rfl)
          · have hv : me S X k i = v := by rw [nI_clamp (by omega)] at c_29; exact c_29
            refine lv_iinc (v := f + 1) (lv' := [(3, .int (f + 1)), (4, .int (nI i)), (0, .ref (a (40 + k))), (1, .int v), (2, .int (nI q))]) C0.1 C0.2.1 dX5_howMany_32 hl (k := 0) rfl rfl (by decide) rfl (fun ls hl => ?_)
            refine lv_iinc (v := nI (i + 1)) (lv' := [(4, .int (nI (i + 1))), (3, .int (f + 1)), (0, .ref (a (40 + k))), (1, .int v), (2, .int (nI q))]) C0.1 C0.2.1 dX5_howMany_35 hl (k := 1) rfl (nI_1 _) (by decide) rfl (fun ls hl => ?_)
            refine lv_goto (tgt := 5) C0.1 C0.2.1 dX5_howMany_38 (by decide) ?_
            exact ih5 (i + 1) _ (by omega) (by omega) (by rw [hcn, cnt_yes (decide_eq_true hv), nI_1]) _ _ _ hP hS (lv_sub hl [1, 0, 2, 3, 4] rfl)
  exact loop5 (q + 1) 0 _ (by omega) (by omega) nI_0.symm _ _ _ hP hS (lv_sub hl [1, 0, 2, 3, 4] rfl)

theorem k_X5_howMany {n : List Nat} (k : Nat) (hk : k < 34) (hd : Hd n a I) (h1 : k ∈ n) (h2 : 40 + k ∈ n) {v0 : Int32} {q : Nat} (hq : q ≤ ln k)  {v : Int32} (hv : nI (cnt (fun j => decide (me S X k j = v0)) q) = v) (C0 : CallFix p m c cc nL s args GW own) (hK : KK D cA s) (hP : WP D cA a S X I H) (hS : va_S (AI a I) H0 H locs) (hls : ls.size = nL) {idx : Nat} (hlink : Cond.methodLink own idx yX5_howMany ∈ GW) (hR : 1 ≤ R.frames ∧ 24 ≤ R.locals) (hcs : cells ≤ R.cells ∧ slots ≤ R.slots) (hrest : (rest.map fun v => v.category).sum ≤ 8) (hdg : decode cc pc = .ok (.invokevirtual idx, 3)) (kk : ∀ (H1 : Heap) (locs1 : List Loc), WP D cA a S X I H1 → va_S (AI a I) H0 H1 locs1 → W p l e R s m args below meth c H1 locs1 cells slots Q (F0 m (pc + 3) ls (.int v :: rest))) : W p l e R s m args below meth c H locs cells slots Q (F0 m pc ls (.int (nI q) :: .int v0 :: .ref (a (40 + k)) :: rest)) := by
  subst hv
  exact goI (rV (n := 2) (c_X5_howMany l D cA a S X I k hk (hd.sub (by simp [h1, h2])) v0 q hq) C0 hlink im_X5_howMany se_X5_howMany in_X5 co_X5_howMany ⟨rfl, by decide⟩ hR hK hP (hd.1 _ h2) (ct_row cA a S X hk) rfl rfl hls hrest rfl hdg hcs) hS (fun r S1 X1 H1 locs1 hp hP1 hS1 => by obtain ⟨rfl, rfl, rfl⟩ := hp; exact kk H1 locs1 hP1 hS1)

set_option maxHeartbeats 4000000 in
set_option maxRecDepth 100000 in
theorem c_X5_takeOver (l : Launch) (D : va_G) (cA : ClassId) (a : Adr) (S X : Mem) (I : Nat → Prop) (k k2 : Nat) (hk : k < 34) (hk2 : k2 < 34) (hkk : k2 ≠ k) (hln : ln k2 = ln k) (hd : Hd [k, 40 + k, k2, 40 + k2] a I)  : MV l yX5_takeOver cX5_takeOver 3 none 1 21 D cA a S X I [.ref (a (40 + k)), .ref (a (40 + k2))] (fun S1 X1 => S1 = (wS S k (tk (me S X k) (me S X k2) (ln k))) ∧ X1 = (wX X k (tk (me S X k) (me S X k2) (ln k)))) := by
  refine mGo (by decide) (Nat.le_of_ble_eq_true rfl) ?_
  intro p e s m args below meth c ls C0 hr hlk hK hP hS hl hargs
  obtain ⟨H, hHe⟩ : ∃ H, H = s.heap := ⟨_, rfl⟩
  obtain ⟨locs, hlo⟩ : ∃ L : List Loc, L = [] := ⟨_, rfl⟩
  have hP : WP D cA a S X I H := hHe ▸ hP
  have hS : va_S (AI a I) s.heap H locs := by rw [hHe, hlo]; exact hS
  rw [← hHe, ← hlo]
  have hn := ln_lt k
  refine lv_iconst (v := 0) C0.1 C0.2.1 dX5_takeOver_0 (by decide) ?_
  refine lv_istore_n (lv' := [(2, .int 0), (0, .ref (a (40 + k))), (1, .ref (a (40 + k2)))]) C0.1 C0.2.1 dX5_takeOver_1 rfl hl (by decide) rfl (fun ls hl => ?_)
  have loop2 : ∀ (n : Nat) (i : Nat), (i ≤ ln k) → (ln k + 1 ≤ i + n) → ∀ (H : Heap) (locs : List Loc) (ls : Array Slot), WP D cA a (wS S k (tk (me S X k) (me S X k2) i)) (wX X k (tk (me S X k) (me S X k2) i)) I H → va_S (AI a I) s.heap H locs → lv_has ls 3 [(2, .int (nI i)), (0, .ref (a (40 + k))), (1, .ref (a (40 + k2)))] → W p l e { frames := 1, cells := 0, slots := 0, locals := 21 } s m args below meth c H locs 0 0 (MQ below (QpV D cA a I (fun S1 X1 => S1 = (wS S k (tk (me S X k) (me S X k2) (ln k))) ∧ X1 = (wX X k (tk (me S X k) (me S X k2) (ln k))))) args s 0 0 (AI a I)) (F0 m 2 ls []) := by
    intro n
    induction n with
    | zero => intro i hi hf; exfalso; omega
    | succ n ih2 =>
      intro i hi hf H locs ls hP hS hl
      refine lv_iload_n C0.1 C0.2.1 dX5_takeOver_2 rfl (lv_at hl 0 rfl) ?_
      refine lv_aload_n C0.1 C0.2.1 dX5_takeOver_3 rfl (lv_at hl 1 rfl) ?_
      refine gRow hk C0 hK hP (hd.1 _ (by simp)) fl_X5_7 dX5_takeOver_4 ?_
      refine arrLen hk C0 hK hP (hd.1 _ (by simp)) dX5_takeOver_7 ?_
      refine lv_icmp_ge (tgt := 28) C0.1 C0.2.1 dX5_takeOver_8 (by decide) (fun c_8 => ?_) (fun c_8 => ?_)
      · have hge : ln k ≤ i := (nI_leI hn (by omega)).mp c_8
        exact retV C0 hr hlk hP hS ⟨by rw [show i = ln k by omega], by rw [show i = ln k by omega]⟩ dX5_takeOver_28
      · have hlt : i < ln k := Nat.not_le.mp fun q => c_8 (nI_le q (by omega))
        have hin : vp_in (nI i) (ln k) := vp_in_nI hlt hn
        refine lv_aload_n C0.1 C0.2.1 dX5_takeOver_11 rfl (lv_at hl 1 rfl) ?_
        refine gRow hk C0 hK hP (hd.1 _ (by simp)) fl_X5_7 dX5_takeOver_12 ?_
        refine lv_iload_n C0.1 C0.2.1 dX5_takeOver_15 rfl (lv_at hl 0 rfl) ?_
        refine lv_aload_n C0.1 C0.2.1 dX5_takeOver_16 rfl (lv_at hl 2 rfl) ?_
        refine lv_iload_n C0.1 C0.2.1 dX5_takeOver_17 rfl (lv_at hl 0 rfl) ?_
        refine k_X5_get (v := me S X k2 i) k2 hk2 hd (by simp) (by simp) (by rw [rg_nI (by omega) (ln_lt k2), me_ne _ _ _ hkk]) C0 hK hP hS hl.1 ml_X5_13 ⟨Nat.le_of_ble_eq_true rfl, Nat.le_of_ble_eq_true rfl⟩ ⟨Nat.zero_le _, Nat.zero_le _⟩ (Nat.le_of_ble_eq_true rfl) dX5_takeOver_18 (fun H locs hP hS => ?_)
        refine ast hk C0 hK hP hS (hd.1 _ (by simp)) hd.2.2 hin dX5_takeOver_21 (fun H locs hP hS => ?_)
        refine lv_iinc (v := nI (i + 1)) (lv' := [(2, .int (nI (i + 1))), (0, .ref (a (40 + k))), (1, .ref (a (40 + k2)))]) C0.1 C0.2.1 dX5_takeOver_22 hl (k := 0) rfl (nI_1 _) (by decide) rfl (fun ls hl => ?_)
        refine lv_goto (tgt := 2) C0.1 C0.2.1 dX5_takeOver_25 (by decide) ?_
        rw [me_eq, wS_wS, wX_wX, nI_clamp (by omega), tk_succ] at hP
        exact ih2 (i + 1) (by omega) (by omega) _ _ _ hP hS (lv_sub hl [0, 1, 2] rfl)
  have hP : WP D cA a (wS S k (tk (me S X k) (me S X k2) 0)) (wX X k (tk (me S X k) (me S X k2) 0)) I H := by rw [tk_zero, wS_me, wX_me]; exact hP
  exact loop2 (ln k + 1) 0 (by omega) (by omega) _ _ _ hP hS (lv_sub hl [0, 1, 2] rfl)

theorem k_X5_takeOver {n : List Nat} (k k2 : Nat) (hk : k < 34) (hk2 : k2 < 34) (hkk : k2 ≠ k) (hln : ln k2 = ln k) (hd : Hd n a I) (h1 : k ∈ n) (h2 : 40 + k ∈ n) (h3 : k2 ∈ n) (h4 : 40 + k2 ∈ n)  (C0 : CallFix p m c cc nL s args GW own) (hK : KK D cA s) (hP : WP D cA a S X I H) (hS : va_S (AI a I) H0 H locs) (hls : ls.size = nL) {idx : Nat} (hlink : Cond.methodLink own idx yX5_takeOver ∈ GW) (hR : 2 ≤ R.frames ∧ 43 ≤ R.locals) (hcs : cells ≤ R.cells ∧ slots ≤ R.slots) (hrest : (rest.map fun v => v.category).sum ≤ 8) (hdg : decode cc pc = .ok (.invokevirtual idx, 3)) (kk : ∀ (H1 : Heap) (locs1 : List Loc), WP D cA a (wS S k (tk (me S X k) (me S X k2) (ln k))) (wX X k (tk (me S X k) (me S X k2) (ln k))) I H1 → va_S (AI a I) H0 H1 locs1 → W p l e R s m args below meth c H1 locs1 cells slots Q (F0 m (pc + 3) ls rest)) : W p l e R s m args below meth c H locs cells slots Q (F0 m pc ls (.ref (a (40 + k2)) :: .ref (a (40 + k)) :: rest)) := by
  exact goV (rV (n := 1) (c_X5_takeOver l D cA a S X I k k2 hk hk2 hkk hln (hd.sub (by simp [h1, h2, h3, h4]))) C0 hlink im_X5_takeOver se_X5_takeOver in_X5 co_X5_takeOver ⟨rfl, by decide⟩ hR hK hP (hd.1 _ h2) (ct_row cA a S X hk) rfl rfl hls hrest rfl hdg hcs) hS (fun S1 X1 H1 locs1 hp hP1 hS1 => by obtain ⟨rfl, rfl⟩ := hp; exact kk H1 locs1 hP1 hS1)

end ROW
end
section
abbrev nT : List Nat := [0, 1, 2, 3, 4, 5, 6, 7, 8, 9, 10, 11, 12, 13, 14, 15, 16, 17, 18, 19, 20, 21, 22, 23, 24, 40, 41, 42, 43, 44, 45, 46, 47, 48, 49, 50, 51, 52, 53, 54, 55, 56, 57, 58, 59, 60, 61, 62, 63, 64, 80, 81, 82, 83, 84, 85, 86]
abbrev nCH : List Nat := [4, 5, 6, 7, 8, 9, 10, 11, 12, 44, 45, 46, 47, 48, 49, 50, 51, 52, 82, 83]
abbrev n0 : List Nat := []
def bI (b : Bool) : Int32 := if b = true then 1 else 0
theorem bI_t {b : Bool} (h : b = true) : bI b = 1 := if_pos h
theorem bI_f {b : Bool} (h : b = false) : bI b = 0 := by rw [h]; rfl
theorem bI_ne {b : Bool} (h : ¬ bI b = 0) : b = true := by cases b with | true => rfl | false => exact absurd rfl h
theorem bI_eq {b : Bool} (h : bI b = 0) : b = false := by cases b with | false => rfl | true => cases h
theorem le_of_nlt {x y : Int32} (h : ¬ x < y) : y ≤ x := Int32.not_lt.mp h
theorem sw_out1 {x : Int32} (h0 : ¬ x = 0) (h1 : ¬ x = 1) : x.toInt < 0 ∨ 1 < x.toInt := by
  have e0 : ¬ x.toInt = 0 := fun h => h0 (Int32.toInt_inj.mp h)
  have e1 : ¬ x.toInt = 1 := fun h => h1 (Int32.toInt_inj.mp h)
  omega
theorem sw_out2 {x : Int32} (h0 : ¬ x = 0) (h1 : ¬ x = 1) (h2 : ¬ x = 2) : x.toInt < 0 ∨ 2 < x.toInt := by
  have e2 : ¬ x.toInt = 2 := fun h => h2 (Int32.toInt_inj.mp h)
  rcases sw_out1 h0 h1 with h | h
  · exact Or.inl h
  · exact Or.inr (by omega)
theorem sw_out3 {x : Int32} (h0 : ¬ x = 0) (h1 : ¬ x = 1) (h2 : ¬ x = 2) (h3 : ¬ x = 3) : x.toInt < 0 ∨ 3 < x.toInt := by
  have e3 : ¬ x.toInt = 3 := fun h => h3 (Int32.toInt_inj.mp h)
  rcases sw_out2 h0 h1 h2 with h | h
  · exact Or.inl h
  · exact Or.inr (by omega)
theorem sw_out4 {x : Int32} (h0 : ¬ x = 0) (h1 : ¬ x = 1) (h2 : ¬ x = 2) (h3 : ¬ x = 3) (h4 : ¬ x = 4) : x.toInt < 0 ∨ 4 < x.toInt := by
  have e4 : ¬ x.toInt = 4 := fun h => h4 (Int32.toInt_inj.mp h)
  rcases sw_out3 h0 h1 h2 h3 with h | h
  · exact Or.inl h
  · exact Or.inr (by omega)
theorem sw_out5 {x : Int32} (h0 : ¬ x = 0) (h1 : ¬ x = 1) (h2 : ¬ x = 2) (h3 : ¬ x = 3) (h4 : ¬ x = 4) (h5 : ¬ x = 5) : x.toInt < 0 ∨ 5 < x.toInt := by
  have e5 : ¬ x.toInt = 5 := fun h => h5 (Int32.toInt_inj.mp h)
  rcases sw_out4 h0 h1 h2 h3 h4 with h | h
  · exact Or.inl h
  · exact Or.inr (by omega)
theorem sw_out6 {x : Int32} (h0 : ¬ x = 0) (h1 : ¬ x = 1) (h2 : ¬ x = 2) (h3 : ¬ x = 3) (h4 : ¬ x = 4) (h5 : ¬ x = 5) (h6 : ¬ x = 6) : x.toInt < 0 ∨ 6 < x.toInt := by
  have e6 : ¬ x.toInt = 6 := fun h => h6 (Int32.toInt_inj.mp h)
  rcases sw_out5 h0 h1 h2 h3 h4 h5 with h | h
  · exact Or.inl h
  · exact Or.inr (by omega)
theorem sw_out7 {x : Int32} (h0 : ¬ x = 0) (h1 : ¬ x = 1) (h2 : ¬ x = 2) (h3 : ¬ x = 3) (h4 : ¬ x = 4) (h5 : ¬ x = 5) (h6 : ¬ x = 6) (h7 : ¬ x = 7) : x.toInt < 0 ∨ 7 < x.toInt := by
  have e7 : ¬ x.toInt = 7 := fun h => h7 (Int32.toInt_inj.mp h)
  rcases sw_out6 h0 h1 h2 h3 h4 h5 h6 with h | h
  · exact Or.inl h
  · exact Or.inr (by omega)
theorem sw_out8 {x : Int32} (h0 : ¬ x = 0) (h1 : ¬ x = 1) (h2 : ¬ x = 2) (h3 : ¬ x = 3) (h4 : ¬ x = 4) (h5 : ¬ x = 5) (h6 : ¬ x = 6) (h7 : ¬ x = 7) (h8 : ¬ x = 8) : x.toInt < 0 ∨ 8 < x.toInt := by
  have e8 : ¬ x.toInt = 8 := fun h => h8 (Int32.toInt_inj.mp h)
  rcases sw_out7 h0 h1 h2 h3 h4 h5 h6 h7 with h | h
  · exact Or.inl h
  · exact Or.inr (by omega)
theorem sw_out9 {x : Int32} (h0 : ¬ x = 0) (h1 : ¬ x = 1) (h2 : ¬ x = 2) (h3 : ¬ x = 3) (h4 : ¬ x = 4) (h5 : ¬ x = 5) (h6 : ¬ x = 6) (h7 : ¬ x = 7) (h8 : ¬ x = 8) (h9 : ¬ x = 9) : x.toInt < 0 ∨ 9 < x.toInt := by
  have e9 : ¬ x.toInt = 9 := fun h => h9 (Int32.toInt_inj.mp h)
  rcases sw_out8 h0 h1 h2 h3 h4 h5 h6 h7 h8 with h | h
  · exact Or.inl h
  · exact Or.inr (by omega)
/-- the depth of a cell at a level -/
def dpt (S : Mem) (c lv : Int32) : Int32 := if 0 < lv - rg (S 0) 196 c then lv - rg (S 0) 196 c else 0
def fndF (P : Nat → Bool) : Nat → Nat → Int32
  | _, 0 => -1
  | i, n + 1 => if P i = true then nI i else fndF P (i + 1) n
section CLS
variable {p : Program} {l : Launch} {e : Env} {R : Room} {s : State} {m : MethodId} {args : Array Value} {below : List Frame} {meth : Method} {c : Code} {H : Heap} {locs : List Loc} {cells slots : Nat} {Q : State → Prop}
variable {cc : ByteArray} {nL : Nat} {own : String} {pc : Nat} {ls : Array Slot} {rest : List Value} {D : va_G} {cA : ClassId} {a : Adr} {S X : Mem} {I : Nat → Prop} {H0 : Heap}
set_option maxHeartbeats 4000000 in
set_option maxRecDepth 100000 in
theorem c_X8_within (l : Launch) (D : va_G) (cA : ClassId) (a : Adr) (S X : Mem) (I : Nat → Prop) (hd : Hd n0 a I) (x : Int32) (lo : Int32) (hi : Int32) : MI l yX8_within cX8_within 3 (some .boolean) 0 0 D cA a S X I [.int x, .int lo, .int hi] (fun r S1 X1 => r = (bI (decide (lo ≤ x) && decide (x ≤ hi))) ∧ S1 = S ∧ X1 = X) := by
  refine mGo (by decide) (Nat.le_of_ble_eq_true rfl) ?_
  intro p e s m args below meth c ls C0 hr hlk hK hP hS hl hargs
  obtain ⟨H, hHe⟩ : ∃ H, H = s.heap := ⟨_, rfl⟩
  obtain ⟨locs, hlo⟩ : ∃ L : List Loc, L = [] := ⟨_, rfl⟩
  have hP : WP D cA a S X I H := hHe ▸ hP
  have hS : va_S (AI a I) s.heap H locs := by rw [hHe, hlo]; exact hS
  rw [← hHe, ← hlo]
  refine lv_iload_n C0.1 C0.2.1 dX8_within_0 rfl (lv_at hl 0 rfl) ?_
  refine lv_iload_n C0.1 C0.2.1 dX8_within_1 rfl (lv_at hl 1 rfl) ?_
  refine lv_icmp_lt (tgt := 14) C0.1 C0.2.1 dX8_within_2 (by decide) (fun c_2 => ?_) (fun c_2 => ?_)
  · refine lv_iconst (v := 0) C0.1 C0.2.1 dX8_within_14 (by decide) ?_
    exact retZ C0 hr hlk hP hS rfl ⟨(bI_f (by simp only [Bool.eq_false_iff, ne_eq, Bool.and_eq_true, Bool.or_eq_true, decide_eq_true_eq, Int32.le_iff_toInt_le, Int32.lt_iff_toInt_lt, ← Int32.toInt_inj, Int32.reduceToInt] at c_2 ⊢; omega)).symm, rfl, rfl⟩ dX8_within_15
  · refine lv_iload_n C0.1 C0.2.1 dX8_within_5 rfl (lv_at hl 0 rfl) ?_
    refine lv_iload_n C0.1 C0.2.1 dX8_within_6 rfl (lv_at hl 2 rfl) ?_
    refine lv_icmp_gt (tgt := 14) C0.1 C0.2.1 dX8_within_7 (by decide) (fun c_7 => ?_) (fun c_7 => ?_)
    · refine lv_iconst (v := 0) C0.1 C0.2.1 dX8_within_14 (by decide) ?_
      exact retZ C0 hr hlk hP hS rfl ⟨(bI_f (by simp only [Bool.eq_false_iff, ne_eq, Bool.and_eq_true, Bool.or_eq_true, decide_eq_true_eq, Int32.le_iff_toInt_le, Int32.lt_iff_toInt_lt, ← Int32.toInt_inj, Int32.reduceToInt] at c_2 c_7 ⊢; omega)).symm, rfl, rfl⟩ dX8_within_15
    · refine lv_iconst (v := 1) C0.1 C0.2.1 dX8_within_10 (by decide) ?_
      refine lv_goto (tgt := 15) C0.1 C0.2.1 dX8_within_11 (by decide) ?_
      exact retZ C0 hr hlk hP hS rfl ⟨(bI_t (by simp only [Bool.eq_false_iff, ne_eq, Bool.and_eq_true, Bool.or_eq_true, decide_eq_true_eq, Int32.le_iff_toInt_le, Int32.lt_iff_toInt_lt, ← Int32.toInt_inj, Int32.reduceToInt] at c_2 c_7 ⊢; omega)).symm, rfl, rfl⟩ dX8_within_15
theorem k_X8_within {n : List Nat} (hd : Hd n a I) (hsub : ∀ k ∈ n0, k ∈ n) {x : Int32} {lo : Int32} {hi : Int32} {v : Int32} (hv : (bI (decide (lo ≤ x) && decide (x ≤ hi))) = v) (C0 : CallFix p m c cc nL s args GW own) (hK : KK D cA s) (hP : WP D cA a S X I H) (hS : va_S (AI a I) H0 H locs) (hls : ls.size = nL) {idx : Nat} (hlink : Cond.methodLink own idx yX8_within ∈ GW) (hR : 1 ≤ R.frames ∧ 22 ≤ R.locals) (hcs : cells ≤ R.cells ∧ slots ≤ R.slots) (hrest : (rest.map fun v => v.category).sum ≤ 8) (hdg : decode cc pc = .ok (.invokestatic idx, 3)) (kk : ∀ (H1 : Heap) (locs1 : List Loc), WP D cA a S X I H1 → va_S (AI a I) H0 H1 locs1 → W p l e R s m args below meth c H1 locs1 cells slots Q (F0 m (pc + 3) ls (.int v :: rest))) : W p l e R s m args below meth c H locs cells slots Q (F0 m pc ls (.int hi :: .int lo :: .int x :: rest)) := by
  subst hv
  exact goI (rS (n := 3) (c_X8_within l D cA a S X I (hd.sub hsub) x lo hi ) C0 hlink sm_X8_within in_X8 co_X8_within (by decide) hR hK hP rfl hls hrest rfl hdg hcs) hS (fun r S1 X1 H1 locs1 hp hP1 hS1 => by obtain ⟨rfl, rfl, rfl⟩ := hp; exact kk H1 locs1 hP1 hS1)
set_option maxHeartbeats 4000000 in
set_option maxRecDepth 100000 in
theorem c_X8_isOneOf (l : Launch) (D : va_G) (cA : ClassId) (a : Adr) (S X : Mem) (I : Nat → Prop) (hd : Hd n0 a I) (x : Int32) (hi : Int32) : MI l yX8_isOneOf cX8_isOneOf 2 (some .boolean) 0 0 D cA a S X I [.int x, .int hi] (fun r S1 X1 => r = (bI (decide (0 ≤ x) && decide (x < hi))) ∧ S1 = S ∧ X1 = X) := by
  refine mGo (by decide) (Nat.le_of_ble_eq_true rfl) ?_
  intro p e s m args below meth c ls C0 hr hlk hK hP hS hl hargs
  obtain ⟨H, hHe⟩ : ∃ H, H = s.heap := ⟨_, rfl⟩
  obtain ⟨locs, hlo⟩ : ∃ L : List Loc, L = [] := ⟨_, rfl⟩
  have hP : WP D cA a S X I H := hHe ▸ hP
  have hS : va_S (AI a I) s.heap H locs := by rw [hHe, hlo]; exact hS
  rw [← hHe, ← hlo]
  refine lv_iload_n C0.1 C0.2.1 dX8_isOneOf_0 rfl (lv_at hl 0 rfl) ?_
  refine lv_if_lt (tgt := 13) C0.1 C0.2.1 dX8_isOneOf_1 (by decide) (fun c_1 => ?_) (fun c_1 => ?_)
  · refine lv_iconst (v := 0) C0.1 C0.2.1 dX8_isOneOf_13 (by decide) ?_
    exact retZ C0 hr hlk hP hS rfl ⟨(bI_f (by simp only [Bool.eq_false_iff, ne_eq, Bool.and_eq_true, Bool.or_eq_true, decide_eq_true_eq, Int32.le_iff_toInt_le, Int32.lt_iff_toInt_lt, ← Int32.toInt_inj, Int32.reduceToInt] at c_1 ⊢; omega)).symm, rfl, rfl⟩ dX8_isOneOf_14
  · refine lv_iload_n C0.1 C0.2.1 dX8_isOneOf_4 rfl (lv_at hl 0 rfl) ?_
    refine lv_iload_n C0.1 C0.2.1 dX8_isOneOf_5 rfl (lv_at hl 1 rfl) ?_
    refine lv_icmp_ge (tgt := 13) C0.1 C0.2.1 dX8_isOneOf_6 (by decide) (fun c_6 => ?_) (fun c_6 => ?_)
    · refine lv_iconst (v := 0) C0.1 C0.2.1 dX8_isOneOf_13 (by decide) ?_
      exact retZ C0 hr hlk hP hS rfl ⟨(bI_f (by simp only [Bool.eq_false_iff, ne_eq, Bool.and_eq_true, Bool.or_eq_true, decide_eq_true_eq, Int32.le_iff_toInt_le, Int32.lt_iff_toInt_lt, ← Int32.toInt_inj, Int32.reduceToInt] at c_1 c_6 ⊢; omega)).symm, rfl, rfl⟩ dX8_isOneOf_14
    · refine lv_iconst (v := 1) C0.1 C0.2.1 dX8_isOneOf_9 (by decide) ?_
      refine lv_goto (tgt := 14) C0.1 C0.2.1 dX8_isOneOf_10 (by decide) ?_
      exact retZ C0 hr hlk hP hS rfl ⟨(bI_t (by simp only [Bool.eq_false_iff, ne_eq, Bool.and_eq_true, Bool.or_eq_true, decide_eq_true_eq, Int32.le_iff_toInt_le, Int32.lt_iff_toInt_lt, ← Int32.toInt_inj, Int32.reduceToInt] at c_1 c_6 ⊢; omega)).symm, rfl, rfl⟩ dX8_isOneOf_14
theorem k_X8_isOneOf {n : List Nat} (hd : Hd n a I) (hsub : ∀ k ∈ n0, k ∈ n) {x : Int32} {hi : Int32} {v : Int32} (hv : (bI (decide (0 ≤ x) && decide (x < hi))) = v) (C0 : CallFix p m c cc nL s args GW own) (hK : KK D cA s) (hP : WP D cA a S X I H) (hS : va_S (AI a I) H0 H locs) (hls : ls.size = nL) {idx : Nat} (hlink : Cond.methodLink own idx yX8_isOneOf ∈ GW) (hR : 1 ≤ R.frames ∧ 21 ≤ R.locals) (hcs : cells ≤ R.cells ∧ slots ≤ R.slots) (hrest : (rest.map fun v => v.category).sum ≤ 8) (hdg : decode cc pc = .ok (.invokestatic idx, 3)) (kk : ∀ (H1 : Heap) (locs1 : List Loc), WP D cA a S X I H1 → va_S (AI a I) H0 H1 locs1 → W p l e R s m args below meth c H1 locs1 cells slots Q (F0 m (pc + 3) ls (.int v :: rest))) : W p l e R s m args below meth c H locs cells slots Q (F0 m pc ls (.int hi :: .int x :: rest)) := by
  subst hv
  exact goI (rS (n := 2) (c_X8_isOneOf l D cA a S X I (hd.sub hsub) x hi ) C0 hlink sm_X8_isOneOf in_X8 co_X8_isOneOf (by decide) hR hK hP rfl hls hrest rfl hdg hcs) hS (fun r S1 X1 H1 locs1 hp hP1 hS1 => by obtain ⟨rfl, rfl, rfl⟩ := hp; exact kk H1 locs1 hP1 hS1)
set_option maxHeartbeats 4000000 in
set_option maxRecDepth 100000 in
theorem c_X8_onPlain (l : Launch) (D : va_G) (cA : ClassId) (a : Adr) (S X : Mem) (I : Nat → Prop) (hd : Hd n0 a I) (x : Int32) (y : Int32) : MI l yX8_onPlain cX8_onPlain 2 (some .boolean) 1 21 D cA a S X I [.int x, .int y] (fun r S1 X1 => r = (bI ((decide (0 ≤ x) && decide (x < 14)) && (decide (0 ≤ y) && decide (y < 14)))) ∧ S1 = S ∧ X1 = X) := by
  refine mGo (by decide) (Nat.le_of_ble_eq_true rfl) ?_
  intro p e s m args below meth c ls C0 hr hlk hK hP hS hl hargs
  obtain ⟨H, hHe⟩ : ∃ H, H = s.heap := ⟨_, rfl⟩
  obtain ⟨locs, hlo⟩ : ∃ L : List Loc, L = [] := ⟨_, rfl⟩
  have hP : WP D cA a S X I H := hHe ▸ hP
  have hS : va_S (AI a I) s.heap H locs := by rw [hHe, hlo]; exact hS
  rw [← hHe, ← hlo]
  refine lv_iload_n C0.1 C0.2.1 dX8_onPlain_0 rfl (lv_at hl 0 rfl) ?_
  refine lv_bipush (v := 14) C0.1 C0.2.1 dX8_onPlain_1 (by decide) ?_
  refine k_X8_isOneOf hd (by decide)  (v := bI (decide (0 ≤ x) && decide (x < 14))) rfl C0 hK hP hS hl.1 ml_X8_91 ⟨Nat.le_of_ble_eq_true rfl, Nat.le_of_ble_eq_true rfl⟩ ⟨Nat.zero_le _, Nat.zero_le _⟩ (Nat.le_of_ble_eq_true rfl) dX8_onPlain_3 (fun H locs hP hS => ?_)
  refine lv_if_eq (tgt := 22) C0.1 C0.2.1 dX8_onPlain_6 (by decide) (fun c_6 => ?_) (fun c_6 => ?_)
  · have c_6 := bI_eq c_6
    refine lv_iconst (v := 0) C0.1 C0.2.1 dX8_onPlain_22 (by decide) ?_
    exact retZ C0 hr hlk hP hS rfl ⟨(bI_f (by simp only [Bool.eq_false_iff, ne_eq, Bool.and_eq_true, Bool.or_eq_true, decide_eq_true_eq, Int32.le_iff_toInt_le, Int32.lt_iff_toInt_lt, ← Int32.toInt_inj, Int32.reduceToInt] at c_6 ⊢; omega)).symm, rfl, rfl⟩ dX8_onPlain_23
  · have c_6 := bI_ne c_6
    refine lv_iload_n C0.1 C0.2.1 dX8_onPlain_9 rfl (lv_at hl 1 rfl) ?_
    refine lv_bipush (v := 14) C0.1 C0.2.1 dX8_onPlain_10 (by decide) ?_
    refine k_X8_isOneOf hd (by decide)  (v := bI (decide (0 ≤ y) && decide (y < 14))) rfl C0 hK hP hS hl.1 ml_X8_91 ⟨Nat.le_of_ble_eq_true rfl, Nat.le_of_ble_eq_true rfl⟩ ⟨Nat.zero_le _, Nat.zero_le _⟩ (Nat.le_of_ble_eq_true rfl) dX8_onPlain_12 (fun H locs hP hS => ?_)
    refine lv_if_eq (tgt := 22) C0.1 C0.2.1 dX8_onPlain_15 (by decide) (fun c_15 => ?_) (fun c_15 => ?_)
    · have c_15 := bI_eq c_15
      refine lv_iconst (v := 0) C0.1 C0.2.1 dX8_onPlain_22 (by decide) ?_
      exact retZ C0 hr hlk hP hS rfl ⟨(bI_f (by simp only [Bool.eq_false_iff, ne_eq, Bool.and_eq_true, Bool.or_eq_true, decide_eq_true_eq, Int32.le_iff_toInt_le, Int32.lt_iff_toInt_lt, ← Int32.toInt_inj, Int32.reduceToInt] at c_6 c_15 ⊢; omega)).symm, rfl, rfl⟩ dX8_onPlain_23
    · have c_15 := bI_ne c_15
      refine lv_iconst (v := 1) C0.1 C0.2.1 dX8_onPlain_18 (by decide) ?_
      refine lv_goto (tgt := 23) C0.1 C0.2.1 dX8_onPlain_19 (by decide) ?_
      exact retZ C0 hr hlk hP hS rfl ⟨(bI_t (by simp only [Bool.eq_false_iff, ne_eq, Bool.and_eq_true, Bool.or_eq_true, decide_eq_true_eq, Int32.le_iff_toInt_le, Int32.lt_iff_toInt_lt, ← Int32.toInt_inj, Int32.reduceToInt] at c_6 c_15 ⊢; omega)).symm, rfl, rfl⟩ dX8_onPlain_23
theorem k_X8_onPlain {n : List Nat} (hd : Hd n a I) (hsub : ∀ k ∈ n0, k ∈ n) {x : Int32} {y : Int32} {v : Int32} (hv : (bI ((decide (0 ≤ x) && decide (x < 14)) && (decide (0 ≤ y) && decide (y < 14)))) = v) (C0 : CallFix p m c cc nL s args GW own) (hK : KK D cA s) (hP : WP D cA a S X I H) (hS : va_S (AI a I) H0 H locs) (hls : ls.size = nL) {idx : Nat} (hlink : Cond.methodLink own idx yX8_onPlain ∈ GW) (hR : 2 ≤ R.frames ∧ 42 ≤ R.locals) (hcs : cells ≤ R.cells ∧ slots ≤ R.slots) (hrest : (rest.map fun v => v.category).sum ≤ 8) (hdg : decode cc pc = .ok (.invokestatic idx, 3)) (kk : ∀ (H1 : Heap) (locs1 : List Loc), WP D cA a S X I H1 → va_S (AI a I) H0 H1 locs1 → W p l e R s m args below meth c H1 locs1 cells slots Q (F0 m (pc + 3) ls (.int v :: rest))) : W p l e R s m args below meth c H locs cells slots Q (F0 m pc ls (.int y :: .int x :: rest)) := by
  subst hv
  exact goI (rS (n := 2) (c_X8_onPlain l D cA a S X I (hd.sub hsub) x y ) C0 hlink sm_X8_onPlain in_X8 co_X8_onPlain (by decide) hR hK hP rfl hls hrest rfl hdg hcs) hS (fun r S1 X1 H1 locs1 hp hP1 hS1 => by obtain ⟨rfl, rfl, rfl⟩ := hp; exact kk H1 locs1 hP1 hS1)
set_option maxHeartbeats 4000000 in
set_option maxRecDepth 100000 in
theorem c_X8_cellOf (l : Launch) (D : va_G) (cA : ClassId) (a : Adr) (S X : Mem) (I : Nat → Prop) (hd : Hd n0 a I) (x : Int32) (y : Int32) : MI l yX8_cellOf cX8_cellOf 2 (some .int) 0 0 D cA a S X I [.int x, .int y] (fun r S1 X1 => r = (x + 14 * y) ∧ S1 = S ∧ X1 = X) := by
  refine mGo (by decide) (Nat.le_of_ble_eq_true rfl) ?_
  intro p e s m args below meth c ls C0 hr hlk hK hP hS hl hargs
  obtain ⟨H, hHe⟩ : ∃ H, H = s.heap := ⟨_, rfl⟩
  obtain ⟨locs, hlo⟩ : ∃ L : List Loc, L = [] := ⟨_, rfl⟩
  have hP : WP D cA a S X I H := hHe ▸ hP
  have hS : va_S (AI a I) s.heap H locs := by rw [hHe, hlo]; exact hS
  rw [← hHe, ← hlo]
  refine lv_iload_n C0.1 C0.2.1 dX8_cellOf_0 rfl (lv_at hl 0 rfl) ?_
  refine lv_bipush (v := 14) C0.1 C0.2.1 dX8_cellOf_1 (by decide) ?_
  refine lv_iload_n C0.1 C0.2.1 dX8_cellOf_3 rfl (lv_at hl 1 rfl) ?_
  refine lv_imul C0.1 C0.2.1 dX8_cellOf_4 ?_
  refine lv_iadd C0.1 C0.2.1 dX8_cellOf_5 ?_
  exact retI C0 hr hlk hP hS ⟨rfl, rfl, rfl⟩ dX8_cellOf_6
theorem k_X8_cellOf {n : List Nat} (hd : Hd n a I) (hsub : ∀ k ∈ n0, k ∈ n) {x : Int32} {y : Int32} {v : Int32} (hv : (x + 14 * y) = v) (C0 : CallFix p m c cc nL s args GW own) (hK : KK D cA s) (hP : WP D cA a S X I H) (hS : va_S (AI a I) H0 H locs) (hls : ls.size = nL) {idx : Nat} (hlink : Cond.methodLink own idx yX8_cellOf ∈ GW) (hR : 1 ≤ R.frames ∧ 21 ≤ R.locals) (hcs : cells ≤ R.cells ∧ slots ≤ R.slots) (hrest : (rest.map fun v => v.category).sum ≤ 8) (hdg : decode cc pc = .ok (.invokestatic idx, 3)) (kk : ∀ (H1 : Heap) (locs1 : List Loc), WP D cA a S X I H1 → va_S (AI a I) H0 H1 locs1 → W p l e R s m args below meth c H1 locs1 cells slots Q (F0 m (pc + 3) ls (.int v :: rest))) : W p l e R s m args below meth c H locs cells slots Q (F0 m pc ls (.int y :: .int x :: rest)) := by
  subst hv
  exact goI (rS (n := 2) (c_X8_cellOf l D cA a S X I (hd.sub hsub) x y ) C0 hlink sm_X8_cellOf in_X8 co_X8_cellOf (by decide) hR hK hP rfl hls hrest rfl hdg hcs) hS (fun r S1 X1 H1 locs1 hp hP1 hS1 => by obtain ⟨rfl, rfl, rfl⟩ := hp; exact kk H1 locs1 hP1 hS1)
set_option maxHeartbeats 4000000 in
set_option maxRecDepth 100000 in
theorem c_X8_columnOf (l : Launch) (D : va_G) (cA : ClassId) (a : Adr) (S X : Mem) (I : Nat → Prop) (hd : Hd n0 a I) (x : Int32) : MI l yX8_columnOf cX8_columnOf 1 (some .int) 0 0 D cA a S X I [.int x] (fun r S1 X1 => r = (x - x / 14 * 14) ∧ S1 = S ∧ X1 = X) := by
  refine mGo (by decide) (Nat.le_of_ble_eq_true rfl) ?_
  intro p e s m args below meth c ls C0 hr hlk hK hP hS hl hargs
  obtain ⟨H, hHe⟩ : ∃ H, H = s.heap := ⟨_, rfl⟩
  obtain ⟨locs, hlo⟩ : ∃ L : List Loc, L = [] := ⟨_, rfl⟩
  have hP : WP D cA a S X I H := hHe ▸ hP
  have hS : va_S (AI a I) s.heap H locs := by rw [hHe, hlo]; exact hS
  rw [← hHe, ← hlo]
  refine lv_iload_n C0.1 C0.2.1 dX8_columnOf_0 rfl (lv_at hl 0 rfl) ?_
  refine lv_bipush (v := 14) C0.1 C0.2.1 dX8_columnOf_1 (by decide) ?_
  refine lv_irem C0.1 C0.2.1 dX8_columnOf_3 (by decide) ?_
  exact retI C0 hr hlk hP hS ⟨rfl, rfl, rfl⟩ dX8_columnOf_4
theorem k_X8_columnOf {n : List Nat} (hd : Hd n a I) (hsub : ∀ k ∈ n0, k ∈ n) {x : Int32} {v : Int32} (hv : (x - x / 14 * 14) = v) (C0 : CallFix p m c cc nL s args GW own) (hK : KK D cA s) (hP : WP D cA a S X I H) (hS : va_S (AI a I) H0 H locs) (hls : ls.size = nL) {idx : Nat} (hlink : Cond.methodLink own idx yX8_columnOf ∈ GW) (hR : 1 ≤ R.frames ∧ 20 ≤ R.locals) (hcs : cells ≤ R.cells ∧ slots ≤ R.slots) (hrest : (rest.map fun v => v.category).sum ≤ 8) (hdg : decode cc pc = .ok (.invokestatic idx, 3)) (kk : ∀ (H1 : Heap) (locs1 : List Loc), WP D cA a S X I H1 → va_S (AI a I) H0 H1 locs1 → W p l e R s m args below meth c H1 locs1 cells slots Q (F0 m (pc + 3) ls (.int v :: rest))) : W p l e R s m args below meth c H locs cells slots Q (F0 m pc ls (.int x :: rest)) := by
  subst hv
  exact goI (rS (n := 1) (c_X8_columnOf l D cA a S X I (hd.sub hsub) x ) C0 hlink sm_X8_columnOf in_X8 co_X8_columnOf (by decide) hR hK hP rfl hls hrest rfl hdg hcs) hS (fun r S1 X1 H1 locs1 hp hP1 hS1 => by obtain ⟨rfl, rfl, rfl⟩ := hp; exact kk H1 locs1 hP1 hS1)
theorem kn_X8_columnOf {n : List Nat} (hd : Hd n a I) (hsub : ∀ k ∈ n0, k ∈ n) {x : Int32} {v : Int32} (hv : (x - x / 14 * 14) = v) (C0 : CallFix p m c cc nL s args GW own) (hK : KK D cA s) (hP : WP D cA a S X I H) (hS : va_S (AI a I) H0 H locs) (hls : ls.size = nL) {idx : Nat} {host : String} (hlink : va_Nw (.methodLinkNest own idx yX8_columnOf host) s) (hR : 1 ≤ R.frames ∧ 20 ≤ R.locals) (hcs : cells ≤ R.cells ∧ slots ≤ R.slots) (hrest : (rest.map fun v => v.category).sum ≤ 8) (hdg : decode cc pc = .ok (.invokestatic idx, 3)) (kk : ∀ (H1 : Heap) (locs1 : List Loc), WP D cA a S X I H1 → va_S (AI a I) H0 H1 locs1 → W p l e R s m args below meth c H1 locs1 cells slots Q (F0 m (pc + 3) ls (.int v :: rest))) : W p l e R s m args below meth c H locs cells slots Q (F0 m pc ls (.int x :: rest)) := by
  subst hv
  exact goI (rSN (n := 1) (c_X8_columnOf l D cA a S X I (hd.sub hsub) x ) C0 hlink sm_X8_columnOf in_X8 co_X8_columnOf (by decide) hR hK hP rfl hls hrest rfl hdg hcs) hS (fun r S1 X1 H1 locs1 hp hP1 hS1 => by obtain ⟨rfl, rfl, rfl⟩ := hp; exact kk H1 locs1 hP1 hS1)
set_option maxHeartbeats 4000000 in
set_option maxRecDepth 100000 in
theorem c_X8_rowOf (l : Launch) (D : va_G) (cA : ClassId) (a : Adr) (S X : Mem) (I : Nat → Prop) (hd : Hd n0 a I) (x : Int32) : MI l yX8_rowOf cX8_rowOf 1 (some .int) 0 0 D cA a S X I [.int x] (fun r S1 X1 => r = (x / 14) ∧ S1 = S ∧ X1 = X) := by
  refine mGo (by decide) (Nat.le_of_ble_eq_true rfl) ?_
  intro p e s m args below meth c ls C0 hr hlk hK hP hS hl hargs
  obtain ⟨H, hHe⟩ : ∃ H, H = s.heap := ⟨_, rfl⟩
  obtain ⟨locs, hlo⟩ : ∃ L : List Loc, L = [] := ⟨_, rfl⟩
  have hP : WP D cA a S X I H := hHe ▸ hP
  have hS : va_S (AI a I) s.heap H locs := by rw [hHe, hlo]; exact hS
  rw [← hHe, ← hlo]
  refine lv_iload_n C0.1 C0.2.1 dX8_rowOf_0 rfl (lv_at hl 0 rfl) ?_
  refine lv_bipush (v := 14) C0.1 C0.2.1 dX8_rowOf_1 (by decide) ?_
  refine lv_idiv C0.1 C0.2.1 dX8_rowOf_3 (by decide) ?_
  exact retI C0 hr hlk hP hS ⟨rfl, rfl, rfl⟩ dX8_rowOf_4
theorem k_X8_rowOf {n : List Nat} (hd : Hd n a I) (hsub : ∀ k ∈ n0, k ∈ n) {x : Int32} {v : Int32} (hv : (x / 14) = v) (C0 : CallFix p m c cc nL s args GW own) (hK : KK D cA s) (hP : WP D cA a S X I H) (hS : va_S (AI a I) H0 H locs) (hls : ls.size = nL) {idx : Nat} (hlink : Cond.methodLink own idx yX8_rowOf ∈ GW) (hR : 1 ≤ R.frames ∧ 20 ≤ R.locals) (hcs : cells ≤ R.cells ∧ slots ≤ R.slots) (hrest : (rest.map fun v => v.category).sum ≤ 8) (hdg : decode cc pc = .ok (.invokestatic idx, 3)) (kk : ∀ (H1 : Heap) (locs1 : List Loc), WP D cA a S X I H1 → va_S (AI a I) H0 H1 locs1 → W p l e R s m args below meth c H1 locs1 cells slots Q (F0 m (pc + 3) ls (.int v :: rest))) : W p l e R s m args below meth c H locs cells slots Q (F0 m pc ls (.int x :: rest)) := by
  subst hv
  exact goI (rS (n := 1) (c_X8_rowOf l D cA a S X I (hd.sub hsub) x ) C0 hlink sm_X8_rowOf in_X8 co_X8_rowOf (by decide) hR hK hP rfl hls hrest rfl hdg hcs) hS (fun r S1 X1 H1 locs1 hp hP1 hS1 => by obtain ⟨rfl, rfl, rfl⟩ := hp; exact kk H1 locs1 hP1 hS1)
theorem kn_X8_rowOf {n : List Nat} (hd : Hd n a I) (hsub : ∀ k ∈ n0, k ∈ n) {x : Int32} {v : Int32} (hv : (x / 14) = v) (C0 : CallFix p m c cc nL s args GW own) (hK : KK D cA s) (hP : WP D cA a S X I H) (hS : va_S (AI a I) H0 H locs) (hls : ls.size = nL) {idx : Nat} {host : String} (hlink : va_Nw (.methodLinkNest own idx yX8_rowOf host) s) (hR : 1 ≤ R.frames ∧ 20 ≤ R.locals) (hcs : cells ≤ R.cells ∧ slots ≤ R.slots) (hrest : (rest.map fun v => v.category).sum ≤ 8) (hdg : decode cc pc = .ok (.invokestatic idx, 3)) (kk : ∀ (H1 : Heap) (locs1 : List Loc), WP D cA a S X I H1 → va_S (AI a I) H0 H1 locs1 → W p l e R s m args below meth c H1 locs1 cells slots Q (F0 m (pc + 3) ls (.int v :: rest))) : W p l e R s m args below meth c H locs cells slots Q (F0 m pc ls (.int x :: rest)) := by
  subst hv
  exact goI (rSN (n := 1) (c_X8_rowOf l D cA a S X I (hd.sub hsub) x ) C0 hlink sm_X8_rowOf in_X8 co_X8_rowOf (by decide) hR hK hP rfl hls hrest rfl hdg hcs) hS (fun r S1 X1 H1 locs1 hp hP1 hS1 => by obtain ⟨rfl, rfl, rfl⟩ := hp; exact kk H1 locs1 hP1 hS1)
set_option maxHeartbeats 4000000 in
set_option maxRecDepth 100000 in
theorem c_X4_levelAt (l : Launch) (D : va_G) (cA : ClassId) (a : Adr) (S X : Mem) (I : Nat → Prop) (hd : Hd nT a I) (h : Int32) : MI l yX4_levelAt cX4_levelAt 2 (some .int) 1 21 D cA a S X I [.ref (a 80), .int h] (fun r S1 X1 => r = (rg (S 2) 12 (h - h / 12 * 12)) ∧ S1 = S ∧ X1 = X) := by
  refine mGo (by decide) (Nat.le_of_ble_eq_true rfl) ?_
  intro p e s m args below meth c ls C0 hr hlk hK hP hS hl hargs
  obtain ⟨H, hHe⟩ : ∃ H, H = s.heap := ⟨_, rfl⟩
  obtain ⟨locs, hlo⟩ : ∃ L : List Loc, L = [] := ⟨_, rfl⟩
  have hP : WP D cA a S X I H := hHe ▸ hP
  have hS : va_S (AI a I) s.heap H locs := by rw [hHe, hlo]; exact hS
  rw [← hHe, ← hlo]
  refine lv_aload_n C0.1 C0.2.1 dX4_levelAt_0 rfl (lv_at hl 0 rfl) ?_
  refine g80_water C0 hK hP (hd.1 _ (by decide)) fl_X4_23 dX4_levelAt_1 ?_
  refine lv_iload_n C0.1 C0.2.1 dX4_levelAt_4 rfl (lv_at hl 1 rfl) ?_
  refine lv_bipush (v := 12) C0.1 C0.2.1 dX4_levelAt_5 (by decide) ?_
  refine lv_irem C0.1 C0.2.1 dX4_levelAt_7 (by decide) ?_
  refine k_X5_get (v := rg (S 2) 12 (h - h / 12 * 12)) 2 (by decide) hd (by decide) (by decide) rfl C0 hK hP hS hl.1 ml_X4_29 ⟨Nat.le_of_ble_eq_true rfl, Nat.le_of_ble_eq_true rfl⟩ ⟨Nat.zero_le _, Nat.zero_le _⟩ (Nat.le_of_ble_eq_true rfl) dX4_levelAt_8 (fun H locs hP hS => ?_)
  exact retI C0 hr hlk hP hS ⟨rfl, rfl, rfl⟩ dX4_levelAt_11
theorem k_X4_levelAt {n : List Nat} (hd : Hd n a I) (hsub : ∀ k ∈ nT, k ∈ n) {h : Int32} {v : Int32} (hv : (rg (S 2) 12 (h - h / 12 * 12)) = v) (C0 : CallFix p m c cc nL s args GW own) (hK : KK D cA s) (hP : WP D cA a S X I H) (hS : va_S (AI a I) H0 H locs) (hls : ls.size = nL) {idx : Nat} (hlink : Cond.methodLink own idx yX4_levelAt ∈ GW) (hR : 2 ≤ R.frames ∧ 42 ≤ R.locals) (hcs : cells ≤ R.cells ∧ slots ≤ R.slots) (hrest : (rest.map fun v => v.category).sum ≤ 8) (hdg : decode cc pc = .ok (.invokevirtual idx, 3)) (kk : ∀ (H1 : Heap) (locs1 : List Loc), WP D cA a S X I H1 → va_S (AI a I) H0 H1 locs1 → W p l e R s m args below meth c H1 locs1 cells slots Q (F0 m (pc + 3) ls (.int v :: rest))) : W p l e R s m args below meth c H locs cells slots Q (F0 m pc ls (.int h :: .ref (a 80) :: rest)) := by
  subst hv
  exact goI (rV (n := 1) (c_X4_levelAt l D cA a S X I (hd.sub hsub) h ) C0 hlink im_X4_levelAt se_X4_levelAt in_X4 co_X4_levelAt ⟨rfl, by decide⟩ hR hK hP (hd.1 _ (hsub _ (by decide))) rfl rfl rfl hls hrest rfl hdg hcs) hS (fun r S1 X1 H1 locs1 hp hP1 hS1 => by obtain ⟨rfl, rfl, rfl⟩ := hp; exact kk H1 locs1 hP1 hS1)
set_option maxHeartbeats 4000000 in
set_option maxRecDepth 100000 in
theorem c_X4_depth (l : Launch) (D : va_G) (cA : ClassId) (a : Adr) (S X : Mem) (I : Nat → Prop) (hd : Hd nT a I) (x : Int32) (lv : Int32) : MI l yX4_depth cX4_depth 3 (some .int) 1 21 D cA a S X I [.ref (a 80), .int x, .int lv] (fun r S1 X1 => r = (dpt S x lv) ∧ S1 = S ∧ X1 = X) := by
  refine mGo (by decide) (Nat.le_of_ble_eq_true rfl) ?_
  intro p e s m args below meth c ls C0 hr hlk hK hP hS hl hargs
  obtain ⟨H, hHe⟩ : ∃ H, H = s.heap := ⟨_, rfl⟩
  obtain ⟨locs, hlo⟩ : ∃ L : List Loc, L = [] := ⟨_, rfl⟩
  have hP : WP D cA a S X I H := hHe ▸ hP
  have hS : va_S (AI a I) s.heap H locs := by rw [hHe, hlo]; exact hS
  rw [← hHe, ← hlo]
  refine lv_iconst (v := 0) C0.1 C0.2.1 dX4_depth_0 (by decide) ?_
  refine lv_iload_n C0.1 C0.2.1 dX4_depth_1 rfl (lv_at hl 2 rfl) ?_
  refine lv_aload_n C0.1 C0.2.1 dX4_depth_2 rfl (lv_at hl 0 rfl) ?_
  refine g80_ground C0 hK hP (hd.1 _ (by decide)) fl_X4_14 dX4_depth_3 ?_
  refine lv_iload_n C0.1 C0.2.1 dX4_depth_6 rfl (lv_at hl 1 rfl) ?_
  refine k_X5_get (v := rg (S 0) 196 x) 0 (by decide) hd (by decide) (by decide) rfl C0 hK hP hS hl.1 ml_X4_29 ⟨Nat.le_of_ble_eq_true rfl, Nat.le_of_ble_eq_true rfl⟩ ⟨Nat.zero_le _, Nat.zero_le _⟩ (Nat.le_of_ble_eq_true rfl) dX4_depth_7 (fun H locs hP hS => ?_)
  refine lv_isub C0.1 C0.2.1 dX4_depth_10 ?_
  refine va_mmax C0.1 C0.2.1 (C0.2.2.1.trans hl.1.symm) C0.2.2.2.1 (C0.2.2.2.2 _ ml_X4_33) (C0.2.2.2.2 _ sm_M_max) (C0.2.2.2.2 _ in_J9) (C0.2.2.2.2 _ co_M_max) (Nat.le_of_ble_eq_true rfl) (Nat.le_of_ble_eq_true rfl) (Nat.zero_le _) (Nat.zero_le _) dX4_depth_11 ?_
  exact retI C0 hr hlk hP hS ⟨rfl, rfl, rfl⟩ dX4_depth_14
theorem k_X4_depth {n : List Nat} (hd : Hd n a I) (hsub : ∀ k ∈ nT, k ∈ n) {x : Int32} {lv : Int32} {v : Int32} (hv : (dpt S x lv) = v) (C0 : CallFix p m c cc nL s args GW own) (hK : KK D cA s) (hP : WP D cA a S X I H) (hS : va_S (AI a I) H0 H locs) (hls : ls.size = nL) {idx : Nat} (hlink : Cond.methodLink own idx yX4_depth ∈ GW) (hR : 2 ≤ R.frames ∧ 43 ≤ R.locals) (hcs : cells ≤ R.cells ∧ slots ≤ R.slots) (hrest : (rest.map fun v => v.category).sum ≤ 8) (hdg : decode cc pc = .ok (.invokevirtual idx, 3)) (kk : ∀ (H1 : Heap) (locs1 : List Loc), WP D cA a S X I H1 → va_S (AI a I) H0 H1 locs1 → W p l e R s m args below meth c H1 locs1 cells slots Q (F0 m (pc + 3) ls (.int v :: rest))) : W p l e R s m args below meth c H locs cells slots Q (F0 m pc ls (.int lv :: .int x :: .ref (a 80) :: rest)) := by
  subst hv
  exact goI (rV (n := 2) (c_X4_depth l D cA a S X I (hd.sub hsub) x lv ) C0 hlink im_X4_depth se_X4_depth in_X4 co_X4_depth ⟨rfl, by decide⟩ hR hK hP (hd.1 _ (hsub _ (by decide))) rfl rfl rfl hls hrest rfl hdg hcs) hS (fun r S1 X1 H1 locs1 hp hP1 hS1 => by obtain ⟨rfl, rfl, rfl⟩ := hp; exact kk H1 locs1 hP1 hS1)
set_option maxHeartbeats 4000000 in
set_option maxRecDepth 100000 in
theorem c_X4_showsStake (l : Launch) (D : va_G) (cA : ClassId) (a : Adr) (S X : Mem) (I : Nat → Prop) (hd : Hd nT a I) (x : Int32) (lv : Int32) : MI l yX4_showsStake cX4_showsStake 3 (some .boolean) 2 43 D cA a S X I [.ref (a 80), .int x, .int lv] (fun r S1 X1 => r = (bI (decide (dpt S x lv < rg (S 1) 196 x))) ∧ S1 = S ∧ X1 = X) := by
  refine mGo (by decide) (Nat.le_of_ble_eq_true rfl) ?_
  intro p e s m args below meth c ls C0 hr hlk hK hP hS hl hargs
  obtain ⟨H, hHe⟩ : ∃ H, H = s.heap := ⟨_, rfl⟩
  obtain ⟨locs, hlo⟩ : ∃ L : List Loc, L = [] := ⟨_, rfl⟩
  have hP : WP D cA a S X I H := hHe ▸ hP
  have hS : va_S (AI a I) s.heap H locs := by rw [hHe, hlo]; exact hS
  rw [← hHe, ← hlo]
  refine lv_aload_n C0.1 C0.2.1 dX4_showsStake_0 rfl (lv_at hl 0 rfl) ?_
  refine lv_iload_n C0.1 C0.2.1 dX4_showsStake_1 rfl (lv_at hl 1 rfl) ?_
  refine lv_iload_n C0.1 C0.2.1 dX4_showsStake_2 rfl (lv_at hl 2 rfl) ?_
  refine k_X4_depth hd (by decide)  (v := dpt S x lv) rfl C0 hK hP hS hl.1 ml_X4_39 ⟨Nat.le_of_ble_eq_true rfl, Nat.le_of_ble_eq_true rfl⟩ ⟨Nat.zero_le _, Nat.zero_le _⟩ (Nat.le_of_ble_eq_true rfl) dX4_showsStake_3 (fun H locs hP hS => ?_)
  refine lv_aload_n C0.1 C0.2.1 dX4_showsStake_6 rfl (lv_at hl 0 rfl) ?_
  refine g80_stake C0 hK hP (hd.1 _ (by decide)) fl_X4_20 dX4_showsStake_7 ?_
  refine lv_iload_n C0.1 C0.2.1 dX4_showsStake_10 rfl (lv_at hl 1 rfl) ?_
  refine k_X5_get (v := rg (S 1) 196 x) 1 (by decide) hd (by decide) (by decide) rfl C0 hK hP hS hl.1 ml_X4_29 ⟨Nat.le_of_ble_eq_true rfl, Nat.le_of_ble_eq_true rfl⟩ ⟨Nat.zero_le _, Nat.zero_le _⟩ (Nat.le_of_ble_eq_true rfl) dX4_showsStake_11 (fun H locs hP hS => ?_)
  refine lv_icmp_ge (tgt := 21) C0.1 C0.2.1 dX4_showsStake_14 (by decide) (fun c_14 => ?_) (fun c_14 => ?_)
  · refine lv_iconst (v := 0) C0.1 C0.2.1 dX4_showsStake_21 (by decide) ?_
    exact retZ C0 hr hlk hP hS rfl ⟨(bI_f (by simp only [Bool.eq_false_iff, ne_eq, Bool.and_eq_true, Bool.or_eq_true, decide_eq_true_eq, Int32.le_iff_toInt_le, Int32.lt_iff_toInt_lt, ← Int32.toInt_inj, Int32.reduceToInt] at c_14 ⊢; omega)).symm, rfl, rfl⟩ dX4_showsStake_22
  · refine lv_iconst (v := 1) C0.1 C0.2.1 dX4_showsStake_17 (by decide) ?_
    refine lv_goto (tgt := 22) C0.1 C0.2.1 dX4_showsStake_18 (by decide) ?_
    exact retZ C0 hr hlk hP hS rfl ⟨(bI_t (by simp only [Bool.eq_false_iff, ne_eq, Bool.and_eq_true, Bool.or_eq_true, decide_eq_true_eq, Int32.le_iff_toInt_le, Int32.lt_iff_toInt_lt, ← Int32.toInt_inj, Int32.reduceToInt] at c_14 ⊢; omega)).symm, rfl, rfl⟩ dX4_showsStake_22
theorem k_X4_showsStake {n : List Nat} (hd : Hd n a I) (hsub : ∀ k ∈ nT, k ∈ n) {x : Int32} {lv : Int32} {v : Int32} (hv : (bI (decide (dpt S x lv < rg (S 1) 196 x))) = v) (C0 : CallFix p m c cc nL s args GW own) (hK : KK D cA s) (hP : WP D cA a S X I H) (hS : va_S (AI a I) H0 H locs) (hls : ls.size = nL) {idx : Nat} (hlink : Cond.methodLink own idx yX4_showsStake ∈ GW) (hR : 3 ≤ R.frames ∧ 65 ≤ R.locals) (hcs : cells ≤ R.cells ∧ slots ≤ R.slots) (hrest : (rest.map fun v => v.category).sum ≤ 8) (hdg : decode cc pc = .ok (.invokevirtual idx, 3)) (kk : ∀ (H1 : Heap) (locs1 : List Loc), WP D cA a S X I H1 → va_S (AI a I) H0 H1 locs1 → W p l e R s m args below meth c H1 locs1 cells slots Q (F0 m (pc + 3) ls (.int v :: rest))) : W p l e R s m args below meth c H locs cells slots Q (F0 m pc ls (.int lv :: .int x :: .ref (a 80) :: rest)) := by
  subst hv
  exact goI (rV (n := 2) (c_X4_showsStake l D cA a S X I (hd.sub hsub) x lv ) C0 hlink im_X4_showsStake se_X4_showsStake in_X4 co_X4_showsStake ⟨rfl, by decide⟩ hR hK hP (hd.1 _ (hsub _ (by decide))) rfl rfl rfl hls hrest rfl hdg hcs) hS (fun r S1 X1 H1 locs1 hp hP1 hS1 => by obtain ⟨rfl, rfl, rfl⟩ := hp; exact kk H1 locs1 hP1 hS1)
set_option maxHeartbeats 4000000 in
set_option maxRecDepth 100000 in
theorem c_X3_add (l : Launch) (D : va_G) (cA : ClassId) (a : Adr) (S X : Mem) (I : Nat → Prop) (hd : Hd nT a I) (x : Int32) : MI l yX3_add cX3_add 3 (some .int) 1 22 D cA a S X I [.ref (a 81), .int x] (fun r S1 X1 => r = ((S 81) 0) ∧ S1 = (up (up S 3 (us (S 3) 8 ((S 81) 0) x)) 81 (fun _ => (S 81) 0 + 1)) ∧ X1 = X) := by
  refine mGo (by decide) (Nat.le_of_ble_eq_true rfl) ?_
  intro p e s m args below meth c ls C0 hr hlk hK hP hS hl hargs
  obtain ⟨H, hHe⟩ : ∃ H, H = s.heap := ⟨_, rfl⟩
  obtain ⟨locs, hlo⟩ : ∃ L : List Loc, L = [] := ⟨_, rfl⟩
  have hP : WP D cA a S X I H := hHe ▸ hP
  have hS : va_S (AI a I) s.heap H locs := by rw [hHe, hlo]; exact hS
  rw [← hHe, ← hlo]
  refine lv_aload_n C0.1 C0.2.1 dX3_add_0 rfl (lv_at hl 0 rfl) ?_
  refine g81_number (v := S 81 0) C0 hK hP (hd.1 _ (by decide)) fl_X3_20 rfl dX3_add_1 ?_
  refine lv_istore_n (lv' := [(2, .int (S 81 0)), (0, .ref (a 81)), (1, .int x)]) C0.1 C0.2.1 dX3_add_4 rfl hl (by decide) rfl (fun ls hl => ?_)
  refine lv_aload_n C0.1 C0.2.1 dX3_add_5 rfl (lv_at hl 1 rfl) ?_
  refine g81_cell C0 hK hP (hd.1 _ (by decide)) fl_X3_14 dX3_add_6 ?_
  refine lv_iload_n C0.1 C0.2.1 dX3_add_9 rfl (lv_at hl 0 rfl) ?_
  refine lv_iload_n C0.1 C0.2.1 dX3_add_10 rfl (lv_at hl 2 rfl) ?_
  refine k_X5_set 3 (by decide) hd (by decide) (by decide) C0 hK hP hS hl.1 ml_X3_24 ⟨Nat.le_of_ble_eq_true rfl, Nat.le_of_ble_eq_true rfl⟩ ⟨Nat.zero_le _, Nat.zero_le _⟩ (Nat.le_of_ble_eq_true rfl) dX3_add_11 (fun H locs hP hS => ?_)
  have hP : WP D cA a (up S 3 (us (S 3) 8 (S 81 0) x)) X I H := hP
  refine lv_aload_n C0.1 C0.2.1 dX3_add_14 rfl (lv_at hl 1 rfl) ?_
  refine lv_dup C0.1 C0.2.1 dX3_add_15 rfl ?_
  refine g81_number (v := S 81 0) C0 hK hP (hd.1 _ (by decide)) fl_X3_20 rfl dX3_add_16 ?_
  refine lv_iconst (v := 1) C0.1 C0.2.1 dX3_add_19 (by decide) ?_
  refine lv_iadd C0.1 C0.2.1 dX3_add_20 ?_
  refine p81_number (x := ((S 81 0) + 1)) C0 hK hP hS (hd.1 _ (by decide)) hd.2.2 fl_X3_20 dX3_add_21 (fun H locs hP hS => ?_)
  have hP : WP D cA a (up (up S 3 (us (S 3) 8 (S 81 0) x)) 81 (fun _ => (S 81 0) + 1)) X I H := hP
  refine lv_iload_n C0.1 C0.2.1 dX3_add_24 rfl (lv_at hl 0 rfl) ?_
  exact retI C0 hr hlk hP hS ⟨rfl, rfl, rfl⟩ dX3_add_25
theorem k_X3_add {n : List Nat} (hd : Hd n a I) (hsub : ∀ k ∈ nT, k ∈ n) {x : Int32} {v : Int32} (hv : ((S 81) 0) = v) (C0 : CallFix p m c cc nL s args GW own) (hK : KK D cA s) (hP : WP D cA a S X I H) (hS : va_S (AI a I) H0 H locs) (hls : ls.size = nL) {idx : Nat} (hlink : Cond.methodLink own idx yX3_add ∈ GW) (hR : 2 ≤ R.frames ∧ 44 ≤ R.locals) (hcs : cells ≤ R.cells ∧ slots ≤ R.slots) (hrest : (rest.map fun v => v.category).sum ≤ 8) (hdg : decode cc pc = .ok (.invokevirtual idx, 3)) (kk : ∀ (H1 : Heap) (locs1 : List Loc), WP D cA a (up (up S 3 (us (S 3) 8 ((S 81) 0) x)) 81 (fun _ => (S 81) 0 + 1)) X I H1 → va_S (AI a I) H0 H1 locs1 → W p l e R s m args below meth c H1 locs1 cells slots Q (F0 m (pc + 3) ls (.int v :: rest))) : W p l e R s m args below meth c H locs cells slots Q (F0 m pc ls (.int x :: .ref (a 81) :: rest)) := by
  subst hv
  exact goI (rV (n := 1) (c_X3_add l D cA a S X I (hd.sub hsub) x ) C0 hlink im_X3_add se_X3_add in_X3 co_X3_add ⟨rfl, by decide⟩ hR hK hP (hd.1 _ (hsub _ (by decide))) rfl rfl rfl hls hrest rfl hdg hcs) hS (fun r S1 X1 H1 locs1 hp hP1 hS1 => by obtain ⟨rfl, rfl, rfl⟩ := hp; exact kk H1 locs1 hP1 hS1)
set_option maxHeartbeats 4000000 in
set_option maxRecDepth 100000 in
theorem c_X2_add (l : Launch) (D : va_G) (cA : ClassId) (a : Adr) (S X : Mem) (I : Nat → Prop) (hd : Hd nT a I) (h : Int32) (q : Int32) : MI l yX2_add cX2_add 4 (some .int) 1 22 D cA a S X I [.ref (a 82), .int h, .int q] (fun r S1 X1 => r = ((S 82) 0) ∧ S1 = (up (up (up S 4 (us (S 4) 6 ((S 82) 0) h)) 5 (us (S 5) 6 ((S 82) 0) q)) 82 (fun _ => (S 82) 0 + 1)) ∧ X1 = X) := by
  refine mGo (by decide) (Nat.le_of_ble_eq_true rfl) ?_
  intro p e s m args below meth c ls C0 hr hlk hK hP hS hl hargs
  obtain ⟨H, hHe⟩ : ∃ H, H = s.heap := ⟨_, rfl⟩
  obtain ⟨locs, hlo⟩ : ∃ L : List Loc, L = [] := ⟨_, rfl⟩
  have hP : WP D cA a S X I H := hHe ▸ hP
  have hS : va_S (AI a I) s.heap H locs := by rw [hHe, hlo]; exact hS
  rw [← hHe, ← hlo]
  refine lv_aload_n C0.1 C0.2.1 dX2_add_0 rfl (lv_at hl 0 rfl) ?_
  refine g82_number (v := S 82 0) C0 hK hP (hd.1 _ (by decide)) fl_X2_35 rfl dX2_add_1 ?_
  refine lv_istore_n (lv' := [(3, .int (S 82 0)), (0, .ref (a 82)), (1, .int h), (2, .int q)]) C0.1 C0.2.1 dX2_add_4 rfl hl (by decide) rfl (fun ls hl => ?_)
  refine lv_aload_n C0.1 C0.2.1 dX2_add_5 rfl (lv_at hl 1 rfl) ?_
  refine g82_home C0 hK hP (hd.1 _ (by decide)) fl_X2_14 dX2_add_6 ?_
  refine lv_iload_n C0.1 C0.2.1 dX2_add_9 rfl (lv_at hl 0 rfl) ?_
  refine lv_iload_n C0.1 C0.2.1 dX2_add_10 rfl (lv_at hl 2 rfl) ?_
  refine k_X5_set 4 (by decide) hd (by decide) (by decide) C0 hK hP hS hl.1 ml_X2_39 ⟨Nat.le_of_ble_eq_true rfl, Nat.le_of_ble_eq_true rfl⟩ ⟨Nat.zero_le _, Nat.zero_le _⟩ (Nat.le_of_ble_eq_true rfl) dX2_add_11 (fun H locs hP hS => ?_)
  have hP : WP D cA a (up S 4 (us (S 4) 6 (S 82 0) h)) X I H := hP
  refine lv_aload_n C0.1 C0.2.1 dX2_add_14 rfl (lv_at hl 1 rfl) ?_
  refine g82_goal C0 hK hP (hd.1 _ (by decide)) fl_X2_20 dX2_add_15 ?_
  refine lv_iload_n C0.1 C0.2.1 dX2_add_18 rfl (lv_at hl 0 rfl) ?_
  refine lv_iload_n C0.1 C0.2.1 dX2_add_19 rfl (lv_at hl 3 rfl) ?_
  refine k_X5_set 5 (by decide) hd (by decide) (by decide) C0 hK hP hS hl.1 ml_X2_39 ⟨Nat.le_of_ble_eq_true rfl, Nat.le_of_ble_eq_true rfl⟩ ⟨Nat.zero_le _, Nat.zero_le _⟩ (Nat.le_of_ble_eq_true rfl) dX2_add_20 (fun H locs hP hS => ?_)
  have hP : WP D cA a (up (up S 4 (us (S 4) 6 (S 82 0) h)) 5 (us (S 5) 6 (S 82 0) q)) X I H := hP
  refine lv_aload_n C0.1 C0.2.1 dX2_add_23 rfl (lv_at hl 1 rfl) ?_
  refine lv_dup C0.1 C0.2.1 dX2_add_24 rfl ?_
  refine g82_number (v := S 82 0) C0 hK hP (hd.1 _ (by decide)) fl_X2_35 rfl dX2_add_25 ?_
  refine lv_iconst (v := 1) C0.1 C0.2.1 dX2_add_28 (by decide) ?_
  refine lv_iadd C0.1 C0.2.1 dX2_add_29 ?_
  refine p82_number (x := ((S 82 0) + 1)) C0 hK hP hS (hd.1 _ (by decide)) hd.2.2 fl_X2_35 dX2_add_30 (fun H locs hP hS => ?_)
  have hP : WP D cA a (up (up (up S 4 (us (S 4) 6 (S 82 0) h)) 5 (us (S 5) 6 (S 82 0) q)) 82 (fun _ => (S 82 0) + 1)) X I H := hP
  refine lv_iload_n C0.1 C0.2.1 dX2_add_33 rfl (lv_at hl 0 rfl) ?_
  exact retI C0 hr hlk hP hS ⟨rfl, rfl, rfl⟩ dX2_add_34
theorem k_X2_add {n : List Nat} (hd : Hd n a I) (hsub : ∀ k ∈ nT, k ∈ n) {h : Int32} {q : Int32} {v : Int32} (hv : ((S 82) 0) = v) (C0 : CallFix p m c cc nL s args GW own) (hK : KK D cA s) (hP : WP D cA a S X I H) (hS : va_S (AI a I) H0 H locs) (hls : ls.size = nL) {idx : Nat} (hlink : Cond.methodLink own idx yX2_add ∈ GW) (hR : 2 ≤ R.frames ∧ 45 ≤ R.locals) (hcs : cells ≤ R.cells ∧ slots ≤ R.slots) (hrest : (rest.map fun v => v.category).sum ≤ 8) (hdg : decode cc pc = .ok (.invokevirtual idx, 3)) (kk : ∀ (H1 : Heap) (locs1 : List Loc), WP D cA a (up (up (up S 4 (us (S 4) 6 ((S 82) 0) h)) 5 (us (S 5) 6 ((S 82) 0) q)) 82 (fun _ => (S 82) 0 + 1)) X I H1 → va_S (AI a I) H0 H1 locs1 → W p l e R s m args below meth c H1 locs1 cells slots Q (F0 m (pc + 3) ls (.int v :: rest))) : W p l e R s m args below meth c H locs cells slots Q (F0 m pc ls (.int q :: .int h :: .ref (a 82) :: rest)) := by
  subst hv
  exact goI (rV (n := 2) (c_X2_add l D cA a S X I (hd.sub hsub) h q ) C0 hlink im_X2_add se_X2_add in_X2 co_X2_add ⟨rfl, by decide⟩ hR hK hP (hd.1 _ (hsub _ (by decide))) rfl rfl rfl hls hrest rfl hdg hcs) hS (fun r S1 X1 H1 locs1 hp hP1 hS1 => by obtain ⟨rfl, rfl, rfl⟩ := hp; exact kk H1 locs1 hP1 hS1)
set_option maxHeartbeats 4000000 in
set_option maxRecDepth 100000 in
theorem c_X2_fitOut (l : Launch) (D : va_G) (cA : ClassId) (a : Adr) (S X : Mem) (I : Nat → Prop) (hd : Hd nT a I) (q : Int32) (x6 : Int32) (x7 : Int32) (x8 : Int32) (x9 : Int32) : MV l yX2_fitOut cX2_fitOut 6 none 1 22 D cA a S X I [.ref (a 82), .int q, .int x6, .int x7, .int x8, .int x9] (fun S1 X1 => S1 = (up (up (up (up S 6 (us (S 6) 6 q x6)) 7 (us (S 7) 6 q x7)) 8 (us (S 8) 6 q x8)) 9 (us (S 9) 6 q x9)) ∧ X1 = X) := by
  refine mGo (by decide) (Nat.le_of_ble_eq_true rfl) ?_
  intro p e s m args below meth c ls C0 hr hlk hK hP hS hl hargs
  obtain ⟨H, hHe⟩ : ∃ H, H = s.heap := ⟨_, rfl⟩
  obtain ⟨locs, hlo⟩ : ∃ L : List Loc, L = [] := ⟨_, rfl⟩
  have hP : WP D cA a S X I H := hHe ▸ hP
  have hS : va_S (AI a I) s.heap H locs := by rw [hHe, hlo]; exact hS
  rw [← hHe, ← hlo]
  refine lv_aload_n C0.1 C0.2.1 dX2_fitOut_0 rfl (lv_at hl 0 rfl) ?_
  refine g82_draught C0 hK hP (hd.1 _ (by decide)) fl_X2_23 dX2_fitOut_1 ?_
  refine lv_iload_n C0.1 C0.2.1 dX2_fitOut_4 rfl (lv_at hl 1 rfl) ?_
  refine lv_iload_n C0.1 C0.2.1 dX2_fitOut_5 rfl (lv_at hl 2 rfl) ?_
  refine k_X5_set 6 (by decide) hd (by decide) (by decide) C0 hK hP hS hl.1 ml_X2_39 ⟨Nat.le_of_ble_eq_true rfl, Nat.le_of_ble_eq_true rfl⟩ ⟨Nat.zero_le _, Nat.zero_le _⟩ (Nat.le_of_ble_eq_true rfl) dX2_fitOut_6 (fun H locs hP hS => ?_)
  have hP : WP D cA a (up S 6 (us (S 6) 6 q x6)) X I H := hP
  refine lv_aload_n C0.1 C0.2.1 dX2_fitOut_9 rfl (lv_at hl 0 rfl) ?_
  refine g82_pole C0 hK hP (hd.1 _ (by decide)) fl_X2_26 dX2_fitOut_10 ?_
  refine lv_iload_n C0.1 C0.2.1 dX2_fitOut_13 rfl (lv_at hl 1 rfl) ?_
  refine lv_iload_n C0.1 C0.2.1 dX2_fitOut_14 rfl (lv_at hl 3 rfl) ?_
  refine k_X5_set 7 (by decide) hd (by decide) (by decide) C0 hK hP hS hl.1 ml_X2_39 ⟨Nat.le_of_ble_eq_true rfl, Nat.le_of_ble_eq_true rfl⟩ ⟨Nat.zero_le _, Nat.zero_le _⟩ (Nat.le_of_ble_eq_true rfl) dX2_fitOut_15 (fun H locs hP hS => ?_)
  have hP : WP D cA a (up (up S 6 (us (S 6) 6 q x6)) 7 (us (S 7) 6 q x7)) X I H := hP
  refine lv_aload_n C0.1 C0.2.1 dX2_fitOut_18 rfl (lv_at hl 0 rfl) ?_
  refine g82_room C0 hK hP (hd.1 _ (by decide)) fl_X2_29 dX2_fitOut_19 ?_
  refine lv_iload_n C0.1 C0.2.1 dX2_fitOut_22 rfl (lv_at hl 1 rfl) ?_
  refine lv_iload C0.1 C0.2.1 dX2_fitOut_23 (lv_at hl 4 rfl) ?_
  refine k_X5_set 8 (by decide) hd (by decide) (by decide) C0 hK hP hS hl.1 ml_X2_39 ⟨Nat.le_of_ble_eq_true rfl, Nat.le_of_ble_eq_true rfl⟩ ⟨Nat.zero_le _, Nat.zero_le _⟩ (Nat.le_of_ble_eq_true rfl) dX2_fitOut_25 (fun H locs hP hS => ?_)
  have hP : WP D cA a (up (up (up S 6 (us (S 6) 6 q x6)) 7 (us (S 7) 6 q x7)) 8 (us (S 8) 6 q x8)) X I H := hP
  refine lv_aload_n C0.1 C0.2.1 dX2_fitOut_28 rfl (lv_at hl 0 rfl) ?_
  refine g82_toll C0 hK hP (hd.1 _ (by decide)) fl_X2_32 dX2_fitOut_29 ?_
  refine lv_iload_n C0.1 C0.2.1 dX2_fitOut_32 rfl (lv_at hl 1 rfl) ?_
  refine lv_iload C0.1 C0.2.1 dX2_fitOut_33 (lv_at hl 5 rfl) ?_
  refine k_X5_set 9 (by decide) hd (by decide) (by decide) C0 hK hP hS hl.1 ml_X2_39 ⟨Nat.le_of_ble_eq_true rfl, Nat.le_of_ble_eq_true rfl⟩ ⟨Nat.zero_le _, Nat.zero_le _⟩ (Nat.le_of_ble_eq_true rfl) dX2_fitOut_35 (fun H locs hP hS => ?_)
  have hP : WP D cA a (up (up (up (up S 6 (us (S 6) 6 q x6)) 7 (us (S 7) 6 q x7)) 8 (us (S 8) 6 q x8)) 9 (us (S 9) 6 q x9)) X I H := hP
  exact retV C0 hr hlk hP hS ⟨rfl, rfl⟩ dX2_fitOut_38
theorem k_X2_fitOut {n : List Nat} (hd : Hd n a I) (hsub : ∀ k ∈ nT, k ∈ n) {q : Int32} {x6 : Int32} {x7 : Int32} {x8 : Int32} {x9 : Int32} (C0 : CallFix p m c cc nL s args GW own) (hK : KK D cA s) (hP : WP D cA a S X I H) (hS : va_S (AI a I) H0 H locs) (hls : ls.size = nL) {idx : Nat} (hlink : Cond.methodLink own idx yX2_fitOut ∈ GW) (hR : 2 ≤ R.frames ∧ 47 ≤ R.locals) (hcs : cells ≤ R.cells ∧ slots ≤ R.slots) (hrest : (rest.map fun v => v.category).sum ≤ 8) (hdg : decode cc pc = .ok (.invokevirtual idx, 3)) (kk : ∀ (H1 : Heap) (locs1 : List Loc), WP D cA a (up (up (up (up S 6 (us (S 6) 6 q x6)) 7 (us (S 7) 6 q x7)) 8 (us (S 8) 6 q x8)) 9 (us (S 9) 6 q x9)) X I H1 → va_S (AI a I) H0 H1 locs1 → W p l e R s m args below meth c H1 locs1 cells slots Q (F0 m (pc + 3) ls rest)) : W p l e R s m args below meth c H locs cells slots Q (F0 m pc ls (.int x9 :: .int x8 :: .int x7 :: .int x6 :: .int q :: .ref (a 82) :: rest)) := by
  exact goV (rV (n := 5) (c_X2_fitOut l D cA a S X I (hd.sub hsub) q x6 x7 x8 x9 ) C0 hlink im_X2_fitOut se_X2_fitOut in_X2 co_X2_fitOut ⟨rfl, by decide⟩ hR hK hP (hd.1 _ (hsub _ (by decide))) rfl rfl rfl hls hrest rfl hdg hcs) hS (fun S1 X1 H1 locs1 hp hP1 hS1 => by obtain ⟨rfl, rfl⟩ := hp; exact kk H1 locs1 hP1 hS1)
set_option maxHeartbeats 4000000 in
set_option maxRecDepth 100000 in
theorem c_X2_floats (l : Launch) (D : va_G) (cA : ClassId) (a : Adr) (S X : Mem) (I : Nat → Prop) (hd : Hd nT a I) (q : Int32) (x : Int32) : MI l yX2_floats cX2_floats 3 (some .boolean) 1 21 D cA a S X I [.ref (a 82), .int q, .int x] (fun r S1 X1 => r = (bI (decide (rg (S 6) 6 q ≤ x) && decide (x ≤ rg (S 7) 6 q))) ∧ S1 = S ∧ X1 = X) := by
  refine mGo (by decide) (Nat.le_of_ble_eq_true rfl) ?_
  intro p e s m args below meth c ls C0 hr hlk hK hP hS hl hargs
  obtain ⟨H, hHe⟩ : ∃ H, H = s.heap := ⟨_, rfl⟩
  obtain ⟨locs, hlo⟩ : ∃ L : List Loc, L = [] := ⟨_, rfl⟩
  have hP : WP D cA a S X I H := hHe ▸ hP
  have hS : va_S (AI a I) s.heap H locs := by rw [hHe, hlo]; exact hS
  rw [← hHe, ← hlo]
  refine lv_iload_n C0.1 C0.2.1 dX2_floats_0 rfl (lv_at hl 2 rfl) ?_
  refine lv_aload_n C0.1 C0.2.1 dX2_floats_1 rfl (lv_at hl 0 rfl) ?_
  refine g82_draught C0 hK hP (hd.1 _ (by decide)) fl_X2_23 dX2_floats_2 ?_
  refine lv_iload_n C0.1 C0.2.1 dX2_floats_5 rfl (lv_at hl 1 rfl) ?_
  refine k_X5_get (v := rg (S 6) 6 q) 6 (by decide) hd (by decide) (by decide) rfl C0 hK hP hS hl.1 ml_X2_43 ⟨Nat.le_of_ble_eq_true rfl, Nat.le_of_ble_eq_true rfl⟩ ⟨Nat.zero_le _, Nat.zero_le _⟩ (Nat.le_of_ble_eq_true rfl) dX2_floats_6 (fun H locs hP hS => ?_)
  refine lv_icmp_lt (tgt := 28) C0.1 C0.2.1 dX2_floats_9 (by decide) (fun c_9 => ?_) (fun c_9 => ?_)
  · refine lv_iconst (v := 0) C0.1 C0.2.1 dX2_floats_28 (by decide) ?_
    exact retZ C0 hr hlk hP hS rfl ⟨(bI_f (by simp only [Bool.eq_false_iff, ne_eq, Bool.and_eq_true, Bool.or_eq_true, decide_eq_true_eq, Int32.le_iff_toInt_le, Int32.lt_iff_toInt_lt, ← Int32.toInt_inj, Int32.reduceToInt] at c_9 ⊢; omega)).symm, rfl, rfl⟩ dX2_floats_29
  · refine lv_iload_n C0.1 C0.2.1 dX2_floats_12 rfl (lv_at hl 2 rfl) ?_
    refine lv_aload_n C0.1 C0.2.1 dX2_floats_13 rfl (lv_at hl 0 rfl) ?_
    refine g82_pole C0 hK hP (hd.1 _ (by decide)) fl_X2_26 dX2_floats_14 ?_
    refine lv_iload_n C0.1 C0.2.1 dX2_floats_17 rfl (lv_at hl 1 rfl) ?_
    refine k_X5_get (v := rg (S 7) 6 q) 7 (by decide) hd (by decide) (by decide) rfl C0 hK hP hS hl.1 ml_X2_43 ⟨Nat.le_of_ble_eq_true rfl, Nat.le_of_ble_eq_true rfl⟩ ⟨Nat.zero_le _, Nat.zero_le _⟩ (Nat.le_of_ble_eq_true rfl) dX2_floats_18 (fun H locs hP hS => ?_)
    refine lv_icmp_gt (tgt := 28) C0.1 C0.2.1 dX2_floats_21 (by decide) (fun c_21 => ?_) (fun c_21 => ?_)
    · refine lv_iconst (v := 0) C0.1 C0.2.1 dX2_floats_28 (by decide) ?_
      exact retZ C0 hr hlk hP hS rfl ⟨(bI_f (by simp only [Bool.eq_false_iff, ne_eq, Bool.and_eq_true, Bool.or_eq_true, decide_eq_true_eq, Int32.le_iff_toInt_le, Int32.lt_iff_toInt_lt, ← Int32.toInt_inj, Int32.reduceToInt] at c_9 c_21 ⊢; omega)).symm, rfl, rfl⟩ dX2_floats_29
    · refine lv_iconst (v := 1) C0.1 C0.2.1 dX2_floats_24 (by decide) ?_
      refine lv_goto (tgt := 29) C0.1 C0.2.1 dX2_floats_25 (by decide) ?_
      exact retZ C0 hr hlk hP hS rfl ⟨(bI_t (by simp only [Bool.eq_false_iff, ne_eq, Bool.and_eq_true, Bool.or_eq_true, decide_eq_true_eq, Int32.le_iff_toInt_le, Int32.lt_iff_toInt_lt, ← Int32.toInt_inj, Int32.reduceToInt] at c_9 c_21 ⊢; omega)).symm, rfl, rfl⟩ dX2_floats_29
theorem k_X2_floats {n : List Nat} (hd : Hd n a I) (hsub : ∀ k ∈ nT, k ∈ n) {q : Int32} {x : Int32} {v : Int32} (hv : (bI (decide (rg (S 6) 6 q ≤ x) && decide (x ≤ rg (S 7) 6 q))) = v) (C0 : CallFix p m c cc nL s args GW own) (hK : KK D cA s) (hP : WP D cA a S X I H) (hS : va_S (AI a I) H0 H locs) (hls : ls.size = nL) {idx : Nat} (hlink : Cond.methodLink own idx yX2_floats ∈ GW) (hR : 2 ≤ R.frames ∧ 43 ≤ R.locals) (hcs : cells ≤ R.cells ∧ slots ≤ R.slots) (hrest : (rest.map fun v => v.category).sum ≤ 8) (hdg : decode cc pc = .ok (.invokevirtual idx, 3)) (kk : ∀ (H1 : Heap) (locs1 : List Loc), WP D cA a S X I H1 → va_S (AI a I) H0 H1 locs1 → W p l e R s m args below meth c H1 locs1 cells slots Q (F0 m (pc + 3) ls (.int v :: rest))) : W p l e R s m args below meth c H locs cells slots Q (F0 m pc ls (.int x :: .int q :: .ref (a 82) :: rest)) := by
  subst hv
  exact goI (rV (n := 2) (c_X2_floats l D cA a S X I (hd.sub hsub) q x ) C0 hlink im_X2_floats se_X2_floats in_X2 co_X2_floats ⟨rfl, by decide⟩ hR hK hP (hd.1 _ (hsub _ (by decide))) rfl rfl rfl hls hrest rfl hdg hcs) hS (fun r S1 X1 H1 locs1 hp hP1 hS1 => by obtain ⟨rfl, rfl, rfl⟩ := hp; exact kk H1 locs1 hP1 hS1)
set_option maxHeartbeats 4000000 in
set_option maxRecDepth 100000 in
theorem c_X2_goesFrom (l : Launch) (D : va_G) (cA : ClassId) (a : Adr) (S X : Mem) (I : Nat → Prop) (hd : Hd nCH a I) (q : Int32) (x : Int32) : MI l yX2_goesFrom cX2_goesFrom 3 (some .boolean) 1 21 D cA a S X I [.ref (a 82), .int q, .int x] (fun r S1 X1 => r = (bI (decide (rg (S 4) 6 q = x) || decide (rg (S 5) 6 q = x))) ∧ S1 = S ∧ X1 = X) := by
  refine mGo (by decide) (Nat.le_of_ble_eq_true rfl) ?_
  intro p e s m args below meth c ls C0 hr hlk hK hP hS hl hargs
  obtain ⟨H, hHe⟩ : ∃ H, H = s.heap := ⟨_, rfl⟩
  obtain ⟨locs, hlo⟩ : ∃ L : List Loc, L = [] := ⟨_, rfl⟩
  have hP : WP D cA a S X I H := hHe ▸ hP
  have hS : va_S (AI a I) s.heap H locs := by rw [hHe, hlo]; exact hS
  rw [← hHe, ← hlo]
  refine lv_aload_n C0.1 C0.2.1 dX2_goesFrom_0 rfl (lv_at hl 0 rfl) ?_
  refine g82_home C0 hK hP (hd.1 _ (by decide)) fl_X2_14 dX2_goesFrom_1 ?_
  refine lv_iload_n C0.1 C0.2.1 dX2_goesFrom_4 rfl (lv_at hl 1 rfl) ?_
  refine k_X5_get (v := rg (S 4) 6 q) 4 (by decide) hd (by decide) (by decide) rfl C0 hK hP hS hl.1 ml_X2_43 ⟨Nat.le_of_ble_eq_true rfl, Nat.le_of_ble_eq_true rfl⟩ ⟨Nat.zero_le _, Nat.zero_le _⟩ (Nat.le_of_ble_eq_true rfl) dX2_goesFrom_5 (fun H locs hP hS => ?_)
  refine lv_iload_n C0.1 C0.2.1 dX2_goesFrom_8 rfl (lv_at hl 2 rfl) ?_
  refine lv_icmp_eq (tgt := 24) C0.1 C0.2.1 dX2_goesFrom_9 (by decide) (fun c_9 => ?_) (fun c_9 => ?_)
  · refine lv_iconst (v := 1) C0.1 C0.2.1 dX2_goesFrom_24 (by decide) ?_
    refine lv_goto (tgt := 29) C0.1 C0.2.1 dX2_goesFrom_25 (by decide) ?_
    exact retZ C0 hr hlk hP hS rfl ⟨(bI_t (by simp only [Bool.eq_false_iff, ne_eq, Bool.and_eq_true, Bool.or_eq_true, decide_eq_true_eq, Int32.le_iff_toInt_le, Int32.lt_iff_toInt_lt, ← Int32.toInt_inj, Int32.reduceToInt] at c_9 ⊢; omega)).symm, rfl, rfl⟩ dX2_goesFrom_29
  · refine lv_aload_n C0.1 C0.2.1 dX2_goesFrom_12 rfl (lv_at hl 0 rfl) ?_
    refine g82_goal C0 hK hP (hd.1 _ (by decide)) fl_X2_20 dX2_goesFrom_13 ?_
    refine lv_iload_n C0.1 C0.2.1 dX2_goesFrom_16 rfl (lv_at hl 1 rfl) ?_
    refine k_X5_get (v := rg (S 5) 6 q) 5 (by decide) hd (by decide) (by decide) rfl C0 hK hP hS hl.1 ml_X2_43 ⟨Nat.le_of_ble_eq_true rfl, Nat.le_of_ble_eq_true rfl⟩ ⟨Nat.zero_le _, Nat.zero_le _⟩ (Nat.le_of_ble_eq_true rfl) dX2_goesFrom_17 (fun H locs hP hS => ?_)
    refine lv_iload_n C0.1 C0.2.1 dX2_goesFrom_20 rfl (lv_at hl 2 rfl) ?_
    refine lv_icmp_ne (tgt := 28) C0.1 C0.2.1 dX2_goesFrom_21 (by decide) (fun c_21 => ?_) (fun c_21 => ?_)
    · refine lv_iconst (v := 0) C0.1 C0.2.1 dX2_goesFrom_28 (by decide) ?_
      exact retZ C0 hr hlk hP hS rfl ⟨(bI_f (by simp only [Bool.eq_false_iff, ne_eq, Bool.and_eq_true, Bool.or_eq_true, decide_eq_true_eq, Int32.le_iff_toInt_le, Int32.lt_iff_toInt_lt, ← Int32.toInt_inj, Int32.reduceToInt] at c_9 c_21 ⊢; omega)).symm, rfl, rfl⟩ dX2_goesFrom_29
    · refine lv_iconst (v := 1) C0.1 C0.2.1 dX2_goesFrom_24 (by decide) ?_
      refine lv_goto (tgt := 29) C0.1 C0.2.1 dX2_goesFrom_25 (by decide) ?_
      exact retZ C0 hr hlk hP hS rfl ⟨(bI_t (by simp only [Bool.eq_false_iff, ne_eq, Bool.and_eq_true, Bool.or_eq_true, decide_eq_true_eq, Int32.le_iff_toInt_le, Int32.lt_iff_toInt_lt, ← Int32.toInt_inj, Int32.reduceToInt] at c_9 c_21 ⊢; omega)).symm, rfl, rfl⟩ dX2_goesFrom_29
theorem k_X2_goesFrom {n : List Nat} (hd : Hd n a I) (hsub : ∀ k ∈ nCH, k ∈ n) {q : Int32} {x : Int32} {v : Int32} (hv : (bI (decide (rg (S 4) 6 q = x) || decide (rg (S 5) 6 q = x))) = v) (C0 : CallFix p m c cc nL s args GW own) (hK : KK D cA s) (hP : WP D cA a S X I H) (hS : va_S (AI a I) H0 H locs) (hls : ls.size = nL) {idx : Nat} (hlink : Cond.methodLink own idx yX2_goesFrom ∈ GW) (hR : 2 ≤ R.frames ∧ 43 ≤ R.locals) (hcs : cells ≤ R.cells ∧ slots ≤ R.slots) (hrest : (rest.map fun v => v.category).sum ≤ 8) (hdg : decode cc pc = .ok (.invokevirtual idx, 3)) (kk : ∀ (H1 : Heap) (locs1 : List Loc), WP D cA a S X I H1 → va_S (AI a I) H0 H1 locs1 → W p l e R s m args below meth c H1 locs1 cells slots Q (F0 m (pc + 3) ls (.int v :: rest))) : W p l e R s m args below meth c H locs cells slots Q (F0 m pc ls (.int x :: .int q :: .ref (a 82) :: rest)) := by
  subst hv
  exact goI (rV (n := 2) (c_X2_goesFrom l D cA a S X I (hd.sub hsub) q x ) C0 hlink im_X2_goesFrom se_X2_goesFrom in_X2 co_X2_goesFrom ⟨rfl, by decide⟩ hR hK hP (hd.1 _ (hsub _ (by decide))) rfl rfl rfl hls hrest rfl hdg hcs) hS (fun r S1 X1 H1 locs1 hp hP1 hS1 => by obtain ⟨rfl, rfl, rfl⟩ := hp; exact kk H1 locs1 hP1 hS1)
set_option maxHeartbeats 4000000 in
set_option maxRecDepth 100000 in
theorem c_X2_otherEnd (l : Launch) (D : va_G) (cA : ClassId) (a : Adr) (S X : Mem) (I : Nat → Prop) (hd : Hd nCH a I) (q : Int32) (x : Int32) : MI l yX2_otherEnd cX2_otherEnd 3 (some .int) 1 21 D cA a S X I [.ref (a 82), .int q, .int x] (fun r S1 X1 => r = (if rg (S 4) 6 q = x then rg (S 5) 6 q else rg (S 4) 6 q) ∧ S1 = S ∧ X1 = X) := by
  refine mGo (by decide) (Nat.le_of_ble_eq_true rfl) ?_
  intro p e s m args below meth c ls C0 hr hlk hK hP hS hl hargs
  obtain ⟨H, hHe⟩ : ∃ H, H = s.heap := ⟨_, rfl⟩
  obtain ⟨locs, hlo⟩ : ∃ L : List Loc, L = [] := ⟨_, rfl⟩
  have hP : WP D cA a S X I H := hHe ▸ hP
  have hS : va_S (AI a I) s.heap H locs := by rw [hHe, hlo]; exact hS
  rw [← hHe, ← hlo]
  refine lv_aload_n C0.1 C0.2.1 dX2_otherEnd_0 rfl (lv_at hl 0 rfl) ?_
  refine g82_home C0 hK hP (hd.1 _ (by decide)) fl_X2_14 dX2_otherEnd_1 ?_
  refine lv_iload_n C0.1 C0.2.1 dX2_otherEnd_4 rfl (lv_at hl 1 rfl) ?_
  refine k_X5_get (v := rg (S 4) 6 q) 4 (by decide) hd (by decide) (by decide) rfl C0 hK hP hS hl.1 ml_X2_43 ⟨Nat.le_of_ble_eq_true rfl, Nat.le_of_ble_eq_true rfl⟩ ⟨Nat.zero_le _, Nat.zero_le _⟩ (Nat.le_of_ble_eq_true rfl) dX2_otherEnd_5 (fun H locs hP hS => ?_)
  refine lv_iload_n C0.1 C0.2.1 dX2_otherEnd_8 rfl (lv_at hl 2 rfl) ?_
  refine lv_icmp_ne (tgt := 23) C0.1 C0.2.1 dX2_otherEnd_9 (by decide) (fun c_9 => ?_) (fun c_9 => ?_)
  · refine lv_aload_n C0.1 C0.2.1 dX2_otherEnd_23 rfl (lv_at hl 0 rfl) ?_
    refine g82_home C0 hK hP (hd.1 _ (by decide)) fl_X2_14 dX2_otherEnd_24 ?_
    refine lv_iload_n C0.1 C0.2.1 dX2_otherEnd_27 rfl (lv_at hl 1 rfl) ?_
    refine k_X5_get (v := rg (S 4) 6 q) 4 (by decide) hd (by decide) (by decide) rfl C0 hK hP hS hl.1 ml_X2_43 ⟨Nat.le_of_ble_eq_true rfl, Nat.le_of_ble_eq_true rfl⟩ ⟨Nat.zero_le _, Nat.zero_le _⟩ (Nat.le_of_ble_eq_true rfl) dX2_otherEnd_28 (fun H locs hP hS => ?_)
    exact retI C0 hr hlk hP hS ⟨by simp_all only [if_true, if_false], rfl, rfl⟩ dX2_otherEnd_31
  · refine lv_aload_n C0.1 C0.2.1 dX2_otherEnd_12 rfl (lv_at hl 0 rfl) ?_
    refine g82_goal C0 hK hP (hd.1 _ (by decide)) fl_X2_20 dX2_otherEnd_13 ?_
    refine lv_iload_n C0.1 C0.2.1 dX2_otherEnd_16 rfl (lv_at hl 1 rfl) ?_
    refine k_X5_get (v := rg (S 5) 6 q) 5 (by decide) hd (by decide) (by decide) rfl C0 hK hP hS hl.1 ml_X2_43 ⟨Nat.le_of_ble_eq_true rfl, Nat.le_of_ble_eq_true rfl⟩ ⟨Nat.zero_le _, Nat.zero_le _⟩ (Nat.le_of_ble_eq_true rfl) dX2_otherEnd_17 (fun H locs hP hS => ?_)
    refine lv_goto (tgt := 31) C0.1 C0.2.1 dX2_otherEnd_20 (by decide) ?_
    exact retI C0 hr hlk hP hS ⟨by simp_all only [if_true, if_false], rfl, rfl⟩ dX2_otherEnd_31
theorem k_X2_otherEnd {n : List Nat} (hd : Hd n a I) (hsub : ∀ k ∈ nCH, k ∈ n) {q : Int32} {x : Int32} {v : Int32} (hv : (if rg (S 4) 6 q = x then rg (S 5) 6 q else rg (S 4) 6 q) = v) (C0 : CallFix p m c cc nL s args GW own) (hK : KK D cA s) (hP : WP D cA a S X I H) (hS : va_S (AI a I) H0 H locs) (hls : ls.size = nL) {idx : Nat} (hlink : Cond.methodLink own idx yX2_otherEnd ∈ GW) (hR : 2 ≤ R.frames ∧ 43 ≤ R.locals) (hcs : cells ≤ R.cells ∧ slots ≤ R.slots) (hrest : (rest.map fun v => v.category).sum ≤ 8) (hdg : decode cc pc = .ok (.invokevirtual idx, 3)) (kk : ∀ (H1 : Heap) (locs1 : List Loc), WP D cA a S X I H1 → va_S (AI a I) H0 H1 locs1 → W p l e R s m args below meth c H1 locs1 cells slots Q (F0 m (pc + 3) ls (.int v :: rest))) : W p l e R s m args below meth c H locs cells slots Q (F0 m pc ls (.int x :: .int q :: .ref (a 82) :: rest)) := by
  subst hv
  exact goI (rV (n := 2) (c_X2_otherEnd l D cA a S X I (hd.sub hsub) q x ) C0 hlink im_X2_otherEnd se_X2_otherEnd in_X2 co_X2_otherEnd ⟨rfl, by decide⟩ hR hK hP (hd.1 _ (hsub _ (by decide))) rfl rfl rfl hls hrest rfl hdg hcs) hS (fun r S1 X1 H1 locs1 hp hP1 hS1 => by obtain ⟨rfl, rfl, rfl⟩ := hp; exact kk H1 locs1 hP1 hS1)
set_option maxHeartbeats 4000000 in
set_option maxRecDepth 100000 in
theorem c_X2_puntsFrom (l : Launch) (D : va_G) (cA : ClassId) (a : Adr) (S X : Mem) (I : Nat → Prop) (hd : Hd nT a I) (x : Int32) {P : Nat} (hnP : S 82 0 = nI P) (hP6 : P ≤ 6) : MI l yX2_puntsFrom cX2_puntsFrom 2 (some .int) 1 24 D cA a S X I [.ref (a 82), .int x] (fun r S1 X1 => r = (nI (cnt (fun j => decide ((S 4) j = x)) P) + nI (cnt (fun j => decide ((S 5) j = x)) P)) ∧ S1 = S ∧ X1 = X) := by
  refine mGo (by decide) (Nat.le_of_ble_eq_true rfl) ?_
  intro p e s m args below meth c ls C0 hr hlk hK hP hS hl hargs
  obtain ⟨H, hHe⟩ : ∃ H, H = s.heap := ⟨_, rfl⟩
  obtain ⟨locs, hlo⟩ : ∃ L : List Loc, L = [] := ⟨_, rfl⟩
  have hP : WP D cA a S X I H := hHe ▸ hP
  have hS : va_S (AI a I) s.heap H locs := by rw [hHe, hlo]; exact hS
  rw [← hHe, ← hlo]
  refine lv_aload_n C0.1 C0.2.1 dX2_puntsFrom_0 rfl (lv_at hl 0 rfl) ?_
  refine g82_home C0 hK hP (hd.1 _ (by decide)) fl_X2_14 dX2_puntsFrom_1 ?_
  refine lv_iload_n C0.1 C0.2.1 dX2_puntsFrom_4 rfl (lv_at hl 1 rfl) ?_
  refine lv_aload_n C0.1 C0.2.1 dX2_puntsFrom_5 rfl (lv_at hl 0 rfl) ?_
  refine g82_number (v := nI P) C0 hK hP (hd.1 _ (by decide)) fl_X2_35 hnP dX2_puntsFrom_6 ?_
  refine k_X5_howMany (v := nI (cnt (fun j => decide ((S 4) j = x)) P)) 4 (by decide) hd (by decide) (by decide) (show P ≤ 6 by omega) rfl C0 hK hP hS hl.1 ml_X2_47 ⟨Nat.le_of_ble_eq_true rfl, Nat.le_of_ble_eq_true rfl⟩ ⟨Nat.zero_le _, Nat.zero_le _⟩ (Nat.le_of_ble_eq_true rfl) dX2_puntsFrom_9 (fun H locs hP hS => ?_)
  refine lv_aload_n C0.1 C0.2.1 dX2_puntsFrom_12 rfl (lv_at hl 0 rfl) ?_
  refine g82_goal C0 hK hP (hd.1 _ (by decide)) fl_X2_20 dX2_puntsFrom_13 ?_
  refine lv_iload_n C0.1 C0.2.1 dX2_puntsFrom_16 rfl (lv_at hl 1 rfl) ?_
  refine lv_aload_n C0.1 C0.2.1 dX2_puntsFrom_17 rfl (lv_at hl 0 rfl) ?_
  refine g82_number (v := nI P) C0 hK hP (hd.1 _ (by decide)) fl_X2_35 hnP dX2_puntsFrom_18 ?_
  refine k_X5_howMany (v := nI (cnt (fun j => decide ((S 5) j = x)) P)) 5 (by decide) hd (by decide) (by decide) (show P ≤ 6 by omega) rfl C0 hK hP hS hl.1 ml_X2_47 ⟨Nat.le_of_ble_eq_true rfl, Nat.le_of_ble_eq_true rfl⟩ ⟨Nat.zero_le _, Nat.zero_le _⟩ (Nat.le_of_ble_eq_true rfl) dX2_puntsFrom_21 (fun H locs hP hS => ?_)
  refine lv_iadd C0.1 C0.2.1 dX2_puntsFrom_24 ?_
  exact retI C0 hr hlk hP hS ⟨rfl, rfl, rfl⟩ dX2_puntsFrom_25
theorem k_X2_puntsFrom {n : List Nat} (hd : Hd n a I) (hsub : ∀ k ∈ nT, k ∈ n) {x : Int32} {P : Nat} (hnP : S 82 0 = nI P) (hP6 : P ≤ 6) {v : Int32} (hv : (nI (cnt (fun j => decide ((S 4) j = x)) P) + nI (cnt (fun j => decide ((S 5) j = x)) P)) = v) (C0 : CallFix p m c cc nL s args GW own) (hK : KK D cA s) (hP : WP D cA a S X I H) (hS : va_S (AI a I) H0 H locs) (hls : ls.size = nL) {idx : Nat} (hlink : Cond.methodLink own idx yX2_puntsFrom ∈ GW) (hR : 2 ≤ R.frames ∧ 45 ≤ R.locals) (hcs : cells ≤ R.cells ∧ slots ≤ R.slots) (hrest : (rest.map fun v => v.category).sum ≤ 8) (hdg : decode cc pc = .ok (.invokevirtual idx, 3)) (kk : ∀ (H1 : Heap) (locs1 : List Loc), WP D cA a S X I H1 → va_S (AI a I) H0 H1 locs1 → W p l e R s m args below meth c H1 locs1 cells slots Q (F0 m (pc + 3) ls (.int v :: rest))) : W p l e R s m args below meth c H locs cells slots Q (F0 m pc ls (.int x :: .ref (a 82) :: rest)) := by
  subst hv
  exact goI (rV (n := 1) (c_X2_puntsFrom l D cA a S X I (hd.sub hsub) x P hnP hP6) C0 hlink im_X2_puntsFrom se_X2_puntsFrom in_X2 co_X2_puntsFrom ⟨rfl, by decide⟩ hR hK hP (hd.1 _ (hsub _ (by decide))) rfl rfl rfl hls hrest rfl hdg hcs) hS (fun r S1 X1 H1 locs1 hp hP1 hS1 => by obtain ⟨rfl, rfl, rfl⟩ := hp; exact kk H1 locs1 hP1 hS1)
end CLS
end
