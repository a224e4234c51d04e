section
-- ===== PART A: goes FIRST, ahead of the names: the tables' words, and 'selects' of the private methods out of them =====
/-- a private method of a class that the tables say can be made, by its rows of tables_1 -/
def lw_okq (q : MethodName × Nat) : Prop := (q.1.cls ≠ "java/lang/invoke/MethodHandle" ∧ q.1.cls ≠ "java/lang/invoke/VarHandle") ∧ Cond.instantiable q.1.cls q.2 ∈ tables_1 ∧ Cond.privateMethod q.1 ∈ tables_1 ∧ Cond.instanceMethod q.1 ∈ tables_1
theorem lw_p0 : lw_okq (⟨"TheUsual", "found", "(I)I"⟩, 12) := ⟨⟨by decide +kernel, by decide +kernel⟩, List.mem_of_getElem? (i := 12) (by decide +kernel), List.mem_of_getElem? (i := 206) (by decide +kernel), List.mem_of_getElem? (i := 207) (by decide +kernel)⟩
theorem lw_p1 : lw_okq (⟨"TheUsual", "makeRow", "(II)V"⟩, 12) := ⟨⟨by decide +kernel, by decide +kernel⟩, List.mem_of_getElem? (i := 12) (by decide +kernel), List.mem_of_getElem? (i := 210) (by decide +kernel), List.mem_of_getElem? (i := 211) (by decide +kernel)⟩
theorem lw_p2 : lw_okq (⟨"TheUsual", "placeRefusal", "(II)I"⟩, 12) := ⟨⟨by decide +kernel, by decide +kernel⟩, List.mem_of_getElem? (i := 12) (by decide +kernel), List.mem_of_getElem? (i := 218) (by decide +kernel), List.mem_of_getElem? (i := 219) (by decide +kernel)⟩
theorem lw_p3 : lw_okq (⟨"TheUsual", "rowRefusal", "(I)I"⟩, 12) := ⟨⟨by decide +kernel, by decide +kernel⟩, List.mem_of_getElem? (i := 12) (by decide +kernel), List.mem_of_getElem? (i := 222) (by decide +kernel), List.mem_of_getElem? (i := 223) (by decide +kernel)⟩
theorem lw_p4 : lw_okq (⟨"TheUsual", "textRefusal", "(I)I"⟩, 12) := ⟨⟨by decide +kernel, by decide +kernel⟩, List.mem_of_getElem? (i := 12) (by decide +kernel), List.mem_of_getElem? (i := 256) (by decide +kernel), List.mem_of_getElem? (i := 257) (by decide +kernel)⟩
theorem lw_p5 : lw_okq (⟨"TheUsual$Shop", "happen", "(II)I"⟩, 5) := ⟨⟨by decide +kernel, by decide +kernel⟩, List.mem_of_getElem? (i := 24) (by decide +kernel), List.mem_of_getElem? (i := 302) (by decide +kernel), List.mem_of_getElem? (i := 303) (by decide +kernel)⟩
theorem lw_p6 : lw_okq (⟨"TheUsual", "isRegular", "(I)Z"⟩, 12) := ⟨⟨by decide +kernel, by decide +kernel⟩, List.mem_of_getElem? (i := 12) (by decide +kernel), List.mem_of_getElem? (i := 341) (by decide +kernel), List.mem_of_getElem? (i := 342) (by decide +kernel)⟩
theorem lw_p7 : lw_okq (⟨"TheUsual", "areTwo", "(II)Z"⟩, 12) := ⟨⟨by decide +kernel, by decide +kernel⟩, List.mem_of_getElem? (i := 12) (by decide +kernel), List.mem_of_getElem? (i := 455) (by decide +kernel), List.mem_of_getElem? (i := 456) (by decide +kernel)⟩
theorem lw_p8 : lw_okq (⟨"TheUsual", "tell", "(JJ)V"⟩, 12) := ⟨⟨by decide +kernel, by decide +kernel⟩, List.mem_of_getElem? (i := 12) (by decide +kernel), List.mem_of_getElem? (i := 482) (by decide +kernel), List.mem_of_getElem? (i := 483) (by decide +kernel)⟩
theorem lw_p9 : lw_okq (⟨"TheUsual", "queueRefusal", "(I)I"⟩, 12) := ⟨⟨by decide +kernel, by decide +kernel⟩, List.mem_of_getElem? (i := 12) (by decide +kernel), List.mem_of_getElem? (i := 514) (by decide +kernel), List.mem_of_getElem? (i := 515) (by decide +kernel)⟩
theorem lw_p10 : lw_okq (⟨"TheUsual", "isQueue", "([II)Z"⟩, 12) := ⟨⟨by decide +kernel, by decide +kernel⟩, List.mem_of_getElem? (i := 12) (by decide +kernel), List.mem_of_getElem? (i := 518) (by decide +kernel), List.mem_of_getElem? (i := 519) (by decide +kernel)⟩
theorem lw_p11 : lw_okq (⟨"TheUsual", "lineUp", "(IIZ)I"⟩, 12) := ⟨⟨by decide +kernel, by decide +kernel⟩, List.mem_of_getElem? (i := 12) (by decide +kernel), List.mem_of_getElem? (i := 542) (by decide +kernel), List.mem_of_getElem? (i := 543) (by decide +kernel)⟩
theorem lw_p12 : lw_okq (⟨"TheUsual", "bookRefusal", "(I)I"⟩, 12) := ⟨⟨by decide +kernel, by decide +kernel⟩, List.mem_of_getElem? (i := 12) (by decide +kernel), List.mem_of_getElem? (i := 560) (by decide +kernel), List.mem_of_getElem? (i := 561) (by decide +kernel)⟩
theorem lw_p13 : lw_okq (⟨"TheUsual", "liesOf", "(II)I"⟩, 12) := ⟨⟨by decide +kernel, by decide +kernel⟩, List.mem_of_getElem? (i := 12) (by decide +kernel), List.mem_of_getElem? (i := 567) (by decide +kernel), List.mem_of_getElem? (i := 568) (by decide +kernel)⟩
theorem lw_p14 : lw_okq (⟨"TheUsual", "shopsKept", "()I"⟩, 12) := ⟨⟨by decide +kernel, by decide +kernel⟩, List.mem_of_getElem? (i := 12) (by decide +kernel), List.mem_of_getElem? (i := 641) (by decide +kernel), List.mem_of_getElem? (i := 642) (by decide +kernel)⟩
theorem lw_p15 : lw_okq (⟨"TheUsualModel", "meets", "(I)I"⟩, 33) := ⟨⟨by decide +kernel, by decide +kernel⟩, List.mem_of_getElem? (i := 660) (by decide +kernel), List.mem_of_getElem? (i := 797) (by decide +kernel), List.mem_of_getElem? (i := 798) (by decide +kernel)⟩
def lw_privs_1 : List (MethodName × Nat) := [(⟨"TheUsual", "found", "(I)I"⟩, 12), (⟨"TheUsual", "makeRow", "(II)V"⟩, 12), (⟨"TheUsual", "placeRefusal", "(II)I"⟩, 12), (⟨"TheUsual", "rowRefusal", "(I)I"⟩, 12), (⟨"TheUsual", "textRefusal", "(I)I"⟩, 12), (⟨"TheUsual$Shop", "happen", "(II)I"⟩, 5), (⟨"TheUsual", "isRegular", "(I)Z"⟩, 12), (⟨"TheUsual", "areTwo", "(II)Z"⟩, 12), (⟨"TheUsual", "tell", "(JJ)V"⟩, 12), (⟨"TheUsual", "queueRefusal", "(I)I"⟩, 12), (⟨"TheUsual", "isQueue", "([II)Z"⟩, 12), (⟨"TheUsual", "lineUp", "(IIZ)I"⟩, 12), (⟨"TheUsual", "bookRefusal", "(I)I"⟩, 12), (⟨"TheUsual", "liesOf", "(II)I"⟩, 12), (⟨"TheUsual", "shopsKept", "()I"⟩, 12), (⟨"TheUsualModel", "meets", "(I)I"⟩, 33)]
theorem lw_r1 : ∀ q ∈ lw_privs_1, lw_okq q := List.forall_mem_cons.mpr ⟨lw_p0, List.forall_mem_cons.mpr ⟨lw_p1, List.forall_mem_cons.mpr ⟨lw_p2, List.forall_mem_cons.mpr ⟨lw_p3, List.forall_mem_cons.mpr ⟨lw_p4, List.forall_mem_cons.mpr ⟨lw_p5, List.forall_mem_cons.mpr ⟨lw_p6, List.forall_mem_cons.mpr ⟨lw_p7, List.forall_mem_cons.mpr ⟨lw_p8, List.forall_mem_cons.mpr ⟨lw_p9, List.forall_mem_cons.mpr ⟨lw_p10, List.forall_mem_cons.mpr ⟨lw_p11, List.forall_mem_cons.mpr ⟨lw_p12, List.forall_mem_cons.mpr ⟨lw_p13, List.forall_mem_cons.mpr ⟨lw_p14, List.forall_mem_cons.mpr ⟨lw_p15, fun _ h => absurd h List.not_mem_nil⟩⟩⟩⟩⟩⟩⟩⟩⟩⟩⟩⟩⟩⟩⟩⟩
theorem lw_p16 : lw_okq (⟨"TheUsualModel", "rowAt", "(II)I"⟩, 33) := ⟨⟨by decide +kernel, by decide +kernel⟩, List.mem_of_getElem? (i := 660) (by decide +kernel), List.mem_of_getElem? (i := 805) (by decide +kernel), List.mem_of_getElem? (i := 806) (by decide +kernel)⟩
theorem lw_p17 : lw_okq (⟨"TheUsualModel", "tells", "(II)I"⟩, 33) := ⟨⟨by decide +kernel, by decide +kernel⟩, List.mem_of_getElem? (i := 660) (by decide +kernel), List.mem_of_getElem? (i := 809) (by decide +kernel), List.mem_of_getElem? (i := 810) (by decide +kernel)⟩
theorem lw_p18 : lw_okq (⟨"TheUsualModel", "faultOf", "(I)I"⟩, 33) := ⟨⟨by decide +kernel, by decide +kernel⟩, List.mem_of_getElem? (i := 660) (by decide +kernel), List.mem_of_getElem? (i := 844) (by decide +kernel), List.mem_of_getElem? (i := 845) (by decide +kernel)⟩
theorem lw_p19 : lw_okq (⟨"TheUsualModel", "byteAt", "(II)I"⟩, 33) := ⟨⟨by decide +kernel, by decide +kernel⟩, List.mem_of_getElem? (i := 660) (by decide +kernel), List.mem_of_getElem? (i := 848) (by decide +kernel), List.mem_of_getElem? (i := 849) (by decide +kernel)⟩
theorem lw_p20 : lw_okq (⟨"TheUsualModel", "readsOne", "(I)Z"⟩, 33) := ⟨⟨by decide +kernel, by decide +kernel⟩, List.mem_of_getElem? (i := 660) (by decide +kernel), List.mem_of_getElem? (i := 852) (by decide +kernel), List.mem_of_getElem? (i := 853) (by decide +kernel)⟩
theorem lw_p21 : lw_okq (⟨"TheUsualModel", "isRegular", "(I)Z"⟩, 33) := ⟨⟨by decide +kernel, by decide +kernel⟩, List.mem_of_getElem? (i := 660) (by decide +kernel), List.mem_of_getElem? (i := 873) (by decide +kernel), List.mem_of_getElem? (i := 874) (by decide +kernel)⟩
theorem lw_p22 : lw_okq (⟨"TheUsualModel", "regularTells", "(II)I"⟩, 33) := ⟨⟨by decide +kernel, by decide +kernel⟩, List.mem_of_getElem? (i := 660) (by decide +kernel), List.mem_of_getElem? (i := 877) (by decide +kernel), List.mem_of_getElem? (i := 878) (by decide +kernel)⟩
theorem lw_p23 : lw_okq (⟨"TheUsualModel", "wantsNow", "(I)I"⟩, 33) := ⟨⟨by decide +kernel, by decide +kernel⟩, List.mem_of_getElem? (i := 660) (by decide +kernel), List.mem_of_getElem? (i := 881) (by decide +kernel), List.mem_of_getElem? (i := 882) (by decide +kernel)⟩
theorem lw_p24 : lw_okq (⟨"TheUsualModel", "wantsOn", "(II)I"⟩, 33) := ⟨⟨by decide +kernel, by decide +kernel⟩, List.mem_of_getElem? (i := 660) (by decide +kernel), List.mem_of_getElem? (i := 885) (by decide +kernel), List.mem_of_getElem? (i := 886) (by decide +kernel)⟩
theorem lw_p25 : lw_okq (⟨"TheUsualModel", "soursBy", "(I)I"⟩, 33) := ⟨⟨by decide +kernel, by decide +kernel⟩, List.mem_of_getElem? (i := 660) (by decide +kernel), List.mem_of_getElem? (i := 896) (by decide +kernel), List.mem_of_getElem? (i := 897) (by decide +kernel)⟩
theorem lw_p26 : lw_okq (⟨"TheUsualModel", "isSour", "(II)Z"⟩, 33) := ⟨⟨by decide +kernel, by decide +kernel⟩, List.mem_of_getElem? (i := 660) (by decide +kernel), List.mem_of_getElem? (i := 900) (by decide +kernel), List.mem_of_getElem? (i := 901) (by decide +kernel)⟩
theorem lw_p27 : lw_okq (⟨"TheUsualModel", "isSilent", "(I)Z"⟩, 33) := ⟨⟨by decide +kernel, by decide +kernel⟩, List.mem_of_getElem? (i := 660) (by decide +kernel), List.mem_of_getElem? (i := 904) (by decide +kernel), List.mem_of_getElem? (i := 905) (by decide +kernel)⟩
theorem lw_p28 : lw_okq (⟨"TheUsualModel", "changesIn", "(I)I"⟩, 33) := ⟨⟨by decide +kernel, by decide +kernel⟩, List.mem_of_getElem? (i := 660) (by decide +kernel), List.mem_of_getElem? (i := 908) (by decide +kernel), List.mem_of_getElem? (i := 909) (by decide +kernel)⟩
theorem lw_p29 : lw_okq (⟨"TheUsualModel", "askedIn", "(I)I"⟩, 33) := ⟨⟨by decide +kernel, by decide +kernel⟩, List.mem_of_getElem? (i := 660) (by decide +kernel), List.mem_of_getElem? (i := 912) (by decide +kernel), List.mem_of_getElem? (i := 913) (by decide +kernel)⟩
theorem lw_p30 : lw_okq (⟨"TheUsualModel", "isKnown", "(I)Z"⟩, 33) := ⟨⟨by decide +kernel, by decide +kernel⟩, List.mem_of_getElem? (i := 660) (by decide +kernel), List.mem_of_getElem? (i := 916) (by decide +kernel), List.mem_of_getElem? (i := 917) (by decide +kernel)⟩
theorem lw_p31 : lw_okq (⟨"TheUsualModel", "looksLike", "(I)I"⟩, 33) := ⟨⟨by decide +kernel, by decide +kernel⟩, List.mem_of_getElem? (i := 660) (by decide +kernel), List.mem_of_getElem? (i := 920) (by decide +kernel), List.mem_of_getElem? (i := 921) (by decide +kernel)⟩
def lw_privs_2 : List (MethodName × Nat) := [(⟨"TheUsualModel", "rowAt", "(II)I"⟩, 33), (⟨"TheUsualModel", "tells", "(II)I"⟩, 33), (⟨"TheUsualModel", "faultOf", "(I)I"⟩, 33), (⟨"TheUsualModel", "byteAt", "(II)I"⟩, 33), (⟨"TheUsualModel", "readsOne", "(I)Z"⟩, 33), (⟨"TheUsualModel", "isRegular", "(I)Z"⟩, 33), (⟨"TheUsualModel", "regularTells", "(II)I"⟩, 33), (⟨"TheUsualModel", "wantsNow", "(I)I"⟩, 33), (⟨"TheUsualModel", "wantsOn", "(II)I"⟩, 33), (⟨"TheUsualModel", "soursBy", "(I)I"⟩, 33), (⟨"TheUsualModel", "isSour", "(II)Z"⟩, 33), (⟨"TheUsualModel", "isSilent", "(I)Z"⟩, 33), (⟨"TheUsualModel", "changesIn", "(I)I"⟩, 33), (⟨"TheUsualModel", "askedIn", "(I)I"⟩, 33), (⟨"TheUsualModel", "isKnown", "(I)Z"⟩, 33), (⟨"TheUsualModel", "looksLike", "(I)I"⟩, 33)]
theorem lw_r2 : ∀ q ∈ lw_privs_2, lw_okq q := List.forall_mem_cons.mpr ⟨lw_p16, List.forall_mem_cons.mpr ⟨lw_p17, List.forall_mem_cons.mpr ⟨lw_p18, List.forall_mem_cons.mpr ⟨lw_p19, List.forall_mem_cons.mpr ⟨lw_p20, List.forall_mem_cons.mpr ⟨lw_p21, List.forall_mem_cons.mpr ⟨lw_p22, List.forall_mem_cons.mpr ⟨lw_p23, List.forall_mem_cons.mpr ⟨lw_p24, List.forall_mem_cons.mpr ⟨lw_p25, List.forall_mem_cons.mpr ⟨lw_p26, List.forall_mem_cons.mpr ⟨lw_p27, List.forall_mem_cons.mpr ⟨lw_p28, List.forall_mem_cons.mpr ⟨lw_p29, List.forall_mem_cons.mpr ⟨lw_p30, List.forall_mem_cons.mpr ⟨lw_p31, fun _ h => absurd h List.not_mem_nil⟩⟩⟩⟩⟩⟩⟩⟩⟩⟩⟩⟩⟩⟩⟩⟩
theorem lw_p32 : lw_okq (⟨"TheUsualModel", "othersOf", "(I)I"⟩, 33) := ⟨⟨by decide +kernel, by decide +kernel⟩, List.mem_of_getElem? (i := 660) (by decide +kernel), List.mem_of_getElem? (i := 924) (by decide +kernel), List.mem_of_getElem? (i := 925) (by decide +kernel)⟩
theorem lw_p33 : lw_okq (⟨"TheUsualModel", "takesIn", "(II)I"⟩, 33) := ⟨⟨by decide +kernel, by decide +kernel⟩, List.mem_of_getElem? (i := 660) (by decide +kernel), List.mem_of_getElem? (i := 942) (by decide +kernel), List.mem_of_getElem? (i := 943) (by decide +kernel)⟩
theorem lw_p34 : lw_okq (⟨"TheUsualModel", "serves", "(II)I"⟩, 33) := ⟨⟨by decide +kernel, by decide +kernel⟩, List.mem_of_getElem? (i := 660) (by decide +kernel), List.mem_of_getElem? (i := 946) (by decide +kernel), List.mem_of_getElem? (i := 947) (by decide +kernel)⟩
theorem lw_p35 : lw_okq (⟨"TheUsualModel", "remember", "()V"⟩, 33) := ⟨⟨by decide +kernel, by decide +kernel⟩, List.mem_of_getElem? (i := 660) (by decide +kernel), List.mem_of_getElem? (i := 950) (by decide +kernel), List.mem_of_getElem? (i := 951) (by decide +kernel)⟩
theorem lw_p36 : lw_okq (⟨"TheUsualModel", "looksSo", "(II)I"⟩, 33) := ⟨⟨by decide +kernel, by decide +kernel⟩, List.mem_of_getElem? (i := 660) (by decide +kernel), List.mem_of_getElem? (i := 977) (by decide +kernel), List.mem_of_getElem? (i := 978) (by decide +kernel)⟩
theorem lw_p37 : lw_okq (⟨"TheUsualModel", "wanting", "(II)I"⟩, 33) := ⟨⟨by decide +kernel, by decide +kernel⟩, List.mem_of_getElem? (i := 660) (by decide +kernel), List.mem_of_getElem? (i := 993) (by decide +kernel), List.mem_of_getElem? (i := 994) (by decide +kernel)⟩
theorem lw_p38 : lw_okq (⟨"TheUsualModel", "comesOf", "(I)I"⟩, 33) := ⟨⟨by decide +kernel, by decide +kernel⟩, List.mem_of_getElem? (i := 660) (by decide +kernel), List.mem_of_getElem? (i := 1000) (by decide +kernel), List.mem_of_getElem? (i := 1001) (by decide +kernel)⟩
theorem lw_p39 : lw_okq (⟨"TheUsualModel", "fraction", "(II)I"⟩, 33) := ⟨⟨by decide +kernel, by decide +kernel⟩, List.mem_of_getElem? (i := 660) (by decide +kernel), List.mem_of_getElem? (i := 1004) (by decide +kernel), List.mem_of_getElem? (i := 1005) (by decide +kernel)⟩
theorem lw_p40 : lw_okq (⟨"TheUsualModel", "takesOf", "(II)I"⟩, 33) := ⟨⟨by decide +kernel, by decide +kernel⟩, List.mem_of_getElem? (i := 660) (by decide +kernel), List.mem_of_getElem? (i := 1012) (by decide +kernel), List.mem_of_getElem? (i := 1013) (by decide +kernel)⟩
theorem lw_p41 : lw_okq (⟨"TheUsualModel", "quickestOf", "(I)I"⟩, 33) := ⟨⟨by decide +kernel, by decide +kernel⟩, List.mem_of_getElem? (i := 660) (by decide +kernel), List.mem_of_getElem? (i := 1020) (by decide +kernel), List.mem_of_getElem? (i := 1021) (by decide +kernel)⟩
theorem lw_p42 : lw_okq (⟨"TheUsualModel", "soured", "(II)I"⟩, 33) := ⟨⟨by decide +kernel, by decide +kernel⟩, List.mem_of_getElem? (i := 660) (by decide +kernel), List.mem_of_getElem? (i := 1024) (by decide +kernel), List.mem_of_getElem? (i := 1025) (by decide +kernel)⟩
theorem lw_p43 : lw_okq (⟨"TheUsualModel", "needQueue", "(IZ)I"⟩, 33) := ⟨⟨by decide +kernel, by decide +kernel⟩, List.mem_of_getElem? (i := 660) (by decide +kernel), List.mem_of_getElem? (i := 1035) (by decide +kernel), List.mem_of_getElem? (i := 1036) (by decide +kernel)⟩
theorem lw_p44 : lw_okq (⟨"TheUsualModel", "passes", "(II)V"⟩, 33) := ⟨⟨by decide +kernel, by decide +kernel⟩, List.mem_of_getElem? (i := 660) (by decide +kernel), List.mem_of_getElem? (i := 1039) (by decide +kernel), List.mem_of_getElem? (i := 1040) (by decide +kernel)⟩
theorem lw_p45 : lw_okq (⟨"TheUsualModel", "layRow", "(I[II)V"⟩, 33) := ⟨⟨by decide +kernel, by decide +kernel⟩, List.mem_of_getElem? (i := 660) (by decide +kernel), List.mem_of_getElem? (i := 1051) (by decide +kernel), List.mem_of_getElem? (i := 1052) (by decide +kernel)⟩
theorem lw_p46 : lw_okq (⟨"TheUsualModel", "weekOf", "(I)I"⟩, 33) := ⟨⟨by decide +kernel, by decide +kernel⟩, List.mem_of_getElem? (i := 660) (by decide +kernel), List.mem_of_getElem? (i := 1059) (by decide +kernel), List.mem_of_getElem? (i := 1060) (by decide +kernel)⟩
theorem lw_p47 : lw_okq (⟨"TheUsualModel", "needBook", "(I)I"⟩, 33) := ⟨⟨by decide +kernel, by decide +kernel⟩, List.mem_of_getElem? (i := 660) (by decide +kernel), List.mem_of_getElem? (i := 1067) (by decide +kernel), List.mem_of_getElem? (i := 1068) (by decide +kernel)⟩
def lw_privs_3 : List (MethodName × Nat) := [(⟨"TheUsualModel", "othersOf", "(I)I"⟩, 33), (⟨"TheUsualModel", "takesIn", "(II)I"⟩, 33), (⟨"TheUsualModel", "serves", "(II)I"⟩, 33), (⟨"TheUsualModel", "remember", "()V"⟩, 33), (⟨"TheUsualModel", "looksSo", "(II)I"⟩, 33), (⟨"TheUsualModel", "wanting", "(II)I"⟩, 33), (⟨"TheUsualModel", "comesOf", "(I)I"⟩, 33), (⟨"TheUsualModel", "fraction", "(II)I"⟩, 33), (⟨"TheUsualModel", "takesOf", "(II)I"⟩, 33), (⟨"TheUsualModel", "quickestOf", "(I)I"⟩, 33), (⟨"TheUsualModel", "soured", "(II)I"⟩, 33), (⟨"TheUsualModel", "needQueue", "(IZ)I"⟩, 33), (⟨"TheUsualModel", "passes", "(II)V"⟩, 33), (⟨"TheUsualModel", "layRow", "(I[II)V"⟩, 33), (⟨"TheUsualModel", "weekOf", "(I)I"⟩, 33), (⟨"TheUsualModel", "needBook", "(I)I"⟩, 33)]
theorem lw_r3 : ∀ q ∈ lw_privs_3, lw_okq q := List.forall_mem_cons.mpr ⟨lw_p32, List.forall_mem_cons.mpr ⟨lw_p33, List.forall_mem_cons.mpr ⟨lw_p34, List.forall_mem_cons.mpr ⟨lw_p35, List.forall_mem_cons.mpr ⟨lw_p36, List.forall_mem_cons.mpr ⟨lw_p37, List.forall_mem_cons.mpr ⟨lw_p38, List.forall_mem_cons.mpr ⟨lw_p39, List.forall_mem_cons.mpr ⟨lw_p40, List.forall_mem_cons.mpr ⟨lw_p41, List.forall_mem_cons.mpr ⟨lw_p42, List.forall_mem_cons.mpr ⟨lw_p43, List.forall_mem_cons.mpr ⟨lw_p44, List.forall_mem_cons.mpr ⟨lw_p45, List.forall_mem_cons.mpr ⟨lw_p46, List.forall_mem_cons.mpr ⟨lw_p47, fun _ h => absurd h List.not_mem_nil⟩⟩⟩⟩⟩⟩⟩⟩⟩⟩⟩⟩⟩⟩⟩⟩
theorem lw_p48 : lw_okq (⟨"TheUsualModel", "liesBy", "(II)I"⟩, 33) := ⟨⟨by decide +kernel, by decide +kernel⟩, List.mem_of_getElem? (i := 660) (by decide +kernel), List.mem_of_getElem? (i := 1071) (by decide +kernel), List.mem_of_getElem? (i := 1072) (by decide +kernel)⟩
theorem lw_p49 : lw_okq (⟨"TheUsualModel", "liesOf", "(IIII)I"⟩, 33) := ⟨⟨by decide +kernel, by decide +kernel⟩, List.mem_of_getElem? (i := 660) (by decide +kernel), List.mem_of_getElem? (i := 1075) (by decide +kernel), List.mem_of_getElem? (i := 1076) (by decide +kernel)⟩
theorem lw_p50 : lw_okq (⟨"TheUsualModel", "everybody", "()I"⟩, 33) := ⟨⟨by decide +kernel, by decide +kernel⟩, List.mem_of_getElem? (i := 660) (by decide +kernel), List.mem_of_getElem? (i := 1095) (by decide +kernel), List.mem_of_getElem? (i := 1096) (by decide +kernel)⟩
theorem lw_p51 : lw_okq (⟨"TheUsualModel", "counted", "(I)I"⟩, 33) := ⟨⟨by decide +kernel, by decide +kernel⟩, List.mem_of_getElem? (i := 660) (by decide +kernel), List.mem_of_getElem? (i := 1117) (by decide +kernel), List.mem_of_getElem? (i := 1118) (by decide +kernel)⟩
theorem lw_p52 : lw_okq (⟨"TheUsualModel", "mix", "(J)V"⟩, 33) := ⟨⟨by decide +kernel, by decide +kernel⟩, List.mem_of_getElem? (i := 660) (by decide +kernel), List.mem_of_getElem? (i := 1126) (by decide +kernel), List.mem_of_getElem? (i := 1127) (by decide +kernel)⟩
theorem lw_p53 : lw_okq (⟨"TheUsualModel", "mixShop", "()V"⟩, 33) := ⟨⟨by decide +kernel, by decide +kernel⟩, List.mem_of_getElem? (i := 660) (by decide +kernel), List.mem_of_getElem? (i := 1131) (by decide +kernel), List.mem_of_getElem? (i := 1132) (by decide +kernel)⟩
def lw_privs_4 : List (MethodName × Nat) := [(⟨"TheUsualModel", "liesBy", "(II)I"⟩, 33), (⟨"TheUsualModel", "liesOf", "(IIII)I"⟩, 33), (⟨"TheUsualModel", "everybody", "()I"⟩, 33), (⟨"TheUsualModel", "counted", "(I)I"⟩, 33), (⟨"TheUsualModel", "mix", "(J)V"⟩, 33), (⟨"TheUsualModel", "mixShop", "()V"⟩, 33)]
theorem lw_r4 : ∀ q ∈ lw_privs_4, lw_okq q := List.forall_mem_cons.mpr ⟨lw_p48, List.forall_mem_cons.mpr ⟨lw_p49, List.forall_mem_cons.mpr ⟨lw_p50, List.forall_mem_cons.mpr ⟨lw_p51, List.forall_mem_cons.mpr ⟨lw_p52, List.forall_mem_cons.mpr ⟨lw_p53, fun _ h => absurd h List.not_mem_nil⟩⟩⟩⟩⟩⟩
def lw_privs : List (MethodName × Nat) := lw_privs_1 ++ (lw_privs_2 ++ (lw_privs_3 ++ (lw_privs_4)))
def lw_tbl : List Cond := k2_sels lw_privs ++ tables_1
theorem lw_privs_ok : ∀ q ∈ lw_privs, lw_okq q := by
  show ∀ q ∈ lw_privs_1 ++ (lw_privs_2 ++ (lw_privs_3 ++ (lw_privs_4))), lw_okq q
  exact List.forall_mem_append.mpr ⟨lw_r1, List.forall_mem_append.mpr ⟨lw_r2, List.forall_mem_append.mpr ⟨lw_r3, lw_r4⟩⟩⟩
end
section
def RX0 : String := "TheUsual$Kept"
def TX0 : u_T := fun k => match k with
  | 0 => ("TheUsual$Kept", "others", "[I", true)
  | 1 => ("TheUsual$Kept", "turns", "LTheUsual$Turns;", true)
  | _ => ("TheUsual$Kept", "there", "Z", false)
def tyX0 : Nat → FieldType := fun k => match k with
  | 0 => .array .int
  | 1 => .object "TheUsual$Turns"
  | _ => .boolean
abbrev wsX00 : List Cond := u_ws RX0 TX0 3
theorem nmX0 : ∀ a, a < 3 → ∀ b, b < 3 → a ≠ b → (TX0 a).2.1 ≠ (TX0 b).2.1 := by decide +kernel
theorem tyX0_ok : ∀ k, k < 3 → parseFieldDescriptor (TX0 k).2.2.1 = some (tyX0 k) := by decide +kernel
abbrev cX0_init : ByteArray := prog_2_method_1_code
def yX0_init : MethodName := ⟨RX0, "<init>", "()V"⟩
abbrev cX0_takeFrom : ByteArray := prog_2_method_2_code
def yX0_takeFrom : MethodName := ⟨RX0, "takeFrom", "(LTheUsual$Shop;)V"⟩
abbrev cX0_giveTo : ByteArray := prog_2_method_3_code
def yX0_giveTo : MethodName := ⟨RX0, "giveTo", "(LTheUsual$Shop;)V"⟩
def RX1 : String := "TheUsual$Line"
def TX1 : u_T := fun k => match k with
  | 0 => ("TheUsual$Line", "gone", "I", false)
  | 1 => ("TheUsual$Line", "left", "I", false)
  | _ => ("TheUsual$Line", "servedInTime", "I", false)
def tyX1 : Nat → FieldType := fun k => match k with
  | 0 => .int
  | 1 => .int
  | _ => .int
abbrev wsX10 : List Cond := u_ws RX1 TX1 3
theorem nmX1 : ∀ a, a < 3 → ∀ b, b < 3 → a ≠ b → (TX1 a).2.1 ≠ (TX1 b).2.1 := by decide +kernel
theorem tyX1_ok : ∀ k, k < 3 → parseFieldDescriptor (TX1 k).2.2.1 = some (tyX1 k) := by decide +kernel
abbrev cX1_init : ByteArray := prog_3_method_1_code
def yX1_init : MethodName := ⟨RX1, "<init>", "()V"⟩
abbrev cX1_walk : ByteArray := prog_3_method_2_code
def yX1_walk : MethodName := ⟨RX1, "walk", "([LTheUsual$Regular;[III)V"⟩
def RX2 : String := "TheUsual$Regular"
def TX2 : u_T := fun k => match k with
  | 0 => ("TheUsual$Regular", "kind", "I", false)
  | 1 => ("TheUsual$Regular", "hat", "I", false)
  | 2 => ("TheUsual$Regular", "step", "I", false)
  | 3 => ("TheUsual$Regular", "usual", "I", false)
  | 4 => ("TheUsual$Regular", "otherThing", "I", false)
  | 5 => ("TheUsual$Regular", "comes", "I", false)
  | 6 => ("TheUsual$Regular", "servings", "I", false)
  | _ => ("TheUsual$Regular", "sours", "I", false)
def tyX2 : Nat → FieldType := fun k => match k with
  | 0 => .int
  | 1 => .int
  | 2 => .int
  | 3 => .int
  | 4 => .int
  | 5 => .int
  | 6 => .int
  | _ => .int
abbrev wsX20 : List Cond := u_ws RX2 TX2 8
theorem nmX2 : ∀ a, a < 8 → ∀ b, b < 8 → a ≠ b → (TX2 a).2.1 ≠ (TX2 b).2.1 := by decide +kernel
theorem tyX2_ok : ∀ k, k < 8 → parseFieldDescriptor (TX2 k).2.2.1 = some (tyX2 k) := by decide +kernel
abbrev cX2_init : ByteArray := prog_4_method_1_code
def yX2_init : MethodName := ⟨RX2, "<init>", "()V"⟩
abbrev cX2_become : ByteArray := prog_4_method_2_code
def yX2_become : MethodName := ⟨RX2, "become", "([BI)V"⟩
abbrev cX2_isOf : ByteArray := prog_4_method_3_code
def yX2_isOf : MethodName := ⟨RX2, "isOf", "(I)Z"⟩
abbrev cX2_isKnown : ByteArray := prog_4_method_4_code
def yX2_isKnown : MethodName := ⟨RX2, "isKnown", "()Z"⟩
abbrev cX2_looks : ByteArray := prog_4_method_5_code
def yX2_looks : MethodName := ⟨RX2, "looks", "(II)Z"⟩
abbrev cX2_wantOn : ByteArray := prog_4_method_6_code
def yX2_wantOn : MethodName := ⟨RX2, "wantOn", "(I)I"⟩
abbrev cX2_patience : ByteArray := prog_4_method_7_code
def yX2_patience : MethodName := ⟨RX2, "patience", "()I"⟩
abbrev cX2_askingSeconds : ByteArray := prog_4_method_8_code
def yX2_askingSeconds : MethodName := ⟨RX2, "askingSeconds", "()I"⟩
abbrev cX2_wrongSeconds : ByteArray := prog_4_method_9_code
def yX2_wrongSeconds : MethodName := ⟨RX2, "wrongSeconds", "()I"⟩
abbrev cX2_isSouredBy : ByteArray := prog_4_method_10_code
def yX2_isSouredBy : MethodName := ⟨RX2, "isSouredBy", "(II)Z"⟩
abbrev cX2_secondsFor : ByteArray := prog_4_method_11_code
def yX2_secondsFor : MethodName := ⟨RX2, "secondsFor", "(II)I"⟩
abbrev cX2_souringThings : ByteArray := prog_4_method_12_code
def yX2_souringThings : MethodName := ⟨RX2, "souringThings", "(I)I"⟩
abbrev cX2_morningsToChange : ByteArray := prog_4_method_13_code
def yX2_morningsToChange : MethodName := ⟨RX2, "morningsToChange", "(I)I"⟩
abbrev cX2_otherMornings : ByteArray := prog_4_method_14_code
def yX2_otherMornings : MethodName := ⟨RX2, "otherMornings", "(I)I"⟩
def RX3 : String := "TheUsual$Shop"
def TX3 : u_T := fun k => match k with
  | 0 => ("TheUsual$Shop", "regulars", "[LTheUsual$Regular;", true)
  | 1 => ("TheUsual$Shop", "turns", "LTheUsual$Turns;", true)
  | 2 => ("TheUsual$Shop", "size", "I", false)
  | 3 => ("TheUsual$Shop", "day", "I", false)
  | _ => ("TheUsual$Shop", "seconds", "I", false)
def tyX3 : Nat → FieldType := fun k => match k with
  | 0 => .array (.object "TheUsual$Regular")
  | 1 => .object "TheUsual$Turns"
  | 2 => .int
  | 3 => .int
  | _ => .int
abbrev wsX30 : List Cond := u_ws RX3 TX3 5
theorem nmX3 : ∀ a, a < 5 → ∀ b, b < 5 → a ≠ b → (TX3 a).2.1 ≠ (TX3 b).2.1 := by decide +kernel
theorem tyX3_ok : ∀ k, k < 5 → parseFieldDescriptor (TX3 k).2.2.1 = some (tyX3 k) := by decide +kernel
abbrev cX3_init : ByteArray := prog_5_method_1_code
def yX3_init : MethodName := ⟨RX3, "<init>", "()V"⟩
abbrev cX3_open : ByteArray := prog_5_method_2_code
def yX3_open : MethodName := ⟨RX3, "open", "([BI)V"⟩
abbrev cX3_goThrough : ByteArray := prog_5_method_3_code
def yX3_goThrough : MethodName := ⟨RX3, "goThrough", "(I)V"⟩
abbrev cX3_serveOne : ByteArray := prog_5_method_4_code
def yX3_serveOne : MethodName := ⟨RX3, "serveOne", "(II)I"⟩
abbrev cX3_beginMorning : ByteArray := prog_5_method_5_code
def yX3_beginMorning : MethodName := ⟨RX3, "beginMorning", "()V"⟩
abbrev cX3_happen : ByteArray := prog_5_method_6_code
def yX3_happen : MethodName := ⟨RX3, "happen", "(II)I"⟩
abbrev cX3_factOf : ByteArray := prog_5_method_7_code
def yX3_factOf : MethodName := ⟨RX3, "factOf", "(II)I"⟩
abbrev cX3_everybody : ByteArray := prog_5_method_8_code
def yX3_everybody : MethodName := ⟨RX3, "everybody", "()I"⟩
abbrev cX3_thoseWhoLook : ByteArray := prog_5_method_9_code
def yX3_thoseWhoLook : MethodName := ⟨RX3, "thoseWhoLook", "(II)I"⟩
abbrev cX3_souredBy : ByteArray := prog_5_method_10_code
def yX3_souredBy : MethodName := ⟨RX3, "souredBy", "(II)I"⟩
abbrev cX3_comingsOf : ByteArray := prog_5_method_11_code
def yX3_comingsOf : MethodName := ⟨RX3, "comingsOf", "(I)I"⟩
abbrev cX3_comingsThatWant : ByteArray := prog_5_method_12_code
def yX3_comingsThatWant : MethodName := ⟨RX3, "comingsThatWant", "(II)I"⟩
abbrev cX3_secondsOf : ByteArray := prog_5_method_13_code
def yX3_secondsOf : MethodName := ⟨RX3, "secondsOf", "(II)I"⟩
abbrev cX3_quickestFor : ByteArray := prog_5_method_14_code
def yX3_quickestFor : MethodName := ⟨RX3, "quickestFor", "(I)I"⟩
abbrev cX3_weekWith : ByteArray := prog_5_method_15_code
def yX3_weekWith : MethodName := ⟨RX3, "weekWith", "(I)I"⟩
abbrev cX3_knownOnes : ByteArray := prog_5_method_16_code
def yX3_knownOnes : MethodName := ⟨RX3, "knownOnes", "()I"⟩
abbrev cX3_silentOnes : ByteArray := prog_5_method_17_code
def yX3_silentOnes : MethodName := ⟨RX3, "silentOnes", "()I"⟩
abbrev cX3_soursOfAll : ByteArray := prog_5_method_18_code
def yX3_soursOfAll : MethodName := ⟨RX3, "soursOfAll", "()I"⟩
abbrev cX3_isIn : ByteArray := prog_5_method_19_code
def yX3_isIn : MethodName := ⟨RX3, "isIn", "(II)Z"⟩
def RX4 : String := "TheUsual$Turns"
def TX4 : u_T := fun k => match k with
  | 0 => ("TheUsual$Turns", "who", "[I", true)
  | 1 => ("TheUsual$Turns", "laid", "[I", true)
  | _ => ("TheUsual$Turns", "size", "I", false)
def tyX4 : Nat → FieldType := fun k => match k with
  | 0 => .array .int
  | 1 => .array .int
  | _ => .int
abbrev wsX40 : List Cond := u_ws RX4 TX4 3
theorem nmX4 : ∀ a, a < 3 → ∀ b, b < 3 → a ≠ b → (TX4 a).2.1 ≠ (TX4 b).2.1 := by decide +kernel
theorem tyX4_ok : ∀ k, k < 3 → parseFieldDescriptor (TX4 k).2.2.1 = some (tyX4 k) := by decide +kernel
abbrev cX4_init : ByteArray := prog_6_method_1_code
def yX4_init : MethodName := ⟨RX4, "<init>", "()V"⟩
abbrev cX4_write : ByteArray := prog_6_method_2_code
def yX4_write : MethodName := ⟨RX4, "write", "(II)V"⟩
abbrev cX4_takeFrom : ByteArray := prog_6_method_3_code
def yX4_takeFrom : MethodName := ⟨RX4, "takeFrom", "(LTheUsual$Turns;)V"⟩
def RX5 : String := "TheUsual"
def TX5 : u_T := fun k => match k with
  | 0 => ("TheUsual", "rows", "[[I", true)
  | 1 => ("TheUsual", "rowSizes", "[I", true)
  | 2 => ("TheUsual", "texts", "[[B", true)
  | 3 => ("TheUsual", "textSizes", "[I", true)
  | 4 => ("TheUsual", "now", "LTheUsual$Shop;", true)
  | 5 => ("TheUsual", "places", "[LTheUsual$Kept;", true)
  | 6 => ("TheUsual", "line", "LTheUsual$Line;", true)
  | 7 => ("TheUsual", "findingCounts", "[I", true)
  | 8 => ("TheUsual", "latestFinding", "I", false)
  | 9 => ("TheUsual", "lastAsked", "I", false)
  | 10 => ("TheUsual", "lastUpper", "J", false)
  | _ => ("TheUsual", "lastLower", "J", false)
def tyX5 : Nat → FieldType := fun k => match k with
  | 0 => .array (.array .int)
  | 1 => .array .int
  | 2 => .array (.array .byte)
  | 3 => .array .int
  | 4 => .object "TheUsual$Shop"
  | 5 => .array (.object "TheUsual$Kept")
  | 6 => .object "TheUsual$Line"
  | 7 => .array .int
  | 8 => .int
  | 9 => .int
  | 10 => .long
  | _ => .long
abbrev wsX50 : List Cond := u_ws RX5 TX5 12
theorem nmX5 : ∀ a, a < 12 → ∀ b, b < 12 → a ≠ b → (TX5 a).2.1 ≠ (TX5 b).2.1 := by decide +kernel
theorem tyX5_ok : ∀ k, k < 12 → parseFieldDescriptor (TX5 k).2.2.1 = some (tyX5 k) := by decide +kernel
abbrev cX5_init : ByteArray := prog_1_method_1_code
def yX5_init : MethodName := ⟨RX5, "<init>", "()V"⟩
abbrev cX5_row : ByteArray := prog_1_method_2_code
def yX5_row : MethodName := ⟨RX5, "row", "(II)I"⟩
abbrev cX5_lay : ByteArray := prog_1_method_3_code
def yX5_lay : MethodName := ⟨RX5, "lay", "(III)I"⟩
abbrev cX5_at : ByteArray := prog_1_method_4_code
def yX5_at : MethodName := ⟨RX5, "at", "(II)I"⟩
abbrev cX5_tear : ByteArray := prog_1_method_5_code
def yX5_tear : MethodName := ⟨RX5, "tear", "(I)I"⟩
abbrev cX5_copy : ByteArray := prog_1_method_6_code
def yX5_copy : MethodName := ⟨RX5, "copy", "(IIIII)I"⟩
abbrev cX5_mean : ByteArray := prog_1_method_7_code
def yX5_mean : MethodName := ⟨RX5, "mean", "(I)I"⟩
abbrev cX5_text : ByteArray := prog_1_method_8_code
def yX5_text : MethodName := ⟨RX5, "text", "(II)I"⟩
abbrev cX5_put : ByteArray := prog_1_method_9_code
def yX5_put : MethodName := ⟨RX5, "put", "(III)I"⟩
abbrev cX5_fault : ByteArray := prog_1_method_10_code
def yX5_fault : MethodName := ⟨RX5, "fault", "(I)I"⟩
abbrev cX5_shop : ByteArray := prog_1_method_11_code
def yX5_shop : MethodName := ⟨RX5, "shop", "(I)I"⟩
abbrev cX5_regular : ByteArray := prog_1_method_12_code
def yX5_regular : MethodName := ⟨RX5, "regular", "(II)I"⟩
abbrev cX5_mark : ByteArray := prog_1_method_13_code
def yX5_mark : MethodName := ⟨RX5, "mark", "(II)I"⟩
abbrev cX5_other : ByteArray := prog_1_method_14_code
def yX5_other : MethodName := ⟨RX5, "other", "(II)I"⟩
abbrev cX5_serve : ByteArray := prog_1_method_15_code
def yX5_serve : MethodName := ⟨RX5, "serve", "(II)I"⟩
abbrev cX5_morning : ByteArray := prog_1_method_16_code
def yX5_morning : MethodName := ⟨RX5, "morning", "()I"⟩
abbrev cX5_undo : ByteArray := prog_1_method_17_code
def yX5_undo : MethodName := ⟨RX5, "undo", "(I)I"⟩
abbrev cX5_keep : ByteArray := prog_1_method_18_code
def yX5_keep : MethodName := ⟨RX5, "keep", "(I)I"⟩
abbrev cX5_on : ByteArray := prog_1_method_19_code
def yX5_on : MethodName := ⟨RX5, "on", "(I)I"⟩
abbrev cX5_who : ByteArray := prog_1_method_20_code
def yX5_who : MethodName := ⟨RX5, "who", "(II)I"⟩
abbrev cX5_parts : ByteArray := prog_1_method_21_code
def yX5_parts : MethodName := ⟨RX5, "parts", "(II)I"⟩
abbrev cX5_wants : ByteArray := prog_1_method_22_code
def yX5_wants : MethodName := ⟨RX5, "wants", "(II)I"⟩
abbrev cX5_likely : ByteArray := prog_1_method_23_code
def yX5_likely : MethodName := ⟨RX5, "likely", "(III)I"⟩
abbrev cX5_takes : ByteArray := prog_1_method_24_code
def yX5_takes : MethodName := ⟨RX5, "takes", "(III)I"⟩
abbrev cX5_quickest : ByteArray := prog_1_method_25_code
def yX5_quickest : MethodName := ⟨RX5, "quickest", "(II)I"⟩
abbrev cX5_queue : ByteArray := prog_1_method_26_code
def yX5_queue : MethodName := ⟨RX5, "queue", "(I)I"⟩
abbrev cX5_by : ByteArray := prog_1_method_27_code
def yX5_by : MethodName := ⟨RX5, "by", "(II)I"⟩
abbrev cX5_order : ByteArray := prog_1_method_28_code
def yX5_order : MethodName := ⟨RX5, "order", "(I)I"⟩
abbrev cX5_learn : ByteArray := prog_1_method_29_code
def yX5_learn : MethodName := ⟨RX5, "learn", "(I)I"⟩
abbrev cX5_fits : ByteArray := prog_1_method_30_code
def yX5_fits : MethodName := ⟨RX5, "fits", "(I)I"⟩
abbrev cX5_kinds : ByteArray := prog_1_method_31_code
def yX5_kinds : MethodName := ⟨RX5, "kinds", "(III)I"⟩
abbrev cX5_lies : ByteArray := prog_1_method_32_code
def yX5_lies : MethodName := ⟨RX5, "lies", "(I)I"⟩
abbrev cX5_apart : ByteArray := prog_1_method_33_code
def yX5_apart : MethodName := ⟨RX5, "apart", "(IIII)I"⟩
abbrev cX5_sour : ByteArray := prog_1_method_34_code
def yX5_sour : MethodName := ⟨RX5, "sour", "(I)I"⟩
abbrev cX5_odds : ByteArray := prog_1_method_35_code
def yX5_odds : MethodName := ⟨RX5, "odds", "(I)I"⟩
abbrev cX5_lots : ByteArray := prog_1_method_36_code
def yX5_lots : MethodName := ⟨RX5, "lots", "(II)I"⟩
abbrev cX5_asked : ByteArray := prog_1_method_37_code
def yX5_asked : MethodName := ⟨RX5, "asked", "()I"⟩
abbrev cX5_upper : ByteArray := prog_1_method_38_code
def yX5_upper : MethodName := ⟨RX5, "upper", "()J"⟩
abbrev cX5_lower : ByteArray := prog_1_method_39_code
def yX5_lower : MethodName := ⟨RX5, "lower", "()J"⟩
abbrev cX5_count : ByteArray := prog_1_method_40_code
def yX5_count : MethodName := ⟨RX5, "count", "(I)I"⟩
abbrev cX5_finding : ByteArray := prog_1_method_41_code
def yX5_finding : MethodName := ⟨RX5, "finding", "()I"⟩
abbrev cX5_findings : ByteArray := prog_1_method_42_code
def yX5_findings : MethodName := ⟨RX5, "findings", "(I)I"⟩
abbrev cX5_digest : ByteArray := prog_1_method_43_code
def yX5_digest : MethodName := ⟨RX5, "digest", "()J"⟩
abbrev cX5_isRow : ByteArray := prog_1_method_44_code
def yX5_isRow : MethodName := ⟨RX5, "isRow", "(I)Z"⟩
abbrev cX5_isText : ByteArray := prog_1_method_45_code
def yX5_isText : MethodName := ⟨RX5, "isText", "(I)Z"⟩
abbrev cX5_isPlace : ByteArray := prog_1_method_46_code
def yX5_isPlace : MethodName := ⟨RX5, "isPlace", "(I)Z"⟩
abbrev cX5_isThing : ByteArray := prog_1_method_47_code
def yX5_isThing : MethodName := ⟨RX5, "isThing", "(I)Z"⟩
abbrev cX5_isThingOrNone : ByteArray := prog_1_method_48_code
def yX5_isThingOrNone : MethodName := ⟨RX5, "isThingOrNone", "(I)Z"⟩
abbrev cX5_isSign : ByteArray := prog_1_method_49_code
def yX5_isSign : MethodName := ⟨RX5, "isSign", "(I)Z"⟩
abbrev cX5_isMorning : ByteArray := prog_1_method_50_code
def yX5_isMorning : MethodName := ⟨RX5, "isMorning", "(I)Z"⟩
abbrev cX5_isRegular : ByteArray := prog_1_method_51_code
def yX5_isRegular : MethodName := ⟨RX5, "isRegular", "(I)Z"⟩
abbrev cX5_areTwo : ByteArray := prog_1_method_52_code
def yX5_areTwo : MethodName := ⟨RX5, "areTwo", "(II)Z"⟩
abbrev cX5_found : ByteArray := prog_1_method_53_code
def yX5_found : MethodName := ⟨RX5, "found", "(I)I"⟩
abbrev cX5_rowRefusal : ByteArray := prog_1_method_54_code
def yX5_rowRefusal : MethodName := ⟨RX5, "rowRefusal", "(I)I"⟩
abbrev cX5_placeRefusal : ByteArray := prog_1_method_55_code
def yX5_placeRefusal : MethodName := ⟨RX5, "placeRefusal", "(II)I"⟩
abbrev cX5_textRefusal : ByteArray := prog_1_method_56_code
def yX5_textRefusal : MethodName := ⟨RX5, "textRefusal", "(I)I"⟩
abbrev cX5_queueRefusal : ByteArray := prog_1_method_57_code
def yX5_queueRefusal : MethodName := ⟨RX5, "queueRefusal", "(I)I"⟩
abbrev cX5_bookRefusal : ByteArray := prog_1_method_58_code
def yX5_bookRefusal : MethodName := ⟨RX5, "bookRefusal", "(I)I"⟩
abbrev cX5_isQueue : ByteArray := prog_1_method_59_code
def yX5_isQueue : MethodName := ⟨RX5, "isQueue", "([II)Z"⟩
abbrev cX5_isBook : ByteArray := prog_1_method_60_code
def yX5_isBook : MethodName := ⟨RX5, "isBook", "([II)Z"⟩
abbrev cX5_makeRow : ByteArray := prog_1_method_61_code
def yX5_makeRow : MethodName := ⟨RX5, "makeRow", "(II)V"⟩
abbrev cX5_lineUp : ByteArray := prog_1_method_62_code
def yX5_lineUp : MethodName := ⟨RX5, "lineUp", "(IIZ)I"⟩
abbrev cX5_liesOf : ByteArray := prog_1_method_63_code
def yX5_liesOf : MethodName := ⟨RX5, "liesOf", "(II)I"⟩
abbrev cX5_unlikeSales : ByteArray := prog_1_method_64_code
def yX5_unlikeSales : MethodName := ⟨RX5, "unlikeSales", "([IIIII)I"⟩
abbrev cX5_thoseThere : ByteArray := prog_1_method_65_code
def yX5_thoseThere : MethodName := ⟨RX5, "thoseThere", "([I)I"⟩
abbrev cX5_shopsKept : ByteArray := prog_1_method_66_code
def yX5_shopsKept : MethodName := ⟨RX5, "shopsKept", "()I"⟩
abbrev cX5_tell : ByteArray := prog_1_method_67_code
def yX5_tell : MethodName := ⟨RX5, "tell", "(JJ)V"⟩
abbrev cX5_commonDivisor : ByteArray := prog_1_method_68_code
def yX5_commonDivisor : MethodName := ⟨RX5, "commonDivisor", "(JJ)J"⟩
abbrev cX5_power : ByteArray := prog_1_method_69_code
def yX5_power : MethodName := ⟨RX5, "power", "(JI)J"⟩
abbrev cX5_faultOf : ByteArray := prog_1_method_70_code
def yX5_faultOf : MethodName := ⟨RX5, "faultOf", "([BI)I"⟩
abbrev cX5_itemFault : ByteArray := prog_1_method_71_code
def yX5_itemFault : MethodName := ⟨RX5, "itemFault", "([BII)I"⟩
abbrev cX5_mayStand : ByteArray := prog_1_method_72_code
def yX5_mayStand : MethodName := ⟨RX5, "mayStand", "(II)Z"⟩
abbrev cX5_kindOf : ByteArray := prog_1_method_73_code
def yX5_kindOf : MethodName := ⟨RX5, "kindOf", "(I)I"⟩
abbrev cX5_wantsOther : ByteArray := prog_1_method_74_code
def yX5_wantsOther : MethodName := ⟨RX5, "wantsOther", "(II)Z"⟩
def RX6 : String := "TheUsualModel"
def TX6 : u_T := fun k => match k with
  | 0 => ("TheUsualModel", "latest", "I", false)
  | 1 => ("TheUsualModel", "came", "[I", true)
  | 2 => ("TheUsualModel", "asked", "I", false)
  | 3 => ("TheUsualModel", "upper", "J", false)
  | 4 => ("TheUsualModel", "lower", "J", false)
  | 5 => ("TheUsualModel", "sizes", "[I", true)
  | 6 => ("TheUsualModel", "rows", "[I", true)
  | 7 => ("TheUsualModel", "copied", "[I", true)
  | 8 => ("TheUsualModel", "textSizes", "[I", true)
  | 9 => ("TheUsualModel", "bytes", "[B", true)
  | 10 => ("TheUsualModel", "n", "I", false)
  | 11 => ("TheUsualModel", "kinds", "[I", true)
  | 12 => ("TheUsualModel", "hats", "[I", true)
  | 13 => ("TheUsualModel", "steps", "[I", true)
  | 14 => ("TheUsualModel", "usuals", "[I", true)
  | 15 => ("TheUsualModel", "others", "[I", true)
  | 16 => ("TheUsualModel", "comes", "[I", true)
  | 17 => ("TheUsualModel", "readAt", "I", false)
  | 18 => ("TheUsualModel", "readMany", "I", false)
  | 19 => ("TheUsualModel", "read", "[I", true)
  | 20 => ("TheUsualModel", "now", "[I", true)
  | 21 => ("TheUsualModel", "turnMany", "I", false)
  | 22 => ("TheUsualModel", "log", "[I", true)
  | 23 => ("TheUsualModel", "isKept", "[Z", true)
  | 24 => ("TheUsualModel", "keptMany", "[I", true)
  | 25 => ("TheUsualModel", "keptOthers", "[I", true)
  | 26 => ("TheUsualModel", "keptNow", "[I", true)
  | 27 => ("TheUsualModel", "keptLog", "[I", true)
  | 28 => ("TheUsualModel", "leftMany", "I", false)
  | 29 => ("TheUsualModel", "servedMany", "I", false)
  | 30 => ("TheUsualModel", "goneAt", "I", false)
  | 31 => ("TheUsualModel", "line", "[I", true)
  | _ => ("TheUsualModel", "hash", "J", false)
def tyX6 : Nat → FieldType := fun k => match k with
  | 0 => .int
  | 1 => .array .int
  | 2 => .int
  | 3 => .long
  | 4 => .long
  | 5 => .array .int
  | 6 => .array .int
  | 7 => .array .int
  | 8 => .array .int
  | 9 => .array .byte
  | 10 => .int
  | 11 => .array .int
  | 12 => .array .int
  | 13 => .array .int
  | 14 => .array .int
  | 15 => .array .int
  | 16 => .array .int
  | 17 => .int
  | 18 => .int
  | 19 => .array .int
  | 20 => .array .int
  | 21 => .int
  | 22 => .array .int
  | 23 => .array .boolean
  | 24 => .array .int
  | 25 => .array .int
  | 26 => .array .int
  | 27 => .array .int
  | 28 => .int
  | 29 => .int
  | 30 => .int
  | 31 => .array .int
  | _ => .long
abbrev wsX60 : List Cond := u_ws RX6 TX6 33
theorem nmX6 : ∀ a, a < 33 → ∀ b, b < 33 → a ≠ b → (TX6 a).2.1 ≠ (TX6 b).2.1 := by decide +kernel
theorem tyX6_ok : ∀ k, k < 33 → parseFieldDescriptor (TX6 k).2.2.1 = some (tyX6 k) := by decide +kernel
abbrev cX6_init : ByteArray := prog_8_method_1_code
def yX6_init : MethodName := ⟨RX6, "<init>", "()V"⟩
abbrev cX6_in : ByteArray := prog_8_method_2_code
def yX6_in : MethodName := ⟨RX6, "in", "(III)Z"⟩
abbrev cX6_has : ByteArray := prog_8_method_3_code
def yX6_has : MethodName := ⟨RX6, "has", "(II)Z"⟩
abbrev cX6_bits : ByteArray := prog_8_method_4_code
def yX6_bits : MethodName := ⟨RX6, "bits", "(I)I"⟩
abbrev cX6_meets : ByteArray := prog_8_method_5_code
def yX6_meets : MethodName := ⟨RX6, "meets", "(I)I"⟩
abbrev cX6_finding : ByteArray := prog_8_method_6_code
def yX6_finding : MethodName := ⟨RX6, "finding", "()I"⟩
abbrev cX6_findings : ByteArray := prog_8_method_7_code
def yX6_findings : MethodName := ⟨RX6, "findings", "(I)I"⟩
abbrev cX6_tells : ByteArray := prog_8_method_8_code
def yX6_tells : MethodName := ⟨RX6, "tells", "(II)I"⟩
abbrev cX6_asked : ByteArray := prog_8_method_9_code
def yX6_asked : MethodName := ⟨RX6, "asked", "()I"⟩
abbrev cX6_fraction : ByteArray := prog_8_method_10_code
def yX6_fraction : MethodName := ⟨RX6, "fraction", "(II)I"⟩
abbrev cX6_upper : ByteArray := prog_8_method_11_code
def yX6_upper : MethodName := ⟨RX6, "upper", "()J"⟩
abbrev cX6_lower : ByteArray := prog_8_method_12_code
def yX6_lower : MethodName := ⟨RX6, "lower", "()J"⟩
abbrev cX6_isRow : ByteArray := prog_8_method_13_code
def yX6_isRow : MethodName := ⟨RX6, "isRow", "(I)Z"⟩
abbrev cX6_rowAt : ByteArray := prog_8_method_14_code
def yX6_rowAt : MethodName := ⟨RX6, "rowAt", "(II)I"⟩
abbrev cX6_row : ByteArray := prog_8_method_15_code
def yX6_row : MethodName := ⟨RX6, "row", "(II)I"⟩
abbrev cX6_lay : ByteArray := prog_8_method_16_code
def yX6_lay : MethodName := ⟨RX6, "lay", "(III)I"⟩
abbrev cX6_at : ByteArray := prog_8_method_17_code
def yX6_at : MethodName := ⟨RX6, "at", "(II)I"⟩
abbrev cX6_tear : ByteArray := prog_8_method_18_code
def yX6_tear : MethodName := ⟨RX6, "tear", "(I)I"⟩
abbrev cX6_copy : ByteArray := prog_8_method_19_code
def yX6_copy : MethodName := ⟨RX6, "copy", "(IIIII)I"⟩
abbrev cX6_mean : ByteArray := prog_8_method_20_code
def yX6_mean : MethodName := ⟨RX6, "mean", "(I)I"⟩
abbrev cX6_isText : ByteArray := prog_8_method_21_code
def yX6_isText : MethodName := ⟨RX6, "isText", "(I)Z"⟩
abbrev cX6_text : ByteArray := prog_8_method_22_code
def yX6_text : MethodName := ⟨RX6, "text", "(II)I"⟩
abbrev cX6_put : ByteArray := prog_8_method_23_code
def yX6_put : MethodName := ⟨RX6, "put", "(III)I"⟩
abbrev cX6_byteAt : ByteArray := prog_8_method_24_code
def yX6_byteAt : MethodName := ⟨RX6, "byteAt", "(II)I"⟩
abbrev cX6_layRow : ByteArray := prog_8_method_25_code
def yX6_layRow : MethodName := ⟨RX6, "layRow", "(I[II)V"⟩
abbrev cX6_kindOf : ByteArray := prog_8_method_26_code
def yX6_kindOf : MethodName := ⟨RX6, "kindOf", "(I)I"⟩
abbrev cX6_lowOf : ByteArray := prog_8_method_27_code
def yX6_lowOf : MethodName := ⟨RX6, "lowOf", "(I)I"⟩
abbrev cX6_highOf : ByteArray := prog_8_method_28_code
def yX6_highOf : MethodName := ⟨RX6, "highOf", "(I)I"⟩
abbrev cX6_readsOne : ByteArray := prog_8_method_29_code
def yX6_readsOne : MethodName := ⟨RX6, "readsOne", "(I)Z"⟩
abbrev cX6_faultOf : ByteArray := prog_8_method_30_code
def yX6_faultOf : MethodName := ⟨RX6, "faultOf", "(I)I"⟩
abbrev cX6_fault : ByteArray := prog_8_method_31_code
def yX6_fault : MethodName := ⟨RX6, "fault", "(I)I"⟩
abbrev cX6_shop : ByteArray := prog_8_method_32_code
def yX6_shop : MethodName := ⟨RX6, "shop", "(I)I"⟩
abbrev cX6_isRegular : ByteArray := prog_8_method_33_code
def yX6_isRegular : MethodName := ⟨RX6, "isRegular", "(I)Z"⟩
abbrev cX6_isThing : ByteArray := prog_8_method_34_code
def yX6_isThing : MethodName := ⟨RX6, "isThing", "(I)Z"⟩
abbrev cX6_isLaid : ByteArray := prog_8_method_35_code
def yX6_isLaid : MethodName := ⟨RX6, "isLaid", "(I)Z"⟩
abbrev cX6_isOther : ByteArray := prog_8_method_36_code
def yX6_isOther : MethodName := ⟨RX6, "isOther", "(II)Z"⟩
abbrev cX6_wantsOn : ByteArray := prog_8_method_37_code
def yX6_wantsOn : MethodName := ⟨RX6, "wantsOn", "(II)I"⟩
abbrev cX6_wantsNow : ByteArray := prog_8_method_38_code
def yX6_wantsNow : MethodName := ⟨RX6, "wantsNow", "(I)I"⟩
abbrev cX6_isKnown : ByteArray := prog_8_method_39_code
def yX6_isKnown : MethodName := ⟨RX6, "isKnown", "(I)Z"⟩
abbrev cX6_isSilent : ByteArray := prog_8_method_40_code
def yX6_isSilent : MethodName := ⟨RX6, "isSilent", "(I)Z"⟩
abbrev cX6_askedIn : ByteArray := prog_8_method_41_code
def yX6_askedIn : MethodName := ⟨RX6, "askedIn", "(I)I"⟩
abbrev cX6_isSour : ByteArray := prog_8_method_42_code
def yX6_isSour : MethodName := ⟨RX6, "isSour", "(II)Z"⟩
abbrev cX6_takesIn : ByteArray := prog_8_method_43_code
def yX6_takesIn : MethodName := ⟨RX6, "takesIn", "(II)I"⟩
abbrev cX6_regularTells : ByteArray := prog_8_method_44_code
def yX6_regularTells : MethodName := ⟨RX6, "regularTells", "(II)I"⟩
abbrev cX6_regular : ByteArray := prog_8_method_45_code
def yX6_regular : MethodName := ⟨RX6, "regular", "(II)I"⟩
abbrev cX6_soursBy : ByteArray := prog_8_method_46_code
def yX6_soursBy : MethodName := ⟨RX6, "soursBy", "(I)I"⟩
abbrev cX6_changesIn : ByteArray := prog_8_method_47_code
def yX6_changesIn : MethodName := ⟨RX6, "changesIn", "(I)I"⟩
abbrev cX6_looksLike : ByteArray := prog_8_method_48_code
def yX6_looksLike : MethodName := ⟨RX6, "looksLike", "(I)I"⟩
abbrev cX6_othersOf : ByteArray := prog_8_method_49_code
def yX6_othersOf : MethodName := ⟨RX6, "othersOf", "(I)I"⟩
abbrev cX6_mark : ByteArray := prog_8_method_50_code
def yX6_mark : MethodName := ⟨RX6, "mark", "(II)I"⟩
abbrev cX6_other : ByteArray := prog_8_method_51_code
def yX6_other : MethodName := ⟨RX6, "other", "(II)I"⟩
abbrev cX6_remember : ByteArray := prog_8_method_52_code
def yX6_remember : MethodName := ⟨RX6, "remember", "()V"⟩
abbrev cX6_serves : ByteArray := prog_8_method_53_code
def yX6_serves : MethodName := ⟨RX6, "serves", "(II)I"⟩
abbrev cX6_serve : ByteArray := prog_8_method_54_code
def yX6_serve : MethodName := ⟨RX6, "serve", "(II)I"⟩
abbrev cX6_morning : ByteArray := prog_8_method_55_code
def yX6_morning : MethodName := ⟨RX6, "morning", "()I"⟩
abbrev cX6_undo : ByteArray := prog_8_method_56_code
def yX6_undo : MethodName := ⟨RX6, "undo", "(I)I"⟩
abbrev cX6_keep : ByteArray := prog_8_method_57_code
def yX6_keep : MethodName := ⟨RX6, "keep", "(I)I"⟩
abbrev cX6_on : ByteArray := prog_8_method_58_code
def yX6_on : MethodName := ⟨RX6, "on", "(I)I"⟩
abbrev cX6_isSign : ByteArray := prog_8_method_59_code
def yX6_isSign : MethodName := ⟨RX6, "isSign", "(I)Z"⟩
abbrev cX6_looksSo : ByteArray := prog_8_method_60_code
def yX6_looksSo : MethodName := ⟨RX6, "looksSo", "(II)I"⟩
abbrev cX6_who : ByteArray := prog_8_method_61_code
def yX6_who : MethodName := ⟨RX6, "who", "(II)I"⟩
abbrev cX6_parts : ByteArray := prog_8_method_62_code
def yX6_parts : MethodName := ⟨RX6, "parts", "(II)I"⟩
abbrev cX6_wants : ByteArray := prog_8_method_63_code
def yX6_wants : MethodName := ⟨RX6, "wants", "(II)I"⟩
abbrev cX6_comesOf : ByteArray := prog_8_method_64_code
def yX6_comesOf : MethodName := ⟨RX6, "comesOf", "(I)I"⟩
abbrev cX6_wanting : ByteArray := prog_8_method_65_code
def yX6_wanting : MethodName := ⟨RX6, "wanting", "(II)I"⟩
abbrev cX6_likely : ByteArray := prog_8_method_66_code
def yX6_likely : MethodName := ⟨RX6, "likely", "(III)I"⟩
abbrev cX6_takesOf : ByteArray := prog_8_method_67_code
def yX6_takesOf : MethodName := ⟨RX6, "takesOf", "(II)I"⟩
abbrev cX6_takes : ByteArray := prog_8_method_68_code
def yX6_takes : MethodName := ⟨RX6, "takes", "(III)I"⟩
abbrev cX6_quickestOf : ByteArray := prog_8_method_69_code
def yX6_quickestOf : MethodName := ⟨RX6, "quickestOf", "(I)I"⟩
abbrev cX6_soured : ByteArray := prog_8_method_70_code
def yX6_soured : MethodName := ⟨RX6, "soured", "(II)I"⟩
abbrev cX6_quickest : ByteArray := prog_8_method_71_code
def yX6_quickest : MethodName := ⟨RX6, "quickest", "(II)I"⟩
abbrev cX6_needQueue : ByteArray := prog_8_method_72_code
def yX6_needQueue : MethodName := ⟨RX6, "needQueue", "(IZ)I"⟩
abbrev cX6_passes : ByteArray := prog_8_method_73_code
def yX6_passes : MethodName := ⟨RX6, "passes", "(II)V"⟩
abbrev cX6_queue : ByteArray := prog_8_method_74_code
def yX6_queue : MethodName := ⟨RX6, "queue", "(I)I"⟩
abbrev cX6_by : ByteArray := prog_8_method_75_code
def yX6_by : MethodName := ⟨RX6, "by", "(II)I"⟩
abbrev cX6_order : ByteArray := prog_8_method_76_code
def yX6_order : MethodName := ⟨RX6, "order", "(I)I"⟩
abbrev cX6_weekOf : ByteArray := prog_8_method_77_code
def yX6_weekOf : MethodName := ⟨RX6, "weekOf", "(I)I"⟩
abbrev cX6_learn : ByteArray := prog_8_method_78_code
def yX6_learn : MethodName := ⟨RX6, "learn", "(I)I"⟩
abbrev cX6_needBook : ByteArray := prog_8_method_79_code
def yX6_needBook : MethodName := ⟨RX6, "needBook", "(I)I"⟩
abbrev cX6_liesOf : ByteArray := prog_8_method_80_code
def yX6_liesOf : MethodName := ⟨RX6, "liesOf", "(IIII)I"⟩
abbrev cX6_liesBy : ByteArray := prog_8_method_81_code
def yX6_liesBy : MethodName := ⟨RX6, "liesBy", "(II)I"⟩
abbrev cX6_fits : ByteArray := prog_8_method_82_code
def yX6_fits : MethodName := ⟨RX6, "fits", "(I)I"⟩
abbrev cX6_kinds : ByteArray := prog_8_method_83_code
def yX6_kinds : MethodName := ⟨RX6, "kinds", "(III)I"⟩
abbrev cX6_lies : ByteArray := prog_8_method_84_code
def yX6_lies : MethodName := ⟨RX6, "lies", "(I)I"⟩
abbrev cX6_apart : ByteArray := prog_8_method_85_code
def yX6_apart : MethodName := ⟨RX6, "apart", "(IIII)I"⟩
abbrev cX6_everybody : ByteArray := prog_8_method_86_code
def yX6_everybody : MethodName := ⟨RX6, "everybody", "()I"⟩
abbrev cX6_sour : ByteArray := prog_8_method_87_code
def yX6_sour : MethodName := ⟨RX6, "sour", "(I)I"⟩
abbrev cX6_power : ByteArray := prog_8_method_88_code
def yX6_power : MethodName := ⟨RX6, "power", "(II)I"⟩
abbrev cX6_odds : ByteArray := prog_8_method_89_code
def yX6_odds : MethodName := ⟨RX6, "odds", "(I)I"⟩
abbrev cX6_lots : ByteArray := prog_8_method_90_code
def yX6_lots : MethodName := ⟨RX6, "lots", "(II)I"⟩
abbrev cX6_counted : ByteArray := prog_8_method_91_code
def yX6_counted : MethodName := ⟨RX6, "counted", "(I)I"⟩
abbrev cX6_count : ByteArray := prog_8_method_92_code
def yX6_count : MethodName := ⟨RX6, "count", "(I)I"⟩
abbrev cX6_mix : ByteArray := prog_8_method_93_code
def yX6_mix : MethodName := ⟨RX6, "mix", "(J)V"⟩
abbrev cX6_mixShop : ByteArray := prog_8_method_94_code
def yX6_mixShop : MethodName := ⟨RX6, "mixShop", "()V"⟩
abbrev cX6_digest : ByteArray := prog_8_method_95_code
def yX6_digest : MethodName := ⟨RX6, "digest", "()J"⟩
def RJ6 : String := "java/lang/Integer"
def TJ6 : u_T := fun k => match k with
  | _ => ("", "", "", false)
def tyJ6 : Nat → FieldType := fun k => match k with
  | _ => .int
abbrev cJ6_bitCount_0f7a4 : ByteArray := prog_9_method_49_code
def yJ6_bitCount_0f7a4 : MethodName := ⟨RJ6, "bitCount", "(I)I"⟩
def RJ9 : String := "java/lang/Math"
def TJ9 : u_T := fun k => match k with
  | _ => ("", "", "", false)
def tyJ9 : Nat → FieldType := fun k => match k with
  | _ => .int
abbrev cJ9_max_7cf53 : ByteArray := prog_10_method_65_code
def yJ9_max_7cf53 : MethodName := ⟨RJ9, "max", "(II)I"⟩
abbrev cJ9_min_7cf53 : ByteArray := prog_10_method_69_code
def yJ9_min_7cf53 : MethodName := ⟨RJ9, "min", "(II)I"⟩
def RJ10 : String := "java/lang/System"
def TJ10 : u_T := fun k => match k with
  | _ => ("", "", "", false)
def tyJ10 : Nat → FieldType := fun k => match k with
  | _ => .int
def RL : String := "TheUsualLaw"
abbrev cL_law : ByteArray := code
def yL_law : MethodName := ⟨RL, "law", "([I)Z"⟩
abbrev vwCl : List vw_C := [(RX0, TX0, 3), (RX1, TX1, 3), (RX2, TX2, 8), (RX3, TX3, 5), (RX4, TX4, 3), (RX5, TX5, 12), (RX6, TX6, 33)]
end
section
theorem dX0_init_0 : decode cX0_init 0 = .ok (.aload_n 0, 1) := by decide +kernel
theorem dX0_init_1 : decode cX0_init 1 = .ok (.invokespecial 3, 3) := by decide +kernel
theorem dX0_init_4 : decode cX0_init 4 = .ok (.aload_n 0, 1) := by decide +kernel
theorem dX0_init_5 : decode cX0_init 5 = .ok (.bipush 6, 2) := by decide +kernel
theorem dX0_init_7 : decode cX0_init 7 = .ok (.newarray .int, 2) := by decide +kernel
theorem dX0_init_9 : decode cX0_init 9 = .ok (.putfield 9, 3) := by decide +kernel
theorem dX0_init_12 : decode cX0_init 12 = .ok (.aload_n 0, 1) := by decide +kernel
theorem dX0_init_13 : decode cX0_init 13 = .ok (.new 15, 3) := by decide +kernel
theorem dX0_init_16 : decode cX0_init 16 = .ok (.dup, 1) := by decide +kernel
theorem dX0_init_17 : decode cX0_init 17 = .ok (.invokespecial 17, 3) := by decide +kernel
theorem dX0_init_20 : decode cX0_init 20 = .ok (.putfield 18, 3) := by decide +kernel
theorem dX0_init_23 : decode cX0_init 23 = .ok (.return_, 1) := by decide +kernel
theorem dX0_takeFrom_0 : decode cX0_takeFrom 0 = .ok (.iconst 0, 1) := by decide +kernel
theorem dX0_takeFrom_1 : decode cX0_takeFrom 1 = .ok (.istore_n 2, 1) := by decide +kernel
theorem dX0_takeFrom_2 : decode cX0_takeFrom 2 = .ok (.iload_n 2, 1) := by decide +kernel
theorem dX0_takeFrom_3 : decode cX0_takeFrom 3 = .ok (.aload_n 1, 1) := by decide +kernel
theorem dX0_takeFrom_4 : decode cX0_takeFrom 4 = .ok (.getfield 22, 3) := by decide +kernel
theorem dX0_takeFrom_7 : decode cX0_takeFrom 7 = .ok (.if_icmp .ge 24, 3) := by decide +kernel
theorem dX0_takeFrom_10 : decode cX0_takeFrom 10 = .ok (.aload_n 0, 1) := by decide +kernel
theorem dX0_takeFrom_11 : decode cX0_takeFrom 11 = .ok (.getfield 9, 3) := by decide +kernel
theorem dX0_takeFrom_14 : decode cX0_takeFrom 14 = .ok (.iload_n 2, 1) := by decide +kernel
theorem dX0_takeFrom_15 : decode cX0_takeFrom 15 = .ok (.aload_n 1, 1) := by decide +kernel
theorem dX0_takeFrom_16 : decode cX0_takeFrom 16 = .ok (.getfield 28, 3) := by decide +kernel
theorem dX0_takeFrom_19 : decode cX0_takeFrom 19 = .ok (.iload_n 2, 1) := by decide +kernel
theorem dX0_takeFrom_20 : decode cX0_takeFrom 20 = .ok (.aaload, 1) := by decide +kernel
theorem dX0_takeFrom_21 : decode cX0_takeFrom 21 = .ok (.getfield 32, 3) := by decide +kernel
theorem dX0_takeFrom_24 : decode cX0_takeFrom 24 = .ok (.iastore, 1) := by decide +kernel
theorem dX0_takeFrom_25 : decode cX0_takeFrom 25 = .ok (.iinc 2 1, 3) := by decide +kernel
theorem dX0_takeFrom_28 : decode cX0_takeFrom 28 = .ok (.goto (-26), 3) := by decide +kernel
theorem dX0_takeFrom_31 : decode cX0_takeFrom 31 = .ok (.aload_n 0, 1) := by decide +kernel
theorem dX0_takeFrom_32 : decode cX0_takeFrom 32 = .ok (.getfield 18, 3) := by decide +kernel
theorem dX0_takeFrom_35 : decode cX0_takeFrom 35 = .ok (.aload_n 1, 1) := by decide +kernel
theorem dX0_takeFrom_36 : decode cX0_takeFrom 36 = .ok (.getfield 37, 3) := by decide +kernel
theorem dX0_takeFrom_39 : decode cX0_takeFrom 39 = .ok (.invokevirtual 38, 3) := by decide +kernel
theorem dX0_takeFrom_42 : decode cX0_takeFrom 42 = .ok (.aload_n 0, 1) := by decide +kernel
theorem dX0_takeFrom_43 : decode cX0_takeFrom 43 = .ok (.iconst 1, 1) := by decide +kernel
theorem dX0_takeFrom_44 : decode cX0_takeFrom 44 = .ok (.putfield 42, 3) := by decide +kernel
theorem dX0_takeFrom_47 : decode cX0_takeFrom 47 = .ok (.return_, 1) := by decide +kernel
theorem dX0_giveTo_0 : decode cX0_giveTo 0 = .ok (.iconst 0, 1) := by decide +kernel
theorem dX0_giveTo_1 : decode cX0_giveTo 1 = .ok (.istore_n 2, 1) := by decide +kernel
theorem dX0_giveTo_2 : decode cX0_giveTo 2 = .ok (.iload_n 2, 1) := by decide +kernel
theorem dX0_giveTo_3 : decode cX0_giveTo 3 = .ok (.aload_n 1, 1) := by decide +kernel
theorem dX0_giveTo_4 : decode cX0_giveTo 4 = .ok (.getfield 22, 3) := by decide +kernel
theorem dX0_giveTo_7 : decode cX0_giveTo 7 = .ok (.if_icmp .ge 24, 3) := by decide +kernel
theorem dX0_giveTo_10 : decode cX0_giveTo 10 = .ok (.aload_n 1, 1) := by decide +kernel
theorem dX0_giveTo_11 : decode cX0_giveTo 11 = .ok (.getfield 28, 3) := by decide +kernel
theorem dX0_giveTo_14 : decode cX0_giveTo 14 = .ok (.iload_n 2, 1) := by decide +kernel
theorem dX0_giveTo_15 : decode cX0_giveTo 15 = .ok (.aaload, 1) := by decide +kernel
theorem dX0_giveTo_16 : decode cX0_giveTo 16 = .ok (.aload_n 0, 1) := by decide +kernel
theorem dX0_giveTo_17 : decode cX0_giveTo 17 = .ok (.getfield 9, 3) := by decide +kernel
theorem dX0_giveTo_20 : decode cX0_giveTo 20 = .ok (.iload_n 2, 1) := by decide +kernel
theorem dX0_giveTo_21 : decode cX0_giveTo 21 = .ok (.iaload, 1) := by decide +kernel
theorem dX0_giveTo_22 : decode cX0_giveTo 22 = .ok (.putfield 32, 3) := by decide +kernel
theorem dX0_giveTo_25 : decode cX0_giveTo 25 = .ok (.iinc 2 1, 3) := by decide +kernel
theorem dX0_giveTo_28 : decode cX0_giveTo 28 = .ok (.goto (-26), 3) := by decide +kernel
theorem dX0_giveTo_31 : decode cX0_giveTo 31 = .ok (.aload_n 1, 1) := by decide +kernel
theorem dX0_giveTo_32 : decode cX0_giveTo 32 = .ok (.getfield 37, 3) := by decide +kernel
theorem dX0_giveTo_35 : decode cX0_giveTo 35 = .ok (.aload_n 0, 1) := by decide +kernel
theorem dX0_giveTo_36 : decode cX0_giveTo 36 = .ok (.getfield 18, 3) := by decide +kernel
theorem dX0_giveTo_39 : decode cX0_giveTo 39 = .ok (.invokevirtual 38, 3) := by decide +kernel
theorem dX0_giveTo_42 : decode cX0_giveTo 42 = .ok (.aload_n 1, 1) := by decide +kernel
theorem dX0_giveTo_43 : decode cX0_giveTo 43 = .ok (.aload_n 0, 1) := by decide +kernel
theorem dX0_giveTo_44 : decode cX0_giveTo 44 = .ok (.getfield 18, 3) := by decide +kernel
theorem dX0_giveTo_47 : decode cX0_giveTo 47 = .ok (.getfield 46, 3) := by decide +kernel
theorem dX0_giveTo_50 : decode cX0_giveTo 50 = .ok (.invokevirtual 47, 3) := by decide +kernel
theorem dX0_giveTo_53 : decode cX0_giveTo 53 = .ok (.return_, 1) := by decide +kernel
theorem dX1_init_0 : decode cX1_init 0 = .ok (.aload_n 0, 1) := by decide +kernel
theorem dX1_init_1 : decode cX1_init 1 = .ok (.invokespecial 1, 3) := by decide +kernel
theorem dX1_init_4 : decode cX1_init 4 = .ok (.return_, 1) := by decide +kernel
theorem dX1_walk_0 : decode cX1_walk 0 = .ok (.aload_n 0, 1) := by decide +kernel
theorem dX1_walk_1 : decode cX1_walk 1 = .ok (.iconst 0, 1) := by decide +kernel
theorem dX1_walk_2 : decode cX1_walk 2 = .ok (.putfield 7, 3) := by decide +kernel
theorem dX1_walk_5 : decode cX1_walk 5 = .ok (.aload_n 0, 1) := by decide +kernel
theorem dX1_walk_6 : decode cX1_walk 6 = .ok (.iconst 0, 1) := by decide +kernel
theorem dX1_walk_7 : decode cX1_walk 7 = .ok (.putfield 13, 3) := by decide +kernel
theorem dX1_walk_10 : decode cX1_walk 10 = .ok (.aload_n 0, 1) := by decide +kernel
theorem dX1_walk_11 : decode cX1_walk 11 = .ok (.iconst 0, 1) := by decide +kernel
theorem dX1_walk_12 : decode cX1_walk 12 = .ok (.putfield 16, 3) := by decide +kernel
theorem dX1_walk_15 : decode cX1_walk 15 = .ok (.iconst 0, 1) := by decide +kernel
theorem dX1_walk_16 : decode cX1_walk 16 = .ok (.istore 5, 2) := by decide +kernel
theorem dX1_walk_18 : decode cX1_walk 18 = .ok (.iload 5, 2) := by decide +kernel
theorem dX1_walk_20 : decode cX1_walk 20 = .ok (.iconst 1, 1) := by decide +kernel
theorem dX1_walk_21 : decode cX1_walk 21 = .ok (.iadd, 1) := by decide +kernel
theorem dX1_walk_22 : decode cX1_walk 22 = .ok (.iload_n 3, 1) := by decide +kernel
theorem dX1_walk_23 : decode cX1_walk 23 = .ok (.if_icmp .ge 99, 3) := by decide +kernel
theorem dX1_walk_26 : decode cX1_walk 26 = .ok (.aload_n 1, 1) := by decide +kernel
theorem dX1_walk_27 : decode cX1_walk 27 = .ok (.aload_n 2, 1) := by decide +kernel
theorem dX1_walk_28 : decode cX1_walk 28 = .ok (.iload 5, 2) := by decide +kernel
theorem dX1_walk_30 : decode cX1_walk 30 = .ok (.iaload, 1) := by decide +kernel
theorem dX1_walk_31 : decode cX1_walk 31 = .ok (.aaload, 1) := by decide +kernel
theorem dX1_walk_32 : decode cX1_walk 32 = .ok (.astore 6, 2) := by decide +kernel
theorem dX1_walk_34 : decode cX1_walk 34 = .ok (.aload_n 2, 1) := by decide +kernel
theorem dX1_walk_35 : decode cX1_walk 35 = .ok (.iload 5, 2) := by decide +kernel
theorem dX1_walk_37 : decode cX1_walk 37 = .ok (.iconst 1, 1) := by decide +kernel
theorem dX1_walk_38 : decode cX1_walk 38 = .ok (.iadd, 1) := by decide +kernel
theorem dX1_walk_39 : decode cX1_walk 39 = .ok (.iaload, 1) := by decide +kernel
theorem dX1_walk_40 : decode cX1_walk 40 = .ok (.istore 7, 2) := by decide +kernel
theorem dX1_walk_42 : decode cX1_walk 42 = .ok (.aload_n 0, 1) := by decide +kernel
theorem dX1_walk_43 : decode cX1_walk 43 = .ok (.aload_n 0, 1) := by decide +kernel
theorem dX1_walk_44 : decode cX1_walk 44 = .ok (.getfield 7, 3) := by decide +kernel
theorem dX1_walk_47 : decode cX1_walk 47 = .ok (.iload 7, 2) := by decide +kernel
theorem dX1_walk_49 : decode cX1_walk 49 = .ok (.invokestatic 19, 3) := by decide +kernel
theorem dX1_walk_52 : decode cX1_walk 52 = .ok (.putfield 7, 3) := by decide +kernel
theorem dX1_walk_55 : decode cX1_walk 55 = .ok (.aload_n 0, 1) := by decide +kernel
theorem dX1_walk_56 : decode cX1_walk 56 = .ok (.getfield 7, 3) := by decide +kernel
theorem dX1_walk_59 : decode cX1_walk 59 = .ok (.iload 7, 2) := by decide +kernel
theorem dX1_walk_61 : decode cX1_walk 61 = .ok (.isub, 1) := by decide +kernel
theorem dX1_walk_62 : decode cX1_walk 62 = .ok (.aload 6, 2) := by decide +kernel
theorem dX1_walk_64 : decode cX1_walk 64 = .ok (.invokevirtual 25, 3) := by decide +kernel
theorem dX1_walk_67 : decode cX1_walk 67 = .ok (.if_icmp .le 16, 3) := by decide +kernel
theorem dX1_walk_70 : decode cX1_walk 70 = .ok (.aload_n 0, 1) := by decide +kernel
theorem dX1_walk_71 : decode cX1_walk 71 = .ok (.dup, 1) := by decide +kernel
theorem dX1_walk_72 : decode cX1_walk 72 = .ok (.getfield 13, 3) := by decide +kernel
theorem dX1_walk_75 : decode cX1_walk 75 = .ok (.iconst 1, 1) := by decide +kernel
theorem dX1_walk_76 : decode cX1_walk 76 = .ok (.iadd, 1) := by decide +kernel
theorem dX1_walk_77 : decode cX1_walk 77 = .ok (.putfield 13, 3) := by decide +kernel
theorem dX1_walk_80 : decode cX1_walk 80 = .ok (.goto 36, 3) := by decide +kernel
theorem dX1_walk_83 : decode cX1_walk 83 = .ok (.aload_n 0, 1) := by decide +kernel
theorem dX1_walk_84 : decode cX1_walk 84 = .ok (.dup, 1) := by decide +kernel
theorem dX1_walk_85 : decode cX1_walk 85 = .ok (.getfield 7, 3) := by decide +kernel
theorem dX1_walk_88 : decode cX1_walk 88 = .ok (.aload 6, 2) := by decide +kernel
theorem dX1_walk_90 : decode cX1_walk 90 = .ok (.invokevirtual 31, 3) := by decide +kernel
theorem dX1_walk_93 : decode cX1_walk 93 = .ok (.iadd, 1) := by decide +kernel
theorem dX1_walk_94 : decode cX1_walk 94 = .ok (.putfield 7, 3) := by decide +kernel
theorem dX1_walk_97 : decode cX1_walk 97 = .ok (.aload_n 0, 1) := by decide +kernel
theorem dX1_walk_98 : decode cX1_walk 98 = .ok (.getfield 7, 3) := by decide +kernel
theorem dX1_walk_101 : decode cX1_walk 101 = .ok (.iload 4, 2) := by decide +kernel
theorem dX1_walk_103 : decode cX1_walk 103 = .ok (.if_icmp .gt 13, 3) := by decide +kernel
theorem dX1_walk_106 : decode cX1_walk 106 = .ok (.aload_n 0, 1) := by decide +kernel
theorem dX1_walk_107 : decode cX1_walk 107 = .ok (.dup, 1) := by decide +kernel
theorem dX1_walk_108 : decode cX1_walk 108 = .ok (.getfield 16, 3) := by decide +kernel
theorem dX1_walk_111 : decode cX1_walk 111 = .ok (.iconst 1, 1) := by decide +kernel
theorem dX1_walk_112 : decode cX1_walk 112 = .ok (.iadd, 1) := by decide +kernel
theorem dX1_walk_113 : decode cX1_walk 113 = .ok (.putfield 16, 3) := by decide +kernel
theorem dX1_walk_116 : decode cX1_walk 116 = .ok (.iinc 5 2, 3) := by decide +kernel
theorem dX1_walk_119 : decode cX1_walk 119 = .ok (.goto (-101), 3) := by decide +kernel
theorem dX1_walk_122 : decode cX1_walk 122 = .ok (.return_, 1) := by decide +kernel
theorem dX2_init_0 : decode cX2_init 0 = .ok (.aload_n 0, 1) := by decide +kernel
theorem dX2_init_1 : decode cX2_init 1 = .ok (.invokespecial 3, 3) := by decide +kernel
theorem dX2_init_4 : decode cX2_init 4 = .ok (.return_, 1) := by decide +kernel
theorem dX2_become_0 : decode cX2_become 0 = .ok (.aload_n 0, 1) := by decide +kernel
theorem dX2_become_1 : decode cX2_become 1 = .ok (.aload_n 1, 1) := by decide +kernel
theorem dX2_become_2 : decode cX2_become 2 = .ok (.iload_n 2, 1) := by decide +kernel
theorem dX2_become_3 : decode cX2_become 3 = .ok (.baload, 1) := by decide +kernel
theorem dX2_become_4 : decode cX2_become 4 = .ok (.invokestatic 9, 3) := by decide +kernel
theorem dX2_become_7 : decode cX2_become 7 = .ok (.putfield 13, 3) := by decide +kernel
theorem dX2_become_10 : decode cX2_become 10 = .ok (.aload_n 0, 1) := by decide +kernel
theorem dX2_become_11 : decode cX2_become 11 = .ok (.aload_n 1, 1) := by decide +kernel
theorem dX2_become_12 : decode cX2_become 12 = .ok (.iload_n 2, 1) := by decide +kernel
theorem dX2_become_13 : decode cX2_become 13 = .ok (.iconst 1, 1) := by decide +kernel
theorem dX2_become_14 : decode cX2_become 14 = .ok (.iadd, 1) := by decide +kernel
theorem dX2_become_15 : decode cX2_become 15 = .ok (.baload, 1) := by decide +kernel
theorem dX2_become_16 : decode cX2_become 16 = .ok (.bipush 48, 2) := by decide +kernel
theorem dX2_become_18 : decode cX2_become 18 = .ok (.isub, 1) := by decide +kernel
theorem dX2_become_19 : decode cX2_become 19 = .ok (.putfield 19, 3) := by decide +kernel
theorem dX2_become_22 : decode cX2_become 22 = .ok (.aload_n 0, 1) := by decide +kernel
theorem dX2_become_23 : decode cX2_become 23 = .ok (.aload_n 1, 1) := by decide +kernel
theorem dX2_become_24 : decode cX2_become 24 = .ok (.iload_n 2, 1) := by decide +kernel
theorem dX2_become_25 : decode cX2_become 25 = .ok (.iconst 2, 1) := by decide +kernel
theorem dX2_become_26 : decode cX2_become 26 = .ok (.iadd, 1) := by decide +kernel
theorem dX2_become_27 : decode cX2_become 27 = .ok (.baload, 1) := by decide +kernel
theorem dX2_become_28 : decode cX2_become 28 = .ok (.bipush 48, 2) := by decide +kernel
theorem dX2_become_30 : decode cX2_become 30 = .ok (.isub, 1) := by decide +kernel
theorem dX2_become_31 : decode cX2_become 31 = .ok (.putfield 22, 3) := by decide +kernel
theorem dX2_become_34 : decode cX2_become 34 = .ok (.aload_n 0, 1) := by decide +kernel
theorem dX2_become_35 : decode cX2_become 35 = .ok (.aload_n 1, 1) := by decide +kernel
theorem dX2_become_36 : decode cX2_become 36 = .ok (.iload_n 2, 1) := by decide +kernel
theorem dX2_become_37 : decode cX2_become 37 = .ok (.iconst 3, 1) := by decide +kernel
theorem dX2_become_38 : decode cX2_become 38 = .ok (.iadd, 1) := by decide +kernel
theorem dX2_become_39 : decode cX2_become 39 = .ok (.baload, 1) := by decide +kernel
theorem dX2_become_40 : decode cX2_become 40 = .ok (.bipush 48, 2) := by decide +kernel
theorem dX2_become_42 : decode cX2_become 42 = .ok (.isub, 1) := by decide +kernel
theorem dX2_become_43 : decode cX2_become 43 = .ok (.putfield 25, 3) := by decide +kernel
theorem dX2_become_46 : decode cX2_become 46 = .ok (.aload_n 0, 1) := by decide +kernel
theorem dX2_become_47 : decode cX2_become 47 = .ok (.aload_n 1, 1) := by decide +kernel
theorem dX2_become_48 : decode cX2_become 48 = .ok (.iload_n 2, 1) := by decide +kernel
theorem dX2_become_49 : decode cX2_become 49 = .ok (.iconst 4, 1) := by decide +kernel
theorem dX2_become_50 : decode cX2_become 50 = .ok (.iadd, 1) := by decide +kernel
theorem dX2_become_51 : decode cX2_become 51 = .ok (.baload, 1) := by decide +kernel
theorem dX2_become_52 : decode cX2_become 52 = .ok (.bipush 48, 2) := by decide +kernel
theorem dX2_become_54 : decode cX2_become 54 = .ok (.isub, 1) := by decide +kernel
theorem dX2_become_55 : decode cX2_become 55 = .ok (.putfield 28, 3) := by decide +kernel
theorem dX2_become_58 : decode cX2_become 58 = .ok (.aload_n 0, 1) := by decide +kernel
theorem dX2_become_59 : decode cX2_become 59 = .ok (.aload_n 1, 1) := by decide +kernel
theorem dX2_become_60 : decode cX2_become 60 = .ok (.iload_n 2, 1) := by decide +kernel
theorem dX2_become_61 : decode cX2_become 61 = .ok (.iconst 5, 1) := by decide +kernel
theorem dX2_become_62 : decode cX2_become 62 = .ok (.iadd, 1) := by decide +kernel
theorem dX2_become_63 : decode cX2_become 63 = .ok (.baload, 1) := by decide +kernel
theorem dX2_become_64 : decode cX2_become 64 = .ok (.bipush 48, 2) := by decide +kernel
theorem dX2_become_66 : decode cX2_become 66 = .ok (.isub, 1) := by decide +kernel
theorem dX2_become_67 : decode cX2_become 67 = .ok (.putfield 31, 3) := by decide +kernel
theorem dX2_become_70 : decode cX2_become 70 = .ok (.return_, 1) := by decide +kernel
theorem dX2_isOf_0 : decode cX2_isOf 0 = .ok (.aload_n 0, 1) := by decide +kernel
theorem dX2_isOf_1 : decode cX2_isOf 1 = .ok (.getfield 13, 3) := by decide +kernel
theorem dX2_isOf_4 : decode cX2_isOf 4 = .ok (.iload_n 1, 1) := by decide +kernel
theorem dX2_isOf_5 : decode cX2_isOf 5 = .ok (.if_icmp .eq 33, 3) := by decide +kernel
theorem dX2_isOf_8 : decode cX2_isOf 8 = .ok (.iload_n 1, 1) := by decide +kernel
theorem dX2_isOf_9 : decode cX2_isOf 9 = .ok (.ifCond .eq 29, 3) := by decide +kernel
theorem dX2_isOf_12 : decode cX2_isOf 12 = .ok (.aload_n 0, 1) := by decide +kernel
theorem dX2_isOf_13 : decode cX2_isOf 13 = .ok (.getfield 13, 3) := by decide +kernel
theorem dX2_isOf_16 : decode cX2_isOf 16 = .ok (.iconst 4, 1) := by decide +kernel
theorem dX2_isOf_17 : decode cX2_isOf 17 = .ok (.if_icmp .ne 8, 3) := by decide +kernel
theorem dX2_isOf_20 : decode cX2_isOf 20 = .ok (.iload_n 1, 1) := by decide +kernel
theorem dX2_isOf_21 : decode cX2_isOf 21 = .ok (.iconst 1, 1) := by decide +kernel
theorem dX2_isOf_22 : decode cX2_isOf 22 = .ok (.if_icmp .eq 16, 3) := by decide +kernel
theorem dX2_isOf_25 : decode cX2_isOf 25 = .ok (.aload_n 0, 1) := by decide +kernel
theorem dX2_isOf_26 : decode cX2_isOf 26 = .ok (.getfield 13, 3) := by decide +kernel
theorem dX2_isOf_29 : decode cX2_isOf 29 = .ok (.iconst 5, 1) := by decide +kernel
theorem dX2_isOf_30 : decode cX2_isOf 30 = .ok (.if_icmp .ne 12, 3) := by decide +kernel
theorem dX2_isOf_33 : decode cX2_isOf 33 = .ok (.iload_n 1, 1) := by decide +kernel
theorem dX2_isOf_34 : decode cX2_isOf 34 = .ok (.iconst 2, 1) := by decide +kernel
theorem dX2_isOf_35 : decode cX2_isOf 35 = .ok (.if_icmp .ne 7, 3) := by decide +kernel
theorem dX2_isOf_38 : decode cX2_isOf 38 = .ok (.iconst 1, 1) := by decide +kernel
theorem dX2_isOf_39 : decode cX2_isOf 39 = .ok (.goto 4, 3) := by decide +kernel
theorem dX2_isOf_42 : decode cX2_isOf 42 = .ok (.iconst 0, 1) := by decide +kernel
theorem dX2_isOf_43 : decode cX2_isOf 43 = .ok (.ireturn, 1) := by decide +kernel
theorem dX2_isKnown_0 : decode cX2_isKnown 0 = .ok (.aload_n 0, 1) := by decide +kernel
theorem dX2_isKnown_1 : decode cX2_isKnown 1 = .ok (.getfield 34, 3) := by decide +kernel
theorem dX2_isKnown_4 : decode cX2_isKnown 4 = .ok (.iconst 2, 1) := by decide +kernel
theorem dX2_isKnown_5 : decode cX2_isKnown 5 = .ok (.if_icmp .lt 7, 3) := by decide +kernel
theorem dX2_isKnown_8 : decode cX2_isKnown 8 = .ok (.iconst 1, 1) := by decide +kernel
theorem dX2_isKnown_9 : decode cX2_isKnown 9 = .ok (.goto 4, 3) := by decide +kernel
theorem dX2_isKnown_12 : decode cX2_isKnown 12 = .ok (.iconst 0, 1) := by decide +kernel
theorem dX2_isKnown_13 : decode cX2_isKnown 13 = .ok (.ireturn, 1) := by decide +kernel
theorem dX2_looks_0 : decode cX2_looks 0 = .ok (.iload_n 1, 1) := by decide +kernel
theorem dX2_looks_1 : decode cX2_looks 1 = .ok (.bipush (-9), 2) := by decide +kernel
theorem dX2_looks_3 : decode cX2_looks 3 = .ok (.if_icmp .eq 11, 3) := by decide +kernel
theorem dX2_looks_6 : decode cX2_looks 6 = .ok (.iload_n 1, 1) := by decide +kernel
theorem dX2_looks_7 : decode cX2_looks 7 = .ok (.aload_n 0, 1) := by decide +kernel
theorem dX2_looks_8 : decode cX2_looks 8 = .ok (.getfield 19, 3) := by decide +kernel
theorem dX2_looks_11 : decode cX2_looks 11 = .ok (.if_icmp .ne 21, 3) := by decide +kernel
theorem dX2_looks_14 : decode cX2_looks 14 = .ok (.iload_n 2, 1) := by decide +kernel
theorem dX2_looks_15 : decode cX2_looks 15 = .ok (.bipush (-9), 2) := by decide +kernel
theorem dX2_looks_17 : decode cX2_looks 17 = .ok (.if_icmp .eq 11, 3) := by decide +kernel
theorem dX2_looks_20 : decode cX2_looks 20 = .ok (.iload_n 2, 1) := by decide +kernel
theorem dX2_looks_21 : decode cX2_looks 21 = .ok (.aload_n 0, 1) := by decide +kernel
theorem dX2_looks_22 : decode cX2_looks 22 = .ok (.getfield 22, 3) := by decide +kernel
theorem dX2_looks_25 : decode cX2_looks 25 = .ok (.if_icmp .ne 7, 3) := by decide +kernel
theorem dX2_looks_28 : decode cX2_looks 28 = .ok (.iconst 1, 1) := by decide +kernel
theorem dX2_looks_29 : decode cX2_looks 29 = .ok (.goto 4, 3) := by decide +kernel
theorem dX2_looks_32 : decode cX2_looks 32 = .ok (.iconst 0, 1) := by decide +kernel
theorem dX2_looks_33 : decode cX2_looks 33 = .ok (.ireturn, 1) := by decide +kernel
theorem dX2_wantOn_0 : decode cX2_wantOn 0 = .ok (.aload_n 0, 1) := by decide +kernel
theorem dX2_wantOn_1 : decode cX2_wantOn 1 = .ok (.getfield 13, 3) := by decide +kernel
theorem dX2_wantOn_4 : decode cX2_wantOn 4 = .ok (.iload_n 1, 1) := by decide +kernel
theorem dX2_wantOn_5 : decode cX2_wantOn 5 = .ok (.invokestatic 37, 3) := by decide +kernel
theorem dX2_wantOn_8 : decode cX2_wantOn 8 = .ok (.ifCond .eq 10, 3) := by decide +kernel
theorem dX2_wantOn_11 : decode cX2_wantOn 11 = .ok (.aload_n 0, 1) := by decide +kernel
theorem dX2_wantOn_12 : decode cX2_wantOn 12 = .ok (.getfield 28, 3) := by decide +kernel
theorem dX2_wantOn_15 : decode cX2_wantOn 15 = .ok (.goto 7, 3) := by decide +kernel
theorem dX2_wantOn_18 : decode cX2_wantOn 18 = .ok (.aload_n 0, 1) := by decide +kernel
theorem dX2_wantOn_19 : decode cX2_wantOn 19 = .ok (.getfield 25, 3) := by decide +kernel
theorem dX2_wantOn_22 : decode cX2_wantOn 22 = .ok (.ireturn, 1) := by decide +kernel
theorem dX2_patience_0 : decode cX2_patience 0 = .ok (.aload_n 0, 1) := by decide +kernel
theorem dX2_patience_1 : decode cX2_patience 1 = .ok (.iconst 3, 1) := by decide +kernel
theorem dX2_patience_2 : decode cX2_patience 2 = .ok (.invokevirtual 41, 3) := by decide +kernel
theorem dX2_patience_5 : decode cX2_patience 5 = .ok (.ifCond .eq 8, 3) := by decide +kernel
theorem dX2_patience_8 : decode cX2_patience 8 = .ok (.bipush 20, 2) := by decide +kernel
theorem dX2_patience_10 : decode cX2_patience 10 = .ok (.goto 5, 3) := by decide +kernel
theorem dX2_patience_13 : decode cX2_patience 13 = .ok (.bipush 60, 2) := by decide +kernel
theorem dX2_patience_15 : decode cX2_patience 15 = .ok (.ireturn, 1) := by decide +kernel
theorem dX2_askingSeconds_0 : decode cX2_askingSeconds 0 = .ok (.aload_n 0, 1) := by decide +kernel
theorem dX2_askingSeconds_1 : decode cX2_askingSeconds 1 = .ok (.invokevirtual 45, 3) := by decide +kernel
theorem dX2_askingSeconds_4 : decode cX2_askingSeconds 4 = .ok (.ifCond .eq 8, 3) := by decide +kernel
theorem dX2_askingSeconds_7 : decode cX2_askingSeconds 7 = .ok (.bipush 30, 2) := by decide +kernel
theorem dX2_askingSeconds_9 : decode cX2_askingSeconds 9 = .ok (.goto 5, 3) := by decide +kernel
theorem dX2_askingSeconds_12 : decode cX2_askingSeconds 12 = .ok (.bipush 40, 2) := by decide +kernel
theorem dX2_askingSeconds_14 : decode cX2_askingSeconds 14 = .ok (.ireturn, 1) := by decide +kernel
theorem dX2_wrongSeconds_0 : decode cX2_wrongSeconds 0 = .ok (.bipush 9, 2) := by decide +kernel
theorem dX2_wrongSeconds_2 : decode cX2_wrongSeconds 2 = .ok (.aload_n 0, 1) := by decide +kernel
theorem dX2_wrongSeconds_3 : decode cX2_wrongSeconds 3 = .ok (.invokevirtual 49, 3) := by decide +kernel
theorem dX2_wrongSeconds_6 : decode cX2_wrongSeconds 6 = .ok (.iadd, 1) := by decide +kernel
theorem dX2_wrongSeconds_7 : decode cX2_wrongSeconds 7 = .ok (.aload_n 0, 1) := by decide +kernel
theorem dX2_wrongSeconds_8 : decode cX2_wrongSeconds 8 = .ok (.iconst 3, 1) := by decide +kernel
theorem dX2_wrongSeconds_9 : decode cX2_wrongSeconds 9 = .ok (.invokevirtual 41, 3) := by decide +kernel
theorem dX2_wrongSeconds_12 : decode cX2_wrongSeconds 12 = .ok (.ifCond .eq 8, 3) := by decide +kernel
theorem dX2_wrongSeconds_15 : decode cX2_wrongSeconds 15 = .ok (.bipush 20, 2) := by decide +kernel
theorem dX2_wrongSeconds_17 : decode cX2_wrongSeconds 17 = .ok (.goto 5, 3) := by decide +kernel
theorem dX2_wrongSeconds_20 : decode cX2_wrongSeconds 20 = .ok (.bipush 10, 2) := by decide +kernel
theorem dX2_wrongSeconds_22 : decode cX2_wrongSeconds 22 = .ok (.iadd, 1) := by decide +kernel
theorem dX2_wrongSeconds_23 : decode cX2_wrongSeconds 23 = .ok (.ireturn, 1) := by decide +kernel
theorem dX2_isSouredBy_0 : decode cX2_isSouredBy 0 = .ok (.aload_n 0, 1) := by decide +kernel
theorem dX2_isSouredBy_1 : decode cX2_isSouredBy 1 = .ok (.iconst 1, 1) := by decide +kernel
theorem dX2_isSouredBy_2 : decode cX2_isSouredBy 2 = .ok (.invokevirtual 41, 3) := by decide +kernel
theorem dX2_isSouredBy_5 : decode cX2_isSouredBy 5 = .ok (.ifCond .eq 22, 3) := by decide +kernel
theorem dX2_isSouredBy_8 : decode cX2_isSouredBy 8 = .ok (.iload_n 1, 1) := by decide +kernel
theorem dX2_isSouredBy_9 : decode cX2_isSouredBy 9 = .ok (.bipush (-9), 2) := by decide +kernel
theorem dX2_isSouredBy_11 : decode cX2_isSouredBy 11 = .ok (.if_icmp .eq 16, 3) := by decide +kernel
theorem dX2_isSouredBy_14 : decode cX2_isSouredBy 14 = .ok (.iload_n 1, 1) := by decide +kernel
theorem dX2_isSouredBy_15 : decode cX2_isSouredBy 15 = .ok (.aload_n 0, 1) := by decide +kernel
theorem dX2_isSouredBy_16 : decode cX2_isSouredBy 16 = .ok (.iload_n 2, 1) := by decide +kernel
theorem dX2_isSouredBy_17 : decode cX2_isSouredBy 17 = .ok (.invokevirtual 53, 3) := by decide +kernel
theorem dX2_isSouredBy_20 : decode cX2_isSouredBy 20 = .ok (.if_icmp .eq 7, 3) := by decide +kernel
theorem dX2_isSouredBy_23 : decode cX2_isSouredBy 23 = .ok (.iconst 1, 1) := by decide +kernel
theorem dX2_isSouredBy_24 : decode cX2_isSouredBy 24 = .ok (.goto 4, 3) := by decide +kernel
theorem dX2_isSouredBy_27 : decode cX2_isSouredBy 27 = .ok (.iconst 0, 1) := by decide +kernel
theorem dX2_isSouredBy_28 : decode cX2_isSouredBy 28 = .ok (.ireturn, 1) := by decide +kernel
theorem dX2_secondsFor_0 : decode cX2_secondsFor 0 = .ok (.iload_n 1, 1) := by decide +kernel
theorem dX2_secondsFor_1 : decode cX2_secondsFor 1 = .ok (.bipush (-9), 2) := by decide +kernel
theorem dX2_secondsFor_3 : decode cX2_secondsFor 3 = .ok (.if_icmp .ne 8, 3) := by decide +kernel
theorem dX2_secondsFor_6 : decode cX2_secondsFor 6 = .ok (.aload_n 0, 1) := by decide +kernel
theorem dX2_secondsFor_7 : decode cX2_secondsFor 7 = .ok (.invokevirtual 49, 3) := by decide +kernel
theorem dX2_secondsFor_10 : decode cX2_secondsFor 10 = .ok (.ireturn, 1) := by decide +kernel
theorem dX2_secondsFor_11 : decode cX2_secondsFor 11 = .ok (.iload_n 1, 1) := by decide +kernel
theorem dX2_secondsFor_12 : decode cX2_secondsFor 12 = .ok (.aload_n 0, 1) := by decide +kernel
theorem dX2_secondsFor_13 : decode cX2_secondsFor 13 = .ok (.iload_n 2, 1) := by decide +kernel
theorem dX2_secondsFor_14 : decode cX2_secondsFor 14 = .ok (.invokevirtual 53, 3) := by decide +kernel
theorem dX2_secondsFor_17 : decode cX2_secondsFor 17 = .ok (.if_icmp .eq 11, 3) := by decide +kernel
theorem dX2_secondsFor_20 : decode cX2_secondsFor 20 = .ok (.aload_n 0, 1) := by decide +kernel
theorem dX2_secondsFor_21 : decode cX2_secondsFor 21 = .ok (.iconst 1, 1) := by decide +kernel
theorem dX2_secondsFor_22 : decode cX2_secondsFor 22 = .ok (.invokevirtual 41, 3) := by decide +kernel
theorem dX2_secondsFor_25 : decode cX2_secondsFor 25 = .ok (.ifCond .eq 8, 3) := by decide +kernel
theorem dX2_secondsFor_28 : decode cX2_secondsFor 28 = .ok (.bipush 9, 2) := by decide +kernel
theorem dX2_secondsFor_30 : decode cX2_secondsFor 30 = .ok (.goto 7, 3) := by decide +kernel
theorem dX2_secondsFor_33 : decode cX2_secondsFor 33 = .ok (.aload_n 0, 1) := by decide +kernel
theorem dX2_secondsFor_34 : decode cX2_secondsFor 34 = .ok (.invokevirtual 56, 3) := by decide +kernel
theorem dX2_secondsFor_37 : decode cX2_secondsFor 37 = .ok (.ireturn, 1) := by decide +kernel
theorem dX2_souringThings_0 : decode cX2_souringThings 0 = .ok (.iconst 0, 1) := by decide +kernel
theorem dX2_souringThings_1 : decode cX2_souringThings 1 = .ok (.istore_n 2, 1) := by decide +kernel
theorem dX2_souringThings_2 : decode cX2_souringThings 2 = .ok (.iconst 0, 1) := by decide +kernel
theorem dX2_souringThings_3 : decode cX2_souringThings 3 = .ok (.istore_n 3, 1) := by decide +kernel
theorem dX2_souringThings_4 : decode cX2_souringThings 4 = .ok (.iload_n 3, 1) := by decide +kernel
theorem dX2_souringThings_5 : decode cX2_souringThings 5 = .ok (.bipush 6, 2) := by decide +kernel
theorem dX2_souringThings_7 : decode cX2_souringThings 7 = .ok (.if_icmp .ge 21, 3) := by decide +kernel
theorem dX2_souringThings_10 : decode cX2_souringThings 10 = .ok (.aload_n 0, 1) := by decide +kernel
theorem dX2_souringThings_11 : decode cX2_souringThings 11 = .ok (.iload_n 3, 1) := by decide +kernel
theorem dX2_souringThings_12 : decode cX2_souringThings 12 = .ok (.iload_n 1, 1) := by decide +kernel
theorem dX2_souringThings_13 : decode cX2_souringThings 13 = .ok (.invokevirtual 59, 3) := by decide +kernel
theorem dX2_souringThings_16 : decode cX2_souringThings 16 = .ok (.ifCond .eq 6, 3) := by decide +kernel
theorem dX2_souringThings_19 : decode cX2_souringThings 19 = .ok (.iinc 2 1, 3) := by decide +kernel
theorem dX2_souringThings_22 : decode cX2_souringThings 22 = .ok (.iinc 3 1, 3) := by decide +kernel
theorem dX2_souringThings_25 : decode cX2_souringThings 25 = .ok (.goto (-21), 3) := by decide +kernel
theorem dX2_souringThings_28 : decode cX2_souringThings 28 = .ok (.iload_n 2, 1) := by decide +kernel
theorem dX2_souringThings_29 : decode cX2_souringThings 29 = .ok (.ireturn, 1) := by decide +kernel
theorem dX2_morningsToChange_0 : decode cX2_morningsToChange 0 = .ok (.iconst 1, 1) := by decide +kernel
theorem dX2_morningsToChange_1 : decode cX2_morningsToChange 1 = .ok (.istore_n 2, 1) := by decide +kernel
theorem dX2_morningsToChange_2 : decode cX2_morningsToChange 2 = .ok (.iload_n 2, 1) := by decide +kernel
theorem dX2_morningsToChange_3 : decode cX2_morningsToChange 3 = .ok (.bipush 9, 2) := by decide +kernel
theorem dX2_morningsToChange_5 : decode cX2_morningsToChange 5 = .ok (.if_icmp .gt 26, 3) := by decide +kernel
theorem dX2_morningsToChange_8 : decode cX2_morningsToChange 8 = .ok (.aload_n 0, 1) := by decide +kernel
theorem dX2_morningsToChange_9 : decode cX2_morningsToChange 9 = .ok (.iload_n 1, 1) := by decide +kernel
theorem dX2_morningsToChange_10 : decode cX2_morningsToChange 10 = .ok (.iload_n 2, 1) := by decide +kernel
theorem dX2_morningsToChange_11 : decode cX2_morningsToChange 11 = .ok (.iadd, 1) := by decide +kernel
theorem dX2_morningsToChange_12 : decode cX2_morningsToChange 12 = .ok (.invokevirtual 53, 3) := by decide +kernel
theorem dX2_morningsToChange_15 : decode cX2_morningsToChange 15 = .ok (.aload_n 0, 1) := by decide +kernel
theorem dX2_morningsToChange_16 : decode cX2_morningsToChange 16 = .ok (.iload_n 1, 1) := by decide +kernel
theorem dX2_morningsToChange_17 : decode cX2_morningsToChange 17 = .ok (.invokevirtual 53, 3) := by decide +kernel
theorem dX2_morningsToChange_20 : decode cX2_morningsToChange 20 = .ok (.if_icmp .eq 5, 3) := by decide +kernel
theorem dX2_morningsToChange_23 : decode cX2_morningsToChange 23 = .ok (.iload_n 2, 1) := by decide +kernel
theorem dX2_morningsToChange_24 : decode cX2_morningsToChange 24 = .ok (.ireturn, 1) := by decide +kernel
theorem dX2_morningsToChange_25 : decode cX2_morningsToChange 25 = .ok (.iinc 2 1, 3) := by decide +kernel
theorem dX2_morningsToChange_28 : decode cX2_morningsToChange 28 = .ok (.goto (-26), 3) := by decide +kernel
theorem dX2_morningsToChange_31 : decode cX2_morningsToChange 31 = .ok (.bipush (-9), 2) := by decide +kernel
theorem dX2_morningsToChange_33 : decode cX2_morningsToChange 33 = .ok (.ireturn, 1) := by decide +kernel
theorem dX2_otherMornings_0 : decode cX2_otherMornings 0 = .ok (.iconst 0, 1) := by decide +kernel
theorem dX2_otherMornings_1 : decode cX2_otherMornings 1 = .ok (.istore_n 2, 1) := by decide +kernel
theorem dX2_otherMornings_2 : decode cX2_otherMornings 2 = .ok (.iconst 0, 1) := by decide +kernel
theorem dX2_otherMornings_3 : decode cX2_otherMornings 3 = .ok (.istore_n 3, 1) := by decide +kernel
theorem dX2_otherMornings_4 : decode cX2_otherMornings 4 = .ok (.iload_n 3, 1) := by decide +kernel
theorem dX2_otherMornings_5 : decode cX2_otherMornings 5 = .ok (.iload_n 1, 1) := by decide +kernel
theorem dX2_otherMornings_6 : decode cX2_otherMornings 6 = .ok (.if_icmp .ge 24, 3) := by decide +kernel
theorem dX2_otherMornings_9 : decode cX2_otherMornings 9 = .ok (.aload_n 0, 1) := by decide +kernel
theorem dX2_otherMornings_10 : decode cX2_otherMornings 10 = .ok (.iload_n 3, 1) := by decide +kernel
theorem dX2_otherMornings_11 : decode cX2_otherMornings 11 = .ok (.invokevirtual 53, 3) := by decide +kernel
theorem dX2_otherMornings_14 : decode cX2_otherMornings 14 = .ok (.aload_n 0, 1) := by decide +kernel
theorem dX2_otherMornings_15 : decode cX2_otherMornings 15 = .ok (.getfield 28, 3) := by decide +kernel
theorem dX2_otherMornings_18 : decode cX2_otherMornings 18 = .ok (.if_icmp .ne 6, 3) := by decide +kernel
theorem dX2_otherMornings_21 : decode cX2_otherMornings 21 = .ok (.iinc 2 1, 3) := by decide +kernel
theorem dX2_otherMornings_24 : decode cX2_otherMornings 24 = .ok (.iinc 3 1, 3) := by decide +kernel
theorem dX2_otherMornings_27 : decode cX2_otherMornings 27 = .ok (.goto (-23), 3) := by decide +kernel
theorem dX2_otherMornings_30 : decode cX2_otherMornings 30 = .ok (.iload_n 2, 1) := by decide +kernel
theorem dX2_otherMornings_31 : decode cX2_otherMornings 31 = .ok (.ireturn, 1) := by decide +kernel
theorem dX3_init_0 : decode cX3_init 0 = .ok (.aload_n 0, 1) := by decide +kernel
theorem dX3_init_1 : decode cX3_init 1 = .ok (.invokespecial 3, 3) := by decide +kernel
theorem dX3_init_4 : decode cX3_init 4 = .ok (.aload_n 0, 1) := by decide +kernel
theorem dX3_init_5 : decode cX3_init 5 = .ok (.bipush 6, 2) := by decide +kernel
theorem dX3_init_7 : decode cX3_init 7 = .ok (.anewarray 9, 3) := by decide +kernel
theorem dX3_init_10 : decode cX3_init 10 = .ok (.putfield 11, 3) := by decide +kernel
theorem dX3_init_13 : decode cX3_init 13 = .ok (.aload_n 0, 1) := by decide +kernel
theorem dX3_init_14 : decode cX3_init 14 = .ok (.new 17, 3) := by decide +kernel
theorem dX3_init_17 : decode cX3_init 17 = .ok (.dup, 1) := by decide +kernel
theorem dX3_init_18 : decode cX3_init 18 = .ok (.invokespecial 19, 3) := by decide +kernel
theorem dX3_init_21 : decode cX3_init 21 = .ok (.putfield 20, 3) := by decide +kernel
theorem dX3_init_24 : decode cX3_init 24 = .ok (.iconst 0, 1) := by decide +kernel
theorem dX3_init_25 : decode cX3_init 25 = .ok (.istore_n 1, 1) := by decide +kernel
theorem dX3_init_26 : decode cX3_init 26 = .ok (.iload_n 1, 1) := by decide +kernel
theorem dX3_init_27 : decode cX3_init 27 = .ok (.bipush 6, 2) := by decide +kernel
theorem dX3_init_29 : decode cX3_init 29 = .ok (.if_icmp .ge 22, 3) := by decide +kernel
theorem dX3_init_32 : decode cX3_init 32 = .ok (.aload_n 0, 1) := by decide +kernel
theorem dX3_init_33 : decode cX3_init 33 = .ok (.getfield 11, 3) := by decide +kernel
theorem dX3_init_36 : decode cX3_init 36 = .ok (.iload_n 1, 1) := by decide +kernel
theorem dX3_init_37 : decode cX3_init 37 = .ok (.new 9, 3) := by decide +kernel
theorem dX3_init_40 : decode cX3_init 40 = .ok (.dup, 1) := by decide +kernel
theorem dX3_init_41 : decode cX3_init 41 = .ok (.invokespecial 24, 3) := by decide +kernel
theorem dX3_init_44 : decode cX3_init 44 = .ok (.aastore, 1) := by decide +kernel
theorem dX3_init_45 : decode cX3_init 45 = .ok (.iinc 1 1, 3) := by decide +kernel
theorem dX3_init_48 : decode cX3_init 48 = .ok (.goto (-22), 3) := by decide +kernel
theorem dX3_init_51 : decode cX3_init 51 = .ok (.return_, 1) := by decide +kernel
theorem dX3_open_0 : decode cX3_open 0 = .ok (.aload_n 0, 1) := by decide +kernel
theorem dX3_open_1 : decode cX3_open 1 = .ok (.iconst 0, 1) := by decide +kernel
theorem dX3_open_2 : decode cX3_open 2 = .ok (.putfield 25, 3) := by decide +kernel
theorem dX3_open_5 : decode cX3_open 5 = .ok (.iconst 0, 1) := by decide +kernel
theorem dX3_open_6 : decode cX3_open 6 = .ok (.istore_n 3, 1) := by decide +kernel
theorem dX3_open_7 : decode cX3_open 7 = .ok (.iload_n 3, 1) := by decide +kernel
theorem dX3_open_8 : decode cX3_open 8 = .ok (.bipush 6, 2) := by decide +kernel
theorem dX3_open_10 : decode cX3_open 10 = .ok (.iadd, 1) := by decide +kernel
theorem dX3_open_11 : decode cX3_open 11 = .ok (.iload_n 2, 1) := by decide +kernel
theorem dX3_open_12 : decode cX3_open 12 = .ok (.if_icmp .gt 56, 3) := by decide +kernel
theorem dX3_open_15 : decode cX3_open 15 = .ok (.aload_n 0, 1) := by decide +kernel
theorem dX3_open_16 : decode cX3_open 16 = .ok (.getfield 25, 3) := by decide +kernel
theorem dX3_open_19 : decode cX3_open 19 = .ok (.bipush 6, 2) := by decide +kernel
theorem dX3_open_21 : decode cX3_open 21 = .ok (.if_icmp .ge 47, 3) := by decide +kernel
theorem dX3_open_24 : decode cX3_open 24 = .ok (.aload_n 1, 1) := by decide +kernel
theorem dX3_open_25 : decode cX3_open 25 = .ok (.iload_n 3, 1) := by decide +kernel
theorem dX3_open_26 : decode cX3_open 26 = .ok (.baload, 1) := by decide +kernel
theorem dX3_open_27 : decode cX3_open 27 = .ok (.bipush 32, 2) := by decide +kernel
theorem dX3_open_29 : decode cX3_open 29 = .ok (.if_icmp .ne 9, 3) := by decide +kernel
theorem dX3_open_32 : decode cX3_open 32 = .ok (.iinc 3 1, 3) := by decide +kernel
theorem dX3_open_35 : decode cX3_open 35 = .ok (.goto (-28), 3) := by decide +kernel
theorem dX3_open_38 : decode cX3_open 38 = .ok (.aload_n 0, 1) := by decide +kernel
theorem dX3_open_39 : decode cX3_open 39 = .ok (.getfield 11, 3) := by decide +kernel
theorem dX3_open_42 : decode cX3_open 42 = .ok (.aload_n 0, 1) := by decide +kernel
theorem dX3_open_43 : decode cX3_open 43 = .ok (.getfield 25, 3) := by decide +kernel
theorem dX3_open_46 : decode cX3_open 46 = .ok (.aaload, 1) := by decide +kernel
theorem dX3_open_47 : decode cX3_open 47 = .ok (.aload_n 1, 1) := by decide +kernel
theorem dX3_open_48 : decode cX3_open 48 = .ok (.iload_n 3, 1) := by decide +kernel
theorem dX3_open_49 : decode cX3_open 49 = .ok (.invokevirtual 29, 3) := by decide +kernel
theorem dX3_open_52 : decode cX3_open 52 = .ok (.aload_n 0, 1) := by decide +kernel
theorem dX3_open_53 : decode cX3_open 53 = .ok (.dup, 1) := by decide +kernel
theorem dX3_open_54 : decode cX3_open 54 = .ok (.getfield 25, 3) := by decide +kernel
theorem dX3_open_57 : decode cX3_open 57 = .ok (.iconst 1, 1) := by decide +kernel
theorem dX3_open_58 : decode cX3_open 58 = .ok (.iadd, 1) := by decide +kernel
theorem dX3_open_59 : decode cX3_open 59 = .ok (.putfield 25, 3) := by decide +kernel
theorem dX3_open_62 : decode cX3_open 62 = .ok (.iinc 3 6, 3) := by decide +kernel
theorem dX3_open_65 : decode cX3_open 65 = .ok (.goto (-58), 3) := by decide +kernel
theorem dX3_open_68 : decode cX3_open 68 = .ok (.aload_n 0, 1) := by decide +kernel
theorem dX3_open_69 : decode cX3_open 69 = .ok (.iconst 0, 1) := by decide +kernel
theorem dX3_open_70 : decode cX3_open 70 = .ok (.invokevirtual 33, 3) := by decide +kernel
theorem dX3_open_73 : decode cX3_open 73 = .ok (.return_, 1) := by decide +kernel
theorem dX3_goThrough_0 : decode cX3_goThrough 0 = .ok (.aload_n 0, 1) := by decide +kernel
theorem dX3_goThrough_1 : decode cX3_goThrough 1 = .ok (.iconst 0, 1) := by decide +kernel
theorem dX3_goThrough_2 : decode cX3_goThrough 2 = .ok (.putfield 37, 3) := by decide +kernel
theorem dX3_goThrough_5 : decode cX3_goThrough 5 = .ok (.aload_n 0, 1) := by decide +kernel
theorem dX3_goThrough_6 : decode cX3_goThrough 6 = .ok (.iconst 0, 1) := by decide +kernel
theorem dX3_goThrough_7 : decode cX3_goThrough 7 = .ok (.putfield 40, 3) := by decide +kernel
theorem dX3_goThrough_10 : decode cX3_goThrough 10 = .ok (.iconst 0, 1) := by decide +kernel
theorem dX3_goThrough_11 : decode cX3_goThrough 11 = .ok (.istore_n 2, 1) := by decide +kernel
theorem dX3_goThrough_12 : decode cX3_goThrough 12 = .ok (.iload_n 2, 1) := by decide +kernel
theorem dX3_goThrough_13 : decode cX3_goThrough 13 = .ok (.aload_n 0, 1) := by decide +kernel
theorem dX3_goThrough_14 : decode cX3_goThrough 14 = .ok (.getfield 25, 3) := by decide +kernel
theorem dX3_goThrough_17 : decode cX3_goThrough 17 = .ok (.if_icmp .ge 29, 3) := by decide +kernel
theorem dX3_goThrough_20 : decode cX3_goThrough 20 = .ok (.aload_n 0, 1) := by decide +kernel
theorem dX3_goThrough_21 : decode cX3_goThrough 21 = .ok (.getfield 11, 3) := by decide +kernel
theorem dX3_goThrough_24 : decode cX3_goThrough 24 = .ok (.iload_n 2, 1) := by decide +kernel
theorem dX3_goThrough_25 : decode cX3_goThrough 25 = .ok (.aaload, 1) := by decide +kernel
theorem dX3_goThrough_26 : decode cX3_goThrough 26 = .ok (.iconst 0, 1) := by decide +kernel
theorem dX3_goThrough_27 : decode cX3_goThrough 27 = .ok (.putfield 43, 3) := by decide +kernel
theorem dX3_goThrough_30 : decode cX3_goThrough 30 = .ok (.aload_n 0, 1) := by decide +kernel
theorem dX3_goThrough_31 : decode cX3_goThrough 31 = .ok (.getfield 11, 3) := by decide +kernel
theorem dX3_goThrough_34 : decode cX3_goThrough 34 = .ok (.iload_n 2, 1) := by decide +kernel
theorem dX3_goThrough_35 : decode cX3_goThrough 35 = .ok (.aaload, 1) := by decide +kernel
theorem dX3_goThrough_36 : decode cX3_goThrough 36 = .ok (.iconst 0, 1) := by decide +kernel
theorem dX3_goThrough_37 : decode cX3_goThrough 37 = .ok (.putfield 46, 3) := by decide +kernel
theorem dX3_goThrough_40 : decode cX3_goThrough 40 = .ok (.iinc 2 1, 3) := by decide +kernel
theorem dX3_goThrough_43 : decode cX3_goThrough 43 = .ok (.goto (-31), 3) := by decide +kernel
theorem dX3_goThrough_46 : decode cX3_goThrough 46 = .ok (.aload_n 0, 1) := by decide +kernel
theorem dX3_goThrough_47 : decode cX3_goThrough 47 = .ok (.getfield 20, 3) := by decide +kernel
theorem dX3_goThrough_50 : decode cX3_goThrough 50 = .ok (.iload_n 1, 1) := by decide +kernel
theorem dX3_goThrough_51 : decode cX3_goThrough 51 = .ok (.aload_n 0, 1) := by decide +kernel
theorem dX3_goThrough_52 : decode cX3_goThrough 52 = .ok (.getfield 20, 3) := by decide +kernel
theorem dX3_goThrough_55 : decode cX3_goThrough 55 = .ok (.getfield 49, 3) := by decide +kernel
theorem dX3_goThrough_58 : decode cX3_goThrough 58 = .ok (.invokestatic 50, 3) := by decide +kernel
theorem dX3_goThrough_61 : decode cX3_goThrough 61 = .ok (.putfield 49, 3) := by decide +kernel
theorem dX3_goThrough_64 : decode cX3_goThrough 64 = .ok (.iconst 0, 1) := by decide +kernel
theorem dX3_goThrough_65 : decode cX3_goThrough 65 = .ok (.istore_n 2, 1) := by decide +kernel
theorem dX3_goThrough_66 : decode cX3_goThrough 66 = .ok (.iload_n 2, 1) := by decide +kernel
theorem dX3_goThrough_67 : decode cX3_goThrough 67 = .ok (.aload_n 0, 1) := by decide +kernel
theorem dX3_goThrough_68 : decode cX3_goThrough 68 = .ok (.getfield 20, 3) := by decide +kernel
theorem dX3_goThrough_71 : decode cX3_goThrough 71 = .ok (.getfield 49, 3) := by decide +kernel
theorem dX3_goThrough_74 : decode cX3_goThrough 74 = .ok (.if_icmp .ge 32, 3) := by decide +kernel
theorem dX3_goThrough_77 : decode cX3_goThrough 77 = .ok (.aload_n 0, 1) := by decide +kernel
theorem dX3_goThrough_78 : decode cX3_goThrough 78 = .ok (.aload_n 0, 1) := by decide +kernel
theorem dX3_goThrough_79 : decode cX3_goThrough 79 = .ok (.getfield 20, 3) := by decide +kernel
theorem dX3_goThrough_82 : decode cX3_goThrough 82 = .ok (.getfield 56, 3) := by decide +kernel
theorem dX3_goThrough_85 : decode cX3_goThrough 85 = .ok (.iload_n 2, 1) := by decide +kernel
theorem dX3_goThrough_86 : decode cX3_goThrough 86 = .ok (.iaload, 1) := by decide +kernel
theorem dX3_goThrough_87 : decode cX3_goThrough 87 = .ok (.aload_n 0, 1) := by decide +kernel
theorem dX3_goThrough_88 : decode cX3_goThrough 88 = .ok (.getfield 20, 3) := by decide +kernel
theorem dX3_goThrough_91 : decode cX3_goThrough 91 = .ok (.getfield 60, 3) := by decide +kernel
theorem dX3_goThrough_94 : decode cX3_goThrough 94 = .ok (.iload_n 2, 1) := by decide +kernel
theorem dX3_goThrough_95 : decode cX3_goThrough 95 = .ok (.iaload, 1) := by decide +kernel
theorem dX3_goThrough_96 : decode cX3_goThrough 96 = .ok (.invokevirtual 63, 3) := by decide +kernel
theorem dX3_goThrough_99 : decode cX3_goThrough 99 = .ok (.pop, 1) := by decide +kernel
theorem dX3_goThrough_100 : decode cX3_goThrough 100 = .ok (.iinc 2 1, 3) := by decide +kernel
theorem dX3_goThrough_103 : decode cX3_goThrough 103 = .ok (.goto (-37), 3) := by decide +kernel
theorem dX3_goThrough_106 : decode cX3_goThrough 106 = .ok (.return_, 1) := by decide +kernel
theorem dX3_serveOne_0 : decode cX3_serveOne 0 = .ok (.aload_n 0, 1) := by decide +kernel
theorem dX3_serveOne_1 : decode cX3_serveOne 1 = .ok (.getfield 20, 3) := by decide +kernel
theorem dX3_serveOne_4 : decode cX3_serveOne 4 = .ok (.iload_n 1, 1) := by decide +kernel
theorem dX3_serveOne_5 : decode cX3_serveOne 5 = .ok (.iload_n 2, 1) := by decide +kernel
theorem dX3_serveOne_6 : decode cX3_serveOne 6 = .ok (.invokevirtual 66, 3) := by decide +kernel
theorem dX3_serveOne_9 : decode cX3_serveOne 9 = .ok (.aload_n 0, 1) := by decide +kernel
theorem dX3_serveOne_10 : decode cX3_serveOne 10 = .ok (.iload_n 1, 1) := by decide +kernel
theorem dX3_serveOne_11 : decode cX3_serveOne 11 = .ok (.iload_n 2, 1) := by decide +kernel
theorem dX3_serveOne_12 : decode cX3_serveOne 12 = .ok (.invokevirtual 63, 3) := by decide +kernel
theorem dX3_serveOne_15 : decode cX3_serveOne 15 = .ok (.ireturn, 1) := by decide +kernel
theorem dX3_beginMorning_0 : decode cX3_beginMorning 0 = .ok (.aload_n 0, 1) := by decide +kernel
theorem dX3_beginMorning_1 : decode cX3_beginMorning 1 = .ok (.getfield 20, 3) := by decide +kernel
theorem dX3_beginMorning_4 : decode cX3_beginMorning 4 = .ok (.bipush (-9), 2) := by decide +kernel
theorem dX3_beginMorning_6 : decode cX3_beginMorning 6 = .ok (.bipush (-9), 2) := by decide +kernel
theorem dX3_beginMorning_8 : decode cX3_beginMorning 8 = .ok (.invokevirtual 66, 3) := by decide +kernel
theorem dX3_beginMorning_11 : decode cX3_beginMorning 11 = .ok (.aload_n 0, 1) := by decide +kernel
theorem dX3_beginMorning_12 : decode cX3_beginMorning 12 = .ok (.bipush (-9), 2) := by decide +kernel
theorem dX3_beginMorning_14 : decode cX3_beginMorning 14 = .ok (.bipush (-9), 2) := by decide +kernel
theorem dX3_beginMorning_16 : decode cX3_beginMorning 16 = .ok (.invokevirtual 63, 3) := by decide +kernel
theorem dX3_beginMorning_19 : decode cX3_beginMorning 19 = .ok (.pop, 1) := by decide +kernel
theorem dX3_beginMorning_20 : decode cX3_beginMorning 20 = .ok (.return_, 1) := by decide +kernel
theorem dX3_happen_0 : decode cX3_happen 0 = .ok (.iload_n 1, 1) := by decide +kernel
theorem dX3_happen_1 : decode cX3_happen 1 = .ok (.ifCond .lt 11, 3) := by decide +kernel
theorem dX3_happen_4 : decode cX3_happen 4 = .ok (.iload_n 1, 1) := by decide +kernel
theorem dX3_happen_5 : decode cX3_happen 5 = .ok (.aload_n 0, 1) := by decide +kernel
theorem dX3_happen_6 : decode cX3_happen 6 = .ok (.getfield 25, 3) := by decide +kernel
theorem dX3_happen_9 : decode cX3_happen 9 = .ok (.if_icmp .lt 20, 3) := by decide +kernel
theorem dX3_happen_12 : decode cX3_happen 12 = .ok (.aload_n 0, 1) := by decide +kernel
theorem dX3_happen_13 : decode cX3_happen 13 = .ok (.dup, 1) := by decide +kernel
theorem dX3_happen_14 : decode cX3_happen 14 = .ok (.getfield 37, 3) := by decide +kernel
theorem dX3_happen_17 : decode cX3_happen 17 = .ok (.iconst 1, 1) := by decide +kernel
theorem dX3_happen_18 : decode cX3_happen 18 = .ok (.iadd, 1) := by decide +kernel
theorem dX3_happen_19 : decode cX3_happen 19 = .ok (.putfield 37, 3) := by decide +kernel
theorem dX3_happen_22 : decode cX3_happen 22 = .ok (.aload_n 0, 1) := by decide +kernel
theorem dX3_happen_23 : decode cX3_happen 23 = .ok (.iconst 0, 1) := by decide +kernel
theorem dX3_happen_24 : decode cX3_happen 24 = .ok (.putfield 40, 3) := by decide +kernel
theorem dX3_happen_27 : decode cX3_happen 27 = .ok (.iconst 0, 1) := by decide +kernel
theorem dX3_happen_28 : decode cX3_happen 28 = .ok (.ireturn, 1) := by decide +kernel
theorem dX3_happen_29 : decode cX3_happen 29 = .ok (.aload_n 0, 1) := by decide +kernel
theorem dX3_happen_30 : decode cX3_happen 30 = .ok (.getfield 11, 3) := by decide +kernel
theorem dX3_happen_33 : decode cX3_happen 33 = .ok (.iload_n 1, 1) := by decide +kernel
theorem dX3_happen_34 : decode cX3_happen 34 = .ok (.aaload, 1) := by decide +kernel
theorem dX3_happen_35 : decode cX3_happen 35 = .ok (.astore_n 3, 1) := by decide +kernel
theorem dX3_happen_36 : decode cX3_happen 36 = .ok (.aload_n 3, 1) := by decide +kernel
theorem dX3_happen_37 : decode cX3_happen 37 = .ok (.iload_n 2, 1) := by decide +kernel
theorem dX3_happen_38 : decode cX3_happen 38 = .ok (.aload_n 0, 1) := by decide +kernel
theorem dX3_happen_39 : decode cX3_happen 39 = .ok (.getfield 37, 3) := by decide +kernel
theorem dX3_happen_42 : decode cX3_happen 42 = .ok (.invokevirtual 70, 3) := by decide +kernel
theorem dX3_happen_45 : decode cX3_happen 45 = .ok (.istore 4, 2) := by decide +kernel
theorem dX3_happen_47 : decode cX3_happen 47 = .ok (.aload_n 3, 1) := by decide +kernel
theorem dX3_happen_48 : decode cX3_happen 48 = .ok (.iload_n 2, 1) := by decide +kernel
theorem dX3_happen_49 : decode cX3_happen 49 = .ok (.aload_n 0, 1) := by decide +kernel
theorem dX3_happen_50 : decode cX3_happen 50 = .ok (.getfield 37, 3) := by decide +kernel
theorem dX3_happen_53 : decode cX3_happen 53 = .ok (.invokevirtual 73, 3) := by decide +kernel
theorem dX3_happen_56 : decode cX3_happen 56 = .ok (.ifCond .eq 13, 3) := by decide +kernel
theorem dX3_happen_59 : decode cX3_happen 59 = .ok (.aload_n 3, 1) := by decide +kernel
theorem dX3_happen_60 : decode cX3_happen 60 = .ok (.dup, 1) := by decide +kernel
theorem dX3_happen_61 : decode cX3_happen 61 = .ok (.getfield 46, 3) := by decide +kernel
theorem dX3_happen_64 : decode cX3_happen 64 = .ok (.iconst 1, 1) := by decide +kernel
theorem dX3_happen_65 : decode cX3_happen 65 = .ok (.iadd, 1) := by decide +kernel
theorem dX3_happen_66 : decode cX3_happen 66 = .ok (.putfield 46, 3) := by decide +kernel
theorem dX3_happen_69 : decode cX3_happen 69 = .ok (.aload_n 3, 1) := by decide +kernel
theorem dX3_happen_70 : decode cX3_happen 70 = .ok (.dup, 1) := by decide +kernel
theorem dX3_happen_71 : decode cX3_happen 71 = .ok (.getfield 43, 3) := by decide +kernel
theorem dX3_happen_74 : decode cX3_happen 74 = .ok (.iconst 1, 1) := by decide +kernel
theorem dX3_happen_75 : decode cX3_happen 75 = .ok (.iadd, 1) := by decide +kernel
theorem dX3_happen_76 : decode cX3_happen 76 = .ok (.putfield 43, 3) := by decide +kernel
theorem dX3_happen_79 : decode cX3_happen 79 = .ok (.aload_n 0, 1) := by decide +kernel
theorem dX3_happen_80 : decode cX3_happen 80 = .ok (.dup, 1) := by decide +kernel
theorem dX3_happen_81 : decode cX3_happen 81 = .ok (.getfield 40, 3) := by decide +kernel
theorem dX3_happen_84 : decode cX3_happen 84 = .ok (.iload 4, 2) := by decide +kernel
theorem dX3_happen_86 : decode cX3_happen 86 = .ok (.iadd, 1) := by decide +kernel
theorem dX3_happen_87 : decode cX3_happen 87 = .ok (.putfield 40, 3) := by decide +kernel
theorem dX3_happen_90 : decode cX3_happen 90 = .ok (.iload 4, 2) := by decide +kernel
theorem dX3_happen_92 : decode cX3_happen 92 = .ok (.ireturn, 1) := by decide +kernel
theorem dX3_factOf_0 : decode cX3_factOf 0 = .ok (.aload_n 0, 1) := by decide +kernel
theorem dX3_factOf_1 : decode cX3_factOf 1 = .ok (.getfield 11, 3) := by decide +kernel
theorem dX3_factOf_4 : decode cX3_factOf 4 = .ok (.iload_n 1, 1) := by decide +kernel
theorem dX3_factOf_5 : decode cX3_factOf 5 = .ok (.aaload, 1) := by decide +kernel
theorem dX3_factOf_6 : decode cX3_factOf 6 = .ok (.astore_n 3, 1) := by decide +kernel
theorem dX3_factOf_7 : decode cX3_factOf 7 = .ok (.iload_n 2, 1) := by decide +kernel
theorem dX3_factOf_8 : decode cX3_factOf 8 = .ok (.tableswitch 88 0 7 #[48, 53, 58, 63, 68, 73, 78, 83], 48) := by decide +kernel
theorem dX3_factOf_56 : decode cX3_factOf 56 = .ok (.aload_n 3, 1) := by decide +kernel
theorem dX3_factOf_57 : decode cX3_factOf 57 = .ok (.getfield 77, 3) := by decide +kernel
theorem dX3_factOf_60 : decode cX3_factOf 60 = .ok (.ireturn, 1) := by decide +kernel
theorem dX3_factOf_61 : decode cX3_factOf 61 = .ok (.aload_n 3, 1) := by decide +kernel
theorem dX3_factOf_62 : decode cX3_factOf 62 = .ok (.getfield 80, 3) := by decide +kernel
theorem dX3_factOf_65 : decode cX3_factOf 65 = .ok (.ireturn, 1) := by decide +kernel
theorem dX3_factOf_66 : decode cX3_factOf 66 = .ok (.aload_n 3, 1) := by decide +kernel
theorem dX3_factOf_67 : decode cX3_factOf 67 = .ok (.getfield 83, 3) := by decide +kernel
theorem dX3_factOf_70 : decode cX3_factOf 70 = .ok (.ireturn, 1) := by decide +kernel
theorem dX3_factOf_71 : decode cX3_factOf 71 = .ok (.aload_n 3, 1) := by decide +kernel
theorem dX3_factOf_72 : decode cX3_factOf 72 = .ok (.getfield 86, 3) := by decide +kernel
theorem dX3_factOf_75 : decode cX3_factOf 75 = .ok (.ireturn, 1) := by decide +kernel
theorem dX3_factOf_76 : decode cX3_factOf 76 = .ok (.aload_n 3, 1) := by decide +kernel
theorem dX3_factOf_77 : decode cX3_factOf 77 = .ok (.getfield 89, 3) := by decide +kernel
theorem dX3_factOf_80 : decode cX3_factOf 80 = .ok (.ireturn, 1) := by decide +kernel
theorem dX3_factOf_81 : decode cX3_factOf 81 = .ok (.aload_n 3, 1) := by decide +kernel
theorem dX3_factOf_82 : decode cX3_factOf 82 = .ok (.getfield 92, 3) := by decide +kernel
theorem dX3_factOf_85 : decode cX3_factOf 85 = .ok (.ireturn, 1) := by decide +kernel
theorem dX3_factOf_86 : decode cX3_factOf 86 = .ok (.aload_n 3, 1) := by decide +kernel
theorem dX3_factOf_87 : decode cX3_factOf 87 = .ok (.getfield 43, 3) := by decide +kernel
theorem dX3_factOf_90 : decode cX3_factOf 90 = .ok (.ireturn, 1) := by decide +kernel
theorem dX3_factOf_91 : decode cX3_factOf 91 = .ok (.aload_n 3, 1) := by decide +kernel
theorem dX3_factOf_92 : decode cX3_factOf 92 = .ok (.getfield 46, 3) := by decide +kernel
theorem dX3_factOf_95 : decode cX3_factOf 95 = .ok (.ireturn, 1) := by decide +kernel
theorem dX3_factOf_96 : decode cX3_factOf 96 = .ok (.aload_n 3, 1) := by decide +kernel
theorem dX3_factOf_97 : decode cX3_factOf 97 = .ok (.aload_n 0, 1) := by decide +kernel
theorem dX3_factOf_98 : decode cX3_factOf 98 = .ok (.getfield 37, 3) := by decide +kernel
theorem dX3_factOf_101 : decode cX3_factOf 101 = .ok (.invokevirtual 95, 3) := by decide +kernel
theorem dX3_factOf_104 : decode cX3_factOf 104 = .ok (.ireturn, 1) := by decide +kernel
theorem dX3_everybody_0 : decode cX3_everybody 0 = .ok (.iconst 1, 1) := by decide +kernel
theorem dX3_everybody_1 : decode cX3_everybody 1 = .ok (.aload_n 0, 1) := by decide +kernel
theorem dX3_everybody_2 : decode cX3_everybody 2 = .ok (.getfield 25, 3) := by decide +kernel
theorem dX3_everybody_5 : decode cX3_everybody 5 = .ok (.ishl, 1) := by decide +kernel
theorem dX3_everybody_6 : decode cX3_everybody 6 = .ok (.iconst 1, 1) := by decide +kernel
theorem dX3_everybody_7 : decode cX3_everybody 7 = .ok (.isub, 1) := by decide +kernel
theorem dX3_everybody_8 : decode cX3_everybody 8 = .ok (.ireturn, 1) := by decide +kernel
theorem dX3_thoseWhoLook_0 : decode cX3_thoseWhoLook 0 = .ok (.iconst 0, 1) := by decide +kernel
theorem dX3_thoseWhoLook_1 : decode cX3_thoseWhoLook 1 = .ok (.istore_n 3, 1) := by decide +kernel
theorem dX3_thoseWhoLook_2 : decode cX3_thoseWhoLook 2 = .ok (.iconst 0, 1) := by decide +kernel
theorem dX3_thoseWhoLook_3 : decode cX3_thoseWhoLook 3 = .ok (.istore 4, 2) := by decide +kernel
theorem dX3_thoseWhoLook_5 : decode cX3_thoseWhoLook 5 = .ok (.iload 4, 2) := by decide +kernel
theorem dX3_thoseWhoLook_7 : decode cX3_thoseWhoLook 7 = .ok (.aload_n 0, 1) := by decide +kernel
theorem dX3_thoseWhoLook_8 : decode cX3_thoseWhoLook 8 = .ok (.getfield 25, 3) := by decide +kernel
theorem dX3_thoseWhoLook_11 : decode cX3_thoseWhoLook 11 = .ok (.if_icmp .ge 31, 3) := by decide +kernel
theorem dX3_thoseWhoLook_14 : decode cX3_thoseWhoLook 14 = .ok (.aload_n 0, 1) := by decide +kernel
theorem dX3_thoseWhoLook_15 : decode cX3_thoseWhoLook 15 = .ok (.getfield 11, 3) := by decide +kernel
theorem dX3_thoseWhoLook_18 : decode cX3_thoseWhoLook 18 = .ok (.iload 4, 2) := by decide +kernel
theorem dX3_thoseWhoLook_20 : decode cX3_thoseWhoLook 20 = .ok (.aaload, 1) := by decide +kernel
theorem dX3_thoseWhoLook_21 : decode cX3_thoseWhoLook 21 = .ok (.iload_n 1, 1) := by decide +kernel
theorem dX3_thoseWhoLook_22 : decode cX3_thoseWhoLook 22 = .ok (.iload_n 2, 1) := by decide +kernel
theorem dX3_thoseWhoLook_23 : decode cX3_thoseWhoLook 23 = .ok (.invokevirtual 99, 3) := by decide +kernel
theorem dX3_thoseWhoLook_26 : decode cX3_thoseWhoLook 26 = .ok (.ifCond .eq 10, 3) := by decide +kernel
theorem dX3_thoseWhoLook_29 : decode cX3_thoseWhoLook 29 = .ok (.iload_n 3, 1) := by decide +kernel
theorem dX3_thoseWhoLook_30 : decode cX3_thoseWhoLook 30 = .ok (.iconst 1, 1) := by decide +kernel
theorem dX3_thoseWhoLook_31 : decode cX3_thoseWhoLook 31 = .ok (.iload 4, 2) := by decide +kernel
theorem dX3_thoseWhoLook_33 : decode cX3_thoseWhoLook 33 = .ok (.ishl, 1) := by decide +kernel
theorem dX3_thoseWhoLook_34 : decode cX3_thoseWhoLook 34 = .ok (.ior, 1) := by decide +kernel
theorem dX3_thoseWhoLook_35 : decode cX3_thoseWhoLook 35 = .ok (.istore_n 3, 1) := by decide +kernel
theorem dX3_thoseWhoLook_36 : decode cX3_thoseWhoLook 36 = .ok (.iinc 4 1, 3) := by decide +kernel
theorem dX3_thoseWhoLook_39 : decode cX3_thoseWhoLook 39 = .ok (.goto (-34), 3) := by decide +kernel
theorem dX3_thoseWhoLook_42 : decode cX3_thoseWhoLook 42 = .ok (.iload_n 3, 1) := by decide +kernel
theorem dX3_thoseWhoLook_43 : decode cX3_thoseWhoLook 43 = .ok (.ireturn, 1) := by decide +kernel
theorem dX3_souredBy_0 : decode cX3_souredBy 0 = .ok (.iconst 0, 1) := by decide +kernel
theorem dX3_souredBy_1 : decode cX3_souredBy 1 = .ok (.istore_n 3, 1) := by decide +kernel
theorem dX3_souredBy_2 : decode cX3_souredBy 2 = .ok (.iconst 0, 1) := by decide +kernel
theorem dX3_souredBy_3 : decode cX3_souredBy 3 = .ok (.istore 4, 2) := by decide +kernel
theorem dX3_souredBy_5 : decode cX3_souredBy 5 = .ok (.iload 4, 2) := by decide +kernel
theorem dX3_souredBy_7 : decode cX3_souredBy 7 = .ok (.aload_n 0, 1) := by decide +kernel
theorem dX3_souredBy_8 : decode cX3_souredBy 8 = .ok (.getfield 25, 3) := by decide +kernel
theorem dX3_souredBy_11 : decode cX3_souredBy 11 = .ok (.if_icmp .ge 43, 3) := by decide +kernel
theorem dX3_souredBy_14 : decode cX3_souredBy 14 = .ok (.iload_n 1, 1) := by decide +kernel
theorem dX3_souredBy_15 : decode cX3_souredBy 15 = .ok (.iload 4, 2) := by decide +kernel
theorem dX3_souredBy_17 : decode cX3_souredBy 17 = .ok (.invokestatic 102, 3) := by decide +kernel
theorem dX3_souredBy_20 : decode cX3_souredBy 20 = .ok (.ifCond .eq 28, 3) := by decide +kernel
theorem dX3_souredBy_23 : decode cX3_souredBy 23 = .ok (.aload_n 0, 1) := by decide +kernel
theorem dX3_souredBy_24 : decode cX3_souredBy 24 = .ok (.getfield 11, 3) := by decide +kernel
theorem dX3_souredBy_27 : decode cX3_souredBy 27 = .ok (.iload 4, 2) := by decide +kernel
theorem dX3_souredBy_29 : decode cX3_souredBy 29 = .ok (.aaload, 1) := by decide +kernel
theorem dX3_souredBy_30 : decode cX3_souredBy 30 = .ok (.iload_n 2, 1) := by decide +kernel
theorem dX3_souredBy_31 : decode cX3_souredBy 31 = .ok (.aload_n 0, 1) := by decide +kernel
theorem dX3_souredBy_32 : decode cX3_souredBy 32 = .ok (.getfield 37, 3) := by decide +kernel
theorem dX3_souredBy_35 : decode cX3_souredBy 35 = .ok (.invokevirtual 73, 3) := by decide +kernel
theorem dX3_souredBy_38 : decode cX3_souredBy 38 = .ok (.ifCond .eq 10, 3) := by decide +kernel
theorem dX3_souredBy_41 : decode cX3_souredBy 41 = .ok (.iload_n 3, 1) := by decide +kernel
theorem dX3_souredBy_42 : decode cX3_souredBy 42 = .ok (.iconst 1, 1) := by decide +kernel
theorem dX3_souredBy_43 : decode cX3_souredBy 43 = .ok (.iload 4, 2) := by decide +kernel
theorem dX3_souredBy_45 : decode cX3_souredBy 45 = .ok (.ishl, 1) := by decide +kernel
theorem dX3_souredBy_46 : decode cX3_souredBy 46 = .ok (.ior, 1) := by decide +kernel
theorem dX3_souredBy_47 : decode cX3_souredBy 47 = .ok (.istore_n 3, 1) := by decide +kernel
theorem dX3_souredBy_48 : decode cX3_souredBy 48 = .ok (.iinc 4 1, 3) := by decide +kernel
theorem dX3_souredBy_51 : decode cX3_souredBy 51 = .ok (.goto (-46), 3) := by decide +kernel
theorem dX3_souredBy_54 : decode cX3_souredBy 54 = .ok (.iload_n 3, 1) := by decide +kernel
theorem dX3_souredBy_55 : decode cX3_souredBy 55 = .ok (.ireturn, 1) := by decide +kernel
theorem dX3_comingsOf_0 : decode cX3_comingsOf 0 = .ok (.iconst 0, 1) := by decide +kernel
theorem dX3_comingsOf_1 : decode cX3_comingsOf 1 = .ok (.istore_n 2, 1) := by decide +kernel
theorem dX3_comingsOf_2 : decode cX3_comingsOf 2 = .ok (.iconst 0, 1) := by decide +kernel
theorem dX3_comingsOf_3 : decode cX3_comingsOf 3 = .ok (.istore_n 3, 1) := by decide +kernel
theorem dX3_comingsOf_4 : decode cX3_comingsOf 4 = .ok (.iload_n 3, 1) := by decide +kernel
theorem dX3_comingsOf_5 : decode cX3_comingsOf 5 = .ok (.aload_n 0, 1) := by decide +kernel
theorem dX3_comingsOf_6 : decode cX3_comingsOf 6 = .ok (.getfield 25, 3) := by decide +kernel
theorem dX3_comingsOf_9 : decode cX3_comingsOf 9 = .ok (.if_icmp .ge 29, 3) := by decide +kernel
theorem dX3_comingsOf_12 : decode cX3_comingsOf 12 = .ok (.iload_n 1, 1) := by decide +kernel
theorem dX3_comingsOf_13 : decode cX3_comingsOf 13 = .ok (.iload_n 3, 1) := by decide +kernel
theorem dX3_comingsOf_14 : decode cX3_comingsOf 14 = .ok (.invokestatic 102, 3) := by decide +kernel
theorem dX3_comingsOf_17 : decode cX3_comingsOf 17 = .ok (.ifCond .eq 15, 3) := by decide +kernel
theorem dX3_comingsOf_20 : decode cX3_comingsOf 20 = .ok (.iload_n 2, 1) := by decide +kernel
theorem dX3_comingsOf_21 : decode cX3_comingsOf 21 = .ok (.aload_n 0, 1) := by decide +kernel
theorem dX3_comingsOf_22 : decode cX3_comingsOf 22 = .ok (.getfield 11, 3) := by decide +kernel
theorem dX3_comingsOf_25 : decode cX3_comingsOf 25 = .ok (.iload_n 3, 1) := by decide +kernel
theorem dX3_comingsOf_26 : decode cX3_comingsOf 26 = .ok (.aaload, 1) := by decide +kernel
theorem dX3_comingsOf_27 : decode cX3_comingsOf 27 = .ok (.getfield 92, 3) := by decide +kernel
theorem dX3_comingsOf_30 : decode cX3_comingsOf 30 = .ok (.iadd, 1) := by decide +kernel
theorem dX3_comingsOf_31 : decode cX3_comingsOf 31 = .ok (.istore_n 2, 1) := by decide +kernel
theorem dX3_comingsOf_32 : decode cX3_comingsOf 32 = .ok (.iinc 3 1, 3) := by decide +kernel
theorem dX3_comingsOf_35 : decode cX3_comingsOf 35 = .ok (.goto (-31), 3) := by decide +kernel
theorem dX3_comingsOf_38 : decode cX3_comingsOf 38 = .ok (.iload_n 2, 1) := by decide +kernel
theorem dX3_comingsOf_39 : decode cX3_comingsOf 39 = .ok (.ireturn, 1) := by decide +kernel
theorem dX3_comingsThatWant_0 : decode cX3_comingsThatWant 0 = .ok (.iconst 0, 1) := by decide +kernel
theorem dX3_comingsThatWant_1 : decode cX3_comingsThatWant 1 = .ok (.istore_n 3, 1) := by decide +kernel
theorem dX3_comingsThatWant_2 : decode cX3_comingsThatWant 2 = .ok (.iconst 0, 1) := by decide +kernel
theorem dX3_comingsThatWant_3 : decode cX3_comingsThatWant 3 = .ok (.istore 4, 2) := by decide +kernel
theorem dX3_comingsThatWant_5 : decode cX3_comingsThatWant 5 = .ok (.iload 4, 2) := by decide +kernel
theorem dX3_comingsThatWant_7 : decode cX3_comingsThatWant 7 = .ok (.aload_n 0, 1) := by decide +kernel
theorem dX3_comingsThatWant_8 : decode cX3_comingsThatWant 8 = .ok (.getfield 25, 3) := by decide +kernel
theorem dX3_comingsThatWant_11 : decode cX3_comingsThatWant 11 = .ok (.if_icmp .ge 49, 3) := by decide +kernel
theorem dX3_comingsThatWant_14 : decode cX3_comingsThatWant 14 = .ok (.iload_n 1, 1) := by decide +kernel
theorem dX3_comingsThatWant_15 : decode cX3_comingsThatWant 15 = .ok (.iload 4, 2) := by decide +kernel
theorem dX3_comingsThatWant_17 : decode cX3_comingsThatWant 17 = .ok (.invokestatic 102, 3) := by decide +kernel
theorem dX3_comingsThatWant_20 : decode cX3_comingsThatWant 20 = .ok (.ifCond .eq 34, 3) := by decide +kernel
theorem dX3_comingsThatWant_23 : decode cX3_comingsThatWant 23 = .ok (.aload_n 0, 1) := by decide +kernel
theorem dX3_comingsThatWant_24 : decode cX3_comingsThatWant 24 = .ok (.getfield 11, 3) := by decide +kernel
theorem dX3_comingsThatWant_27 : decode cX3_comingsThatWant 27 = .ok (.iload 4, 2) := by decide +kernel
theorem dX3_comingsThatWant_29 : decode cX3_comingsThatWant 29 = .ok (.aaload, 1) := by decide +kernel
theorem dX3_comingsThatWant_30 : decode cX3_comingsThatWant 30 = .ok (.aload_n 0, 1) := by decide +kernel
theorem dX3_comingsThatWant_31 : decode cX3_comingsThatWant 31 = .ok (.getfield 37, 3) := by decide +kernel
theorem dX3_comingsThatWant_34 : decode cX3_comingsThatWant 34 = .ok (.invokevirtual 95, 3) := by decide +kernel
theorem dX3_comingsThatWant_37 : decode cX3_comingsThatWant 37 = .ok (.iload_n 2, 1) := by decide +kernel
theorem dX3_comingsThatWant_38 : decode cX3_comingsThatWant 38 = .ok (.if_icmp .ne 16, 3) := by decide +kernel
theorem dX3_comingsThatWant_41 : decode cX3_comingsThatWant 41 = .ok (.iload_n 3, 1) := by decide +kernel
theorem dX3_comingsThatWant_42 : decode cX3_comingsThatWant 42 = .ok (.aload_n 0, 1) := by decide +kernel
theorem dX3_comingsThatWant_43 : decode cX3_comingsThatWant 43 = .ok (.getfield 11, 3) := by decide +kernel
theorem dX3_comingsThatWant_46 : decode cX3_comingsThatWant 46 = .ok (.iload 4, 2) := by decide +kernel
theorem dX3_comingsThatWant_48 : decode cX3_comingsThatWant 48 = .ok (.aaload, 1) := by decide +kernel
theorem dX3_comingsThatWant_49 : decode cX3_comingsThatWant 49 = .ok (.getfield 92, 3) := by decide +kernel
theorem dX3_comingsThatWant_52 : decode cX3_comingsThatWant 52 = .ok (.iadd, 1) := by decide +kernel
theorem dX3_comingsThatWant_53 : decode cX3_comingsThatWant 53 = .ok (.istore_n 3, 1) := by decide +kernel
theorem dX3_comingsThatWant_54 : decode cX3_comingsThatWant 54 = .ok (.iinc 4 1, 3) := by decide +kernel
theorem dX3_comingsThatWant_57 : decode cX3_comingsThatWant 57 = .ok (.goto (-52), 3) := by decide +kernel
theorem dX3_comingsThatWant_60 : decode cX3_comingsThatWant 60 = .ok (.iload_n 3, 1) := by decide +kernel
theorem dX3_comingsThatWant_61 : decode cX3_comingsThatWant 61 = .ok (.ireturn, 1) := by decide +kernel
theorem dX3_secondsOf_0 : decode cX3_secondsOf 0 = .ok (.iconst 0, 1) := by decide +kernel
theorem dX3_secondsOf_1 : decode cX3_secondsOf 1 = .ok (.istore_n 3, 1) := by decide +kernel
theorem dX3_secondsOf_2 : decode cX3_secondsOf 2 = .ok (.iconst 0, 1) := by decide +kernel
theorem dX3_secondsOf_3 : decode cX3_secondsOf 3 = .ok (.istore 4, 2) := by decide +kernel
theorem dX3_secondsOf_5 : decode cX3_secondsOf 5 = .ok (.iload 4, 2) := by decide +kernel
theorem dX3_secondsOf_7 : decode cX3_secondsOf 7 = .ok (.aload_n 0, 1) := by decide +kernel
theorem dX3_secondsOf_8 : decode cX3_secondsOf 8 = .ok (.getfield 25, 3) := by decide +kernel
theorem dX3_secondsOf_11 : decode cX3_secondsOf 11 = .ok (.if_icmp .ge 47, 3) := by decide +kernel
theorem dX3_secondsOf_14 : decode cX3_secondsOf 14 = .ok (.iload_n 1, 1) := by decide +kernel
theorem dX3_secondsOf_15 : decode cX3_secondsOf 15 = .ok (.iload 4, 2) := by decide +kernel
theorem dX3_secondsOf_17 : decode cX3_secondsOf 17 = .ok (.invokestatic 102, 3) := by decide +kernel
theorem dX3_secondsOf_20 : decode cX3_secondsOf 20 = .ok (.ifCond .eq 32, 3) := by decide +kernel
theorem dX3_secondsOf_23 : decode cX3_secondsOf 23 = .ok (.iload_n 3, 1) := by decide +kernel
theorem dX3_secondsOf_24 : decode cX3_secondsOf 24 = .ok (.aload_n 0, 1) := by decide +kernel
theorem dX3_secondsOf_25 : decode cX3_secondsOf 25 = .ok (.getfield 11, 3) := by decide +kernel
theorem dX3_secondsOf_28 : decode cX3_secondsOf 28 = .ok (.iload 4, 2) := by decide +kernel
theorem dX3_secondsOf_30 : decode cX3_secondsOf 30 = .ok (.aaload, 1) := by decide +kernel
theorem dX3_secondsOf_31 : decode cX3_secondsOf 31 = .ok (.getfield 92, 3) := by decide +kernel
theorem dX3_secondsOf_34 : decode cX3_secondsOf 34 = .ok (.aload_n 0, 1) := by decide +kernel
theorem dX3_secondsOf_35 : decode cX3_secondsOf 35 = .ok (.getfield 11, 3) := by decide +kernel
theorem dX3_secondsOf_38 : decode cX3_secondsOf 38 = .ok (.iload 4, 2) := by decide +kernel
theorem dX3_secondsOf_40 : decode cX3_secondsOf 40 = .ok (.aaload, 1) := by decide +kernel
theorem dX3_secondsOf_41 : decode cX3_secondsOf 41 = .ok (.iload_n 2, 1) := by decide +kernel
theorem dX3_secondsOf_42 : decode cX3_secondsOf 42 = .ok (.aload_n 0, 1) := by decide +kernel
theorem dX3_secondsOf_43 : decode cX3_secondsOf 43 = .ok (.getfield 37, 3) := by decide +kernel
theorem dX3_secondsOf_46 : decode cX3_secondsOf 46 = .ok (.invokevirtual 70, 3) := by decide +kernel
theorem dX3_secondsOf_49 : decode cX3_secondsOf 49 = .ok (.imul, 1) := by decide +kernel
theorem dX3_secondsOf_50 : decode cX3_secondsOf 50 = .ok (.iadd, 1) := by decide +kernel
theorem dX3_secondsOf_51 : decode cX3_secondsOf 51 = .ok (.istore_n 3, 1) := by decide +kernel
theorem dX3_secondsOf_52 : decode cX3_secondsOf 52 = .ok (.iinc 4 1, 3) := by decide +kernel
theorem dX3_secondsOf_55 : decode cX3_secondsOf 55 = .ok (.goto (-50), 3) := by decide +kernel
theorem dX3_secondsOf_58 : decode cX3_secondsOf 58 = .ok (.iload_n 3, 1) := by decide +kernel
theorem dX3_secondsOf_59 : decode cX3_secondsOf 59 = .ok (.ireturn, 1) := by decide +kernel
theorem dX3_quickestFor_0 : decode cX3_quickestFor 0 = .ok (.bipush (-9), 2) := by decide +kernel
theorem dX3_quickestFor_2 : decode cX3_quickestFor 2 = .ok (.istore_n 2, 1) := by decide +kernel
theorem dX3_quickestFor_3 : decode cX3_quickestFor 3 = .ok (.iconst 0, 1) := by decide +kernel
theorem dX3_quickestFor_4 : decode cX3_quickestFor 4 = .ok (.istore_n 3, 1) := by decide +kernel
theorem dX3_quickestFor_5 : decode cX3_quickestFor 5 = .ok (.iload_n 3, 1) := by decide +kernel
theorem dX3_quickestFor_6 : decode cX3_quickestFor 6 = .ok (.bipush 6, 2) := by decide +kernel
theorem dX3_quickestFor_8 : decode cX3_quickestFor 8 = .ok (.if_icmp .ge 26, 3) := by decide +kernel
theorem dX3_quickestFor_11 : decode cX3_quickestFor 11 = .ok (.aload_n 0, 1) := by decide +kernel
theorem dX3_quickestFor_12 : decode cX3_quickestFor 12 = .ok (.iload_n 1, 1) := by decide +kernel
theorem dX3_quickestFor_13 : decode cX3_quickestFor 13 = .ok (.iload_n 3, 1) := by decide +kernel
theorem dX3_quickestFor_14 : decode cX3_quickestFor 14 = .ok (.invokevirtual 105, 3) := by decide +kernel
theorem dX3_quickestFor_17 : decode cX3_quickestFor 17 = .ok (.aload_n 0, 1) := by decide +kernel
theorem dX3_quickestFor_18 : decode cX3_quickestFor 18 = .ok (.iload_n 1, 1) := by decide +kernel
theorem dX3_quickestFor_19 : decode cX3_quickestFor 19 = .ok (.iload_n 2, 1) := by decide +kernel
theorem dX3_quickestFor_20 : decode cX3_quickestFor 20 = .ok (.invokevirtual 105, 3) := by decide +kernel
theorem dX3_quickestFor_23 : decode cX3_quickestFor 23 = .ok (.if_icmp .ge 5, 3) := by decide +kernel
theorem dX3_quickestFor_26 : decode cX3_quickestFor 26 = .ok (.iload_n 3, 1) := by decide +kernel
theorem dX3_quickestFor_27 : decode cX3_quickestFor 27 = .ok (.istore_n 2, 1) := by decide +kernel
theorem dX3_quickestFor_28 : decode cX3_quickestFor 28 = .ok (.iinc 3 1, 3) := by decide +kernel
theorem dX3_quickestFor_31 : decode cX3_quickestFor 31 = .ok (.goto (-26), 3) := by decide +kernel
theorem dX3_quickestFor_34 : decode cX3_quickestFor 34 = .ok (.iload_n 2, 1) := by decide +kernel
theorem dX3_quickestFor_35 : decode cX3_quickestFor 35 = .ok (.ireturn, 1) := by decide +kernel
theorem dX3_weekWith_0 : decode cX3_weekWith 0 = .ok (.iconst 0, 1) := by decide +kernel
theorem dX3_weekWith_1 : decode cX3_weekWith 1 = .ok (.istore_n 2, 1) := by decide +kernel
theorem dX3_weekWith_2 : decode cX3_weekWith 2 = .ok (.iconst 0, 1) := by decide +kernel
theorem dX3_weekWith_3 : decode cX3_weekWith 3 = .ok (.istore_n 3, 1) := by decide +kernel
theorem dX3_weekWith_4 : decode cX3_weekWith 4 = .ok (.iload_n 3, 1) := by decide +kernel
theorem dX3_weekWith_5 : decode cX3_weekWith 5 = .ok (.aload_n 0, 1) := by decide +kernel
theorem dX3_weekWith_6 : decode cX3_weekWith 6 = .ok (.getfield 25, 3) := by decide +kernel
theorem dX3_weekWith_9 : decode cX3_weekWith 9 = .ok (.if_icmp .ge 37, 3) := by decide +kernel
theorem dX3_weekWith_12 : decode cX3_weekWith 12 = .ok (.iload_n 2, 1) := by decide +kernel
theorem dX3_weekWith_13 : decode cX3_weekWith 13 = .ok (.aload_n 0, 1) := by decide +kernel
theorem dX3_weekWith_14 : decode cX3_weekWith 14 = .ok (.getfield 11, 3) := by decide +kernel
theorem dX3_weekWith_17 : decode cX3_weekWith 17 = .ok (.iload_n 3, 1) := by decide +kernel
theorem dX3_weekWith_18 : decode cX3_weekWith 18 = .ok (.aaload, 1) := by decide +kernel
theorem dX3_weekWith_19 : decode cX3_weekWith 19 = .ok (.getfield 92, 3) := by decide +kernel
theorem dX3_weekWith_22 : decode cX3_weekWith 22 = .ok (.iload_n 1, 1) := by decide +kernel
theorem dX3_weekWith_23 : decode cX3_weekWith 23 = .ok (.iload_n 3, 1) := by decide +kernel
theorem dX3_weekWith_24 : decode cX3_weekWith 24 = .ok (.invokestatic 102, 3) := by decide +kernel
theorem dX3_weekWith_27 : decode cX3_weekWith 27 = .ok (.ifCond .eq 8, 3) := by decide +kernel
theorem dX3_weekWith_30 : decode cX3_weekWith 30 = .ok (.bipush 9, 2) := by decide +kernel
theorem dX3_weekWith_32 : decode cX3_weekWith 32 = .ok (.goto 5, 3) := by decide +kernel
theorem dX3_weekWith_35 : decode cX3_weekWith 35 = .ok (.bipush 40, 2) := by decide +kernel
theorem dX3_weekWith_37 : decode cX3_weekWith 37 = .ok (.imul, 1) := by decide +kernel
theorem dX3_weekWith_38 : decode cX3_weekWith 38 = .ok (.iadd, 1) := by decide +kernel
theorem dX3_weekWith_39 : decode cX3_weekWith 39 = .ok (.istore_n 2, 1) := by decide +kernel
theorem dX3_weekWith_40 : decode cX3_weekWith 40 = .ok (.iinc 3 1, 3) := by decide +kernel
theorem dX3_weekWith_43 : decode cX3_weekWith 43 = .ok (.goto (-39), 3) := by decide +kernel
theorem dX3_weekWith_46 : decode cX3_weekWith 46 = .ok (.iload_n 2, 1) := by decide +kernel
theorem dX3_weekWith_47 : decode cX3_weekWith 47 = .ok (.ireturn, 1) := by decide +kernel
theorem dX3_knownOnes_0 : decode cX3_knownOnes 0 = .ok (.iconst 0, 1) := by decide +kernel
theorem dX3_knownOnes_1 : decode cX3_knownOnes 1 = .ok (.istore_n 1, 1) := by decide +kernel
theorem dX3_knownOnes_2 : decode cX3_knownOnes 2 = .ok (.iconst 0, 1) := by decide +kernel
theorem dX3_knownOnes_3 : decode cX3_knownOnes 3 = .ok (.istore_n 2, 1) := by decide +kernel
theorem dX3_knownOnes_4 : decode cX3_knownOnes 4 = .ok (.iload_n 2, 1) := by decide +kernel
theorem dX3_knownOnes_5 : decode cX3_knownOnes 5 = .ok (.aload_n 0, 1) := by decide +kernel
theorem dX3_knownOnes_6 : decode cX3_knownOnes 6 = .ok (.getfield 25, 3) := by decide +kernel
theorem dX3_knownOnes_9 : decode cX3_knownOnes 9 = .ok (.if_icmp .ge 24, 3) := by decide +kernel
theorem dX3_knownOnes_12 : decode cX3_knownOnes 12 = .ok (.aload_n 0, 1) := by decide +kernel
theorem dX3_knownOnes_13 : decode cX3_knownOnes 13 = .ok (.getfield 11, 3) := by decide +kernel
theorem dX3_knownOnes_16 : decode cX3_knownOnes 16 = .ok (.iload_n 2, 1) := by decide +kernel
theorem dX3_knownOnes_17 : decode cX3_knownOnes 17 = .ok (.aaload, 1) := by decide +kernel
theorem dX3_knownOnes_18 : decode cX3_knownOnes 18 = .ok (.invokevirtual 108, 3) := by decide +kernel
theorem dX3_knownOnes_21 : decode cX3_knownOnes 21 = .ok (.ifCond .eq 6, 3) := by decide +kernel
theorem dX3_knownOnes_24 : decode cX3_knownOnes 24 = .ok (.iinc 1 1, 3) := by decide +kernel
theorem dX3_knownOnes_27 : decode cX3_knownOnes 27 = .ok (.iinc 2 1, 3) := by decide +kernel
theorem dX3_knownOnes_30 : decode cX3_knownOnes 30 = .ok (.goto (-26), 3) := by decide +kernel
theorem dX3_knownOnes_33 : decode cX3_knownOnes 33 = .ok (.iload_n 1, 1) := by decide +kernel
theorem dX3_knownOnes_34 : decode cX3_knownOnes 34 = .ok (.ireturn, 1) := by decide +kernel
theorem dX3_silentOnes_0 : decode cX3_silentOnes 0 = .ok (.iconst 0, 1) := by decide +kernel
theorem dX3_silentOnes_1 : decode cX3_silentOnes 1 = .ok (.istore_n 1, 1) := by decide +kernel
theorem dX3_silentOnes_2 : decode cX3_silentOnes 2 = .ok (.iconst 0, 1) := by decide +kernel
theorem dX3_silentOnes_3 : decode cX3_silentOnes 3 = .ok (.istore_n 2, 1) := by decide +kernel
theorem dX3_silentOnes_4 : decode cX3_silentOnes 4 = .ok (.iload_n 2, 1) := by decide +kernel
theorem dX3_silentOnes_5 : decode cX3_silentOnes 5 = .ok (.aload_n 0, 1) := by decide +kernel
theorem dX3_silentOnes_6 : decode cX3_silentOnes 6 = .ok (.getfield 25, 3) := by decide +kernel
theorem dX3_silentOnes_9 : decode cX3_silentOnes 9 = .ok (.if_icmp .ge 25, 3) := by decide +kernel
theorem dX3_silentOnes_12 : decode cX3_silentOnes 12 = .ok (.aload_n 0, 1) := by decide +kernel
theorem dX3_silentOnes_13 : decode cX3_silentOnes 13 = .ok (.getfield 11, 3) := by decide +kernel
theorem dX3_silentOnes_16 : decode cX3_silentOnes 16 = .ok (.iload_n 2, 1) := by decide +kernel
theorem dX3_silentOnes_17 : decode cX3_silentOnes 17 = .ok (.aaload, 1) := by decide +kernel
theorem dX3_silentOnes_18 : decode cX3_silentOnes 18 = .ok (.iconst 1, 1) := by decide +kernel
theorem dX3_silentOnes_19 : decode cX3_silentOnes 19 = .ok (.invokevirtual 112, 3) := by decide +kernel
theorem dX3_silentOnes_22 : decode cX3_silentOnes 22 = .ok (.ifCond .eq 6, 3) := by decide +kernel
theorem dX3_silentOnes_25 : decode cX3_silentOnes 25 = .ok (.iinc 1 1, 3) := by decide +kernel
theorem dX3_silentOnes_28 : decode cX3_silentOnes 28 = .ok (.iinc 2 1, 3) := by decide +kernel
theorem dX3_silentOnes_31 : decode cX3_silentOnes 31 = .ok (.goto (-27), 3) := by decide +kernel
theorem dX3_silentOnes_34 : decode cX3_silentOnes 34 = .ok (.iload_n 1, 1) := by decide +kernel
theorem dX3_silentOnes_35 : decode cX3_silentOnes 35 = .ok (.ireturn, 1) := by decide +kernel
theorem dX3_soursOfAll_0 : decode cX3_soursOfAll 0 = .ok (.iconst 0, 1) := by decide +kernel
theorem dX3_soursOfAll_1 : decode cX3_soursOfAll 1 = .ok (.istore_n 1, 1) := by decide +kernel
theorem dX3_soursOfAll_2 : decode cX3_soursOfAll 2 = .ok (.iconst 0, 1) := by decide +kernel
theorem dX3_soursOfAll_3 : decode cX3_soursOfAll 3 = .ok (.istore_n 2, 1) := by decide +kernel
theorem dX3_soursOfAll_4 : decode cX3_soursOfAll 4 = .ok (.iload_n 2, 1) := by decide +kernel
theorem dX3_soursOfAll_5 : decode cX3_soursOfAll 5 = .ok (.aload_n 0, 1) := by decide +kernel
theorem dX3_soursOfAll_6 : decode cX3_soursOfAll 6 = .ok (.getfield 25, 3) := by decide +kernel
theorem dX3_soursOfAll_9 : decode cX3_soursOfAll 9 = .ok (.if_icmp .ge 21, 3) := by decide +kernel
theorem dX3_soursOfAll_12 : decode cX3_soursOfAll 12 = .ok (.iload_n 1, 1) := by decide +kernel
theorem dX3_soursOfAll_13 : decode cX3_soursOfAll 13 = .ok (.aload_n 0, 1) := by decide +kernel
theorem dX3_soursOfAll_14 : decode cX3_soursOfAll 14 = .ok (.getfield 11, 3) := by decide +kernel
theorem dX3_soursOfAll_17 : decode cX3_soursOfAll 17 = .ok (.iload_n 2, 1) := by decide +kernel
theorem dX3_soursOfAll_18 : decode cX3_soursOfAll 18 = .ok (.aaload, 1) := by decide +kernel
theorem dX3_soursOfAll_19 : decode cX3_soursOfAll 19 = .ok (.getfield 46, 3) := by decide +kernel
theorem dX3_soursOfAll_22 : decode cX3_soursOfAll 22 = .ok (.iadd, 1) := by decide +kernel
theorem dX3_soursOfAll_23 : decode cX3_soursOfAll 23 = .ok (.istore_n 1, 1) := by decide +kernel
theorem dX3_soursOfAll_24 : decode cX3_soursOfAll 24 = .ok (.iinc 2 1, 3) := by decide +kernel
theorem dX3_soursOfAll_27 : decode cX3_soursOfAll 27 = .ok (.goto (-23), 3) := by decide +kernel
theorem dX3_soursOfAll_30 : decode cX3_soursOfAll 30 = .ok (.iload_n 1, 1) := by decide +kernel
theorem dX3_soursOfAll_31 : decode cX3_soursOfAll 31 = .ok (.ireturn, 1) := by decide +kernel
theorem dX3_isIn_0 : decode cX3_isIn 0 = .ok (.iload_n 0, 1) := by decide +kernel
theorem dX3_isIn_1 : decode cX3_isIn 1 = .ok (.iload_n 1, 1) := by decide +kernel
theorem dX3_isIn_2 : decode cX3_isIn 2 = .ok (.ishr, 1) := by decide +kernel
theorem dX3_isIn_3 : decode cX3_isIn 3 = .ok (.iconst 1, 1) := by decide +kernel
theorem dX3_isIn_4 : decode cX3_isIn 4 = .ok (.iand, 1) := by decide +kernel
theorem dX3_isIn_5 : decode cX3_isIn 5 = .ok (.iconst 1, 1) := by decide +kernel
theorem dX3_isIn_6 : decode cX3_isIn 6 = .ok (.if_icmp .ne 7, 3) := by decide +kernel
theorem dX3_isIn_9 : decode cX3_isIn 9 = .ok (.iconst 1, 1) := by decide +kernel
theorem dX3_isIn_10 : decode cX3_isIn 10 = .ok (.goto 4, 3) := by decide +kernel
theorem dX3_isIn_13 : decode cX3_isIn 13 = .ok (.iconst 0, 1) := by decide +kernel
theorem dX3_isIn_14 : decode cX3_isIn 14 = .ok (.ireturn, 1) := by decide +kernel
theorem dX4_init_0 : decode cX4_init 0 = .ok (.aload_n 0, 1) := by decide +kernel
theorem dX4_init_1 : decode cX4_init 1 = .ok (.invokespecial 3, 3) := by decide +kernel
theorem dX4_init_4 : decode cX4_init 4 = .ok (.aload_n 0, 1) := by decide +kernel
theorem dX4_init_5 : decode cX4_init 5 = .ok (.bipush 60, 2) := by decide +kernel
theorem dX4_init_7 : decode cX4_init 7 = .ok (.newarray .int, 2) := by decide +kernel
theorem dX4_init_9 : decode cX4_init 9 = .ok (.putfield 9, 3) := by decide +kernel
theorem dX4_init_12 : decode cX4_init 12 = .ok (.aload_n 0, 1) := by decide +kernel
theorem dX4_init_13 : decode cX4_init 13 = .ok (.bipush 60, 2) := by decide +kernel
theorem dX4_init_15 : decode cX4_init 15 = .ok (.newarray .int, 2) := by decide +kernel
theorem dX4_init_17 : decode cX4_init 17 = .ok (.putfield 15, 3) := by decide +kernel
theorem dX4_init_20 : decode cX4_init 20 = .ok (.return_, 1) := by decide +kernel
theorem dX4_write_0 : decode cX4_write 0 = .ok (.aload_n 0, 1) := by decide +kernel
theorem dX4_write_1 : decode cX4_write 1 = .ok (.getfield 18, 3) := by decide +kernel
theorem dX4_write_4 : decode cX4_write 4 = .ok (.bipush 60, 2) := by decide +kernel
theorem dX4_write_6 : decode cX4_write 6 = .ok (.if_icmp .ge 33, 3) := by decide +kernel
theorem dX4_write_9 : decode cX4_write 9 = .ok (.aload_n 0, 1) := by decide +kernel
theorem dX4_write_10 : decode cX4_write 10 = .ok (.getfield 9, 3) := by decide +kernel
theorem dX4_write_13 : decode cX4_write 13 = .ok (.aload_n 0, 1) := by decide +kernel
theorem dX4_write_14 : decode cX4_write 14 = .ok (.getfield 18, 3) := by decide +kernel
theorem dX4_write_17 : decode cX4_write 17 = .ok (.iload_n 1, 1) := by decide +kernel
theorem dX4_write_18 : decode cX4_write 18 = .ok (.iastore, 1) := by decide +kernel
theorem dX4_write_19 : decode cX4_write 19 = .ok (.aload_n 0, 1) := by decide +kernel
theorem dX4_write_20 : decode cX4_write 20 = .ok (.getfield 15, 3) := by decide +kernel
theorem dX4_write_23 : decode cX4_write 23 = .ok (.aload_n 0, 1) := by decide +kernel
theorem dX4_write_24 : decode cX4_write 24 = .ok (.getfield 18, 3) := by decide +kernel
theorem dX4_write_27 : decode cX4_write 27 = .ok (.iload_n 2, 1) := by decide +kernel
theorem dX4_write_28 : decode cX4_write 28 = .ok (.iastore, 1) := by decide +kernel
theorem dX4_write_29 : decode cX4_write 29 = .ok (.aload_n 0, 1) := by decide +kernel
theorem dX4_write_30 : decode cX4_write 30 = .ok (.dup, 1) := by decide +kernel
theorem dX4_write_31 : decode cX4_write 31 = .ok (.getfield 18, 3) := by decide +kernel
theorem dX4_write_34 : decode cX4_write 34 = .ok (.iconst 1, 1) := by decide +kernel
theorem dX4_write_35 : decode cX4_write 35 = .ok (.iadd, 1) := by decide +kernel
theorem dX4_write_36 : decode cX4_write 36 = .ok (.putfield 18, 3) := by decide +kernel
theorem dX4_write_39 : decode cX4_write 39 = .ok (.return_, 1) := by decide +kernel
theorem dX4_takeFrom_0 : decode cX4_takeFrom 0 = .ok (.aload_n 1, 1) := by decide +kernel
theorem dX4_takeFrom_1 : decode cX4_takeFrom 1 = .ok (.getfield 9, 3) := by decide +kernel
theorem dX4_takeFrom_4 : decode cX4_takeFrom 4 = .ok (.iconst 0, 1) := by decide +kernel
theorem dX4_takeFrom_5 : decode cX4_takeFrom 5 = .ok (.aload_n 0, 1) := by decide +kernel
theorem dX4_takeFrom_6 : decode cX4_takeFrom 6 = .ok (.getfield 9, 3) := by decide +kernel
theorem dX4_takeFrom_9 : decode cX4_takeFrom 9 = .ok (.iconst 0, 1) := by decide +kernel
theorem dX4_takeFrom_10 : decode cX4_takeFrom 10 = .ok (.aload_n 1, 1) := by decide +kernel
theorem dX4_takeFrom_11 : decode cX4_takeFrom 11 = .ok (.getfield 18, 3) := by decide +kernel
theorem dX4_takeFrom_14 : decode cX4_takeFrom 14 = .ok (.invokestatic 22, 3) := by decide +kernel
theorem dX4_takeFrom_17 : decode cX4_takeFrom 17 = .ok (.aload_n 1, 1) := by decide +kernel
theorem dX4_takeFrom_18 : decode cX4_takeFrom 18 = .ok (.getfield 15, 3) := by decide +kernel
theorem dX4_takeFrom_21 : decode cX4_takeFrom 21 = .ok (.iconst 0, 1) := by decide +kernel
theorem dX4_takeFrom_22 : decode cX4_takeFrom 22 = .ok (.aload_n 0, 1) := by decide +kernel
theorem dX4_takeFrom_23 : decode cX4_takeFrom 23 = .ok (.getfield 15, 3) := by decide +kernel
theorem dX4_takeFrom_26 : decode cX4_takeFrom 26 = .ok (.iconst 0, 1) := by decide +kernel
theorem dX4_takeFrom_27 : decode cX4_takeFrom 27 = .ok (.aload_n 1, 1) := by decide +kernel
theorem dX4_takeFrom_28 : decode cX4_takeFrom 28 = .ok (.getfield 18, 3) := by decide +kernel
theorem dX4_takeFrom_31 : decode cX4_takeFrom 31 = .ok (.invokestatic 22, 3) := by decide +kernel
theorem dX4_takeFrom_34 : decode cX4_takeFrom 34 = .ok (.aload_n 0, 1) := by decide +kernel
theorem dX4_takeFrom_35 : decode cX4_takeFrom 35 = .ok (.aload_n 1, 1) := by decide +kernel
theorem dX4_takeFrom_36 : decode cX4_takeFrom 36 = .ok (.getfield 18, 3) := by decide +kernel
theorem dX4_takeFrom_39 : decode cX4_takeFrom 39 = .ok (.putfield 18, 3) := by decide +kernel
theorem dX4_takeFrom_42 : decode cX4_takeFrom 42 = .ok (.return_, 1) := by decide +kernel
end
section
theorem dX5_init_0 : decode cX5_init 0 = .ok (.aload_n 0, 1) := by decide +kernel
theorem dX5_init_1 : decode cX5_init 1 = .ok (.invokespecial 1, 3) := by decide +kernel
theorem dX5_init_4 : decode cX5_init 4 = .ok (.aload_n 0, 1) := by decide +kernel
theorem dX5_init_5 : decode cX5_init 5 = .ok (.bipush 6, 2) := by decide +kernel
theorem dX5_init_7 : decode cX5_init 7 = .ok (.bipush 40, 2) := by decide +kernel
theorem dX5_init_9 : decode cX5_init 9 = .ok (.multianewarray 9 2, 4) := by decide +kernel
theorem dX5_init_13 : decode cX5_init 13 = .ok (.putfield 11, 3) := by decide +kernel
theorem dX5_init_16 : decode cX5_init 16 = .ok (.aload_n 0, 1) := by decide +kernel
theorem dX5_init_17 : decode cX5_init 17 = .ok (.bipush 6, 2) := by decide +kernel
theorem dX5_init_19 : decode cX5_init 19 = .ok (.newarray .int, 2) := by decide +kernel
theorem dX5_init_21 : decode cX5_init 21 = .ok (.putfield 14, 3) := by decide +kernel
theorem dX5_init_24 : decode cX5_init 24 = .ok (.aload_n 0, 1) := by decide +kernel
theorem dX5_init_25 : decode cX5_init 25 = .ok (.iconst 4, 1) := by decide +kernel
theorem dX5_init_26 : decode cX5_init 26 = .ok (.bipush 60, 2) := by decide +kernel
theorem dX5_init_28 : decode cX5_init 28 = .ok (.multianewarray 18 2, 4) := by decide +kernel
theorem dX5_init_32 : decode cX5_init 32 = .ok (.putfield 20, 3) := by decide +kernel
theorem dX5_init_35 : decode cX5_init 35 = .ok (.aload_n 0, 1) := by decide +kernel
theorem dX5_init_36 : decode cX5_init 36 = .ok (.iconst 4, 1) := by decide +kernel
theorem dX5_init_37 : decode cX5_init 37 = .ok (.newarray .int, 2) := by decide +kernel
theorem dX5_init_39 : decode cX5_init 39 = .ok (.putfield 23, 3) := by decide +kernel
theorem dX5_init_42 : decode cX5_init 42 = .ok (.aload_n 0, 1) := by decide +kernel
theorem dX5_init_43 : decode cX5_init 43 = .ok (.new 26, 3) := by decide +kernel
theorem dX5_init_46 : decode cX5_init 46 = .ok (.dup, 1) := by decide +kernel
theorem dX5_init_47 : decode cX5_init 47 = .ok (.invokespecial 28, 3) := by decide +kernel
theorem dX5_init_50 : decode cX5_init 50 = .ok (.putfield 29, 3) := by decide +kernel
theorem dX5_init_53 : decode cX5_init 53 = .ok (.aload_n 0, 1) := by decide +kernel
theorem dX5_init_54 : decode cX5_init 54 = .ok (.iconst 3, 1) := by decide +kernel
theorem dX5_init_55 : decode cX5_init 55 = .ok (.anewarray 33, 3) := by decide +kernel
theorem dX5_init_58 : decode cX5_init 58 = .ok (.putfield 35, 3) := by decide +kernel
theorem dX5_init_61 : decode cX5_init 61 = .ok (.aload_n 0, 1) := by decide +kernel
theorem dX5_init_62 : decode cX5_init 62 = .ok (.new 39, 3) := by decide +kernel
theorem dX5_init_65 : decode cX5_init 65 = .ok (.dup, 1) := by decide +kernel
theorem dX5_init_66 : decode cX5_init 66 = .ok (.invokespecial 41, 3) := by decide +kernel
theorem dX5_init_69 : decode cX5_init 69 = .ok (.putfield 42, 3) := by decide +kernel
theorem dX5_init_72 : decode cX5_init 72 = .ok (.aload_n 0, 1) := by decide +kernel
theorem dX5_init_73 : decode cX5_init 73 = .ok (.bipush 6, 2) := by decide +kernel
theorem dX5_init_75 : decode cX5_init 75 = .ok (.newarray .int, 2) := by decide +kernel
theorem dX5_init_77 : decode cX5_init 77 = .ok (.putfield 46, 3) := by decide +kernel
theorem dX5_init_80 : decode cX5_init 80 = .ok (.aload_n 0, 1) := by decide +kernel
theorem dX5_init_81 : decode cX5_init 81 = .ok (.iconst 0, 1) := by decide +kernel
theorem dX5_init_82 : decode cX5_init 82 = .ok (.putfield 49, 3) := by decide +kernel
theorem dX5_init_85 : decode cX5_init 85 = .ok (.aload_n 0, 1) := by decide +kernel
theorem dX5_init_86 : decode cX5_init 86 = .ok (.iconst 0, 1) := by decide +kernel
theorem dX5_init_87 : decode cX5_init 87 = .ok (.putfield 53, 3) := by decide +kernel
theorem dX5_init_90 : decode cX5_init 90 = .ok (.aload_n 0, 1) := by decide +kernel
theorem dX5_init_91 : decode cX5_init 91 = .ok (.lconst 0, 1) := by decide +kernel
theorem dX5_init_92 : decode cX5_init 92 = .ok (.putfield 56, 3) := by decide +kernel
theorem dX5_init_95 : decode cX5_init 95 = .ok (.aload_n 0, 1) := by decide +kernel
theorem dX5_init_96 : decode cX5_init 96 = .ok (.lconst 1, 1) := by decide +kernel
theorem dX5_init_97 : decode cX5_init 97 = .ok (.putfield 60, 3) := by decide +kernel
theorem dX5_init_100 : decode cX5_init 100 = .ok (.iconst 0, 1) := by decide +kernel
theorem dX5_init_101 : decode cX5_init 101 = .ok (.istore_n 1, 1) := by decide +kernel
theorem dX5_init_102 : decode cX5_init 102 = .ok (.iload_n 1, 1) := by decide +kernel
theorem dX5_init_103 : decode cX5_init 103 = .ok (.bipush 6, 2) := by decide +kernel
theorem dX5_init_105 : decode cX5_init 105 = .ok (.if_icmp .ge 16, 3) := by decide +kernel
theorem dX5_init_108 : decode cX5_init 108 = .ok (.aload_n 0, 1) := by decide +kernel
theorem dX5_init_109 : decode cX5_init 109 = .ok (.getfield 14, 3) := by decide +kernel
theorem dX5_init_112 : decode cX5_init 112 = .ok (.iload_n 1, 1) := by decide +kernel
theorem dX5_init_113 : decode cX5_init 113 = .ok (.iconst (-1), 1) := by decide +kernel
theorem dX5_init_114 : decode cX5_init 114 = .ok (.iastore, 1) := by decide +kernel
theorem dX5_init_115 : decode cX5_init 115 = .ok (.iinc 1 1, 3) := by decide +kernel
theorem dX5_init_118 : decode cX5_init 118 = .ok (.goto (-16), 3) := by decide +kernel
theorem dX5_init_121 : decode cX5_init 121 = .ok (.iconst 0, 1) := by decide +kernel
theorem dX5_init_122 : decode cX5_init 122 = .ok (.istore_n 1, 1) := by decide +kernel
theorem dX5_init_123 : decode cX5_init 123 = .ok (.iload_n 1, 1) := by decide +kernel
theorem dX5_init_124 : decode cX5_init 124 = .ok (.iconst 4, 1) := by decide +kernel
theorem dX5_init_125 : decode cX5_init 125 = .ok (.if_icmp .ge 16, 3) := by decide +kernel
theorem dX5_init_128 : decode cX5_init 128 = .ok (.aload_n 0, 1) := by decide +kernel
theorem dX5_init_129 : decode cX5_init 129 = .ok (.getfield 23, 3) := by decide +kernel
theorem dX5_init_132 : decode cX5_init 132 = .ok (.iload_n 1, 1) := by decide +kernel
theorem dX5_init_133 : decode cX5_init 133 = .ok (.iconst (-1), 1) := by decide +kernel
theorem dX5_init_134 : decode cX5_init 134 = .ok (.iastore, 1) := by decide +kernel
theorem dX5_init_135 : decode cX5_init 135 = .ok (.iinc 1 1, 3) := by decide +kernel
theorem dX5_init_138 : decode cX5_init 138 = .ok (.goto (-15), 3) := by decide +kernel
theorem dX5_init_141 : decode cX5_init 141 = .ok (.iconst 0, 1) := by decide +kernel
theorem dX5_init_142 : decode cX5_init 142 = .ok (.istore_n 1, 1) := by decide +kernel
theorem dX5_init_143 : decode cX5_init 143 = .ok (.iload_n 1, 1) := by decide +kernel
theorem dX5_init_144 : decode cX5_init 144 = .ok (.iconst 3, 1) := by decide +kernel
theorem dX5_init_145 : decode cX5_init 145 = .ok (.if_icmp .ge 22, 3) := by decide +kernel
theorem dX5_init_148 : decode cX5_init 148 = .ok (.aload_n 0, 1) := by decide +kernel
theorem dX5_init_149 : decode cX5_init 149 = .ok (.getfield 35, 3) := by decide +kernel
theorem dX5_init_152 : decode cX5_init 152 = .ok (.iload_n 1, 1) := by decide +kernel
theorem dX5_init_153 : decode cX5_init 153 = .ok (.new 33, 3) := by decide +kernel
theorem dX5_init_156 : decode cX5_init 156 = .ok (.dup, 1) := by decide +kernel
theorem dX5_init_157 : decode cX5_init 157 = .ok (.invokespecial 63, 3) := by decide +kernel
theorem dX5_init_160 : decode cX5_init 160 = .ok (.aastore, 1) := by decide +kernel
theorem dX5_init_161 : decode cX5_init 161 = .ok (.iinc 1 1, 3) := by decide +kernel
theorem dX5_init_164 : decode cX5_init 164 = .ok (.goto (-21), 3) := by decide +kernel
theorem dX5_init_167 : decode cX5_init 167 = .ok (.return_, 1) := by decide +kernel
theorem dX5_row_0 : decode cX5_row 0 = .ok (.iload_n 1, 1) := by decide +kernel
theorem dX5_row_1 : decode cX5_row 1 = .ok (.invokestatic 64, 3) := by decide +kernel
theorem dX5_row_4 : decode cX5_row 4 = .ok (.ifCond .eq 9, 3) := by decide +kernel
theorem dX5_row_7 : decode cX5_row 7 = .ok (.iload_n 2, 1) := by decide +kernel
theorem dX5_row_8 : decode cX5_row 8 = .ok (.bipush 40, 2) := by decide +kernel
theorem dX5_row_10 : decode cX5_row 10 = .ok (.if_icmp .le 5, 3) := by decide +kernel
theorem dX5_row_13 : decode cX5_row 13 = .ok (.iconst (-1), 1) := by decide +kernel
theorem dX5_row_14 : decode cX5_row 14 = .ok (.ireturn, 1) := by decide +kernel
theorem dX5_row_15 : decode cX5_row 15 = .ok (.iload_n 2, 1) := by decide +kernel
theorem dX5_row_16 : decode cX5_row 16 = .ok (.ifCond .ge 9, 3) := by decide +kernel
theorem dX5_row_19 : decode cX5_row 19 = .ok (.aload_n 0, 1) := by decide +kernel
theorem dX5_row_20 : decode cX5_row 20 = .ok (.iconst 5, 1) := by decide +kernel
theorem dX5_row_21 : decode cX5_row 21 = .ok (.invokevirtual 68, 3) := by decide +kernel
theorem dX5_row_24 : decode cX5_row 24 = .ok (.ireturn, 1) := by decide +kernel
theorem dX5_row_25 : decode cX5_row 25 = .ok (.aload_n 0, 1) := by decide +kernel
theorem dX5_row_26 : decode cX5_row 26 = .ok (.iload_n 1, 1) := by decide +kernel
theorem dX5_row_27 : decode cX5_row 27 = .ok (.iload_n 2, 1) := by decide +kernel
theorem dX5_row_28 : decode cX5_row 28 = .ok (.invokevirtual 72, 3) := by decide +kernel
theorem dX5_row_31 : decode cX5_row 31 = .ok (.iload_n 2, 1) := by decide +kernel
theorem dX5_row_32 : decode cX5_row 32 = .ok (.ireturn, 1) := by decide +kernel
theorem dX5_lay_0 : decode cX5_lay 0 = .ok (.aload_n 0, 1) := by decide +kernel
theorem dX5_lay_1 : decode cX5_lay 1 = .ok (.iload_n 1, 1) := by decide +kernel
theorem dX5_lay_2 : decode cX5_lay 2 = .ok (.iload_n 2, 1) := by decide +kernel
theorem dX5_lay_3 : decode cX5_lay 3 = .ok (.invokevirtual 76, 3) := by decide +kernel
theorem dX5_lay_6 : decode cX5_lay 6 = .ok (.istore 4, 2) := by decide +kernel
theorem dX5_lay_8 : decode cX5_lay 8 = .ok (.iload 4, 2) := by decide +kernel
theorem dX5_lay_10 : decode cX5_lay 10 = .ok (.ifCond .eq 6, 3) := by decide +kernel
theorem dX5_lay_13 : decode cX5_lay 13 = .ok (.iload 4, 2) := by decide +kernel
theorem dX5_lay_15 : decode cX5_lay 15 = .ok (.ireturn, 1) := by decide +kernel
theorem dX5_lay_16 : decode cX5_lay 16 = .ok (.aload_n 0, 1) := by decide +kernel
theorem dX5_lay_17 : decode cX5_lay 17 = .ok (.aload_n 0, 1) := by decide +kernel
theorem dX5_lay_18 : decode cX5_lay 18 = .ok (.getfield 11, 3) := by decide +kernel
theorem dX5_lay_21 : decode cX5_lay 21 = .ok (.iload_n 1, 1) := by decide +kernel
theorem dX5_lay_22 : decode cX5_lay 22 = .ok (.aaload, 1) := by decide +kernel
theorem dX5_lay_23 : decode cX5_lay 23 = .ok (.iload_n 2, 1) := by decide +kernel
theorem dX5_lay_24 : decode cX5_lay 24 = .ok (.iaload, 1) := by decide +kernel
theorem dX5_lay_25 : decode cX5_lay 25 = .ok (.putfield 53, 3) := by decide +kernel
theorem dX5_lay_28 : decode cX5_lay 28 = .ok (.aload_n 0, 1) := by decide +kernel
theorem dX5_lay_29 : decode cX5_lay 29 = .ok (.getfield 11, 3) := by decide +kernel
theorem dX5_lay_32 : decode cX5_lay 32 = .ok (.iload_n 1, 1) := by decide +kernel
theorem dX5_lay_33 : decode cX5_lay 33 = .ok (.aaload, 1) := by decide +kernel
theorem dX5_lay_34 : decode cX5_lay 34 = .ok (.iload_n 2, 1) := by decide +kernel
theorem dX5_lay_35 : decode cX5_lay 35 = .ok (.iload_n 3, 1) := by decide +kernel
theorem dX5_lay_36 : decode cX5_lay 36 = .ok (.iastore, 1) := by decide +kernel
theorem dX5_lay_37 : decode cX5_lay 37 = .ok (.iconst 1, 1) := by decide +kernel
theorem dX5_lay_38 : decode cX5_lay 38 = .ok (.ireturn, 1) := by decide +kernel
theorem dX5_at_0 : decode cX5_at 0 = .ok (.aload_n 0, 1) := by decide +kernel
theorem dX5_at_1 : decode cX5_at 1 = .ok (.iload_n 1, 1) := by decide +kernel
theorem dX5_at_2 : decode cX5_at 2 = .ok (.iload_n 2, 1) := by decide +kernel
theorem dX5_at_3 : decode cX5_at 3 = .ok (.invokevirtual 76, 3) := by decide +kernel
theorem dX5_at_6 : decode cX5_at 6 = .ok (.istore_n 3, 1) := by decide +kernel
theorem dX5_at_7 : decode cX5_at 7 = .ok (.iload_n 3, 1) := by decide +kernel
theorem dX5_at_8 : decode cX5_at 8 = .ok (.ifCond .eq 5, 3) := by decide +kernel
theorem dX5_at_11 : decode cX5_at 11 = .ok (.iload_n 3, 1) := by decide +kernel
theorem dX5_at_12 : decode cX5_at 12 = .ok (.ireturn, 1) := by decide +kernel
theorem dX5_at_13 : decode cX5_at 13 = .ok (.aload_n 0, 1) := by decide +kernel
theorem dX5_at_14 : decode cX5_at 14 = .ok (.aload_n 0, 1) := by decide +kernel
theorem dX5_at_15 : decode cX5_at 15 = .ok (.getfield 11, 3) := by decide +kernel
theorem dX5_at_18 : decode cX5_at 18 = .ok (.iload_n 1, 1) := by decide +kernel
theorem dX5_at_19 : decode cX5_at 19 = .ok (.aaload, 1) := by decide +kernel
theorem dX5_at_20 : decode cX5_at 20 = .ok (.iload_n 2, 1) := by decide +kernel
theorem dX5_at_21 : decode cX5_at 21 = .ok (.iaload, 1) := by decide +kernel
theorem dX5_at_22 : decode cX5_at 22 = .ok (.putfield 53, 3) := by decide +kernel
theorem dX5_at_25 : decode cX5_at 25 = .ok (.iconst 1, 1) := by decide +kernel
theorem dX5_at_26 : decode cX5_at 26 = .ok (.ireturn, 1) := by decide +kernel
theorem dX5_tear_0 : decode cX5_tear 0 = .ok (.aload_n 0, 1) := by decide +kernel
theorem dX5_tear_1 : decode cX5_tear 1 = .ok (.iload_n 1, 1) := by decide +kernel
theorem dX5_tear_2 : decode cX5_tear 2 = .ok (.invokevirtual 80, 3) := by decide +kernel
theorem dX5_tear_5 : decode cX5_tear 5 = .ok (.istore_n 2, 1) := by decide +kernel
theorem dX5_tear_6 : decode cX5_tear 6 = .ok (.iload_n 2, 1) := by decide +kernel
theorem dX5_tear_7 : decode cX5_tear 7 = .ok (.ifCond .eq 5, 3) := by decide +kernel
theorem dX5_tear_10 : decode cX5_tear 10 = .ok (.iload_n 2, 1) := by decide +kernel
theorem dX5_tear_11 : decode cX5_tear 11 = .ok (.ireturn, 1) := by decide +kernel
theorem dX5_tear_12 : decode cX5_tear 12 = .ok (.aload_n 0, 1) := by decide +kernel
theorem dX5_tear_13 : decode cX5_tear 13 = .ok (.getfield 14, 3) := by decide +kernel
theorem dX5_tear_16 : decode cX5_tear 16 = .ok (.iload_n 1, 1) := by decide +kernel
theorem dX5_tear_17 : decode cX5_tear 17 = .ok (.iconst (-1), 1) := by decide +kernel
theorem dX5_tear_18 : decode cX5_tear 18 = .ok (.iastore, 1) := by decide +kernel
theorem dX5_tear_19 : decode cX5_tear 19 = .ok (.iconst 1, 1) := by decide +kernel
theorem dX5_tear_20 : decode cX5_tear 20 = .ok (.ireturn, 1) := by decide +kernel
theorem dX5_copy_0 : decode cX5_copy 0 = .ok (.iload_n 1, 1) := by decide +kernel
theorem dX5_copy_1 : decode cX5_copy 1 = .ok (.invokestatic 64, 3) := by decide +kernel
theorem dX5_copy_4 : decode cX5_copy 4 = .ok (.ifCond .eq 10, 3) := by decide +kernel
theorem dX5_copy_7 : decode cX5_copy 7 = .ok (.iload_n 3, 1) := by decide +kernel
theorem dX5_copy_8 : decode cX5_copy 8 = .ok (.invokestatic 64, 3) := by decide +kernel
theorem dX5_copy_11 : decode cX5_copy 11 = .ok (.ifCond .ne 5, 3) := by decide +kernel
theorem dX5_copy_14 : decode cX5_copy 14 = .ok (.iconst (-1), 1) := by decide +kernel
theorem dX5_copy_15 : decode cX5_copy 15 = .ok (.ireturn, 1) := by decide +kernel
theorem dX5_copy_16 : decode cX5_copy 16 = .ok (.iload 5, 2) := by decide +kernel
theorem dX5_copy_18 : decode cX5_copy 18 = .ok (.ifCond .ge 9, 3) := by decide +kernel
theorem dX5_copy_21 : decode cX5_copy 21 = .ok (.aload_n 0, 1) := by decide +kernel
theorem dX5_copy_22 : decode cX5_copy 22 = .ok (.iconst 5, 1) := by decide +kernel
theorem dX5_copy_23 : decode cX5_copy 23 = .ok (.invokevirtual 68, 3) := by decide +kernel
theorem dX5_copy_26 : decode cX5_copy 26 = .ok (.ireturn, 1) := by decide +kernel
theorem dX5_copy_27 : decode cX5_copy 27 = .ok (.aload_n 0, 1) := by decide +kernel
theorem dX5_copy_28 : decode cX5_copy 28 = .ok (.getfield 14, 3) := by decide +kernel
theorem dX5_copy_31 : decode cX5_copy 31 = .ok (.iload_n 1, 1) := by decide +kernel
theorem dX5_copy_32 : decode cX5_copy 32 = .ok (.iaload, 1) := by decide +kernel
theorem dX5_copy_33 : decode cX5_copy 33 = .ok (.ifCond .lt 12, 3) := by decide +kernel
theorem dX5_copy_36 : decode cX5_copy 36 = .ok (.aload_n 0, 1) := by decide +kernel
theorem dX5_copy_37 : decode cX5_copy 37 = .ok (.getfield 14, 3) := by decide +kernel
theorem dX5_copy_40 : decode cX5_copy 40 = .ok (.iload_n 3, 1) := by decide +kernel
theorem dX5_copy_41 : decode cX5_copy 41 = .ok (.iaload, 1) := by decide +kernel
theorem dX5_copy_42 : decode cX5_copy 42 = .ok (.ifCond .ge 9, 3) := by decide +kernel
theorem dX5_copy_45 : decode cX5_copy 45 = .ok (.aload_n 0, 1) := by decide +kernel
theorem dX5_copy_46 : decode cX5_copy 46 = .ok (.iconst 1, 1) := by decide +kernel
theorem dX5_copy_47 : decode cX5_copy 47 = .ok (.invokevirtual 68, 3) := by decide +kernel
theorem dX5_copy_50 : decode cX5_copy 50 = .ok (.ireturn, 1) := by decide +kernel
theorem dX5_copy_51 : decode cX5_copy 51 = .ok (.iload_n 2, 1) := by decide +kernel
theorem dX5_copy_52 : decode cX5_copy 52 = .ok (.ifCond .lt 35, 3) := by decide +kernel
theorem dX5_copy_55 : decode cX5_copy 55 = .ok (.iload 4, 2) := by decide +kernel
theorem dX5_copy_57 : decode cX5_copy 57 = .ok (.ifCond .lt 30, 3) := by decide +kernel
theorem dX5_copy_60 : decode cX5_copy 60 = .ok (.iload_n 2, 1) := by decide +kernel
theorem dX5_copy_61 : decode cX5_copy 61 = .ok (.aload_n 0, 1) := by decide +kernel
theorem dX5_copy_62 : decode cX5_copy 62 = .ok (.getfield 14, 3) := by decide +kernel
theorem dX5_copy_65 : decode cX5_copy 65 = .ok (.iload_n 1, 1) := by decide +kernel
theorem dX5_copy_66 : decode cX5_copy 66 = .ok (.iaload, 1) := by decide +kernel
theorem dX5_copy_67 : decode cX5_copy 67 = .ok (.iload 5, 2) := by decide +kernel
theorem dX5_copy_69 : decode cX5_copy 69 = .ok (.isub, 1) := by decide +kernel
theorem dX5_copy_70 : decode cX5_copy 70 = .ok (.if_icmp .gt 17, 3) := by decide +kernel
theorem dX5_copy_73 : decode cX5_copy 73 = .ok (.iload 4, 2) := by decide +kernel
theorem dX5_copy_75 : decode cX5_copy 75 = .ok (.aload_n 0, 1) := by decide +kernel
theorem dX5_copy_76 : decode cX5_copy 76 = .ok (.getfield 14, 3) := by decide +kernel
theorem dX5_copy_79 : decode cX5_copy 79 = .ok (.iload_n 3, 1) := by decide +kernel
theorem dX5_copy_80 : decode cX5_copy 80 = .ok (.iaload, 1) := by decide +kernel
theorem dX5_copy_81 : decode cX5_copy 81 = .ok (.iload 5, 2) := by decide +kernel
theorem dX5_copy_83 : decode cX5_copy 83 = .ok (.isub, 1) := by decide +kernel
theorem dX5_copy_84 : decode cX5_copy 84 = .ok (.if_icmp .le 9, 3) := by decide +kernel
theorem dX5_copy_87 : decode cX5_copy 87 = .ok (.aload_n 0, 1) := by decide +kernel
theorem dX5_copy_88 : decode cX5_copy 88 = .ok (.iconst 2, 1) := by decide +kernel
theorem dX5_copy_89 : decode cX5_copy 89 = .ok (.invokevirtual 68, 3) := by decide +kernel
theorem dX5_copy_92 : decode cX5_copy 92 = .ok (.ireturn, 1) := by decide +kernel
theorem dX5_copy_93 : decode cX5_copy 93 = .ok (.aload_n 0, 1) := by decide +kernel
theorem dX5_copy_94 : decode cX5_copy 94 = .ok (.getfield 11, 3) := by decide +kernel
theorem dX5_copy_97 : decode cX5_copy 97 = .ok (.iload_n 1, 1) := by decide +kernel
theorem dX5_copy_98 : decode cX5_copy 98 = .ok (.aaload, 1) := by decide +kernel
theorem dX5_copy_99 : decode cX5_copy 99 = .ok (.iload_n 2, 1) := by decide +kernel
theorem dX5_copy_100 : decode cX5_copy 100 = .ok (.aload_n 0, 1) := by decide +kernel
theorem dX5_copy_101 : decode cX5_copy 101 = .ok (.getfield 11, 3) := by decide +kernel
theorem dX5_copy_104 : decode cX5_copy 104 = .ok (.iload_n 3, 1) := by decide +kernel
theorem dX5_copy_105 : decode cX5_copy 105 = .ok (.aaload, 1) := by decide +kernel
theorem dX5_copy_106 : decode cX5_copy 106 = .ok (.iload 4, 2) := by decide +kernel
theorem dX5_copy_108 : decode cX5_copy 108 = .ok (.iload 5, 2) := by decide +kernel
theorem dX5_copy_110 : decode cX5_copy 110 = .ok (.invokestatic 83, 3) := by decide +kernel
theorem dX5_copy_113 : decode cX5_copy 113 = .ok (.iconst 1, 1) := by decide +kernel
theorem dX5_copy_114 : decode cX5_copy 114 = .ok (.ireturn, 1) := by decide +kernel
theorem dX5_mean_0 : decode cX5_mean 0 = .ok (.aload_n 0, 1) := by decide +kernel
theorem dX5_mean_1 : decode cX5_mean 1 = .ok (.iload_n 1, 1) := by decide +kernel
theorem dX5_mean_2 : decode cX5_mean 2 = .ok (.invokevirtual 80, 3) := by decide +kernel
theorem dX5_mean_5 : decode cX5_mean 5 = .ok (.istore_n 2, 1) := by decide +kernel
theorem dX5_mean_6 : decode cX5_mean 6 = .ok (.iload_n 2, 1) := by decide +kernel
theorem dX5_mean_7 : decode cX5_mean 7 = .ok (.ifCond .eq 5, 3) := by decide +kernel
theorem dX5_mean_10 : decode cX5_mean 10 = .ok (.iload_n 2, 1) := by decide +kernel
theorem dX5_mean_11 : decode cX5_mean 11 = .ok (.ireturn, 1) := by decide +kernel
theorem dX5_mean_12 : decode cX5_mean 12 = .ok (.aload_n 0, 1) := by decide +kernel
theorem dX5_mean_13 : decode cX5_mean 13 = .ok (.getfield 14, 3) := by decide +kernel
theorem dX5_mean_16 : decode cX5_mean 16 = .ok (.iload_n 1, 1) := by decide +kernel
theorem dX5_mean_17 : decode cX5_mean 17 = .ok (.iaload, 1) := by decide +kernel
theorem dX5_mean_18 : decode cX5_mean 18 = .ok (.ifCond .ne 9, 3) := by decide +kernel
theorem dX5_mean_21 : decode cX5_mean 21 = .ok (.aload_n 0, 1) := by decide +kernel
theorem dX5_mean_22 : decode cX5_mean 22 = .ok (.iconst 4, 1) := by decide +kernel
theorem dX5_mean_23 : decode cX5_mean 23 = .ok (.invokevirtual 68, 3) := by decide +kernel
theorem dX5_mean_26 : decode cX5_mean 26 = .ok (.ireturn, 1) := by decide +kernel
theorem dX5_mean_27 : decode cX5_mean 27 = .ok (.lconst 0, 1) := by decide +kernel
theorem dX5_mean_28 : decode cX5_mean 28 = .ok (.lstore_n 3, 1) := by decide +kernel
theorem dX5_mean_29 : decode cX5_mean 29 = .ok (.iconst 0, 1) := by decide +kernel
theorem dX5_mean_30 : decode cX5_mean 30 = .ok (.istore 5, 2) := by decide +kernel
theorem dX5_mean_32 : decode cX5_mean 32 = .ok (.iload 5, 2) := by decide +kernel
theorem dX5_mean_34 : decode cX5_mean 34 = .ok (.aload_n 0, 1) := by decide +kernel
theorem dX5_mean_35 : decode cX5_mean 35 = .ok (.getfield 14, 3) := by decide +kernel
theorem dX5_mean_38 : decode cX5_mean 38 = .ok (.iload_n 1, 1) := by decide +kernel
theorem dX5_mean_39 : decode cX5_mean 39 = .ok (.iaload, 1) := by decide +kernel
theorem dX5_mean_40 : decode cX5_mean 40 = .ok (.if_icmp .ge 22, 3) := by decide +kernel
theorem dX5_mean_43 : decode cX5_mean 43 = .ok (.lload_n 3, 1) := by decide +kernel
theorem dX5_mean_44 : decode cX5_mean 44 = .ok (.aload_n 0, 1) := by decide +kernel
theorem dX5_mean_45 : decode cX5_mean 45 = .ok (.getfield 11, 3) := by decide +kernel
theorem dX5_mean_48 : decode cX5_mean 48 = .ok (.iload_n 1, 1) := by decide +kernel
theorem dX5_mean_49 : decode cX5_mean 49 = .ok (.aaload, 1) := by decide +kernel
theorem dX5_mean_50 : decode cX5_mean 50 = .ok (.iload 5, 2) := by decide +kernel
theorem dX5_mean_52 : decode cX5_mean 52 = .ok (.iaload, 1) := by decide +kernel
theorem dX5_mean_53 : decode cX5_mean 53 = .ok (.i2l, 1) := by decide +kernel
theorem dX5_mean_54 : decode cX5_mean 54 = .ok (.ladd, 1) := by decide +kernel
theorem dX5_mean_55 : decode cX5_mean 55 = .ok (.lstore_n 3, 1) := by decide +kernel
theorem dX5_mean_56 : decode cX5_mean 56 = .ok (.iinc 5 1, 3) := by decide +kernel
theorem dX5_mean_59 : decode cX5_mean 59 = .ok (.goto (-27), 3) := by decide +kernel
theorem dX5_mean_62 : decode cX5_mean 62 = .ok (.aload_n 0, 1) := by decide +kernel
theorem dX5_mean_63 : decode cX5_mean 63 = .ok (.lload_n 3, 1) := by decide +kernel
theorem dX5_mean_64 : decode cX5_mean 64 = .ok (.aload_n 0, 1) := by decide +kernel
theorem dX5_mean_65 : decode cX5_mean 65 = .ok (.getfield 14, 3) := by decide +kernel
theorem dX5_mean_68 : decode cX5_mean 68 = .ok (.iload_n 1, 1) := by decide +kernel
theorem dX5_mean_69 : decode cX5_mean 69 = .ok (.iaload, 1) := by decide +kernel
theorem dX5_mean_70 : decode cX5_mean 70 = .ok (.i2l, 1) := by decide +kernel
theorem dX5_mean_71 : decode cX5_mean 71 = .ok (.ldiv, 1) := by decide +kernel
theorem dX5_mean_72 : decode cX5_mean 72 = .ok (.l2i, 1) := by decide +kernel
theorem dX5_mean_73 : decode cX5_mean 73 = .ok (.putfield 53, 3) := by decide +kernel
theorem dX5_mean_76 : decode cX5_mean 76 = .ok (.iconst 1, 1) := by decide +kernel
theorem dX5_mean_77 : decode cX5_mean 77 = .ok (.ireturn, 1) := by decide +kernel
theorem dX5_text_0 : decode cX5_text 0 = .ok (.iload_n 1, 1) := by decide +kernel
theorem dX5_text_1 : decode cX5_text 1 = .ok (.invokestatic 89, 3) := by decide +kernel
theorem dX5_text_4 : decode cX5_text 4 = .ok (.ifCond .eq 9, 3) := by decide +kernel
theorem dX5_text_7 : decode cX5_text 7 = .ok (.iload_n 2, 1) := by decide +kernel
theorem dX5_text_8 : decode cX5_text 8 = .ok (.bipush 60, 2) := by decide +kernel
theorem dX5_text_10 : decode cX5_text 10 = .ok (.if_icmp .le 5, 3) := by decide +kernel
theorem dX5_text_13 : decode cX5_text 13 = .ok (.iconst (-1), 1) := by decide +kernel
theorem dX5_text_14 : decode cX5_text 14 = .ok (.ireturn, 1) := by decide +kernel
theorem dX5_text_15 : decode cX5_text 15 = .ok (.iload_n 2, 1) := by decide +kernel
theorem dX5_text_16 : decode cX5_text 16 = .ok (.ifCond .ge 9, 3) := by decide +kernel
theorem dX5_text_19 : decode cX5_text 19 = .ok (.aload_n 0, 1) := by decide +kernel
theorem dX5_text_20 : decode cX5_text 20 = .ok (.iconst 5, 1) := by decide +kernel
theorem dX5_text_21 : decode cX5_text 21 = .ok (.invokevirtual 68, 3) := by decide +kernel
theorem dX5_text_24 : decode cX5_text 24 = .ok (.ireturn, 1) := by decide +kernel
theorem dX5_text_25 : decode cX5_text 25 = .ok (.iconst 0, 1) := by decide +kernel
theorem dX5_text_26 : decode cX5_text 26 = .ok (.istore_n 3, 1) := by decide +kernel
theorem dX5_text_27 : decode cX5_text 27 = .ok (.iload_n 3, 1) := by decide +kernel
theorem dX5_text_28 : decode cX5_text 28 = .ok (.iload_n 2, 1) := by decide +kernel
theorem dX5_text_29 : decode cX5_text 29 = .ok (.if_icmp .ge 19, 3) := by decide +kernel
theorem dX5_text_32 : decode cX5_text 32 = .ok (.aload_n 0, 1) := by decide +kernel
theorem dX5_text_33 : decode cX5_text 33 = .ok (.getfield 20, 3) := by decide +kernel
theorem dX5_text_36 : decode cX5_text 36 = .ok (.iload_n 1, 1) := by decide +kernel
theorem dX5_text_37 : decode cX5_text 37 = .ok (.aaload, 1) := by decide +kernel
theorem dX5_text_38 : decode cX5_text 38 = .ok (.iload_n 3, 1) := by decide +kernel
theorem dX5_text_39 : decode cX5_text 39 = .ok (.bipush 32, 2) := by decide +kernel
theorem dX5_text_41 : decode cX5_text 41 = .ok (.bastore, 1) := by decide +kernel
theorem dX5_text_42 : decode cX5_text 42 = .ok (.iinc 3 1, 3) := by decide +kernel
theorem dX5_text_45 : decode cX5_text 45 = .ok (.goto (-18), 3) := by decide +kernel
theorem dX5_text_48 : decode cX5_text 48 = .ok (.aload_n 0, 1) := by decide +kernel
theorem dX5_text_49 : decode cX5_text 49 = .ok (.getfield 23, 3) := by decide +kernel
theorem dX5_text_52 : decode cX5_text 52 = .ok (.iload_n 1, 1) := by decide +kernel
theorem dX5_text_53 : decode cX5_text 53 = .ok (.iload_n 2, 1) := by decide +kernel
theorem dX5_text_54 : decode cX5_text 54 = .ok (.iastore, 1) := by decide +kernel
theorem dX5_text_55 : decode cX5_text 55 = .ok (.iload_n 2, 1) := by decide +kernel
theorem dX5_text_56 : decode cX5_text 56 = .ok (.ireturn, 1) := by decide +kernel
theorem dX5_put_0 : decode cX5_put 0 = .ok (.aload_n 0, 1) := by decide +kernel
theorem dX5_put_1 : decode cX5_put 1 = .ok (.iload_n 1, 1) := by decide +kernel
theorem dX5_put_2 : decode cX5_put 2 = .ok (.invokevirtual 92, 3) := by decide +kernel
theorem dX5_put_5 : decode cX5_put 5 = .ok (.istore 4, 2) := by decide +kernel
theorem dX5_put_7 : decode cX5_put 7 = .ok (.iload 4, 2) := by decide +kernel
theorem dX5_put_9 : decode cX5_put 9 = .ok (.ifCond .eq 6, 3) := by decide +kernel
theorem dX5_put_12 : decode cX5_put 12 = .ok (.iload 4, 2) := by decide +kernel
theorem dX5_put_14 : decode cX5_put 14 = .ok (.ireturn, 1) := by decide +kernel
theorem dX5_put_15 : decode cX5_put 15 = .ok (.iload_n 2, 1) := by decide +kernel
theorem dX5_put_16 : decode cX5_put 16 = .ok (.ifCond .lt 13, 3) := by decide +kernel
theorem dX5_put_19 : decode cX5_put 19 = .ok (.iload_n 2, 1) := by decide +kernel
theorem dX5_put_20 : decode cX5_put 20 = .ok (.aload_n 0, 1) := by decide +kernel
theorem dX5_put_21 : decode cX5_put 21 = .ok (.getfield 23, 3) := by decide +kernel
theorem dX5_put_24 : decode cX5_put 24 = .ok (.iload_n 1, 1) := by decide +kernel
theorem dX5_put_25 : decode cX5_put 25 = .ok (.iaload, 1) := by decide +kernel
theorem dX5_put_26 : decode cX5_put 26 = .ok (.if_icmp .lt 9, 3) := by decide +kernel
theorem dX5_put_29 : decode cX5_put 29 = .ok (.aload_n 0, 1) := by decide +kernel
theorem dX5_put_30 : decode cX5_put 30 = .ok (.iconst 2, 1) := by decide +kernel
theorem dX5_put_31 : decode cX5_put 31 = .ok (.invokevirtual 68, 3) := by decide +kernel
theorem dX5_put_34 : decode cX5_put 34 = .ok (.ireturn, 1) := by decide +kernel
theorem dX5_put_35 : decode cX5_put 35 = .ok (.aload_n 0, 1) := by decide +kernel
theorem dX5_put_36 : decode cX5_put 36 = .ok (.getfield 20, 3) := by decide +kernel
theorem dX5_put_39 : decode cX5_put 39 = .ok (.iload_n 1, 1) := by decide +kernel
theorem dX5_put_40 : decode cX5_put 40 = .ok (.aaload, 1) := by decide +kernel
theorem dX5_put_41 : decode cX5_put 41 = .ok (.iload_n 2, 1) := by decide +kernel
theorem dX5_put_42 : decode cX5_put 42 = .ok (.baload, 1) := by decide +kernel
theorem dX5_put_43 : decode cX5_put 43 = .ok (.istore 5, 2) := by decide +kernel
theorem dX5_put_45 : decode cX5_put 45 = .ok (.aload_n 0, 1) := by decide +kernel
theorem dX5_put_46 : decode cX5_put 46 = .ok (.getfield 20, 3) := by decide +kernel
theorem dX5_put_49 : decode cX5_put 49 = .ok (.iload_n 1, 1) := by decide +kernel
theorem dX5_put_50 : decode cX5_put 50 = .ok (.aaload, 1) := by decide +kernel
theorem dX5_put_51 : decode cX5_put 51 = .ok (.iload_n 2, 1) := by decide +kernel
theorem dX5_put_52 : decode cX5_put 52 = .ok (.iload_n 3, 1) := by decide +kernel
theorem dX5_put_53 : decode cX5_put 53 = .ok (.i2b, 1) := by decide +kernel
theorem dX5_put_54 : decode cX5_put 54 = .ok (.bastore, 1) := by decide +kernel
theorem dX5_put_55 : decode cX5_put 55 = .ok (.iload 5, 2) := by decide +kernel
theorem dX5_put_57 : decode cX5_put 57 = .ok (.sipush 1000, 3) := by decide +kernel
theorem dX5_put_60 : decode cX5_put 60 = .ok (.iadd, 1) := by decide +kernel
theorem dX5_put_61 : decode cX5_put 61 = .ok (.ireturn, 1) := by decide +kernel
theorem dX5_fault_0 : decode cX5_fault 0 = .ok (.aload_n 0, 1) := by decide +kernel
theorem dX5_fault_1 : decode cX5_fault 1 = .ok (.iload_n 1, 1) := by decide +kernel
theorem dX5_fault_2 : decode cX5_fault 2 = .ok (.invokevirtual 92, 3) := by decide +kernel
theorem dX5_fault_5 : decode cX5_fault 5 = .ok (.istore_n 2, 1) := by decide +kernel
theorem dX5_fault_6 : decode cX5_fault 6 = .ok (.iload_n 2, 1) := by decide +kernel
theorem dX5_fault_7 : decode cX5_fault 7 = .ok (.ifCond .eq 5, 3) := by decide +kernel
theorem dX5_fault_10 : decode cX5_fault 10 = .ok (.iload_n 2, 1) := by decide +kernel
theorem dX5_fault_11 : decode cX5_fault 11 = .ok (.ireturn, 1) := by decide +kernel
theorem dX5_fault_12 : decode cX5_fault 12 = .ok (.aload_n 0, 1) := by decide +kernel
theorem dX5_fault_13 : decode cX5_fault 13 = .ok (.getfield 20, 3) := by decide +kernel
theorem dX5_fault_16 : decode cX5_fault 16 = .ok (.iload_n 1, 1) := by decide +kernel
theorem dX5_fault_17 : decode cX5_fault 17 = .ok (.aaload, 1) := by decide +kernel
theorem dX5_fault_18 : decode cX5_fault 18 = .ok (.aload_n 0, 1) := by decide +kernel
theorem dX5_fault_19 : decode cX5_fault 19 = .ok (.getfield 23, 3) := by decide +kernel
theorem dX5_fault_22 : decode cX5_fault 22 = .ok (.iload_n 1, 1) := by decide +kernel
theorem dX5_fault_23 : decode cX5_fault 23 = .ok (.iaload, 1) := by decide +kernel
theorem dX5_fault_24 : decode cX5_fault 24 = .ok (.invokestatic 95, 3) := by decide +kernel
theorem dX5_fault_27 : decode cX5_fault 27 = .ok (.ireturn, 1) := by decide +kernel
theorem dX5_shop_0 : decode cX5_shop 0 = .ok (.aload_n 0, 1) := by decide +kernel
theorem dX5_shop_1 : decode cX5_shop 1 = .ok (.iload_n 1, 1) := by decide +kernel
theorem dX5_shop_2 : decode cX5_shop 2 = .ok (.invokevirtual 92, 3) := by decide +kernel
theorem dX5_shop_5 : decode cX5_shop 5 = .ok (.istore_n 2, 1) := by decide +kernel
theorem dX5_shop_6 : decode cX5_shop 6 = .ok (.iload_n 2, 1) := by decide +kernel
theorem dX5_shop_7 : decode cX5_shop 7 = .ok (.ifCond .eq 5, 3) := by decide +kernel
theorem dX5_shop_10 : decode cX5_shop 10 = .ok (.iload_n 2, 1) := by decide +kernel
theorem dX5_shop_11 : decode cX5_shop 11 = .ok (.ireturn, 1) := by decide +kernel
theorem dX5_shop_12 : decode cX5_shop 12 = .ok (.aload_n 0, 1) := by decide +kernel
theorem dX5_shop_13 : decode cX5_shop 13 = .ok (.getfield 20, 3) := by decide +kernel
theorem dX5_shop_16 : decode cX5_shop 16 = .ok (.iload_n 1, 1) := by decide +kernel
theorem dX5_shop_17 : decode cX5_shop 17 = .ok (.aaload, 1) := by decide +kernel
theorem dX5_shop_18 : decode cX5_shop 18 = .ok (.aload_n 0, 1) := by decide +kernel
theorem dX5_shop_19 : decode cX5_shop 19 = .ok (.getfield 23, 3) := by decide +kernel
theorem dX5_shop_22 : decode cX5_shop 22 = .ok (.iload_n 1, 1) := by decide +kernel
theorem dX5_shop_23 : decode cX5_shop 23 = .ok (.iaload, 1) := by decide +kernel
theorem dX5_shop_24 : decode cX5_shop 24 = .ok (.invokestatic 95, 3) := by decide +kernel
theorem dX5_shop_27 : decode cX5_shop 27 = .ok (.bipush (-9), 2) := by decide +kernel
theorem dX5_shop_29 : decode cX5_shop 29 = .ok (.if_icmp .eq 6, 3) := by decide +kernel
theorem dX5_shop_32 : decode cX5_shop 32 = .ok (.bipush (-4), 2) := by decide +kernel
theorem dX5_shop_34 : decode cX5_shop 34 = .ok (.ireturn, 1) := by decide +kernel
theorem dX5_shop_35 : decode cX5_shop 35 = .ok (.aload_n 0, 1) := by decide +kernel
theorem dX5_shop_36 : decode cX5_shop 36 = .ok (.getfield 29, 3) := by decide +kernel
theorem dX5_shop_39 : decode cX5_shop 39 = .ok (.aload_n 0, 1) := by decide +kernel
theorem dX5_shop_40 : decode cX5_shop 40 = .ok (.getfield 20, 3) := by decide +kernel
theorem dX5_shop_43 : decode cX5_shop 43 = .ok (.iload_n 1, 1) := by decide +kernel
theorem dX5_shop_44 : decode cX5_shop 44 = .ok (.aaload, 1) := by decide +kernel
theorem dX5_shop_45 : decode cX5_shop 45 = .ok (.aload_n 0, 1) := by decide +kernel
theorem dX5_shop_46 : decode cX5_shop 46 = .ok (.getfield 23, 3) := by decide +kernel
theorem dX5_shop_49 : decode cX5_shop 49 = .ok (.iload_n 1, 1) := by decide +kernel
theorem dX5_shop_50 : decode cX5_shop 50 = .ok (.iaload, 1) := by decide +kernel
theorem dX5_shop_51 : decode cX5_shop 51 = .ok (.invokevirtual 99, 3) := by decide +kernel
theorem dX5_shop_54 : decode cX5_shop 54 = .ok (.iconst 0, 1) := by decide +kernel
theorem dX5_shop_55 : decode cX5_shop 55 = .ok (.istore_n 3, 1) := by decide +kernel
theorem dX5_shop_56 : decode cX5_shop 56 = .ok (.iload_n 3, 1) := by decide +kernel
theorem dX5_shop_57 : decode cX5_shop 57 = .ok (.iconst 3, 1) := by decide +kernel
theorem dX5_shop_58 : decode cX5_shop 58 = .ok (.if_icmp .ge 19, 3) := by decide +kernel
theorem dX5_shop_61 : decode cX5_shop 61 = .ok (.aload_n 0, 1) := by decide +kernel
theorem dX5_shop_62 : decode cX5_shop 62 = .ok (.getfield 35, 3) := by decide +kernel
theorem dX5_shop_65 : decode cX5_shop 65 = .ok (.iload_n 3, 1) := by decide +kernel
theorem dX5_shop_66 : decode cX5_shop 66 = .ok (.aaload, 1) := by decide +kernel
theorem dX5_shop_67 : decode cX5_shop 67 = .ok (.iconst 0, 1) := by decide +kernel
theorem dX5_shop_68 : decode cX5_shop 68 = .ok (.putfield 103, 3) := by decide +kernel
theorem dX5_shop_71 : decode cX5_shop 71 = .ok (.iinc 3 1, 3) := by decide +kernel
theorem dX5_shop_74 : decode cX5_shop 74 = .ok (.goto (-18), 3) := by decide +kernel
theorem dX5_shop_77 : decode cX5_shop 77 = .ok (.aload_n 0, 1) := by decide +kernel
theorem dX5_shop_78 : decode cX5_shop 78 = .ok (.getfield 29, 3) := by decide +kernel
theorem dX5_shop_81 : decode cX5_shop 81 = .ok (.getfield 107, 3) := by decide +kernel
theorem dX5_shop_84 : decode cX5_shop 84 = .ok (.ireturn, 1) := by decide +kernel
theorem dX5_regular_0 : decode cX5_regular 0 = .ok (.aload_n 0, 1) := by decide +kernel
theorem dX5_regular_1 : decode cX5_regular 1 = .ok (.iload_n 1, 1) := by decide +kernel
theorem dX5_regular_2 : decode cX5_regular 2 = .ok (.invokevirtual 110, 3) := by decide +kernel
theorem dX5_regular_5 : decode cX5_regular 5 = .ok (.ifCond .eq 13, 3) := by decide +kernel
theorem dX5_regular_8 : decode cX5_regular 8 = .ok (.iload_n 2, 1) := by decide +kernel
theorem dX5_regular_9 : decode cX5_regular 9 = .ok (.ifCond .lt 9, 3) := by decide +kernel
theorem dX5_regular_12 : decode cX5_regular 12 = .ok (.iload_n 2, 1) := by decide +kernel
theorem dX5_regular_13 : decode cX5_regular 13 = .ok (.bipush 9, 2) := by decide +kernel
theorem dX5_regular_15 : decode cX5_regular 15 = .ok (.if_icmp .lt 5, 3) := by decide +kernel
theorem dX5_regular_18 : decode cX5_regular 18 = .ok (.iconst (-1), 1) := by decide +kernel
theorem dX5_regular_19 : decode cX5_regular 19 = .ok (.ireturn, 1) := by decide +kernel
theorem dX5_regular_20 : decode cX5_regular 20 = .ok (.aload_n 0, 1) := by decide +kernel
theorem dX5_regular_21 : decode cX5_regular 21 = .ok (.aload_n 0, 1) := by decide +kernel
theorem dX5_regular_22 : decode cX5_regular 22 = .ok (.getfield 29, 3) := by decide +kernel
theorem dX5_regular_25 : decode cX5_regular 25 = .ok (.iload_n 1, 1) := by decide +kernel
theorem dX5_regular_26 : decode cX5_regular 26 = .ok (.iload_n 2, 1) := by decide +kernel
theorem dX5_regular_27 : decode cX5_regular 27 = .ok (.invokevirtual 113, 3) := by decide +kernel
theorem dX5_regular_30 : decode cX5_regular 30 = .ok (.putfield 53, 3) := by decide +kernel
theorem dX5_regular_33 : decode cX5_regular 33 = .ok (.iconst 1, 1) := by decide +kernel
theorem dX5_regular_34 : decode cX5_regular 34 = .ok (.ireturn, 1) := by decide +kernel
theorem dX5_mark_0 : decode cX5_mark 0 = .ok (.aload_n 0, 1) := by decide +kernel
theorem dX5_mark_1 : decode cX5_mark 1 = .ok (.iload_n 1, 1) := by decide +kernel
theorem dX5_mark_2 : decode cX5_mark 2 = .ok (.invokevirtual 110, 3) := by decide +kernel
theorem dX5_mark_5 : decode cX5_mark 5 = .ok (.ifCond .eq 13, 3) := by decide +kernel
theorem dX5_mark_8 : decode cX5_mark 8 = .ok (.iload_n 2, 1) := by decide +kernel
theorem dX5_mark_9 : decode cX5_mark 9 = .ok (.ifCond .le 9, 3) := by decide +kernel
theorem dX5_mark_12 : decode cX5_mark 12 = .ok (.iload_n 2, 1) := by decide +kernel
theorem dX5_mark_13 : decode cX5_mark 13 = .ok (.bipush 6, 2) := by decide +kernel
theorem dX5_mark_15 : decode cX5_mark 15 = .ok (.if_icmp .lt 5, 3) := by decide +kernel
theorem dX5_mark_18 : decode cX5_mark 18 = .ok (.iconst (-1), 1) := by decide +kernel
theorem dX5_mark_19 : decode cX5_mark 19 = .ok (.ireturn, 1) := by decide +kernel
theorem dX5_mark_20 : decode cX5_mark 20 = .ok (.aload_n 0, 1) := by decide +kernel
theorem dX5_mark_21 : decode cX5_mark 21 = .ok (.getfield 29, 3) := by decide +kernel
theorem dX5_mark_24 : decode cX5_mark 24 = .ok (.getfield 116, 3) := by decide +kernel
theorem dX5_mark_27 : decode cX5_mark 27 = .ok (.iload_n 1, 1) := by decide +kernel
theorem dX5_mark_28 : decode cX5_mark 28 = .ok (.aaload, 1) := by decide +kernel
theorem dX5_mark_29 : decode cX5_mark 29 = .ok (.astore_n 3, 1) := by decide +kernel
theorem dX5_mark_30 : decode cX5_mark 30 = .ok (.aload_n 3, 1) := by decide +kernel
theorem dX5_mark_31 : decode cX5_mark 31 = .ok (.iload_n 2, 1) := by decide +kernel
theorem dX5_mark_32 : decode cX5_mark 32 = .ok (.invokevirtual 120, 3) := by decide +kernel
theorem dX5_mark_35 : decode cX5_mark 35 = .ok (.ifCond .ne 9, 3) := by decide +kernel
theorem dX5_mark_38 : decode cX5_mark 38 = .ok (.aload_n 0, 1) := by decide +kernel
theorem dX5_mark_39 : decode cX5_mark 39 = .ok (.iconst 3, 1) := by decide +kernel
theorem dX5_mark_40 : decode cX5_mark 40 = .ok (.invokevirtual 68, 3) := by decide +kernel
theorem dX5_mark_43 : decode cX5_mark 43 = .ok (.ireturn, 1) := by decide +kernel
theorem dX5_mark_44 : decode cX5_mark 44 = .ok (.iload_n 2, 1) := by decide +kernel
theorem dX5_mark_45 : decode cX5_mark 45 = .ok (.tableswitch 81 1 4 #[31, 43, 55, 60], 31) := by decide +kernel
theorem dX5_mark_76 : decode cX5_mark 76 = .ok (.aload_n 3, 1) := by decide +kernel
theorem dX5_mark_77 : decode cX5_mark 77 = .ok (.aload_n 0, 1) := by decide +kernel
theorem dX5_mark_78 : decode cX5_mark 78 = .ok (.getfield 29, 3) := by decide +kernel
theorem dX5_mark_81 : decode cX5_mark 81 = .ok (.getfield 125, 3) := by decide +kernel
theorem dX5_mark_84 : decode cX5_mark 84 = .ok (.invokevirtual 128, 3) := by decide +kernel
theorem dX5_mark_87 : decode cX5_mark 87 = .ok (.ireturn, 1) := by decide +kernel
theorem dX5_mark_88 : decode cX5_mark 88 = .ok (.aload_n 3, 1) := by decide +kernel
theorem dX5_mark_89 : decode cX5_mark 89 = .ok (.aload_n 0, 1) := by decide +kernel
theorem dX5_mark_90 : decode cX5_mark 90 = .ok (.getfield 29, 3) := by decide +kernel
theorem dX5_mark_93 : decode cX5_mark 93 = .ok (.getfield 125, 3) := by decide +kernel
theorem dX5_mark_96 : decode cX5_mark 96 = .ok (.invokevirtual 131, 3) := by decide +kernel
theorem dX5_mark_99 : decode cX5_mark 99 = .ok (.ireturn, 1) := by decide +kernel
theorem dX5_mark_100 : decode cX5_mark 100 = .ok (.aload_n 3, 1) := by decide +kernel
theorem dX5_mark_101 : decode cX5_mark 101 = .ok (.invokevirtual 134, 3) := by decide +kernel
theorem dX5_mark_104 : decode cX5_mark 104 = .ok (.ireturn, 1) := by decide +kernel
theorem dX5_mark_105 : decode cX5_mark 105 = .ok (.aload_n 0, 1) := by decide +kernel
theorem dX5_mark_106 : decode cX5_mark 106 = .ok (.getfield 29, 3) := by decide +kernel
theorem dX5_mark_109 : decode cX5_mark 109 = .ok (.aload_n 3, 1) := by decide +kernel
theorem dX5_mark_110 : decode cX5_mark 110 = .ok (.getfield 138, 3) := by decide +kernel
theorem dX5_mark_113 : decode cX5_mark 113 = .ok (.aload_n 3, 1) := by decide +kernel
theorem dX5_mark_114 : decode cX5_mark 114 = .ok (.getfield 141, 3) := by decide +kernel
theorem dX5_mark_117 : decode cX5_mark 117 = .ok (.invokevirtual 144, 3) := by decide +kernel
theorem dX5_mark_120 : decode cX5_mark 120 = .ok (.invokestatic 147, 3) := by decide +kernel
theorem dX5_mark_123 : decode cX5_mark 123 = .ok (.iconst 1, 1) := by decide +kernel
theorem dX5_mark_124 : decode cX5_mark 124 = .ok (.isub, 1) := by decide +kernel
theorem dX5_mark_125 : decode cX5_mark 125 = .ok (.ireturn, 1) := by decide +kernel
theorem dX5_mark_126 : decode cX5_mark 126 = .ok (.aload_n 3, 1) := by decide +kernel
theorem dX5_mark_127 : decode cX5_mark 127 = .ok (.bipush 10, 2) := by decide +kernel
theorem dX5_mark_129 : decode cX5_mark 129 = .ok (.invokevirtual 152, 3) := by decide +kernel
theorem dX5_mark_132 : decode cX5_mark 132 = .ok (.ireturn, 1) := by decide +kernel
theorem dX5_other_0 : decode cX5_other 0 = .ok (.aload_n 0, 1) := by decide +kernel
theorem dX5_other_1 : decode cX5_other 1 = .ok (.iload_n 1, 1) := by decide +kernel
theorem dX5_other_2 : decode cX5_other 2 = .ok (.invokevirtual 110, 3) := by decide +kernel
theorem dX5_other_5 : decode cX5_other 5 = .ok (.ifCond .eq 10, 3) := by decide +kernel
theorem dX5_other_8 : decode cX5_other 8 = .ok (.iload_n 2, 1) := by decide +kernel
theorem dX5_other_9 : decode cX5_other 9 = .ok (.invokestatic 155, 3) := by decide +kernel
theorem dX5_other_12 : decode cX5_other 12 = .ok (.ifCond .ne 5, 3) := by decide +kernel
theorem dX5_other_15 : decode cX5_other 15 = .ok (.iconst (-1), 1) := by decide +kernel
theorem dX5_other_16 : decode cX5_other 16 = .ok (.ireturn, 1) := by decide +kernel
theorem dX5_other_17 : decode cX5_other 17 = .ok (.aload_n 0, 1) := by decide +kernel
theorem dX5_other_18 : decode cX5_other 18 = .ok (.getfield 29, 3) := by decide +kernel
theorem dX5_other_21 : decode cX5_other 21 = .ok (.getfield 158, 3) := by decide +kernel
theorem dX5_other_24 : decode cX5_other 24 = .ok (.getfield 162, 3) := by decide +kernel
theorem dX5_other_27 : decode cX5_other 27 = .ok (.ifCond .le 6, 3) := by decide +kernel
theorem dX5_other_30 : decode cX5_other 30 = .ok (.bipush (-4), 2) := by decide +kernel
theorem dX5_other_32 : decode cX5_other 32 = .ok (.ireturn, 1) := by decide +kernel
theorem dX5_other_33 : decode cX5_other 33 = .ok (.aload_n 0, 1) := by decide +kernel
theorem dX5_other_34 : decode cX5_other 34 = .ok (.getfield 29, 3) := by decide +kernel
theorem dX5_other_37 : decode cX5_other 37 = .ok (.getfield 116, 3) := by decide +kernel
theorem dX5_other_40 : decode cX5_other 40 = .ok (.iload_n 1, 1) := by decide +kernel
theorem dX5_other_41 : decode cX5_other 41 = .ok (.aaload, 1) := by decide +kernel
theorem dX5_other_42 : decode cX5_other 42 = .ok (.getfield 165, 3) := by decide +kernel
theorem dX5_other_45 : decode cX5_other 45 = .ok (.istore_n 3, 1) := by decide +kernel
theorem dX5_other_46 : decode cX5_other 46 = .ok (.aload_n 0, 1) := by decide +kernel
theorem dX5_other_47 : decode cX5_other 47 = .ok (.getfield 29, 3) := by decide +kernel
theorem dX5_other_50 : decode cX5_other 50 = .ok (.getfield 116, 3) := by decide +kernel
theorem dX5_other_53 : decode cX5_other 53 = .ok (.iload_n 1, 1) := by decide +kernel
theorem dX5_other_54 : decode cX5_other 54 = .ok (.aaload, 1) := by decide +kernel
theorem dX5_other_55 : decode cX5_other 55 = .ok (.iload_n 2, 1) := by decide +kernel
theorem dX5_other_56 : decode cX5_other 56 = .ok (.putfield 165, 3) := by decide +kernel
theorem dX5_other_59 : decode cX5_other 59 = .ok (.iload_n 3, 1) := by decide +kernel
theorem dX5_other_60 : decode cX5_other 60 = .ok (.ireturn, 1) := by decide +kernel
theorem dX5_serve_0 : decode cX5_serve 0 = .ok (.aload_n 0, 1) := by decide +kernel
theorem dX5_serve_1 : decode cX5_serve 1 = .ok (.iload_n 1, 1) := by decide +kernel
theorem dX5_serve_2 : decode cX5_serve 2 = .ok (.invokevirtual 110, 3) := by decide +kernel
theorem dX5_serve_5 : decode cX5_serve 5 = .ok (.ifCond .eq 10, 3) := by decide +kernel
theorem dX5_serve_8 : decode cX5_serve 8 = .ok (.iload_n 2, 1) := by decide +kernel
theorem dX5_serve_9 : decode cX5_serve 9 = .ok (.invokestatic 168, 3) := by decide +kernel
theorem dX5_serve_12 : decode cX5_serve 12 = .ok (.ifCond .ne 5, 3) := by decide +kernel
theorem dX5_serve_15 : decode cX5_serve 15 = .ok (.iconst (-1), 1) := by decide +kernel
theorem dX5_serve_16 : decode cX5_serve 16 = .ok (.ireturn, 1) := by decide +kernel
theorem dX5_serve_17 : decode cX5_serve 17 = .ok (.aload_n 0, 1) := by decide +kernel
theorem dX5_serve_18 : decode cX5_serve 18 = .ok (.getfield 29, 3) := by decide +kernel
theorem dX5_serve_21 : decode cX5_serve 21 = .ok (.getfield 171, 3) := by decide +kernel
theorem dX5_serve_24 : decode cX5_serve 24 = .ok (.aload_n 0, 1) := by decide +kernel
theorem dX5_serve_25 : decode cX5_serve 25 = .ok (.getfield 29, 3) := by decide +kernel
theorem dX5_serve_28 : decode cX5_serve 28 = .ok (.getfield 116, 3) := by decide +kernel
theorem dX5_serve_31 : decode cX5_serve 31 = .ok (.iload_n 1, 1) := by decide +kernel
theorem dX5_serve_32 : decode cX5_serve 32 = .ok (.aaload, 1) := by decide +kernel
theorem dX5_serve_33 : decode cX5_serve 33 = .ok (.iload_n 2, 1) := by decide +kernel
theorem dX5_serve_34 : decode cX5_serve 34 = .ok (.aload_n 0, 1) := by decide +kernel
theorem dX5_serve_35 : decode cX5_serve 35 = .ok (.getfield 29, 3) := by decide +kernel
theorem dX5_serve_38 : decode cX5_serve 38 = .ok (.getfield 125, 3) := by decide +kernel
theorem dX5_serve_41 : decode cX5_serve 41 = .ok (.invokevirtual 174, 3) := by decide +kernel
theorem dX5_serve_44 : decode cX5_serve 44 = .ok (.iadd, 1) := by decide +kernel
theorem dX5_serve_45 : decode cX5_serve 45 = .ok (.sipush 9999, 3) := by decide +kernel
theorem dX5_serve_48 : decode cX5_serve 48 = .ok (.if_icmp .le 6, 3) := by decide +kernel
theorem dX5_serve_51 : decode cX5_serve 51 = .ok (.bipush (-4), 2) := by decide +kernel
theorem dX5_serve_53 : decode cX5_serve 53 = .ok (.ireturn, 1) := by decide +kernel
theorem dX5_serve_54 : decode cX5_serve 54 = .ok (.aload_n 0, 1) := by decide +kernel
theorem dX5_serve_55 : decode cX5_serve 55 = .ok (.getfield 29, 3) := by decide +kernel
theorem dX5_serve_58 : decode cX5_serve 58 = .ok (.getfield 158, 3) := by decide +kernel
theorem dX5_serve_61 : decode cX5_serve 61 = .ok (.getfield 162, 3) := by decide +kernel
theorem dX5_serve_64 : decode cX5_serve 64 = .ok (.bipush 60, 2) := by decide +kernel
theorem dX5_serve_66 : decode cX5_serve 66 = .ok (.if_icmp .lt 6, 3) := by decide +kernel
theorem dX5_serve_69 : decode cX5_serve 69 = .ok (.bipush (-2), 2) := by decide +kernel
theorem dX5_serve_71 : decode cX5_serve 71 = .ok (.ireturn, 1) := by decide +kernel
theorem dX5_serve_72 : decode cX5_serve 72 = .ok (.aload_n 0, 1) := by decide +kernel
theorem dX5_serve_73 : decode cX5_serve 73 = .ok (.getfield 29, 3) := by decide +kernel
theorem dX5_serve_76 : decode cX5_serve 76 = .ok (.iload_n 1, 1) := by decide +kernel
theorem dX5_serve_77 : decode cX5_serve 77 = .ok (.iload_n 2, 1) := by decide +kernel
theorem dX5_serve_78 : decode cX5_serve 78 = .ok (.invokevirtual 177, 3) := by decide +kernel
theorem dX5_serve_81 : decode cX5_serve 81 = .ok (.ireturn, 1) := by decide +kernel
theorem dX5_morning_0 : decode cX5_morning 0 = .ok (.aload_n 0, 1) := by decide +kernel
theorem dX5_morning_1 : decode cX5_morning 1 = .ok (.getfield 29, 3) := by decide +kernel
theorem dX5_morning_4 : decode cX5_morning 4 = .ok (.getfield 107, 3) := by decide +kernel
theorem dX5_morning_7 : decode cX5_morning 7 = .ok (.ifCond .ne 6, 3) := by decide +kernel
theorem dX5_morning_10 : decode cX5_morning 10 = .ok (.bipush (-4), 2) := by decide +kernel
theorem dX5_morning_12 : decode cX5_morning 12 = .ok (.ireturn, 1) := by decide +kernel
theorem dX5_morning_13 : decode cX5_morning 13 = .ok (.aload_n 0, 1) := by decide +kernel
theorem dX5_morning_14 : decode cX5_morning 14 = .ok (.getfield 29, 3) := by decide +kernel
theorem dX5_morning_17 : decode cX5_morning 17 = .ok (.getfield 158, 3) := by decide +kernel
theorem dX5_morning_20 : decode cX5_morning 20 = .ok (.getfield 162, 3) := by decide +kernel
theorem dX5_morning_23 : decode cX5_morning 23 = .ok (.bipush 60, 2) := by decide +kernel
theorem dX5_morning_25 : decode cX5_morning 25 = .ok (.if_icmp .lt 6, 3) := by decide +kernel
theorem dX5_morning_28 : decode cX5_morning 28 = .ok (.bipush (-2), 2) := by decide +kernel
theorem dX5_morning_30 : decode cX5_morning 30 = .ok (.ireturn, 1) := by decide +kernel
theorem dX5_morning_31 : decode cX5_morning 31 = .ok (.aload_n 0, 1) := by decide +kernel
theorem dX5_morning_32 : decode cX5_morning 32 = .ok (.getfield 29, 3) := by decide +kernel
theorem dX5_morning_35 : decode cX5_morning 35 = .ok (.invokevirtual 180, 3) := by decide +kernel
theorem dX5_morning_38 : decode cX5_morning 38 = .ok (.aload_n 0, 1) := by decide +kernel
theorem dX5_morning_39 : decode cX5_morning 39 = .ok (.getfield 29, 3) := by decide +kernel
theorem dX5_morning_42 : decode cX5_morning 42 = .ok (.getfield 125, 3) := by decide +kernel
theorem dX5_morning_45 : decode cX5_morning 45 = .ok (.ireturn, 1) := by decide +kernel
theorem dX5_undo_0 : decode cX5_undo 0 = .ok (.iload_n 1, 1) := by decide +kernel
theorem dX5_undo_1 : decode cX5_undo 1 = .ok (.ifCond .lt 17, 3) := by decide +kernel
theorem dX5_undo_4 : decode cX5_undo 4 = .ok (.iload_n 1, 1) := by decide +kernel
theorem dX5_undo_5 : decode cX5_undo 5 = .ok (.aload_n 0, 1) := by decide +kernel
theorem dX5_undo_6 : decode cX5_undo 6 = .ok (.getfield 29, 3) := by decide +kernel
theorem dX5_undo_9 : decode cX5_undo 9 = .ok (.getfield 158, 3) := by decide +kernel
theorem dX5_undo_12 : decode cX5_undo 12 = .ok (.getfield 162, 3) := by decide +kernel
theorem dX5_undo_15 : decode cX5_undo 15 = .ok (.if_icmp .le 5, 3) := by decide +kernel
theorem dX5_undo_18 : decode cX5_undo 18 = .ok (.iconst (-1), 1) := by decide +kernel
theorem dX5_undo_19 : decode cX5_undo 19 = .ok (.ireturn, 1) := by decide +kernel
theorem dX5_undo_20 : decode cX5_undo 20 = .ok (.aload_n 0, 1) := by decide +kernel
theorem dX5_undo_21 : decode cX5_undo 21 = .ok (.getfield 29, 3) := by decide +kernel
theorem dX5_undo_24 : decode cX5_undo 24 = .ok (.getfield 158, 3) := by decide +kernel
theorem dX5_undo_27 : decode cX5_undo 27 = .ok (.getfield 162, 3) := by decide +kernel
theorem dX5_undo_30 : decode cX5_undo 30 = .ok (.iload_n 1, 1) := by decide +kernel
theorem dX5_undo_31 : decode cX5_undo 31 = .ok (.isub, 1) := by decide +kernel
theorem dX5_undo_32 : decode cX5_undo 32 = .ok (.istore_n 2, 1) := by decide +kernel
theorem dX5_undo_33 : decode cX5_undo 33 = .ok (.aload_n 0, 1) := by decide +kernel
theorem dX5_undo_34 : decode cX5_undo 34 = .ok (.getfield 29, 3) := by decide +kernel
theorem dX5_undo_37 : decode cX5_undo 37 = .ok (.iload_n 1, 1) := by decide +kernel
theorem dX5_undo_38 : decode cX5_undo 38 = .ok (.invokevirtual 183, 3) := by decide +kernel
theorem dX5_undo_41 : decode cX5_undo 41 = .ok (.iload_n 2, 1) := by decide +kernel
theorem dX5_undo_42 : decode cX5_undo 42 = .ok (.ireturn, 1) := by decide +kernel
theorem dX5_keep_0 : decode cX5_keep 0 = .ok (.iload_n 1, 1) := by decide +kernel
theorem dX5_keep_1 : decode cX5_keep 1 = .ok (.invokestatic 187, 3) := by decide +kernel
theorem dX5_keep_4 : decode cX5_keep 4 = .ok (.ifCond .ne 5, 3) := by decide +kernel
theorem dX5_keep_7 : decode cX5_keep 7 = .ok (.iconst (-1), 1) := by decide +kernel
theorem dX5_keep_8 : decode cX5_keep 8 = .ok (.ireturn, 1) := by decide +kernel
theorem dX5_keep_9 : decode cX5_keep 9 = .ok (.aload_n 0, 1) := by decide +kernel
theorem dX5_keep_10 : decode cX5_keep 10 = .ok (.getfield 29, 3) := by decide +kernel
theorem dX5_keep_13 : decode cX5_keep 13 = .ok (.getfield 107, 3) := by decide +kernel
theorem dX5_keep_16 : decode cX5_keep 16 = .ok (.ifCond .ne 6, 3) := by decide +kernel
theorem dX5_keep_19 : decode cX5_keep 19 = .ok (.bipush (-4), 2) := by decide +kernel
theorem dX5_keep_21 : decode cX5_keep 21 = .ok (.ireturn, 1) := by decide +kernel
theorem dX5_keep_22 : decode cX5_keep 22 = .ok (.aload_n 0, 1) := by decide +kernel
theorem dX5_keep_23 : decode cX5_keep 23 = .ok (.getfield 35, 3) := by decide +kernel
theorem dX5_keep_26 : decode cX5_keep 26 = .ok (.iload_n 1, 1) := by decide +kernel
theorem dX5_keep_27 : decode cX5_keep 27 = .ok (.aaload, 1) := by decide +kernel
theorem dX5_keep_28 : decode cX5_keep 28 = .ok (.aload_n 0, 1) := by decide +kernel
theorem dX5_keep_29 : decode cX5_keep 29 = .ok (.getfield 29, 3) := by decide +kernel
theorem dX5_keep_32 : decode cX5_keep 32 = .ok (.invokevirtual 190, 3) := by decide +kernel
theorem dX5_keep_35 : decode cX5_keep 35 = .ok (.aload_n 0, 1) := by decide +kernel
theorem dX5_keep_36 : decode cX5_keep 36 = .ok (.getfield 29, 3) := by decide +kernel
theorem dX5_keep_39 : decode cX5_keep 39 = .ok (.getfield 158, 3) := by decide +kernel
theorem dX5_keep_42 : decode cX5_keep 42 = .ok (.getfield 162, 3) := by decide +kernel
theorem dX5_keep_45 : decode cX5_keep 45 = .ok (.ireturn, 1) := by decide +kernel
theorem dX5_on_0 : decode cX5_on 0 = .ok (.iload_n 1, 1) := by decide +kernel
theorem dX5_on_1 : decode cX5_on 1 = .ok (.invokestatic 187, 3) := by decide +kernel
theorem dX5_on_4 : decode cX5_on 4 = .ok (.ifCond .ne 5, 3) := by decide +kernel
theorem dX5_on_7 : decode cX5_on 7 = .ok (.iconst (-1), 1) := by decide +kernel
theorem dX5_on_8 : decode cX5_on 8 = .ok (.ireturn, 1) := by decide +kernel
theorem dX5_on_9 : decode cX5_on 9 = .ok (.aload_n 0, 1) := by decide +kernel
theorem dX5_on_10 : decode cX5_on 10 = .ok (.getfield 35, 3) := by decide +kernel
theorem dX5_on_13 : decode cX5_on 13 = .ok (.iload_n 1, 1) := by decide +kernel
theorem dX5_on_14 : decode cX5_on 14 = .ok (.aaload, 1) := by decide +kernel
theorem dX5_on_15 : decode cX5_on 15 = .ok (.getfield 103, 3) := by decide +kernel
theorem dX5_on_18 : decode cX5_on 18 = .ok (.ifCond .ne 9, 3) := by decide +kernel
theorem dX5_on_21 : decode cX5_on 21 = .ok (.aload_n 0, 1) := by decide +kernel
theorem dX5_on_22 : decode cX5_on 22 = .ok (.iconst 1, 1) := by decide +kernel
theorem dX5_on_23 : decode cX5_on 23 = .ok (.invokevirtual 68, 3) := by decide +kernel
theorem dX5_on_26 : decode cX5_on 26 = .ok (.ireturn, 1) := by decide +kernel
theorem dX5_on_27 : decode cX5_on 27 = .ok (.aload_n 0, 1) := by decide +kernel
theorem dX5_on_28 : decode cX5_on 28 = .ok (.getfield 35, 3) := by decide +kernel
theorem dX5_on_31 : decode cX5_on 31 = .ok (.iload_n 1, 1) := by decide +kernel
theorem dX5_on_32 : decode cX5_on 32 = .ok (.aaload, 1) := by decide +kernel
theorem dX5_on_33 : decode cX5_on 33 = .ok (.aload_n 0, 1) := by decide +kernel
theorem dX5_on_34 : decode cX5_on 34 = .ok (.getfield 29, 3) := by decide +kernel
theorem dX5_on_37 : decode cX5_on 37 = .ok (.invokevirtual 194, 3) := by decide +kernel
theorem dX5_on_40 : decode cX5_on 40 = .ok (.aload_n 0, 1) := by decide +kernel
theorem dX5_on_41 : decode cX5_on 41 = .ok (.getfield 29, 3) := by decide +kernel
theorem dX5_on_44 : decode cX5_on 44 = .ok (.getfield 158, 3) := by decide +kernel
theorem dX5_on_47 : decode cX5_on 47 = .ok (.getfield 162, 3) := by decide +kernel
theorem dX5_on_50 : decode cX5_on 50 = .ok (.ireturn, 1) := by decide +kernel
theorem dX5_who_0 : decode cX5_who 0 = .ok (.iload_n 1, 1) := by decide +kernel
theorem dX5_who_1 : decode cX5_who 1 = .ok (.invokestatic 197, 3) := by decide +kernel
theorem dX5_who_4 : decode cX5_who 4 = .ok (.ifCond .eq 10, 3) := by decide +kernel
theorem dX5_who_7 : decode cX5_who 7 = .ok (.iload_n 2, 1) := by decide +kernel
theorem dX5_who_8 : decode cX5_who 8 = .ok (.invokestatic 197, 3) := by decide +kernel
theorem dX5_who_11 : decode cX5_who 11 = .ok (.ifCond .ne 5, 3) := by decide +kernel
theorem dX5_who_14 : decode cX5_who 14 = .ok (.iconst (-1), 1) := by decide +kernel
theorem dX5_who_15 : decode cX5_who 15 = .ok (.ireturn, 1) := by decide +kernel
theorem dX5_who_16 : decode cX5_who 16 = .ok (.aload_n 0, 1) := by decide +kernel
theorem dX5_who_17 : decode cX5_who 17 = .ok (.getfield 29, 3) := by decide +kernel
theorem dX5_who_20 : decode cX5_who 20 = .ok (.iload_n 1, 1) := by decide +kernel
theorem dX5_who_21 : decode cX5_who 21 = .ok (.iload_n 2, 1) := by decide +kernel
theorem dX5_who_22 : decode cX5_who 22 = .ok (.invokevirtual 144, 3) := by decide +kernel
theorem dX5_who_25 : decode cX5_who 25 = .ok (.ireturn, 1) := by decide +kernel
theorem dX5_parts_0 : decode cX5_parts 0 = .ok (.aload_n 0, 1) := by decide +kernel
theorem dX5_parts_1 : decode cX5_parts 1 = .ok (.iload_n 1, 1) := by decide +kernel
theorem dX5_parts_2 : decode cX5_parts 2 = .ok (.iload_n 2, 1) := by decide +kernel
theorem dX5_parts_3 : decode cX5_parts 3 = .ok (.invokevirtual 200, 3) := by decide +kernel
theorem dX5_parts_6 : decode cX5_parts 6 = .ok (.ifCond .ne 5, 3) := by decide +kernel
theorem dX5_parts_9 : decode cX5_parts 9 = .ok (.iconst (-1), 1) := by decide +kernel
theorem dX5_parts_10 : decode cX5_parts 10 = .ok (.ireturn, 1) := by decide +kernel
theorem dX5_parts_11 : decode cX5_parts 11 = .ok (.aload_n 0, 1) := by decide +kernel
theorem dX5_parts_12 : decode cX5_parts 12 = .ok (.getfield 29, 3) := by decide +kernel
theorem dX5_parts_15 : decode cX5_parts 15 = .ok (.getfield 116, 3) := by decide +kernel
theorem dX5_parts_18 : decode cX5_parts 18 = .ok (.iload_n 1, 1) := by decide +kernel
theorem dX5_parts_19 : decode cX5_parts 19 = .ok (.aaload, 1) := by decide +kernel
theorem dX5_parts_20 : decode cX5_parts 20 = .ok (.getfield 138, 3) := by decide +kernel
theorem dX5_parts_23 : decode cX5_parts 23 = .ok (.aload_n 0, 1) := by decide +kernel
theorem dX5_parts_24 : decode cX5_parts 24 = .ok (.getfield 29, 3) := by decide +kernel
theorem dX5_parts_27 : decode cX5_parts 27 = .ok (.getfield 116, 3) := by decide +kernel
theorem dX5_parts_30 : decode cX5_parts 30 = .ok (.iload_n 2, 1) := by decide +kernel
theorem dX5_parts_31 : decode cX5_parts 31 = .ok (.aaload, 1) := by decide +kernel
theorem dX5_parts_32 : decode cX5_parts 32 = .ok (.getfield 138, 3) := by decide +kernel
theorem dX5_parts_35 : decode cX5_parts 35 = .ok (.if_icmp .eq 7, 3) := by decide +kernel
theorem dX5_parts_38 : decode cX5_parts 38 = .ok (.iconst 1, 1) := by decide +kernel
theorem dX5_parts_39 : decode cX5_parts 39 = .ok (.goto 4, 3) := by decide +kernel
theorem dX5_parts_42 : decode cX5_parts 42 = .ok (.iconst 0, 1) := by decide +kernel
theorem dX5_parts_43 : decode cX5_parts 43 = .ok (.istore_n 3, 1) := by decide +kernel
theorem dX5_parts_44 : decode cX5_parts 44 = .ok (.aload_n 0, 1) := by decide +kernel
theorem dX5_parts_45 : decode cX5_parts 45 = .ok (.getfield 29, 3) := by decide +kernel
theorem dX5_parts_48 : decode cX5_parts 48 = .ok (.getfield 116, 3) := by decide +kernel
theorem dX5_parts_51 : decode cX5_parts 51 = .ok (.iload_n 1, 1) := by decide +kernel
theorem dX5_parts_52 : decode cX5_parts 52 = .ok (.aaload, 1) := by decide +kernel
theorem dX5_parts_53 : decode cX5_parts 53 = .ok (.getfield 141, 3) := by decide +kernel
theorem dX5_parts_56 : decode cX5_parts 56 = .ok (.aload_n 0, 1) := by decide +kernel
theorem dX5_parts_57 : decode cX5_parts 57 = .ok (.getfield 29, 3) := by decide +kernel
theorem dX5_parts_60 : decode cX5_parts 60 = .ok (.getfield 116, 3) := by decide +kernel
theorem dX5_parts_63 : decode cX5_parts 63 = .ok (.iload_n 2, 1) := by decide +kernel
theorem dX5_parts_64 : decode cX5_parts 64 = .ok (.aaload, 1) := by decide +kernel
theorem dX5_parts_65 : decode cX5_parts 65 = .ok (.getfield 141, 3) := by decide +kernel
theorem dX5_parts_68 : decode cX5_parts 68 = .ok (.if_icmp .eq 7, 3) := by decide +kernel
theorem dX5_parts_71 : decode cX5_parts 71 = .ok (.iconst 2, 1) := by decide +kernel
theorem dX5_parts_72 : decode cX5_parts 72 = .ok (.goto 4, 3) := by decide +kernel
theorem dX5_parts_75 : decode cX5_parts 75 = .ok (.iconst 0, 1) := by decide +kernel
theorem dX5_parts_76 : decode cX5_parts 76 = .ok (.istore 4, 2) := by decide +kernel
theorem dX5_parts_78 : decode cX5_parts 78 = .ok (.iload_n 3, 1) := by decide +kernel
theorem dX5_parts_79 : decode cX5_parts 79 = .ok (.iload 4, 2) := by decide +kernel
theorem dX5_parts_81 : decode cX5_parts 81 = .ok (.iadd, 1) := by decide +kernel
theorem dX5_parts_82 : decode cX5_parts 82 = .ok (.ireturn, 1) := by decide +kernel
theorem dX5_wants_0 : decode cX5_wants 0 = .ok (.aload_n 0, 1) := by decide +kernel
theorem dX5_wants_1 : decode cX5_wants 1 = .ok (.iload_n 1, 1) := by decide +kernel
theorem dX5_wants_2 : decode cX5_wants 2 = .ok (.invokevirtual 110, 3) := by decide +kernel
theorem dX5_wants_5 : decode cX5_wants 5 = .ok (.ifCond .eq 10, 3) := by decide +kernel
theorem dX5_wants_8 : decode cX5_wants 8 = .ok (.iload_n 2, 1) := by decide +kernel
theorem dX5_wants_9 : decode cX5_wants 9 = .ok (.invokestatic 204, 3) := by decide +kernel
theorem dX5_wants_12 : decode cX5_wants 12 = .ok (.ifCond .ne 5, 3) := by decide +kernel
theorem dX5_wants_15 : decode cX5_wants 15 = .ok (.iconst (-1), 1) := by decide +kernel
theorem dX5_wants_16 : decode cX5_wants 16 = .ok (.ireturn, 1) := by decide +kernel
theorem dX5_wants_17 : decode cX5_wants 17 = .ok (.aload_n 0, 1) := by decide +kernel
theorem dX5_wants_18 : decode cX5_wants 18 = .ok (.getfield 29, 3) := by decide +kernel
theorem dX5_wants_21 : decode cX5_wants 21 = .ok (.getfield 116, 3) := by decide +kernel
theorem dX5_wants_24 : decode cX5_wants 24 = .ok (.iload_n 1, 1) := by decide +kernel
theorem dX5_wants_25 : decode cX5_wants 25 = .ok (.aaload, 1) := by decide +kernel
theorem dX5_wants_26 : decode cX5_wants 26 = .ok (.iload_n 2, 1) := by decide +kernel
theorem dX5_wants_27 : decode cX5_wants 27 = .ok (.invokevirtual 207, 3) := by decide +kernel
theorem dX5_wants_30 : decode cX5_wants 30 = .ok (.ireturn, 1) := by decide +kernel
theorem dX5_likely_0 : decode cX5_likely 0 = .ok (.iload_n 1, 1) := by decide +kernel
theorem dX5_likely_1 : decode cX5_likely 1 = .ok (.invokestatic 197, 3) := by decide +kernel
theorem dX5_likely_4 : decode cX5_likely 4 = .ok (.ifCond .eq 17, 3) := by decide +kernel
theorem dX5_likely_7 : decode cX5_likely 7 = .ok (.iload_n 2, 1) := by decide +kernel
theorem dX5_likely_8 : decode cX5_likely 8 = .ok (.invokestatic 197, 3) := by decide +kernel
theorem dX5_likely_11 : decode cX5_likely 11 = .ok (.ifCond .eq 10, 3) := by decide +kernel
theorem dX5_likely_14 : decode cX5_likely 14 = .ok (.iload_n 3, 1) := by decide +kernel
theorem dX5_likely_15 : decode cX5_likely 15 = .ok (.invokestatic 155, 3) := by decide +kernel
theorem dX5_likely_18 : decode cX5_likely 18 = .ok (.ifCond .ne 5, 3) := by decide +kernel
theorem dX5_likely_21 : decode cX5_likely 21 = .ok (.iconst (-1), 1) := by decide +kernel
theorem dX5_likely_22 : decode cX5_likely 22 = .ok (.ireturn, 1) := by decide +kernel
theorem dX5_likely_23 : decode cX5_likely 23 = .ok (.aload_n 0, 1) := by decide +kernel
theorem dX5_likely_24 : decode cX5_likely 24 = .ok (.getfield 29, 3) := by decide +kernel
theorem dX5_likely_27 : decode cX5_likely 27 = .ok (.iload_n 1, 1) := by decide +kernel
theorem dX5_likely_28 : decode cX5_likely 28 = .ok (.iload_n 2, 1) := by decide +kernel
theorem dX5_likely_29 : decode cX5_likely 29 = .ok (.invokevirtual 144, 3) := by decide +kernel
theorem dX5_likely_32 : decode cX5_likely 32 = .ok (.istore 4, 2) := by decide +kernel
theorem dX5_likely_34 : decode cX5_likely 34 = .ok (.iload 4, 2) := by decide +kernel
theorem dX5_likely_36 : decode cX5_likely 36 = .ok (.ifCond .ne 9, 3) := by decide +kernel
theorem dX5_likely_39 : decode cX5_likely 39 = .ok (.aload_n 0, 1) := by decide +kernel
theorem dX5_likely_40 : decode cX5_likely 40 = .ok (.iconst 4, 1) := by decide +kernel
theorem dX5_likely_41 : decode cX5_likely 41 = .ok (.invokevirtual 68, 3) := by decide +kernel
theorem dX5_likely_44 : decode cX5_likely 44 = .ok (.ireturn, 1) := by decide +kernel
theorem dX5_likely_45 : decode cX5_likely 45 = .ok (.aload_n 0, 1) := by decide +kernel
theorem dX5_likely_46 : decode cX5_likely 46 = .ok (.aload_n 0, 1) := by decide +kernel
theorem dX5_likely_47 : decode cX5_likely 47 = .ok (.getfield 29, 3) := by decide +kernel
theorem dX5_likely_50 : decode cX5_likely 50 = .ok (.iload 4, 2) := by decide +kernel
theorem dX5_likely_52 : decode cX5_likely 52 = .ok (.iload_n 3, 1) := by decide +kernel
theorem dX5_likely_53 : decode cX5_likely 53 = .ok (.invokevirtual 210, 3) := by decide +kernel
theorem dX5_likely_56 : decode cX5_likely 56 = .ok (.i2l, 1) := by decide +kernel
theorem dX5_likely_57 : decode cX5_likely 57 = .ok (.aload_n 0, 1) := by decide +kernel
theorem dX5_likely_58 : decode cX5_likely 58 = .ok (.getfield 29, 3) := by decide +kernel
theorem dX5_likely_61 : decode cX5_likely 61 = .ok (.iload 4, 2) := by decide +kernel
theorem dX5_likely_63 : decode cX5_likely 63 = .ok (.invokevirtual 213, 3) := by decide +kernel
theorem dX5_likely_66 : decode cX5_likely 66 = .ok (.i2l, 1) := by decide +kernel
theorem dX5_likely_67 : decode cX5_likely 67 = .ok (.invokevirtual 216, 3) := by decide +kernel
theorem dX5_likely_70 : decode cX5_likely 70 = .ok (.iconst 1, 1) := by decide +kernel
theorem dX5_likely_71 : decode cX5_likely 71 = .ok (.ireturn, 1) := by decide +kernel
theorem dX5_takes_0 : decode cX5_takes 0 = .ok (.iload_n 1, 1) := by decide +kernel
theorem dX5_takes_1 : decode cX5_takes 1 = .ok (.invokestatic 197, 3) := by decide +kernel
theorem dX5_takes_4 : decode cX5_takes 4 = .ok (.ifCond .eq 17, 3) := by decide +kernel
theorem dX5_takes_7 : decode cX5_takes 7 = .ok (.iload_n 2, 1) := by decide +kernel
theorem dX5_takes_8 : decode cX5_takes 8 = .ok (.invokestatic 197, 3) := by decide +kernel
theorem dX5_takes_11 : decode cX5_takes 11 = .ok (.ifCond .eq 10, 3) := by decide +kernel
theorem dX5_takes_14 : decode cX5_takes 14 = .ok (.iload_n 3, 1) := by decide +kernel
theorem dX5_takes_15 : decode cX5_takes 15 = .ok (.invokestatic 168, 3) := by decide +kernel
theorem dX5_takes_18 : decode cX5_takes 18 = .ok (.ifCond .ne 5, 3) := by decide +kernel
theorem dX5_takes_21 : decode cX5_takes 21 = .ok (.iconst (-1), 1) := by decide +kernel
theorem dX5_takes_22 : decode cX5_takes 22 = .ok (.ireturn, 1) := by decide +kernel
theorem dX5_takes_23 : decode cX5_takes 23 = .ok (.aload_n 0, 1) := by decide +kernel
theorem dX5_takes_24 : decode cX5_takes 24 = .ok (.getfield 29, 3) := by decide +kernel
theorem dX5_takes_27 : decode cX5_takes 27 = .ok (.iload_n 1, 1) := by decide +kernel
theorem dX5_takes_28 : decode cX5_takes 28 = .ok (.iload_n 2, 1) := by decide +kernel
theorem dX5_takes_29 : decode cX5_takes 29 = .ok (.invokevirtual 144, 3) := by decide +kernel
theorem dX5_takes_32 : decode cX5_takes 32 = .ok (.istore 4, 2) := by decide +kernel
theorem dX5_takes_34 : decode cX5_takes 34 = .ok (.iload 4, 2) := by decide +kernel
theorem dX5_takes_36 : decode cX5_takes 36 = .ok (.ifCond .ne 9, 3) := by decide +kernel
theorem dX5_takes_39 : decode cX5_takes 39 = .ok (.aload_n 0, 1) := by decide +kernel
theorem dX5_takes_40 : decode cX5_takes 40 = .ok (.iconst 4, 1) := by decide +kernel
theorem dX5_takes_41 : decode cX5_takes 41 = .ok (.invokevirtual 68, 3) := by decide +kernel
theorem dX5_takes_44 : decode cX5_takes 44 = .ok (.ireturn, 1) := by decide +kernel
theorem dX5_takes_45 : decode cX5_takes 45 = .ok (.aload_n 0, 1) := by decide +kernel
theorem dX5_takes_46 : decode cX5_takes 46 = .ok (.aload_n 0, 1) := by decide +kernel
theorem dX5_takes_47 : decode cX5_takes 47 = .ok (.getfield 29, 3) := by decide +kernel
theorem dX5_takes_50 : decode cX5_takes 50 = .ok (.iload 4, 2) := by decide +kernel
theorem dX5_takes_52 : decode cX5_takes 52 = .ok (.iload_n 3, 1) := by decide +kernel
theorem dX5_takes_53 : decode cX5_takes 53 = .ok (.invokevirtual 220, 3) := by decide +kernel
theorem dX5_takes_56 : decode cX5_takes 56 = .ok (.i2l, 1) := by decide +kernel
theorem dX5_takes_57 : decode cX5_takes 57 = .ok (.aload_n 0, 1) := by decide +kernel
theorem dX5_takes_58 : decode cX5_takes 58 = .ok (.getfield 29, 3) := by decide +kernel
theorem dX5_takes_61 : decode cX5_takes 61 = .ok (.iload 4, 2) := by decide +kernel
theorem dX5_takes_63 : decode cX5_takes 63 = .ok (.invokevirtual 213, 3) := by decide +kernel
theorem dX5_takes_66 : decode cX5_takes 66 = .ok (.i2l, 1) := by decide +kernel
theorem dX5_takes_67 : decode cX5_takes 67 = .ok (.invokevirtual 216, 3) := by decide +kernel
theorem dX5_takes_70 : decode cX5_takes 70 = .ok (.iconst 1, 1) := by decide +kernel
theorem dX5_takes_71 : decode cX5_takes 71 = .ok (.ireturn, 1) := by decide +kernel
theorem dX5_quickest_0 : decode cX5_quickest 0 = .ok (.iload_n 1, 1) := by decide +kernel
theorem dX5_quickest_1 : decode cX5_quickest 1 = .ok (.invokestatic 197, 3) := by decide +kernel
theorem dX5_quickest_4 : decode cX5_quickest 4 = .ok (.ifCond .eq 10, 3) := by decide +kernel
theorem dX5_quickest_7 : decode cX5_quickest 7 = .ok (.iload_n 2, 1) := by decide +kernel
theorem dX5_quickest_8 : decode cX5_quickest 8 = .ok (.invokestatic 197, 3) := by decide +kernel
theorem dX5_quickest_11 : decode cX5_quickest 11 = .ok (.ifCond .ne 5, 3) := by decide +kernel
theorem dX5_quickest_14 : decode cX5_quickest 14 = .ok (.iconst (-1), 1) := by decide +kernel
theorem dX5_quickest_15 : decode cX5_quickest 15 = .ok (.ireturn, 1) := by decide +kernel
theorem dX5_quickest_16 : decode cX5_quickest 16 = .ok (.aload_n 0, 1) := by decide +kernel
theorem dX5_quickest_17 : decode cX5_quickest 17 = .ok (.getfield 29, 3) := by decide +kernel
theorem dX5_quickest_20 : decode cX5_quickest 20 = .ok (.iload_n 1, 1) := by decide +kernel
theorem dX5_quickest_21 : decode cX5_quickest 21 = .ok (.iload_n 2, 1) := by decide +kernel
theorem dX5_quickest_22 : decode cX5_quickest 22 = .ok (.invokevirtual 144, 3) := by decide +kernel
theorem dX5_quickest_25 : decode cX5_quickest 25 = .ok (.istore_n 3, 1) := by decide +kernel
theorem dX5_quickest_26 : decode cX5_quickest 26 = .ok (.iload_n 3, 1) := by decide +kernel
theorem dX5_quickest_27 : decode cX5_quickest 27 = .ok (.ifCond .ne 9, 3) := by decide +kernel
theorem dX5_quickest_30 : decode cX5_quickest 30 = .ok (.aload_n 0, 1) := by decide +kernel
theorem dX5_quickest_31 : decode cX5_quickest 31 = .ok (.iconst 4, 1) := by decide +kernel
theorem dX5_quickest_32 : decode cX5_quickest 32 = .ok (.invokevirtual 68, 3) := by decide +kernel
theorem dX5_quickest_35 : decode cX5_quickest 35 = .ok (.ireturn, 1) := by decide +kernel
theorem dX5_quickest_36 : decode cX5_quickest 36 = .ok (.aload_n 0, 1) := by decide +kernel
theorem dX5_quickest_37 : decode cX5_quickest 37 = .ok (.getfield 29, 3) := by decide +kernel
theorem dX5_quickest_40 : decode cX5_quickest 40 = .ok (.iload_n 3, 1) := by decide +kernel
theorem dX5_quickest_41 : decode cX5_quickest 41 = .ok (.invokevirtual 223, 3) := by decide +kernel
theorem dX5_quickest_44 : decode cX5_quickest 44 = .ok (.istore 4, 2) := by decide +kernel
theorem dX5_quickest_46 : decode cX5_quickest 46 = .ok (.aload_n 0, 1) := by decide +kernel
theorem dX5_quickest_47 : decode cX5_quickest 47 = .ok (.aload_n 0, 1) := by decide +kernel
theorem dX5_quickest_48 : decode cX5_quickest 48 = .ok (.getfield 29, 3) := by decide +kernel
theorem dX5_quickest_51 : decode cX5_quickest 51 = .ok (.iload_n 3, 1) := by decide +kernel
theorem dX5_quickest_52 : decode cX5_quickest 52 = .ok (.iload 4, 2) := by decide +kernel
theorem dX5_quickest_54 : decode cX5_quickest 54 = .ok (.invokevirtual 226, 3) := by decide +kernel
theorem dX5_quickest_57 : decode cX5_quickest 57 = .ok (.invokestatic 147, 3) := by decide +kernel
theorem dX5_quickest_60 : decode cX5_quickest 60 = .ok (.putfield 53, 3) := by decide +kernel
theorem dX5_quickest_63 : decode cX5_quickest 63 = .ok (.iload 4, 2) := by decide +kernel
theorem dX5_quickest_65 : decode cX5_quickest 65 = .ok (.ireturn, 1) := by decide +kernel
theorem dX5_queue_0 : decode cX5_queue 0 = .ok (.aload_n 0, 1) := by decide +kernel
theorem dX5_queue_1 : decode cX5_queue 1 = .ok (.iload_n 1, 1) := by decide +kernel
theorem dX5_queue_2 : decode cX5_queue 2 = .ok (.invokevirtual 229, 3) := by decide +kernel
theorem dX5_queue_5 : decode cX5_queue 5 = .ok (.istore_n 2, 1) := by decide +kernel
theorem dX5_queue_6 : decode cX5_queue 6 = .ok (.iload_n 2, 1) := by decide +kernel
theorem dX5_queue_7 : decode cX5_queue 7 = .ok (.ifCond .eq 5, 3) := by decide +kernel
theorem dX5_queue_10 : decode cX5_queue 10 = .ok (.iload_n 2, 1) := by decide +kernel
theorem dX5_queue_11 : decode cX5_queue 11 = .ok (.ireturn, 1) := by decide +kernel
theorem dX5_queue_12 : decode cX5_queue 12 = .ok (.aload_n 0, 1) := by decide +kernel
theorem dX5_queue_13 : decode cX5_queue 13 = .ok (.getfield 42, 3) := by decide +kernel
theorem dX5_queue_16 : decode cX5_queue 16 = .ok (.aload_n 0, 1) := by decide +kernel
theorem dX5_queue_17 : decode cX5_queue 17 = .ok (.getfield 29, 3) := by decide +kernel
theorem dX5_queue_20 : decode cX5_queue 20 = .ok (.getfield 116, 3) := by decide +kernel
theorem dX5_queue_23 : decode cX5_queue 23 = .ok (.aload_n 0, 1) := by decide +kernel
theorem dX5_queue_24 : decode cX5_queue 24 = .ok (.getfield 11, 3) := by decide +kernel
theorem dX5_queue_27 : decode cX5_queue 27 = .ok (.iload_n 1, 1) := by decide +kernel
theorem dX5_queue_28 : decode cX5_queue 28 = .ok (.aaload, 1) := by decide +kernel
theorem dX5_queue_29 : decode cX5_queue 29 = .ok (.aload_n 0, 1) := by decide +kernel
theorem dX5_queue_30 : decode cX5_queue 30 = .ok (.getfield 14, 3) := by decide +kernel
theorem dX5_queue_33 : decode cX5_queue 33 = .ok (.iload_n 1, 1) := by decide +kernel
theorem dX5_queue_34 : decode cX5_queue 34 = .ok (.iaload, 1) := by decide +kernel
theorem dX5_queue_35 : decode cX5_queue 35 = .ok (.sipush 9999, 3) := by decide +kernel
theorem dX5_queue_38 : decode cX5_queue 38 = .ok (.invokevirtual 232, 3) := by decide +kernel
theorem dX5_queue_41 : decode cX5_queue 41 = .ok (.aload_n 0, 1) := by decide +kernel
theorem dX5_queue_42 : decode cX5_queue 42 = .ok (.aload_n 0, 1) := by decide +kernel
theorem dX5_queue_43 : decode cX5_queue 43 = .ok (.getfield 42, 3) := by decide +kernel
theorem dX5_queue_46 : decode cX5_queue 46 = .ok (.getfield 236, 3) := by decide +kernel
theorem dX5_queue_49 : decode cX5_queue 49 = .ok (.putfield 53, 3) := by decide +kernel
theorem dX5_queue_52 : decode cX5_queue 52 = .ok (.aload_n 0, 1) := by decide +kernel
theorem dX5_queue_53 : decode cX5_queue 53 = .ok (.getfield 42, 3) := by decide +kernel
theorem dX5_queue_56 : decode cX5_queue 56 = .ok (.getfield 239, 3) := by decide +kernel
theorem dX5_queue_59 : decode cX5_queue 59 = .ok (.ireturn, 1) := by decide +kernel
theorem dX5_by_0 : decode cX5_by 0 = .ok (.iload_n 2, 1) := by decide +kernel
theorem dX5_by_1 : decode cX5_by 1 = .ok (.ifCond .lt 10, 3) := by decide +kernel
theorem dX5_by_4 : decode cX5_by 4 = .ok (.iload_n 2, 1) := by decide +kernel
theorem dX5_by_5 : decode cX5_by 5 = .ok (.sipush 9999, 3) := by decide +kernel
theorem dX5_by_8 : decode cX5_by 8 = .ok (.if_icmp .le 5, 3) := by decide +kernel
theorem dX5_by_11 : decode cX5_by 11 = .ok (.iconst (-1), 1) := by decide +kernel
theorem dX5_by_12 : decode cX5_by 12 = .ok (.ireturn, 1) := by decide +kernel
theorem dX5_by_13 : decode cX5_by 13 = .ok (.aload_n 0, 1) := by decide +kernel
theorem dX5_by_14 : decode cX5_by 14 = .ok (.iload_n 1, 1) := by decide +kernel
theorem dX5_by_15 : decode cX5_by 15 = .ok (.invokevirtual 229, 3) := by decide +kernel
theorem dX5_by_18 : decode cX5_by 18 = .ok (.istore_n 3, 1) := by decide +kernel
theorem dX5_by_19 : decode cX5_by 19 = .ok (.iload_n 3, 1) := by decide +kernel
theorem dX5_by_20 : decode cX5_by 20 = .ok (.ifCond .eq 5, 3) := by decide +kernel
theorem dX5_by_23 : decode cX5_by 23 = .ok (.iload_n 3, 1) := by decide +kernel
theorem dX5_by_24 : decode cX5_by 24 = .ok (.ireturn, 1) := by decide +kernel
theorem dX5_by_25 : decode cX5_by 25 = .ok (.aload_n 0, 1) := by decide +kernel
theorem dX5_by_26 : decode cX5_by 26 = .ok (.getfield 42, 3) := by decide +kernel
theorem dX5_by_29 : decode cX5_by 29 = .ok (.aload_n 0, 1) := by decide +kernel
theorem dX5_by_30 : decode cX5_by 30 = .ok (.getfield 29, 3) := by decide +kernel
theorem dX5_by_33 : decode cX5_by 33 = .ok (.getfield 116, 3) := by decide +kernel
theorem dX5_by_36 : decode cX5_by 36 = .ok (.aload_n 0, 1) := by decide +kernel
theorem dX5_by_37 : decode cX5_by 37 = .ok (.getfield 11, 3) := by decide +kernel
theorem dX5_by_40 : decode cX5_by 40 = .ok (.iload_n 1, 1) := by decide +kernel
theorem dX5_by_41 : decode cX5_by 41 = .ok (.aaload, 1) := by decide +kernel
theorem dX5_by_42 : decode cX5_by 42 = .ok (.aload_n 0, 1) := by decide +kernel
theorem dX5_by_43 : decode cX5_by 43 = .ok (.getfield 14, 3) := by decide +kernel
theorem dX5_by_46 : decode cX5_by 46 = .ok (.iload_n 1, 1) := by decide +kernel
theorem dX5_by_47 : decode cX5_by 47 = .ok (.iaload, 1) := by decide +kernel
theorem dX5_by_48 : decode cX5_by 48 = .ok (.iload_n 2, 1) := by decide +kernel
theorem dX5_by_49 : decode cX5_by 49 = .ok (.invokevirtual 232, 3) := by decide +kernel
theorem dX5_by_52 : decode cX5_by 52 = .ok (.aload_n 0, 1) := by decide +kernel
theorem dX5_by_53 : decode cX5_by 53 = .ok (.getfield 42, 3) := by decide +kernel
theorem dX5_by_56 : decode cX5_by 56 = .ok (.getfield 242, 3) := by decide +kernel
theorem dX5_by_59 : decode cX5_by 59 = .ok (.ireturn, 1) := by decide +kernel
theorem dX5_order_0 : decode cX5_order 0 = .ok (.iload_n 1, 1) := by decide +kernel
theorem dX5_order_1 : decode cX5_order 1 = .ok (.invokestatic 64, 3) := by decide +kernel
theorem dX5_order_4 : decode cX5_order 4 = .ok (.ifCond .ne 5, 3) := by decide +kernel
theorem dX5_order_7 : decode cX5_order 7 = .ok (.iconst (-1), 1) := by decide +kernel
theorem dX5_order_8 : decode cX5_order 8 = .ok (.ireturn, 1) := by decide +kernel
theorem dX5_order_9 : decode cX5_order 9 = .ok (.aload_n 0, 1) := by decide +kernel
theorem dX5_order_10 : decode cX5_order 10 = .ok (.getfield 29, 3) := by decide +kernel
theorem dX5_order_13 : decode cX5_order 13 = .ok (.getfield 107, 3) := by decide +kernel
theorem dX5_order_16 : decode cX5_order 16 = .ok (.ifCond .ne 6, 3) := by decide +kernel
theorem dX5_order_19 : decode cX5_order 19 = .ok (.bipush (-4), 2) := by decide +kernel
theorem dX5_order_21 : decode cX5_order 21 = .ok (.ireturn, 1) := by decide +kernel
theorem dX5_order_22 : decode cX5_order 22 = .ok (.aload_n 0, 1) := by decide +kernel
theorem dX5_order_23 : decode cX5_order 23 = .ok (.iload_n 1, 1) := by decide +kernel
theorem dX5_order_24 : decode cX5_order 24 = .ok (.aload_n 0, 1) := by decide +kernel
theorem dX5_order_25 : decode cX5_order 25 = .ok (.getfield 29, 3) := by decide +kernel
theorem dX5_order_28 : decode cX5_order 28 = .ok (.getfield 107, 3) := by decide +kernel
theorem dX5_order_31 : decode cX5_order 31 = .ok (.invokevirtual 72, 3) := by decide +kernel
theorem dX5_order_34 : decode cX5_order 34 = .ok (.aload_n 0, 1) := by decide +kernel
theorem dX5_order_35 : decode cX5_order 35 = .ok (.iload_n 1, 1) := by decide +kernel
theorem dX5_order_36 : decode cX5_order 36 = .ok (.iconst 0, 1) := by decide +kernel
theorem dX5_order_37 : decode cX5_order 37 = .ok (.iconst 1, 1) := by decide +kernel
theorem dX5_order_38 : decode cX5_order 38 = .ok (.invokevirtual 245, 3) := by decide +kernel
theorem dX5_order_41 : decode cX5_order 41 = .ok (.istore_n 2, 1) := by decide +kernel
theorem dX5_order_42 : decode cX5_order 42 = .ok (.aload_n 0, 1) := by decide +kernel
theorem dX5_order_43 : decode cX5_order 43 = .ok (.iload_n 1, 1) := by decide +kernel
theorem dX5_order_44 : decode cX5_order 44 = .ok (.iload_n 2, 1) := by decide +kernel
theorem dX5_order_45 : decode cX5_order 45 = .ok (.iconst 0, 1) := by decide +kernel
theorem dX5_order_46 : decode cX5_order 46 = .ok (.invokevirtual 245, 3) := by decide +kernel
theorem dX5_order_49 : decode cX5_order 49 = .ok (.pop, 1) := by decide +kernel
theorem dX5_order_50 : decode cX5_order 50 = .ok (.iconst 0, 1) := by decide +kernel
theorem dX5_order_51 : decode cX5_order 51 = .ok (.istore_n 3, 1) := by decide +kernel
theorem dX5_order_52 : decode cX5_order 52 = .ok (.iconst 0, 1) := by decide +kernel
theorem dX5_order_53 : decode cX5_order 53 = .ok (.istore 4, 2) := by decide +kernel
theorem dX5_order_55 : decode cX5_order 55 = .ok (.iconst 0, 1) := by decide +kernel
theorem dX5_order_56 : decode cX5_order 56 = .ok (.istore 5, 2) := by decide +kernel
theorem dX5_order_58 : decode cX5_order 58 = .ok (.iload 5, 2) := by decide +kernel
theorem dX5_order_60 : decode cX5_order 60 = .ok (.aload_n 0, 1) := by decide +kernel
theorem dX5_order_61 : decode cX5_order 61 = .ok (.getfield 29, 3) := by decide +kernel
theorem dX5_order_64 : decode cX5_order 64 = .ok (.getfield 107, 3) := by decide +kernel
theorem dX5_order_67 : decode cX5_order 67 = .ok (.if_icmp .ge 32, 3) := by decide +kernel
theorem dX5_order_70 : decode cX5_order 70 = .ok (.iload_n 3, 1) := by decide +kernel
theorem dX5_order_71 : decode cX5_order 71 = .ok (.iload 4, 2) := by decide +kernel
theorem dX5_order_73 : decode cX5_order 73 = .ok (.iadd, 1) := by decide +kernel
theorem dX5_order_74 : decode cX5_order 74 = .ok (.istore_n 3, 1) := by decide +kernel
theorem dX5_order_75 : decode cX5_order 75 = .ok (.iload 4, 2) := by decide +kernel
theorem dX5_order_77 : decode cX5_order 77 = .ok (.iload 5, 2) := by decide +kernel
theorem dX5_order_79 : decode cX5_order 79 = .ok (.iload_n 2, 1) := by decide +kernel
theorem dX5_order_80 : decode cX5_order 80 = .ok (.if_icmp .ge 8, 3) := by decide +kernel
theorem dX5_order_83 : decode cX5_order 83 = .ok (.bipush 9, 2) := by decide +kernel
theorem dX5_order_85 : decode cX5_order 85 = .ok (.goto 5, 3) := by decide +kernel
theorem dX5_order_88 : decode cX5_order 88 = .ok (.bipush 40, 2) := by decide +kernel
theorem dX5_order_90 : decode cX5_order 90 = .ok (.iadd, 1) := by decide +kernel
theorem dX5_order_91 : decode cX5_order 91 = .ok (.istore 4, 2) := by decide +kernel
theorem dX5_order_93 : decode cX5_order 93 = .ok (.iinc 5 1, 3) := by decide +kernel
theorem dX5_order_96 : decode cX5_order 96 = .ok (.goto (-38), 3) := by decide +kernel
theorem dX5_order_99 : decode cX5_order 99 = .ok (.iload_n 3, 1) := by decide +kernel
theorem dX5_order_100 : decode cX5_order 100 = .ok (.ireturn, 1) := by decide +kernel
theorem dX5_learn_0 : decode cX5_learn 0 = .ok (.iload_n 1, 1) := by decide +kernel
theorem dX5_learn_1 : decode cX5_learn 1 = .ok (.ifCond .lt 9, 3) := by decide +kernel
theorem dX5_learn_4 : decode cX5_learn 4 = .ok (.iload_n 1, 1) := by decide +kernel
theorem dX5_learn_5 : decode cX5_learn 5 = .ok (.bipush 6, 2) := by decide +kernel
theorem dX5_learn_7 : decode cX5_learn 7 = .ok (.if_icmp .le 5, 3) := by decide +kernel
theorem dX5_learn_10 : decode cX5_learn 10 = .ok (.iconst (-1), 1) := by decide +kernel
theorem dX5_learn_11 : decode cX5_learn 11 = .ok (.ireturn, 1) := by decide +kernel
theorem dX5_learn_12 : decode cX5_learn 12 = .ok (.iload_n 1, 1) := by decide +kernel
theorem dX5_learn_13 : decode cX5_learn 13 = .ok (.aload_n 0, 1) := by decide +kernel
theorem dX5_learn_14 : decode cX5_learn 14 = .ok (.getfield 29, 3) := by decide +kernel
theorem dX5_learn_17 : decode cX5_learn 17 = .ok (.getfield 107, 3) := by decide +kernel
theorem dX5_learn_20 : decode cX5_learn 20 = .ok (.if_icmp .le 6, 3) := by decide +kernel
theorem dX5_learn_23 : decode cX5_learn 23 = .ok (.bipush (-4), 2) := by decide +kernel
theorem dX5_learn_25 : decode cX5_learn 25 = .ok (.ireturn, 1) := by decide +kernel
theorem dX5_learn_26 : decode cX5_learn 26 = .ok (.iconst 0, 1) := by decide +kernel
theorem dX5_learn_27 : decode cX5_learn 27 = .ok (.istore_n 2, 1) := by decide +kernel
theorem dX5_learn_28 : decode cX5_learn 28 = .ok (.ldc 249, 2) := by decide +kernel
theorem dX5_learn_30 : decode cX5_learn 30 = .ok (.istore_n 3, 1) := by decide +kernel
theorem dX5_learn_31 : decode cX5_learn 31 = .ok (.iconst 0, 1) := by decide +kernel
theorem dX5_learn_32 : decode cX5_learn 32 = .ok (.istore 4, 2) := by decide +kernel
theorem dX5_learn_34 : decode cX5_learn 34 = .ok (.iload 4, 2) := by decide +kernel
theorem dX5_learn_36 : decode cX5_learn 36 = .ok (.iconst 1, 1) := by decide +kernel
theorem dX5_learn_37 : decode cX5_learn 37 = .ok (.aload_n 0, 1) := by decide +kernel
theorem dX5_learn_38 : decode cX5_learn 38 = .ok (.getfield 29, 3) := by decide +kernel
theorem dX5_learn_41 : decode cX5_learn 41 = .ok (.getfield 107, 3) := by decide +kernel
theorem dX5_learn_44 : decode cX5_learn 44 = .ok (.ishl, 1) := by decide +kernel
theorem dX5_learn_45 : decode cX5_learn 45 = .ok (.if_icmp .ge 41, 3) := by decide +kernel
theorem dX5_learn_48 : decode cX5_learn 48 = .ok (.aload_n 0, 1) := by decide +kernel
theorem dX5_learn_49 : decode cX5_learn 49 = .ok (.getfield 29, 3) := by decide +kernel
theorem dX5_learn_52 : decode cX5_learn 52 = .ok (.iload 4, 2) := by decide +kernel
theorem dX5_learn_54 : decode cX5_learn 54 = .ok (.invokevirtual 250, 3) := by decide +kernel
theorem dX5_learn_57 : decode cX5_learn 57 = .ok (.istore 5, 2) := by decide +kernel
theorem dX5_learn_59 : decode cX5_learn 59 = .ok (.iload 4, 2) := by decide +kernel
theorem dX5_learn_61 : decode cX5_learn 61 = .ok (.invokestatic 147, 3) := by decide +kernel
theorem dX5_learn_64 : decode cX5_learn 64 = .ok (.iload_n 1, 1) := by decide +kernel
theorem dX5_learn_65 : decode cX5_learn 65 = .ok (.if_icmp .ne 15, 3) := by decide +kernel
theorem dX5_learn_68 : decode cX5_learn 68 = .ok (.iload 5, 2) := by decide +kernel
theorem dX5_learn_70 : decode cX5_learn 70 = .ok (.iload_n 3, 1) := by decide +kernel
theorem dX5_learn_71 : decode cX5_learn 71 = .ok (.if_icmp .ge 9, 3) := by decide +kernel
theorem dX5_learn_74 : decode cX5_learn 74 = .ok (.iload 4, 2) := by decide +kernel
theorem dX5_learn_76 : decode cX5_learn 76 = .ok (.istore_n 2, 1) := by decide +kernel
theorem dX5_learn_77 : decode cX5_learn 77 = .ok (.iload 5, 2) := by decide +kernel
theorem dX5_learn_79 : decode cX5_learn 79 = .ok (.istore_n 3, 1) := by decide +kernel
theorem dX5_learn_80 : decode cX5_learn 80 = .ok (.iinc 4 1, 3) := by decide +kernel
theorem dX5_learn_83 : decode cX5_learn 83 = .ok (.goto (-49), 3) := by decide +kernel
theorem dX5_learn_86 : decode cX5_learn 86 = .ok (.aload_n 0, 1) := by decide +kernel
theorem dX5_learn_87 : decode cX5_learn 87 = .ok (.iload_n 3, 1) := by decide +kernel
theorem dX5_learn_88 : decode cX5_learn 88 = .ok (.putfield 53, 3) := by decide +kernel
theorem dX5_learn_91 : decode cX5_learn 91 = .ok (.iload_n 2, 1) := by decide +kernel
theorem dX5_learn_92 : decode cX5_learn 92 = .ok (.ireturn, 1) := by decide +kernel
theorem dX5_fits_0 : decode cX5_fits 0 = .ok (.aload_n 0, 1) := by decide +kernel
theorem dX5_fits_1 : decode cX5_fits 1 = .ok (.iload_n 1, 1) := by decide +kernel
theorem dX5_fits_2 : decode cX5_fits 2 = .ok (.invokevirtual 253, 3) := by decide +kernel
theorem dX5_fits_5 : decode cX5_fits 5 = .ok (.istore_n 2, 1) := by decide +kernel
theorem dX5_fits_6 : decode cX5_fits 6 = .ok (.iload_n 2, 1) := by decide +kernel
theorem dX5_fits_7 : decode cX5_fits 7 = .ok (.ifCond .eq 5, 3) := by decide +kernel
theorem dX5_fits_10 : decode cX5_fits 10 = .ok (.iload_n 2, 1) := by decide +kernel
theorem dX5_fits_11 : decode cX5_fits 11 = .ok (.ireturn, 1) := by decide +kernel
theorem dX5_fits_12 : decode cX5_fits 12 = .ok (.iconst 0, 1) := by decide +kernel
theorem dX5_fits_13 : decode cX5_fits 13 = .ok (.istore_n 3, 1) := by decide +kernel
theorem dX5_fits_14 : decode cX5_fits 14 = .ok (.iconst 0, 1) := by decide +kernel
theorem dX5_fits_15 : decode cX5_fits 15 = .ok (.istore 4, 2) := by decide +kernel
theorem dX5_fits_17 : decode cX5_fits 17 = .ok (.iload 4, 2) := by decide +kernel
theorem dX5_fits_19 : decode cX5_fits 19 = .ok (.aload_n 0, 1) := by decide +kernel
theorem dX5_fits_20 : decode cX5_fits 20 = .ok (.getfield 29, 3) := by decide +kernel
theorem dX5_fits_23 : decode cX5_fits 23 = .ok (.getfield 107, 3) := by decide +kernel
theorem dX5_fits_26 : decode cX5_fits 26 = .ok (.if_icmp .ge 26, 3) := by decide +kernel
theorem dX5_fits_29 : decode cX5_fits 29 = .ok (.aload_n 0, 1) := by decide +kernel
theorem dX5_fits_30 : decode cX5_fits 30 = .ok (.iload 4, 2) := by decide +kernel
theorem dX5_fits_32 : decode cX5_fits 32 = .ok (.iload_n 1, 1) := by decide +kernel
theorem dX5_fits_33 : decode cX5_fits 33 = .ok (.invokevirtual 256, 3) := by decide +kernel
theorem dX5_fits_36 : decode cX5_fits 36 = .ok (.ifCond .ne 10, 3) := by decide +kernel
theorem dX5_fits_39 : decode cX5_fits 39 = .ok (.iload_n 3, 1) := by decide +kernel
theorem dX5_fits_40 : decode cX5_fits 40 = .ok (.iconst 1, 1) := by decide +kernel
theorem dX5_fits_41 : decode cX5_fits 41 = .ok (.iload 4, 2) := by decide +kernel
theorem dX5_fits_43 : decode cX5_fits 43 = .ok (.ishl, 1) := by decide +kernel
theorem dX5_fits_44 : decode cX5_fits 44 = .ok (.ior, 1) := by decide +kernel
theorem dX5_fits_45 : decode cX5_fits 45 = .ok (.istore_n 3, 1) := by decide +kernel
theorem dX5_fits_46 : decode cX5_fits 46 = .ok (.iinc 4 1, 3) := by decide +kernel
theorem dX5_fits_49 : decode cX5_fits 49 = .ok (.goto (-32), 3) := by decide +kernel
theorem dX5_fits_52 : decode cX5_fits 52 = .ok (.iload_n 3, 1) := by decide +kernel
theorem dX5_fits_53 : decode cX5_fits 53 = .ok (.ireturn, 1) := by decide +kernel
theorem dX5_kinds_0 : decode cX5_kinds 0 = .ok (.iload_n 2, 1) := by decide +kernel
theorem dX5_kinds_1 : decode cX5_kinds 1 = .ok (.invokestatic 155, 3) := by decide +kernel
theorem dX5_kinds_4 : decode cX5_kinds 4 = .ok (.ifCond .eq 10, 3) := by decide +kernel
theorem dX5_kinds_7 : decode cX5_kinds 7 = .ok (.iload_n 3, 1) := by decide +kernel
theorem dX5_kinds_8 : decode cX5_kinds 8 = .ok (.invokestatic 155, 3) := by decide +kernel
theorem dX5_kinds_11 : decode cX5_kinds 11 = .ok (.ifCond .ne 5, 3) := by decide +kernel
theorem dX5_kinds_14 : decode cX5_kinds 14 = .ok (.iconst (-1), 1) := by decide +kernel
theorem dX5_kinds_15 : decode cX5_kinds 15 = .ok (.ireturn, 1) := by decide +kernel
theorem dX5_kinds_16 : decode cX5_kinds 16 = .ok (.aload_n 0, 1) := by decide +kernel
theorem dX5_kinds_17 : decode cX5_kinds 17 = .ok (.iload_n 1, 1) := by decide +kernel
theorem dX5_kinds_18 : decode cX5_kinds 18 = .ok (.invokevirtual 253, 3) := by decide +kernel
theorem dX5_kinds_21 : decode cX5_kinds 21 = .ok (.istore 4, 2) := by decide +kernel
theorem dX5_kinds_23 : decode cX5_kinds 23 = .ok (.iload 4, 2) := by decide +kernel
theorem dX5_kinds_25 : decode cX5_kinds 25 = .ok (.ifCond .eq 6, 3) := by decide +kernel
theorem dX5_kinds_28 : decode cX5_kinds 28 = .ok (.iload 4, 2) := by decide +kernel
theorem dX5_kinds_30 : decode cX5_kinds 30 = .ok (.ireturn, 1) := by decide +kernel
theorem dX5_kinds_31 : decode cX5_kinds 31 = .ok (.iconst 0, 1) := by decide +kernel
theorem dX5_kinds_32 : decode cX5_kinds 32 = .ok (.istore 5, 2) := by decide +kernel
theorem dX5_kinds_34 : decode cX5_kinds 34 = .ok (.iconst 0, 1) := by decide +kernel
theorem dX5_kinds_35 : decode cX5_kinds 35 = .ok (.istore 6, 2) := by decide +kernel
theorem dX5_kinds_37 : decode cX5_kinds 37 = .ok (.iload 6, 2) := by decide +kernel
theorem dX5_kinds_39 : decode cX5_kinds 39 = .ok (.bipush 6, 2) := by decide +kernel
theorem dX5_kinds_41 : decode cX5_kinds 41 = .ok (.if_icmp .ge 40, 3) := by decide +kernel
theorem dX5_kinds_44 : decode cX5_kinds 44 = .ok (.aload_n 0, 1) := by decide +kernel
theorem dX5_kinds_45 : decode cX5_kinds 45 = .ok (.getfield 11, 3) := by decide +kernel
theorem dX5_kinds_48 : decode cX5_kinds 48 = .ok (.iload_n 1, 1) := by decide +kernel
theorem dX5_kinds_49 : decode cX5_kinds 49 = .ok (.aaload, 1) := by decide +kernel
theorem dX5_kinds_50 : decode cX5_kinds 50 = .ok (.aload_n 0, 1) := by decide +kernel
theorem dX5_kinds_51 : decode cX5_kinds 51 = .ok (.getfield 14, 3) := by decide +kernel
theorem dX5_kinds_54 : decode cX5_kinds 54 = .ok (.iload_n 1, 1) := by decide +kernel
theorem dX5_kinds_55 : decode cX5_kinds 55 = .ok (.iaload, 1) := by decide +kernel
theorem dX5_kinds_56 : decode cX5_kinds 56 = .ok (.iload 6, 2) := by decide +kernel
theorem dX5_kinds_58 : decode cX5_kinds 58 = .ok (.iload_n 2, 1) := by decide +kernel
theorem dX5_kinds_59 : decode cX5_kinds 59 = .ok (.iload_n 3, 1) := by decide +kernel
theorem dX5_kinds_60 : decode cX5_kinds 60 = .ok (.invokestatic 259, 3) := by decide +kernel
theorem dX5_kinds_63 : decode cX5_kinds 63 = .ok (.ifCond .ne 12, 3) := by decide +kernel
theorem dX5_kinds_66 : decode cX5_kinds 66 = .ok (.iload 5, 2) := by decide +kernel
theorem dX5_kinds_68 : decode cX5_kinds 68 = .ok (.iconst 1, 1) := by decide +kernel
theorem dX5_kinds_69 : decode cX5_kinds 69 = .ok (.iload 6, 2) := by decide +kernel
theorem dX5_kinds_71 : decode cX5_kinds 71 = .ok (.ishl, 1) := by decide +kernel
theorem dX5_kinds_72 : decode cX5_kinds 72 = .ok (.ior, 1) := by decide +kernel
theorem dX5_kinds_73 : decode cX5_kinds 73 = .ok (.istore 5, 2) := by decide +kernel
theorem dX5_kinds_75 : decode cX5_kinds 75 = .ok (.iinc 6 1, 3) := by decide +kernel
theorem dX5_kinds_78 : decode cX5_kinds 78 = .ok (.goto (-41), 3) := by decide +kernel
theorem dX5_kinds_81 : decode cX5_kinds 81 = .ok (.iload 5, 2) := by decide +kernel
theorem dX5_kinds_83 : decode cX5_kinds 83 = .ok (.ireturn, 1) := by decide +kernel
theorem dX5_lies_0 : decode cX5_lies 0 = .ok (.iload_n 1, 1) := by decide +kernel
theorem dX5_lies_1 : decode cX5_lies 1 = .ok (.invokestatic 64, 3) := by decide +kernel
theorem dX5_lies_4 : decode cX5_lies 4 = .ok (.ifCond .ne 5, 3) := by decide +kernel
theorem dX5_lies_7 : decode cX5_lies 7 = .ok (.iconst (-1), 1) := by decide +kernel
theorem dX5_lies_8 : decode cX5_lies 8 = .ok (.ireturn, 1) := by decide +kernel
theorem dX5_lies_9 : decode cX5_lies 9 = .ok (.aload_n 0, 1) := by decide +kernel
theorem dX5_lies_10 : decode cX5_lies 10 = .ok (.getfield 29, 3) := by decide +kernel
theorem dX5_lies_13 : decode cX5_lies 13 = .ok (.getfield 107, 3) := by decide +kernel
theorem dX5_lies_16 : decode cX5_lies 16 = .ok (.ifCond .ne 6, 3) := by decide +kernel
theorem dX5_lies_19 : decode cX5_lies 19 = .ok (.bipush (-4), 2) := by decide +kernel
theorem dX5_lies_21 : decode cX5_lies 21 = .ok (.ireturn, 1) := by decide +kernel
theorem dX5_lies_22 : decode cX5_lies 22 = .ok (.aload_n 0, 1) := by decide +kernel
theorem dX5_lies_23 : decode cX5_lies 23 = .ok (.iload_n 1, 1) := by decide +kernel
theorem dX5_lies_24 : decode cX5_lies 24 = .ok (.invokevirtual 253, 3) := by decide +kernel
theorem dX5_lies_27 : decode cX5_lies 27 = .ok (.istore_n 2, 1) := by decide +kernel
theorem dX5_lies_28 : decode cX5_lies 28 = .ok (.iload_n 2, 1) := by decide +kernel
theorem dX5_lies_29 : decode cX5_lies 29 = .ok (.ifCond .eq 5, 3) := by decide +kernel
theorem dX5_lies_32 : decode cX5_lies 32 = .ok (.iload_n 2, 1) := by decide +kernel
theorem dX5_lies_33 : decode cX5_lies 33 = .ok (.ireturn, 1) := by decide +kernel
theorem dX5_lies_34 : decode cX5_lies 34 = .ok (.iconst 0, 1) := by decide +kernel
theorem dX5_lies_35 : decode cX5_lies 35 = .ok (.istore_n 3, 1) := by decide +kernel
theorem dX5_lies_36 : decode cX5_lies 36 = .ok (.iconst 1, 1) := by decide +kernel
theorem dX5_lies_37 : decode cX5_lies 37 = .ok (.istore 4, 2) := by decide +kernel
theorem dX5_lies_39 : decode cX5_lies 39 = .ok (.iload 4, 2) := by decide +kernel
theorem dX5_lies_41 : decode cX5_lies 41 = .ok (.aload_n 0, 1) := by decide +kernel
theorem dX5_lies_42 : decode cX5_lies 42 = .ok (.getfield 29, 3) := by decide +kernel
theorem dX5_lies_45 : decode cX5_lies 45 = .ok (.getfield 107, 3) := by decide +kernel
theorem dX5_lies_48 : decode cX5_lies 48 = .ok (.if_icmp .ge 28, 3) := by decide +kernel
theorem dX5_lies_51 : decode cX5_lies 51 = .ok (.aload_n 0, 1) := by decide +kernel
theorem dX5_lies_52 : decode cX5_lies 52 = .ok (.iload 4, 2) := by decide +kernel
theorem dX5_lies_54 : decode cX5_lies 54 = .ok (.iload_n 1, 1) := by decide +kernel
theorem dX5_lies_55 : decode cX5_lies 55 = .ok (.invokevirtual 256, 3) := by decide +kernel
theorem dX5_lies_58 : decode cX5_lies 58 = .ok (.aload_n 0, 1) := by decide +kernel
theorem dX5_lies_59 : decode cX5_lies 59 = .ok (.iload_n 3, 1) := by decide +kernel
theorem dX5_lies_60 : decode cX5_lies 60 = .ok (.iload_n 1, 1) := by decide +kernel
theorem dX5_lies_61 : decode cX5_lies 61 = .ok (.invokevirtual 256, 3) := by decide +kernel
theorem dX5_lies_64 : decode cX5_lies 64 = .ok (.if_icmp .ge 6, 3) := by decide +kernel
theorem dX5_lies_67 : decode cX5_lies 67 = .ok (.iload 4, 2) := by decide +kernel
theorem dX5_lies_69 : decode cX5_lies 69 = .ok (.istore_n 3, 1) := by decide +kernel
theorem dX5_lies_70 : decode cX5_lies 70 = .ok (.iinc 4 1, 3) := by decide +kernel
theorem dX5_lies_73 : decode cX5_lies 73 = .ok (.goto (-34), 3) := by decide +kernel
theorem dX5_lies_76 : decode cX5_lies 76 = .ok (.aload_n 0, 1) := by decide +kernel
theorem dX5_lies_77 : decode cX5_lies 77 = .ok (.iload_n 3, 1) := by decide +kernel
theorem dX5_lies_78 : decode cX5_lies 78 = .ok (.putfield 53, 3) := by decide +kernel
theorem dX5_lies_81 : decode cX5_lies 81 = .ok (.aload_n 0, 1) := by decide +kernel
theorem dX5_lies_82 : decode cX5_lies 82 = .ok (.iload_n 3, 1) := by decide +kernel
theorem dX5_lies_83 : decode cX5_lies 83 = .ok (.iload_n 1, 1) := by decide +kernel
theorem dX5_lies_84 : decode cX5_lies 84 = .ok (.invokevirtual 256, 3) := by decide +kernel
theorem dX5_lies_87 : decode cX5_lies 87 = .ok (.ireturn, 1) := by decide +kernel
theorem dX5_apart_0 : decode cX5_apart 0 = .ok (.aload_n 0, 1) := by decide +kernel
theorem dX5_apart_1 : decode cX5_apart 1 = .ok (.iload_n 1, 1) := by decide +kernel
theorem dX5_apart_2 : decode cX5_apart 2 = .ok (.iload_n 2, 1) := by decide +kernel
theorem dX5_apart_3 : decode cX5_apart 3 = .ok (.invokevirtual 200, 3) := by decide +kernel
theorem dX5_apart_6 : decode cX5_apart 6 = .ok (.ifCond .eq 24, 3) := by decide +kernel
theorem dX5_apart_9 : decode cX5_apart 9 = .ok (.iload_n 3, 1) := by decide +kernel
theorem dX5_apart_10 : decode cX5_apart 10 = .ok (.invokestatic 204, 3) := by decide +kernel
theorem dX5_apart_13 : decode cX5_apart 13 = .ok (.ifCond .eq 17, 3) := by decide +kernel
theorem dX5_apart_16 : decode cX5_apart 16 = .ok (.iload 4, 2) := by decide +kernel
theorem dX5_apart_18 : decode cX5_apart 18 = .ok (.invokestatic 204, 3) := by decide +kernel
theorem dX5_apart_21 : decode cX5_apart 21 = .ok (.ifCond .eq 9, 3) := by decide +kernel
theorem dX5_apart_24 : decode cX5_apart 24 = .ok (.iload 4, 2) := by decide +kernel
theorem dX5_apart_26 : decode cX5_apart 26 = .ok (.iload_n 3, 1) := by decide +kernel
theorem dX5_apart_27 : decode cX5_apart 27 = .ok (.if_icmp .ge 5, 3) := by decide +kernel
theorem dX5_apart_30 : decode cX5_apart 30 = .ok (.iconst (-1), 1) := by decide +kernel
theorem dX5_apart_31 : decode cX5_apart 31 = .ok (.ireturn, 1) := by decide +kernel
theorem dX5_apart_32 : decode cX5_apart 32 = .ok (.iload_n 3, 1) := by decide +kernel
theorem dX5_apart_33 : decode cX5_apart 33 = .ok (.istore 5, 2) := by decide +kernel
theorem dX5_apart_35 : decode cX5_apart 35 = .ok (.iload 5, 2) := by decide +kernel
theorem dX5_apart_37 : decode cX5_apart 37 = .ok (.iload 4, 2) := by decide +kernel
theorem dX5_apart_39 : decode cX5_apart 39 = .ok (.if_icmp .gt 43, 3) := by decide +kernel
theorem dX5_apart_42 : decode cX5_apart 42 = .ok (.aload_n 0, 1) := by decide +kernel
theorem dX5_apart_43 : decode cX5_apart 43 = .ok (.getfield 29, 3) := by decide +kernel
theorem dX5_apart_46 : decode cX5_apart 46 = .ok (.getfield 116, 3) := by decide +kernel
theorem dX5_apart_49 : decode cX5_apart 49 = .ok (.iload_n 1, 1) := by decide +kernel
theorem dX5_apart_50 : decode cX5_apart 50 = .ok (.aaload, 1) := by decide +kernel
theorem dX5_apart_51 : decode cX5_apart 51 = .ok (.iload 5, 2) := by decide +kernel
theorem dX5_apart_53 : decode cX5_apart 53 = .ok (.invokevirtual 207, 3) := by decide +kernel
theorem dX5_apart_56 : decode cX5_apart 56 = .ok (.aload_n 0, 1) := by decide +kernel
theorem dX5_apart_57 : decode cX5_apart 57 = .ok (.getfield 29, 3) := by decide +kernel
theorem dX5_apart_60 : decode cX5_apart 60 = .ok (.getfield 116, 3) := by decide +kernel
theorem dX5_apart_63 : decode cX5_apart 63 = .ok (.iload_n 2, 1) := by decide +kernel
theorem dX5_apart_64 : decode cX5_apart 64 = .ok (.aaload, 1) := by decide +kernel
theorem dX5_apart_65 : decode cX5_apart 65 = .ok (.iload 5, 2) := by decide +kernel
theorem dX5_apart_67 : decode cX5_apart 67 = .ok (.invokevirtual 207, 3) := by decide +kernel
theorem dX5_apart_70 : decode cX5_apart 70 = .ok (.if_icmp .eq 6, 3) := by decide +kernel
theorem dX5_apart_73 : decode cX5_apart 73 = .ok (.iload 5, 2) := by decide +kernel
theorem dX5_apart_75 : decode cX5_apart 75 = .ok (.ireturn, 1) := by decide +kernel
theorem dX5_apart_76 : decode cX5_apart 76 = .ok (.iinc 5 1, 3) := by decide +kernel
theorem dX5_apart_79 : decode cX5_apart 79 = .ok (.goto (-44), 3) := by decide +kernel
theorem dX5_apart_82 : decode cX5_apart 82 = .ok (.bipush (-9), 2) := by decide +kernel
theorem dX5_apart_84 : decode cX5_apart 84 = .ok (.ireturn, 1) := by decide +kernel
theorem dX5_sour_0 : decode cX5_sour 0 = .ok (.iload_n 1, 1) := by decide +kernel
theorem dX5_sour_1 : decode cX5_sour 1 = .ok (.invokestatic 155, 3) := by decide +kernel
theorem dX5_sour_4 : decode cX5_sour 4 = .ok (.ifCond .ne 5, 3) := by decide +kernel
theorem dX5_sour_7 : decode cX5_sour 7 = .ok (.iconst (-1), 1) := by decide +kernel
theorem dX5_sour_8 : decode cX5_sour 8 = .ok (.ireturn, 1) := by decide +kernel
theorem dX5_sour_9 : decode cX5_sour 9 = .ok (.aload_n 0, 1) := by decide +kernel
theorem dX5_sour_10 : decode cX5_sour 10 = .ok (.aload_n 0, 1) := by decide +kernel
theorem dX5_sour_11 : decode cX5_sour 11 = .ok (.getfield 29, 3) := by decide +kernel
theorem dX5_sour_14 : decode cX5_sour 14 = .ok (.aload_n 0, 1) := by decide +kernel
theorem dX5_sour_15 : decode cX5_sour 15 = .ok (.getfield 29, 3) := by decide +kernel
theorem dX5_sour_18 : decode cX5_sour 18 = .ok (.invokevirtual 263, 3) := by decide +kernel
theorem dX5_sour_21 : decode cX5_sour 21 = .ok (.iload_n 1, 1) := by decide +kernel
theorem dX5_sour_22 : decode cX5_sour 22 = .ok (.invokevirtual 226, 3) := by decide +kernel
theorem dX5_sour_25 : decode cX5_sour 25 = .ok (.putfield 53, 3) := by decide +kernel
theorem dX5_sour_28 : decode cX5_sour 28 = .ok (.aload_n 0, 1) := by decide +kernel
theorem dX5_sour_29 : decode cX5_sour 29 = .ok (.getfield 53, 3) := by decide +kernel
theorem dX5_sour_32 : decode cX5_sour 32 = .ok (.invokestatic 147, 3) := by decide +kernel
theorem dX5_sour_35 : decode cX5_sour 35 = .ok (.ireturn, 1) := by decide +kernel
theorem dX5_odds_0 : decode cX5_odds 0 = .ok (.iload_n 1, 1) := by decide +kernel
theorem dX5_odds_1 : decode cX5_odds 1 = .ok (.iconst 1, 1) := by decide +kernel
theorem dX5_odds_2 : decode cX5_odds 2 = .ok (.if_icmp .lt 8, 3) := by decide +kernel
theorem dX5_odds_5 : decode cX5_odds 5 = .ok (.iload_n 1, 1) := by decide +kernel
theorem dX5_odds_6 : decode cX5_odds 6 = .ok (.iconst 3, 1) := by decide +kernel
theorem dX5_odds_7 : decode cX5_odds 7 = .ok (.if_icmp .le 5, 3) := by decide +kernel
theorem dX5_odds_10 : decode cX5_odds 10 = .ok (.iconst (-1), 1) := by decide +kernel
theorem dX5_odds_11 : decode cX5_odds 11 = .ok (.ireturn, 1) := by decide +kernel
theorem dX5_odds_12 : decode cX5_odds 12 = .ok (.aload_n 0, 1) := by decide +kernel
theorem dX5_odds_13 : decode cX5_odds 13 = .ok (.getfield 29, 3) := by decide +kernel
theorem dX5_odds_16 : decode cX5_odds 16 = .ok (.getfield 107, 3) := by decide +kernel
theorem dX5_odds_19 : decode cX5_odds 19 = .ok (.ifCond .ne 6, 3) := by decide +kernel
theorem dX5_odds_22 : decode cX5_odds 22 = .ok (.bipush (-4), 2) := by decide +kernel
theorem dX5_odds_24 : decode cX5_odds 24 = .ok (.ireturn, 1) := by decide +kernel
theorem dX5_odds_25 : decode cX5_odds 25 = .ok (.aload_n 0, 1) := by decide +kernel
theorem dX5_odds_26 : decode cX5_odds 26 = .ok (.getfield 29, 3) := by decide +kernel
theorem dX5_odds_29 : decode cX5_odds 29 = .ok (.invokevirtual 263, 3) := by decide +kernel
theorem dX5_odds_32 : decode cX5_odds 32 = .ok (.istore_n 2, 1) := by decide +kernel
theorem dX5_odds_33 : decode cX5_odds 33 = .ok (.lconst 0, 1) := by decide +kernel
theorem dX5_odds_34 : decode cX5_odds 34 = .ok (.lstore_n 3, 1) := by decide +kernel
theorem dX5_odds_35 : decode cX5_odds 35 = .ok (.iconst 0, 1) := by decide +kernel
theorem dX5_odds_36 : decode cX5_odds 36 = .ok (.istore 5, 2) := by decide +kernel
theorem dX5_odds_38 : decode cX5_odds 38 = .ok (.iload 5, 2) := by decide +kernel
theorem dX5_odds_40 : decode cX5_odds 40 = .ok (.bipush 6, 2) := by decide +kernel
theorem dX5_odds_42 : decode cX5_odds 42 = .ok (.if_icmp .ge 27, 3) := by decide +kernel
theorem dX5_odds_45 : decode cX5_odds 45 = .ok (.lload_n 3, 1) := by decide +kernel
theorem dX5_odds_46 : decode cX5_odds 46 = .ok (.aload_n 0, 1) := by decide +kernel
theorem dX5_odds_47 : decode cX5_odds 47 = .ok (.getfield 29, 3) := by decide +kernel
theorem dX5_odds_50 : decode cX5_odds 50 = .ok (.iload_n 2, 1) := by decide +kernel
theorem dX5_odds_51 : decode cX5_odds 51 = .ok (.iload 5, 2) := by decide +kernel
theorem dX5_odds_53 : decode cX5_odds 53 = .ok (.invokevirtual 210, 3) := by decide +kernel
theorem dX5_odds_56 : decode cX5_odds 56 = .ok (.i2l, 1) := by decide +kernel
theorem dX5_odds_57 : decode cX5_odds 57 = .ok (.iload_n 1, 1) := by decide +kernel
theorem dX5_odds_58 : decode cX5_odds 58 = .ok (.invokestatic 266, 3) := by decide +kernel
theorem dX5_odds_61 : decode cX5_odds 61 = .ok (.ladd, 1) := by decide +kernel
theorem dX5_odds_62 : decode cX5_odds 62 = .ok (.lstore_n 3, 1) := by decide +kernel
theorem dX5_odds_63 : decode cX5_odds 63 = .ok (.iinc 5 1, 3) := by decide +kernel
theorem dX5_odds_66 : decode cX5_odds 66 = .ok (.goto (-28), 3) := by decide +kernel
theorem dX5_odds_69 : decode cX5_odds 69 = .ok (.aload_n 0, 1) := by decide +kernel
theorem dX5_odds_70 : decode cX5_odds 70 = .ok (.lload_n 3, 1) := by decide +kernel
theorem dX5_odds_71 : decode cX5_odds 71 = .ok (.aload_n 0, 1) := by decide +kernel
theorem dX5_odds_72 : decode cX5_odds 72 = .ok (.getfield 29, 3) := by decide +kernel
theorem dX5_odds_75 : decode cX5_odds 75 = .ok (.iload_n 2, 1) := by decide +kernel
theorem dX5_odds_76 : decode cX5_odds 76 = .ok (.invokevirtual 213, 3) := by decide +kernel
theorem dX5_odds_79 : decode cX5_odds 79 = .ok (.i2l, 1) := by decide +kernel
theorem dX5_odds_80 : decode cX5_odds 80 = .ok (.iload_n 1, 1) := by decide +kernel
theorem dX5_odds_81 : decode cX5_odds 81 = .ok (.invokestatic 266, 3) := by decide +kernel
theorem dX5_odds_84 : decode cX5_odds 84 = .ok (.invokevirtual 216, 3) := by decide +kernel
theorem dX5_odds_87 : decode cX5_odds 87 = .ok (.iconst 1, 1) := by decide +kernel
theorem dX5_odds_88 : decode cX5_odds 88 = .ok (.ireturn, 1) := by decide +kernel
theorem dX5_lots_0 : decode cX5_lots 0 = .ok (.iload_n 1, 1) := by decide +kernel
theorem dX5_lots_1 : decode cX5_lots 1 = .ok (.iconst 1, 1) := by decide +kernel
theorem dX5_lots_2 : decode cX5_lots 2 = .ok (.if_icmp .lt 23, 3) := by decide +kernel
theorem dX5_lots_5 : decode cX5_lots 5 = .ok (.iload_n 1, 1) := by decide +kernel
theorem dX5_lots_6 : decode cX5_lots 6 = .ok (.bipush 20, 2) := by decide +kernel
theorem dX5_lots_8 : decode cX5_lots 8 = .ok (.if_icmp .gt 17, 3) := by decide +kernel
theorem dX5_lots_11 : decode cX5_lots 11 = .ok (.iload_n 2, 1) := by decide +kernel
theorem dX5_lots_12 : decode cX5_lots 12 = .ok (.iconst 1, 1) := by decide +kernel
theorem dX5_lots_13 : decode cX5_lots 13 = .ok (.if_icmp .lt 12, 3) := by decide +kernel
theorem dX5_lots_16 : decode cX5_lots 16 = .ok (.iload_n 2, 1) := by decide +kernel
theorem dX5_lots_17 : decode cX5_lots 17 = .ok (.i2l, 1) := by decide +kernel
theorem dX5_lots_18 : decode cX5_lots 18 = .ok (.ldc2_w 270, 3) := by decide +kernel
theorem dX5_lots_21 : decode cX5_lots 21 = .ok (.lcmp, 1) := by decide +kernel
theorem dX5_lots_22 : decode cX5_lots 22 = .ok (.ifCond .lt 5, 3) := by decide +kernel
theorem dX5_lots_25 : decode cX5_lots 25 = .ok (.iconst (-1), 1) := by decide +kernel
theorem dX5_lots_26 : decode cX5_lots 26 = .ok (.ireturn, 1) := by decide +kernel
theorem dX5_lots_27 : decode cX5_lots 27 = .ok (.aload_n 0, 1) := by decide +kernel
theorem dX5_lots_28 : decode cX5_lots 28 = .ok (.getfield 29, 3) := by decide +kernel
theorem dX5_lots_31 : decode cX5_lots 31 = .ok (.getfield 107, 3) := by decide +kernel
theorem dX5_lots_34 : decode cX5_lots 34 = .ok (.ifCond .eq 21, 3) := by decide +kernel
theorem dX5_lots_37 : decode cX5_lots 37 = .ok (.aload_n 0, 1) := by decide +kernel
theorem dX5_lots_38 : decode cX5_lots 38 = .ok (.getfield 29, 3) := by decide +kernel
theorem dX5_lots_41 : decode cX5_lots 41 = .ok (.getfield 171, 3) := by decide +kernel
theorem dX5_lots_44 : decode cX5_lots 44 = .ok (.bipush 70, 2) := by decide +kernel
theorem dX5_lots_46 : decode cX5_lots 46 = .ok (.iload_n 1, 1) := by decide +kernel
theorem dX5_lots_47 : decode cX5_lots 47 = .ok (.imul, 1) := by decide +kernel
theorem dX5_lots_48 : decode cX5_lots 48 = .ok (.iadd, 1) := by decide +kernel
theorem dX5_lots_49 : decode cX5_lots 49 = .ok (.sipush 9999, 3) := by decide +kernel
theorem dX5_lots_52 : decode cX5_lots 52 = .ok (.if_icmp .le 6, 3) := by decide +kernel
theorem dX5_lots_55 : decode cX5_lots 55 = .ok (.bipush (-4), 2) := by decide +kernel
theorem dX5_lots_57 : decode cX5_lots 57 = .ok (.ireturn, 1) := by decide +kernel
theorem dX5_lots_58 : decode cX5_lots 58 = .ok (.aload_n 0, 1) := by decide +kernel
theorem dX5_lots_59 : decode cX5_lots 59 = .ok (.getfield 29, 3) := by decide +kernel
theorem dX5_lots_62 : decode cX5_lots 62 = .ok (.getfield 158, 3) := by decide +kernel
theorem dX5_lots_65 : decode cX5_lots 65 = .ok (.getfield 162, 3) := by decide +kernel
theorem dX5_lots_68 : decode cX5_lots 68 = .ok (.iload_n 1, 1) := by decide +kernel
theorem dX5_lots_69 : decode cX5_lots 69 = .ok (.iadd, 1) := by decide +kernel
theorem dX5_lots_70 : decode cX5_lots 70 = .ok (.bipush 60, 2) := by decide +kernel
theorem dX5_lots_72 : decode cX5_lots 72 = .ok (.if_icmp .le 6, 3) := by decide +kernel
theorem dX5_lots_75 : decode cX5_lots 75 = .ok (.bipush (-2), 2) := by decide +kernel
theorem dX5_lots_77 : decode cX5_lots 77 = .ok (.ireturn, 1) := by decide +kernel
theorem dX5_lots_78 : decode cX5_lots 78 = .ok (.iload_n 2, 1) := by decide +kernel
theorem dX5_lots_79 : decode cX5_lots 79 = .ok (.i2l, 1) := by decide +kernel
theorem dX5_lots_80 : decode cX5_lots 80 = .ok (.lstore_n 3, 1) := by decide +kernel
theorem dX5_lots_81 : decode cX5_lots 81 = .ok (.iconst 0, 1) := by decide +kernel
theorem dX5_lots_82 : decode cX5_lots 82 = .ok (.istore 5, 2) := by decide +kernel
theorem dX5_lots_84 : decode cX5_lots 84 = .ok (.iconst 0, 1) := by decide +kernel
theorem dX5_lots_85 : decode cX5_lots 85 = .ok (.istore 6, 2) := by decide +kernel
theorem dX5_lots_87 : decode cX5_lots 87 = .ok (.iload 6, 2) := by decide +kernel
theorem dX5_lots_89 : decode cX5_lots 89 = .ok (.iload_n 1, 1) := by decide +kernel
theorem dX5_lots_90 : decode cX5_lots 90 = .ok (.if_icmp .ge 90, 3) := by decide +kernel
theorem dX5_lots_93 : decode cX5_lots 93 = .ok (.lload_n 3, 1) := by decide +kernel
theorem dX5_lots_94 : decode cX5_lots 94 = .ok (.ldc2_w 272, 3) := by decide +kernel
theorem dX5_lots_97 : decode cX5_lots 97 = .ok (.lmul, 1) := by decide +kernel
theorem dX5_lots_98 : decode cX5_lots 98 = .ok (.ldc2_w 270, 3) := by decide +kernel
theorem dX5_lots_101 : decode cX5_lots 101 = .ok (.lrem, 1) := by decide +kernel
theorem dX5_lots_102 : decode cX5_lots 102 = .ok (.lstore_n 3, 1) := by decide +kernel
theorem dX5_lots_103 : decode cX5_lots 103 = .ok (.lload_n 3, 1) := by decide +kernel
theorem dX5_lots_104 : decode cX5_lots 104 = .ok (.aload_n 0, 1) := by decide +kernel
theorem dX5_lots_105 : decode cX5_lots 105 = .ok (.getfield 29, 3) := by decide +kernel
theorem dX5_lots_108 : decode cX5_lots 108 = .ok (.getfield 107, 3) := by decide +kernel
theorem dX5_lots_111 : decode cX5_lots 111 = .ok (.i2l, 1) := by decide +kernel
theorem dX5_lots_112 : decode cX5_lots 112 = .ok (.lrem, 1) := by decide +kernel
theorem dX5_lots_113 : decode cX5_lots 113 = .ok (.l2i, 1) := by decide +kernel
theorem dX5_lots_114 : decode cX5_lots 114 = .ok (.istore 7, 2) := by decide +kernel
theorem dX5_lots_116 : decode cX5_lots 116 = .ok (.aload_n 0, 1) := by decide +kernel
theorem dX5_lots_117 : decode cX5_lots 117 = .ok (.getfield 29, 3) := by decide +kernel
theorem dX5_lots_120 : decode cX5_lots 120 = .ok (.aload_n 0, 1) := by decide +kernel
theorem dX5_lots_121 : decode cX5_lots 121 = .ok (.getfield 29, 3) := by decide +kernel
theorem dX5_lots_124 : decode cX5_lots 124 = .ok (.getfield 116, 3) := by decide +kernel
theorem dX5_lots_127 : decode cX5_lots 127 = .ok (.iload 7, 2) := by decide +kernel
theorem dX5_lots_129 : decode cX5_lots 129 = .ok (.aaload, 1) := by decide +kernel
theorem dX5_lots_130 : decode cX5_lots 130 = .ok (.getfield 138, 3) := by decide +kernel
theorem dX5_lots_133 : decode cX5_lots 133 = .ok (.aload_n 0, 1) := by decide +kernel
theorem dX5_lots_134 : decode cX5_lots 134 = .ok (.getfield 29, 3) := by decide +kernel
theorem dX5_lots_137 : decode cX5_lots 137 = .ok (.getfield 116, 3) := by decide +kernel
theorem dX5_lots_140 : decode cX5_lots 140 = .ok (.iload 7, 2) := by decide +kernel
theorem dX5_lots_142 : decode cX5_lots 142 = .ok (.aaload, 1) := by decide +kernel
theorem dX5_lots_143 : decode cX5_lots 143 = .ok (.getfield 141, 3) := by decide +kernel
theorem dX5_lots_146 : decode cX5_lots 146 = .ok (.invokevirtual 144, 3) := by decide +kernel
theorem dX5_lots_149 : decode cX5_lots 149 = .ok (.istore 8, 2) := by decide +kernel
theorem dX5_lots_151 : decode cX5_lots 151 = .ok (.iload 5, 2) := by decide +kernel
theorem dX5_lots_153 : decode cX5_lots 153 = .ok (.aload_n 0, 1) := by decide +kernel
theorem dX5_lots_154 : decode cX5_lots 154 = .ok (.getfield 29, 3) := by decide +kernel
theorem dX5_lots_157 : decode cX5_lots 157 = .ok (.iload 7, 2) := by decide +kernel
theorem dX5_lots_159 : decode cX5_lots 159 = .ok (.aload_n 0, 1) := by decide +kernel
theorem dX5_lots_160 : decode cX5_lots 160 = .ok (.getfield 29, 3) := by decide +kernel
theorem dX5_lots_163 : decode cX5_lots 163 = .ok (.iload 8, 2) := by decide +kernel
theorem dX5_lots_165 : decode cX5_lots 165 = .ok (.invokevirtual 223, 3) := by decide +kernel
theorem dX5_lots_168 : decode cX5_lots 168 = .ok (.invokevirtual 177, 3) := by decide +kernel
theorem dX5_lots_171 : decode cX5_lots 171 = .ok (.iadd, 1) := by decide +kernel
theorem dX5_lots_172 : decode cX5_lots 172 = .ok (.istore 5, 2) := by decide +kernel
theorem dX5_lots_174 : decode cX5_lots 174 = .ok (.iinc 6 1, 3) := by decide +kernel
theorem dX5_lots_177 : decode cX5_lots 177 = .ok (.goto (-90), 3) := by decide +kernel
theorem dX5_lots_180 : decode cX5_lots 180 = .ok (.iload 5, 2) := by decide +kernel
theorem dX5_lots_182 : decode cX5_lots 182 = .ok (.ireturn, 1) := by decide +kernel
theorem dX5_asked_0 : decode cX5_asked 0 = .ok (.aload_n 0, 1) := by decide +kernel
theorem dX5_asked_1 : decode cX5_asked 1 = .ok (.getfield 53, 3) := by decide +kernel
theorem dX5_asked_4 : decode cX5_asked 4 = .ok (.ireturn, 1) := by decide +kernel
theorem dX5_upper_0 : decode cX5_upper 0 = .ok (.aload_n 0, 1) := by decide +kernel
theorem dX5_upper_1 : decode cX5_upper 1 = .ok (.getfield 56, 3) := by decide +kernel
theorem dX5_upper_4 : decode cX5_upper 4 = .ok (.lreturn, 1) := by decide +kernel
theorem dX5_lower_0 : decode cX5_lower 0 = .ok (.aload_n 0, 1) := by decide +kernel
theorem dX5_lower_1 : decode cX5_lower 1 = .ok (.getfield 60, 3) := by decide +kernel
theorem dX5_lower_4 : decode cX5_lower 4 = .ok (.lreturn, 1) := by decide +kernel
theorem dX5_count_0 : decode cX5_count 0 = .ok (.iload_n 1, 1) := by decide +kernel
theorem dX5_count_1 : decode cX5_count 1 = .ok (.tableswitch 135 0 9 #[55, 63, 71, 79, 90, 98, 106, 114, 122, 130], 55) := by decide +kernel
theorem dX5_count_56 : decode cX5_count 56 = .ok (.aload_n 0, 1) := by decide +kernel
theorem dX5_count_57 : decode cX5_count 57 = .ok (.getfield 29, 3) := by decide +kernel
theorem dX5_count_60 : decode cX5_count 60 = .ok (.getfield 107, 3) := by decide +kernel
theorem dX5_count_63 : decode cX5_count 63 = .ok (.ireturn, 1) := by decide +kernel
theorem dX5_count_64 : decode cX5_count 64 = .ok (.aload_n 0, 1) := by decide +kernel
theorem dX5_count_65 : decode cX5_count 65 = .ok (.getfield 29, 3) := by decide +kernel
theorem dX5_count_68 : decode cX5_count 68 = .ok (.getfield 125, 3) := by decide +kernel
theorem dX5_count_71 : decode cX5_count 71 = .ok (.ireturn, 1) := by decide +kernel
theorem dX5_count_72 : decode cX5_count 72 = .ok (.aload_n 0, 1) := by decide +kernel
theorem dX5_count_73 : decode cX5_count 73 = .ok (.getfield 29, 3) := by decide +kernel
theorem dX5_count_76 : decode cX5_count 76 = .ok (.getfield 171, 3) := by decide +kernel
theorem dX5_count_79 : decode cX5_count 79 = .ok (.ireturn, 1) := by decide +kernel
theorem dX5_count_80 : decode cX5_count 80 = .ok (.aload_n 0, 1) := by decide +kernel
theorem dX5_count_81 : decode cX5_count 81 = .ok (.getfield 29, 3) := by decide +kernel
theorem dX5_count_84 : decode cX5_count 84 = .ok (.getfield 158, 3) := by decide +kernel
theorem dX5_count_87 : decode cX5_count 87 = .ok (.getfield 162, 3) := by decide +kernel
theorem dX5_count_90 : decode cX5_count 90 = .ok (.ireturn, 1) := by decide +kernel
theorem dX5_count_91 : decode cX5_count 91 = .ok (.aload_n 0, 1) := by decide +kernel
theorem dX5_count_92 : decode cX5_count 92 = .ok (.getfield 29, 3) := by decide +kernel
theorem dX5_count_95 : decode cX5_count 95 = .ok (.invokevirtual 274, 3) := by decide +kernel
theorem dX5_count_98 : decode cX5_count 98 = .ok (.ireturn, 1) := by decide +kernel
theorem dX5_count_99 : decode cX5_count 99 = .ok (.aload_n 0, 1) := by decide +kernel
theorem dX5_count_100 : decode cX5_count 100 = .ok (.getfield 29, 3) := by decide +kernel
theorem dX5_count_103 : decode cX5_count 103 = .ok (.invokevirtual 277, 3) := by decide +kernel
theorem dX5_count_106 : decode cX5_count 106 = .ok (.ireturn, 1) := by decide +kernel
theorem dX5_count_107 : decode cX5_count 107 = .ok (.aload_n 0, 1) := by decide +kernel
theorem dX5_count_108 : decode cX5_count 108 = .ok (.getfield 29, 3) := by decide +kernel
theorem dX5_count_111 : decode cX5_count 111 = .ok (.invokevirtual 280, 3) := by decide +kernel
theorem dX5_count_114 : decode cX5_count 114 = .ok (.ireturn, 1) := by decide +kernel
theorem dX5_count_115 : decode cX5_count 115 = .ok (.aload_n 0, 1) := by decide +kernel
theorem dX5_count_116 : decode cX5_count 116 = .ok (.getfield 14, 3) := by decide +kernel
theorem dX5_count_119 : decode cX5_count 119 = .ok (.invokestatic 283, 3) := by decide +kernel
theorem dX5_count_122 : decode cX5_count 122 = .ok (.ireturn, 1) := by decide +kernel
theorem dX5_count_123 : decode cX5_count 123 = .ok (.aload_n 0, 1) := by decide +kernel
theorem dX5_count_124 : decode cX5_count 124 = .ok (.getfield 23, 3) := by decide +kernel
theorem dX5_count_127 : decode cX5_count 127 = .ok (.invokestatic 283, 3) := by decide +kernel
theorem dX5_count_130 : decode cX5_count 130 = .ok (.ireturn, 1) := by decide +kernel
theorem dX5_count_131 : decode cX5_count 131 = .ok (.aload_n 0, 1) := by decide +kernel
theorem dX5_count_132 : decode cX5_count 132 = .ok (.invokevirtual 287, 3) := by decide +kernel
theorem dX5_count_135 : decode cX5_count 135 = .ok (.ireturn, 1) := by decide +kernel
theorem dX5_count_136 : decode cX5_count 136 = .ok (.iconst (-1), 1) := by decide +kernel
theorem dX5_count_137 : decode cX5_count 137 = .ok (.ireturn, 1) := by decide +kernel
theorem dX5_finding_0 : decode cX5_finding 0 = .ok (.aload_n 0, 1) := by decide +kernel
theorem dX5_finding_1 : decode cX5_finding 1 = .ok (.getfield 49, 3) := by decide +kernel
theorem dX5_finding_4 : decode cX5_finding 4 = .ok (.ireturn, 1) := by decide +kernel
theorem dX5_findings_0 : decode cX5_findings 0 = .ok (.iload_n 1, 1) := by decide +kernel
theorem dX5_findings_1 : decode cX5_findings 1 = .ok (.iconst 1, 1) := by decide +kernel
theorem dX5_findings_2 : decode cX5_findings 2 = .ok (.if_icmp .lt 8, 3) := by decide +kernel
theorem dX5_findings_5 : decode cX5_findings 5 = .ok (.iload_n 1, 1) := by decide +kernel
theorem dX5_findings_6 : decode cX5_findings 6 = .ok (.iconst 5, 1) := by decide +kernel
theorem dX5_findings_7 : decode cX5_findings 7 = .ok (.if_icmp .le 5, 3) := by decide +kernel
theorem dX5_findings_10 : decode cX5_findings 10 = .ok (.iconst (-1), 1) := by decide +kernel
theorem dX5_findings_11 : decode cX5_findings 11 = .ok (.ireturn, 1) := by decide +kernel
theorem dX5_findings_12 : decode cX5_findings 12 = .ok (.aload_n 0, 1) := by decide +kernel
theorem dX5_findings_13 : decode cX5_findings 13 = .ok (.getfield 46, 3) := by decide +kernel
theorem dX5_findings_16 : decode cX5_findings 16 = .ok (.iload_n 1, 1) := by decide +kernel
theorem dX5_findings_17 : decode cX5_findings 17 = .ok (.iaload, 1) := by decide +kernel
theorem dX5_findings_18 : decode cX5_findings 18 = .ok (.ireturn, 1) := by decide +kernel
theorem dX5_digest_0 : decode cX5_digest 0 = .ok (.ldc2_w 290, 3) := by decide +kernel
theorem dX5_digest_3 : decode cX5_digest 3 = .ok (.lstore_n 1, 1) := by decide +kernel
theorem dX5_digest_4 : decode cX5_digest 4 = .ok (.iconst 0, 1) := by decide +kernel
theorem dX5_digest_5 : decode cX5_digest 5 = .ok (.istore_n 3, 1) := by decide +kernel
theorem dX5_digest_6 : decode cX5_digest 6 = .ok (.iload_n 3, 1) := by decide +kernel
theorem dX5_digest_7 : decode cX5_digest 7 = .ok (.bipush 10, 2) := by decide +kernel
theorem dX5_digest_9 : decode cX5_digest 9 = .ok (.if_icmp .ge 22, 3) := by decide +kernel
theorem dX5_digest_12 : decode cX5_digest 12 = .ok (.ldc2_w 292, 3) := by decide +kernel
theorem dX5_digest_15 : decode cX5_digest 15 = .ok (.lload_n 1, 1) := by decide +kernel
theorem dX5_digest_16 : decode cX5_digest 16 = .ok (.lmul, 1) := by decide +kernel
theorem dX5_digest_17 : decode cX5_digest 17 = .ok (.aload_n 0, 1) := by decide +kernel
theorem dX5_digest_18 : decode cX5_digest 18 = .ok (.iload_n 3, 1) := by decide +kernel
theorem dX5_digest_19 : decode cX5_digest 19 = .ok (.invokevirtual 294, 3) := by decide +kernel
theorem dX5_digest_22 : decode cX5_digest 22 = .ok (.i2l, 1) := by decide +kernel
theorem dX5_digest_23 : decode cX5_digest 23 = .ok (.ladd, 1) := by decide +kernel
theorem dX5_digest_24 : decode cX5_digest 24 = .ok (.lstore_n 1, 1) := by decide +kernel
theorem dX5_digest_25 : decode cX5_digest 25 = .ok (.iinc 3 1, 3) := by decide +kernel
theorem dX5_digest_28 : decode cX5_digest 28 = .ok (.goto (-22), 3) := by decide +kernel
theorem dX5_digest_31 : decode cX5_digest 31 = .ok (.iconst 0, 1) := by decide +kernel
theorem dX5_digest_32 : decode cX5_digest 32 = .ok (.istore_n 3, 1) := by decide +kernel
theorem dX5_digest_33 : decode cX5_digest 33 = .ok (.iload_n 3, 1) := by decide +kernel
theorem dX5_digest_34 : decode cX5_digest 34 = .ok (.aload_n 0, 1) := by decide +kernel
theorem dX5_digest_35 : decode cX5_digest 35 = .ok (.getfield 29, 3) := by decide +kernel
theorem dX5_digest_38 : decode cX5_digest 38 = .ok (.getfield 107, 3) := by decide +kernel
theorem dX5_digest_41 : decode cX5_digest 41 = .ok (.if_icmp .ge 43, 3) := by decide +kernel
theorem dX5_digest_44 : decode cX5_digest 44 = .ok (.iconst 0, 1) := by decide +kernel
theorem dX5_digest_45 : decode cX5_digest 45 = .ok (.istore 4, 2) := by decide +kernel
theorem dX5_digest_47 : decode cX5_digest 47 = .ok (.iload 4, 2) := by decide +kernel
theorem dX5_digest_49 : decode cX5_digest 49 = .ok (.bipush 9, 2) := by decide +kernel
theorem dX5_digest_51 : decode cX5_digest 51 = .ok (.if_icmp .ge 27, 3) := by decide +kernel
theorem dX5_digest_54 : decode cX5_digest 54 = .ok (.ldc2_w 292, 3) := by decide +kernel
theorem dX5_digest_57 : decode cX5_digest 57 = .ok (.lload_n 1, 1) := by decide +kernel
theorem dX5_digest_58 : decode cX5_digest 58 = .ok (.lmul, 1) := by decide +kernel
theorem dX5_digest_59 : decode cX5_digest 59 = .ok (.aload_n 0, 1) := by decide +kernel
theorem dX5_digest_60 : decode cX5_digest 60 = .ok (.getfield 29, 3) := by decide +kernel
theorem dX5_digest_63 : decode cX5_digest 63 = .ok (.iload_n 3, 1) := by decide +kernel
theorem dX5_digest_64 : decode cX5_digest 64 = .ok (.iload 4, 2) := by decide +kernel
theorem dX5_digest_66 : decode cX5_digest 66 = .ok (.invokevirtual 113, 3) := by decide +kernel
theorem dX5_digest_69 : decode cX5_digest 69 = .ok (.i2l, 1) := by decide +kernel
theorem dX5_digest_70 : decode cX5_digest 70 = .ok (.ladd, 1) := by decide +kernel
theorem dX5_digest_71 : decode cX5_digest 71 = .ok (.lstore_n 1, 1) := by decide +kernel
theorem dX5_digest_72 : decode cX5_digest 72 = .ok (.iinc 4 1, 3) := by decide +kernel
theorem dX5_digest_75 : decode cX5_digest 75 = .ok (.goto (-28), 3) := by decide +kernel
theorem dX5_digest_78 : decode cX5_digest 78 = .ok (.iinc 3 1, 3) := by decide +kernel
theorem dX5_digest_81 : decode cX5_digest 81 = .ok (.goto (-48), 3) := by decide +kernel
theorem dX5_digest_84 : decode cX5_digest 84 = .ok (.iconst 0, 1) := by decide +kernel
theorem dX5_digest_85 : decode cX5_digest 85 = .ok (.istore_n 3, 1) := by decide +kernel
theorem dX5_digest_86 : decode cX5_digest 86 = .ok (.iload_n 3, 1) := by decide +kernel
theorem dX5_digest_87 : decode cX5_digest 87 = .ok (.iconst 3, 1) := by decide +kernel
theorem dX5_digest_88 : decode cX5_digest 88 = .ok (.if_icmp .ge 45, 3) := by decide +kernel
theorem dX5_digest_91 : decode cX5_digest 91 = .ok (.ldc2_w 292, 3) := by decide +kernel
theorem dX5_digest_94 : decode cX5_digest 94 = .ok (.lload_n 1, 1) := by decide +kernel
theorem dX5_digest_95 : decode cX5_digest 95 = .ok (.lmul, 1) := by decide +kernel
theorem dX5_digest_96 : decode cX5_digest 96 = .ok (.aload_n 0, 1) := by decide +kernel
theorem dX5_digest_97 : decode cX5_digest 97 = .ok (.getfield 35, 3) := by decide +kernel
theorem dX5_digest_100 : decode cX5_digest 100 = .ok (.iload_n 3, 1) := by decide +kernel
theorem dX5_digest_101 : decode cX5_digest 101 = .ok (.aaload, 1) := by decide +kernel
theorem dX5_digest_102 : decode cX5_digest 102 = .ok (.getfield 103, 3) := by decide +kernel
theorem dX5_digest_105 : decode cX5_digest 105 = .ok (.ifCond .eq 18, 3) := by decide +kernel
theorem dX5_digest_108 : decode cX5_digest 108 = .ok (.aload_n 0, 1) := by decide +kernel
theorem dX5_digest_109 : decode cX5_digest 109 = .ok (.getfield 35, 3) := by decide +kernel
theorem dX5_digest_112 : decode cX5_digest 112 = .ok (.iload_n 3, 1) := by decide +kernel
theorem dX5_digest_113 : decode cX5_digest 113 = .ok (.aaload, 1) := by decide +kernel
theorem dX5_digest_114 : decode cX5_digest 114 = .ok (.getfield 297, 3) := by decide +kernel
theorem dX5_digest_117 : decode cX5_digest 117 = .ok (.getfield 162, 3) := by decide +kernel
theorem dX5_digest_120 : decode cX5_digest 120 = .ok (.goto 4, 3) := by decide +kernel
theorem dX5_digest_123 : decode cX5_digest 123 = .ok (.iconst (-1), 1) := by decide +kernel
theorem dX5_digest_124 : decode cX5_digest 124 = .ok (.i2l, 1) := by decide +kernel
theorem dX5_digest_125 : decode cX5_digest 125 = .ok (.ladd, 1) := by decide +kernel
theorem dX5_digest_126 : decode cX5_digest 126 = .ok (.lstore_n 1, 1) := by decide +kernel
theorem dX5_digest_127 : decode cX5_digest 127 = .ok (.iinc 3 1, 3) := by decide +kernel
theorem dX5_digest_130 : decode cX5_digest 130 = .ok (.goto (-44), 3) := by decide +kernel
theorem dX5_digest_133 : decode cX5_digest 133 = .ok (.iconst 0, 1) := by decide +kernel
theorem dX5_digest_134 : decode cX5_digest 134 = .ok (.istore_n 3, 1) := by decide +kernel
theorem dX5_digest_135 : decode cX5_digest 135 = .ok (.iload_n 3, 1) := by decide +kernel
theorem dX5_digest_136 : decode cX5_digest 136 = .ok (.bipush 6, 2) := by decide +kernel
theorem dX5_digest_138 : decode cX5_digest 138 = .ok (.if_icmp .ge 60, 3) := by decide +kernel
theorem dX5_digest_141 : decode cX5_digest 141 = .ok (.ldc2_w 292, 3) := by decide +kernel
theorem dX5_digest_144 : decode cX5_digest 144 = .ok (.lload_n 1, 1) := by decide +kernel
theorem dX5_digest_145 : decode cX5_digest 145 = .ok (.lmul, 1) := by decide +kernel
theorem dX5_digest_146 : decode cX5_digest 146 = .ok (.aload_n 0, 1) := by decide +kernel
theorem dX5_digest_147 : decode cX5_digest 147 = .ok (.getfield 14, 3) := by decide +kernel
theorem dX5_digest_150 : decode cX5_digest 150 = .ok (.iload_n 3, 1) := by decide +kernel
theorem dX5_digest_151 : decode cX5_digest 151 = .ok (.iaload, 1) := by decide +kernel
theorem dX5_digest_152 : decode cX5_digest 152 = .ok (.i2l, 1) := by decide +kernel
theorem dX5_digest_153 : decode cX5_digest 153 = .ok (.ladd, 1) := by decide +kernel
theorem dX5_digest_154 : decode cX5_digest 154 = .ok (.lstore_n 1, 1) := by decide +kernel
theorem dX5_digest_155 : decode cX5_digest 155 = .ok (.iconst 0, 1) := by decide +kernel
theorem dX5_digest_156 : decode cX5_digest 156 = .ok (.istore 4, 2) := by decide +kernel
theorem dX5_digest_158 : decode cX5_digest 158 = .ok (.iload 4, 2) := by decide +kernel
theorem dX5_digest_160 : decode cX5_digest 160 = .ok (.aload_n 0, 1) := by decide +kernel
theorem dX5_digest_161 : decode cX5_digest 161 = .ok (.getfield 14, 3) := by decide +kernel
theorem dX5_digest_164 : decode cX5_digest 164 = .ok (.iload_n 3, 1) := by decide +kernel
theorem dX5_digest_165 : decode cX5_digest 165 = .ok (.iaload, 1) := by decide +kernel
theorem dX5_digest_166 : decode cX5_digest 166 = .ok (.if_icmp .ge 26, 3) := by decide +kernel
theorem dX5_digest_169 : decode cX5_digest 169 = .ok (.ldc2_w 292, 3) := by decide +kernel
theorem dX5_digest_172 : decode cX5_digest 172 = .ok (.lload_n 1, 1) := by decide +kernel
theorem dX5_digest_173 : decode cX5_digest 173 = .ok (.lmul, 1) := by decide +kernel
theorem dX5_digest_174 : decode cX5_digest 174 = .ok (.aload_n 0, 1) := by decide +kernel
theorem dX5_digest_175 : decode cX5_digest 175 = .ok (.getfield 11, 3) := by decide +kernel
theorem dX5_digest_178 : decode cX5_digest 178 = .ok (.iload_n 3, 1) := by decide +kernel
theorem dX5_digest_179 : decode cX5_digest 179 = .ok (.aaload, 1) := by decide +kernel
theorem dX5_digest_180 : decode cX5_digest 180 = .ok (.iload 4, 2) := by decide +kernel
theorem dX5_digest_182 : decode cX5_digest 182 = .ok (.iaload, 1) := by decide +kernel
theorem dX5_digest_183 : decode cX5_digest 183 = .ok (.i2l, 1) := by decide +kernel
theorem dX5_digest_184 : decode cX5_digest 184 = .ok (.ladd, 1) := by decide +kernel
theorem dX5_digest_185 : decode cX5_digest 185 = .ok (.lstore_n 1, 1) := by decide +kernel
theorem dX5_digest_186 : decode cX5_digest 186 = .ok (.iinc 4 1, 3) := by decide +kernel
theorem dX5_digest_189 : decode cX5_digest 189 = .ok (.goto (-31), 3) := by decide +kernel
theorem dX5_digest_192 : decode cX5_digest 192 = .ok (.iinc 3 1, 3) := by decide +kernel
theorem dX5_digest_195 : decode cX5_digest 195 = .ok (.goto (-60), 3) := by decide +kernel
theorem dX5_digest_198 : decode cX5_digest 198 = .ok (.iconst 0, 1) := by decide +kernel
theorem dX5_digest_199 : decode cX5_digest 199 = .ok (.istore_n 3, 1) := by decide +kernel
theorem dX5_digest_200 : decode cX5_digest 200 = .ok (.iload_n 3, 1) := by decide +kernel
theorem dX5_digest_201 : decode cX5_digest 201 = .ok (.iconst 4, 1) := by decide +kernel
theorem dX5_digest_202 : decode cX5_digest 202 = .ok (.if_icmp .ge 60, 3) := by decide +kernel
theorem dX5_digest_205 : decode cX5_digest 205 = .ok (.ldc2_w 292, 3) := by decide +kernel
theorem dX5_digest_208 : decode cX5_digest 208 = .ok (.lload_n 1, 1) := by decide +kernel
theorem dX5_digest_209 : decode cX5_digest 209 = .ok (.lmul, 1) := by decide +kernel
theorem dX5_digest_210 : decode cX5_digest 210 = .ok (.aload_n 0, 1) := by decide +kernel
theorem dX5_digest_211 : decode cX5_digest 211 = .ok (.getfield 23, 3) := by decide +kernel
theorem dX5_digest_214 : decode cX5_digest 214 = .ok (.iload_n 3, 1) := by decide +kernel
theorem dX5_digest_215 : decode cX5_digest 215 = .ok (.iaload, 1) := by decide +kernel
theorem dX5_digest_216 : decode cX5_digest 216 = .ok (.i2l, 1) := by decide +kernel
theorem dX5_digest_217 : decode cX5_digest 217 = .ok (.ladd, 1) := by decide +kernel
theorem dX5_digest_218 : decode cX5_digest 218 = .ok (.lstore_n 1, 1) := by decide +kernel
theorem dX5_digest_219 : decode cX5_digest 219 = .ok (.iconst 0, 1) := by decide +kernel
theorem dX5_digest_220 : decode cX5_digest 220 = .ok (.istore 4, 2) := by decide +kernel
theorem dX5_digest_222 : decode cX5_digest 222 = .ok (.iload 4, 2) := by decide +kernel
theorem dX5_digest_224 : decode cX5_digest 224 = .ok (.aload_n 0, 1) := by decide +kernel
theorem dX5_digest_225 : decode cX5_digest 225 = .ok (.getfield 23, 3) := by decide +kernel
theorem dX5_digest_228 : decode cX5_digest 228 = .ok (.iload_n 3, 1) := by decide +kernel
theorem dX5_digest_229 : decode cX5_digest 229 = .ok (.iaload, 1) := by decide +kernel
theorem dX5_digest_230 : decode cX5_digest 230 = .ok (.if_icmp .ge 26, 3) := by decide +kernel
theorem dX5_digest_233 : decode cX5_digest 233 = .ok (.ldc2_w 292, 3) := by decide +kernel
theorem dX5_digest_236 : decode cX5_digest 236 = .ok (.lload_n 1, 1) := by decide +kernel
theorem dX5_digest_237 : decode cX5_digest 237 = .ok (.lmul, 1) := by decide +kernel
theorem dX5_digest_238 : decode cX5_digest 238 = .ok (.aload_n 0, 1) := by decide +kernel
theorem dX5_digest_239 : decode cX5_digest 239 = .ok (.getfield 20, 3) := by decide +kernel
theorem dX5_digest_242 : decode cX5_digest 242 = .ok (.iload_n 3, 1) := by decide +kernel
theorem dX5_digest_243 : decode cX5_digest 243 = .ok (.aaload, 1) := by decide +kernel
theorem dX5_digest_244 : decode cX5_digest 244 = .ok (.iload 4, 2) := by decide +kernel
theorem dX5_digest_246 : decode cX5_digest 246 = .ok (.baload, 1) := by decide +kernel
theorem dX5_digest_247 : decode cX5_digest 247 = .ok (.i2l, 1) := by decide +kernel
theorem dX5_digest_248 : decode cX5_digest 248 = .ok (.ladd, 1) := by decide +kernel
theorem dX5_digest_249 : decode cX5_digest 249 = .ok (.lstore_n 1, 1) := by decide +kernel
theorem dX5_digest_250 : decode cX5_digest 250 = .ok (.iinc 4 1, 3) := by decide +kernel
theorem dX5_digest_253 : decode cX5_digest 253 = .ok (.goto (-31), 3) := by decide +kernel
theorem dX5_digest_256 : decode cX5_digest 256 = .ok (.iinc 3 1, 3) := by decide +kernel
theorem dX5_digest_259 : decode cX5_digest 259 = .ok (.goto (-59), 3) := by decide +kernel
theorem dX5_digest_262 : decode cX5_digest 262 = .ok (.lload_n 1, 1) := by decide +kernel
theorem dX5_digest_263 : decode cX5_digest 263 = .ok (.lreturn, 1) := by decide +kernel
theorem dX5_isRow_0 : decode cX5_isRow 0 = .ok (.iload_n 0, 1) := by decide +kernel
theorem dX5_isRow_1 : decode cX5_isRow 1 = .ok (.ifCond .lt 13, 3) := by decide +kernel
theorem dX5_isRow_4 : decode cX5_isRow 4 = .ok (.iload_n 0, 1) := by decide +kernel
theorem dX5_isRow_5 : decode cX5_isRow 5 = .ok (.bipush 6, 2) := by decide +kernel
theorem dX5_isRow_7 : decode cX5_isRow 7 = .ok (.if_icmp .ge 7, 3) := by decide +kernel
theorem dX5_isRow_10 : decode cX5_isRow 10 = .ok (.iconst 1, 1) := by decide +kernel
theorem dX5_isRow_11 : decode cX5_isRow 11 = .ok (.goto 4, 3) := by decide +kernel
theorem dX5_isRow_14 : decode cX5_isRow 14 = .ok (.iconst 0, 1) := by decide +kernel
theorem dX5_isRow_15 : decode cX5_isRow 15 = .ok (.ireturn, 1) := by decide +kernel
theorem dX5_isText_0 : decode cX5_isText 0 = .ok (.iload_n 0, 1) := by decide +kernel
theorem dX5_isText_1 : decode cX5_isText 1 = .ok (.ifCond .lt 12, 3) := by decide +kernel
theorem dX5_isText_4 : decode cX5_isText 4 = .ok (.iload_n 0, 1) := by decide +kernel
theorem dX5_isText_5 : decode cX5_isText 5 = .ok (.iconst 4, 1) := by decide +kernel
theorem dX5_isText_6 : decode cX5_isText 6 = .ok (.if_icmp .ge 7, 3) := by decide +kernel
theorem dX5_isText_9 : decode cX5_isText 9 = .ok (.iconst 1, 1) := by decide +kernel
theorem dX5_isText_10 : decode cX5_isText 10 = .ok (.goto 4, 3) := by decide +kernel
theorem dX5_isText_13 : decode cX5_isText 13 = .ok (.iconst 0, 1) := by decide +kernel
theorem dX5_isText_14 : decode cX5_isText 14 = .ok (.ireturn, 1) := by decide +kernel
theorem dX5_isPlace_0 : decode cX5_isPlace 0 = .ok (.iload_n 0, 1) := by decide +kernel
theorem dX5_isPlace_1 : decode cX5_isPlace 1 = .ok (.ifCond .lt 12, 3) := by decide +kernel
theorem dX5_isPlace_4 : decode cX5_isPlace 4 = .ok (.iload_n 0, 1) := by decide +kernel
theorem dX5_isPlace_5 : decode cX5_isPlace 5 = .ok (.iconst 3, 1) := by decide +kernel
theorem dX5_isPlace_6 : decode cX5_isPlace 6 = .ok (.if_icmp .ge 7, 3) := by decide +kernel
theorem dX5_isPlace_9 : decode cX5_isPlace 9 = .ok (.iconst 1, 1) := by decide +kernel
theorem dX5_isPlace_10 : decode cX5_isPlace 10 = .ok (.goto 4, 3) := by decide +kernel
theorem dX5_isPlace_13 : decode cX5_isPlace 13 = .ok (.iconst 0, 1) := by decide +kernel
theorem dX5_isPlace_14 : decode cX5_isPlace 14 = .ok (.ireturn, 1) := by decide +kernel
theorem dX5_isThing_0 : decode cX5_isThing 0 = .ok (.iload_n 0, 1) := by decide +kernel
theorem dX5_isThing_1 : decode cX5_isThing 1 = .ok (.ifCond .lt 13, 3) := by decide +kernel
theorem dX5_isThing_4 : decode cX5_isThing 4 = .ok (.iload_n 0, 1) := by decide +kernel
theorem dX5_isThing_5 : decode cX5_isThing 5 = .ok (.bipush 6, 2) := by decide +kernel
theorem dX5_isThing_7 : decode cX5_isThing 7 = .ok (.if_icmp .ge 7, 3) := by decide +kernel
theorem dX5_isThing_10 : decode cX5_isThing 10 = .ok (.iconst 1, 1) := by decide +kernel
theorem dX5_isThing_11 : decode cX5_isThing 11 = .ok (.goto 4, 3) := by decide +kernel
theorem dX5_isThing_14 : decode cX5_isThing 14 = .ok (.iconst 0, 1) := by decide +kernel
theorem dX5_isThing_15 : decode cX5_isThing 15 = .ok (.ireturn, 1) := by decide +kernel
theorem dX5_isThingOrNone_0 : decode cX5_isThingOrNone 0 = .ok (.iload_n 0, 1) := by decide +kernel
theorem dX5_isThingOrNone_1 : decode cX5_isThingOrNone 1 = .ok (.bipush (-9), 2) := by decide +kernel
theorem dX5_isThingOrNone_3 : decode cX5_isThingOrNone 3 = .ok (.if_icmp .eq 10, 3) := by decide +kernel
theorem dX5_isThingOrNone_6 : decode cX5_isThingOrNone 6 = .ok (.iload_n 0, 1) := by decide +kernel
theorem dX5_isThingOrNone_7 : decode cX5_isThingOrNone 7 = .ok (.invokestatic 155, 3) := by decide +kernel
theorem dX5_isThingOrNone_10 : decode cX5_isThingOrNone 10 = .ok (.ifCond .eq 7, 3) := by decide +kernel
theorem dX5_isThingOrNone_13 : decode cX5_isThingOrNone 13 = .ok (.iconst 1, 1) := by decide +kernel
theorem dX5_isThingOrNone_14 : decode cX5_isThingOrNone 14 = .ok (.goto 4, 3) := by decide +kernel
theorem dX5_isThingOrNone_17 : decode cX5_isThingOrNone 17 = .ok (.iconst 0, 1) := by decide +kernel
theorem dX5_isThingOrNone_18 : decode cX5_isThingOrNone 18 = .ok (.ireturn, 1) := by decide +kernel
theorem dX5_isSign_0 : decode cX5_isSign 0 = .ok (.iload_n 0, 1) := by decide +kernel
theorem dX5_isSign_1 : decode cX5_isSign 1 = .ok (.bipush (-9), 2) := by decide +kernel
theorem dX5_isSign_3 : decode cX5_isSign 3 = .ok (.if_icmp .eq 12, 3) := by decide +kernel
theorem dX5_isSign_6 : decode cX5_isSign 6 = .ok (.iload_n 0, 1) := by decide +kernel
theorem dX5_isSign_7 : decode cX5_isSign 7 = .ok (.ifCond .lt 12, 3) := by decide +kernel
theorem dX5_isSign_10 : decode cX5_isSign 10 = .ok (.iload_n 0, 1) := by decide +kernel
theorem dX5_isSign_11 : decode cX5_isSign 11 = .ok (.iconst 4, 1) := by decide +kernel
theorem dX5_isSign_12 : decode cX5_isSign 12 = .ok (.if_icmp .ge 7, 3) := by decide +kernel
theorem dX5_isSign_15 : decode cX5_isSign 15 = .ok (.iconst 1, 1) := by decide +kernel
theorem dX5_isSign_16 : decode cX5_isSign 16 = .ok (.goto 4, 3) := by decide +kernel
theorem dX5_isSign_19 : decode cX5_isSign 19 = .ok (.iconst 0, 1) := by decide +kernel
theorem dX5_isSign_20 : decode cX5_isSign 20 = .ok (.ireturn, 1) := by decide +kernel
theorem dX5_isMorning_0 : decode cX5_isMorning 0 = .ok (.iload_n 0, 1) := by decide +kernel
theorem dX5_isMorning_1 : decode cX5_isMorning 1 = .ok (.ifCond .lt 14, 3) := by decide +kernel
theorem dX5_isMorning_4 : decode cX5_isMorning 4 = .ok (.iload_n 0, 1) := by decide +kernel
theorem dX5_isMorning_5 : decode cX5_isMorning 5 = .ok (.sipush 999, 3) := by decide +kernel
theorem dX5_isMorning_8 : decode cX5_isMorning 8 = .ok (.if_icmp .gt 7, 3) := by decide +kernel
theorem dX5_isMorning_11 : decode cX5_isMorning 11 = .ok (.iconst 1, 1) := by decide +kernel
theorem dX5_isMorning_12 : decode cX5_isMorning 12 = .ok (.goto 4, 3) := by decide +kernel
theorem dX5_isMorning_15 : decode cX5_isMorning 15 = .ok (.iconst 0, 1) := by decide +kernel
theorem dX5_isMorning_16 : decode cX5_isMorning 16 = .ok (.ireturn, 1) := by decide +kernel
theorem dX5_isRegular_0 : decode cX5_isRegular 0 = .ok (.iload_n 1, 1) := by decide +kernel
theorem dX5_isRegular_1 : decode cX5_isRegular 1 = .ok (.ifCond .lt 18, 3) := by decide +kernel
theorem dX5_isRegular_4 : decode cX5_isRegular 4 = .ok (.iload_n 1, 1) := by decide +kernel
theorem dX5_isRegular_5 : decode cX5_isRegular 5 = .ok (.aload_n 0, 1) := by decide +kernel
theorem dX5_isRegular_6 : decode cX5_isRegular 6 = .ok (.getfield 29, 3) := by decide +kernel
theorem dX5_isRegular_9 : decode cX5_isRegular 9 = .ok (.getfield 107, 3) := by decide +kernel
theorem dX5_isRegular_12 : decode cX5_isRegular 12 = .ok (.if_icmp .ge 7, 3) := by decide +kernel
theorem dX5_isRegular_15 : decode cX5_isRegular 15 = .ok (.iconst 1, 1) := by decide +kernel
theorem dX5_isRegular_16 : decode cX5_isRegular 16 = .ok (.goto 4, 3) := by decide +kernel
theorem dX5_isRegular_19 : decode cX5_isRegular 19 = .ok (.iconst 0, 1) := by decide +kernel
theorem dX5_isRegular_20 : decode cX5_isRegular 20 = .ok (.ireturn, 1) := by decide +kernel
theorem dX5_areTwo_0 : decode cX5_areTwo 0 = .ok (.aload_n 0, 1) := by decide +kernel
theorem dX5_areTwo_1 : decode cX5_areTwo 1 = .ok (.iload_n 1, 1) := by decide +kernel
theorem dX5_areTwo_2 : decode cX5_areTwo 2 = .ok (.invokevirtual 110, 3) := by decide +kernel
theorem dX5_areTwo_5 : decode cX5_areTwo 5 = .ok (.ifCond .eq 20, 3) := by decide +kernel
theorem dX5_areTwo_8 : decode cX5_areTwo 8 = .ok (.aload_n 0, 1) := by decide +kernel
theorem dX5_areTwo_9 : decode cX5_areTwo 9 = .ok (.iload_n 2, 1) := by decide +kernel
theorem dX5_areTwo_10 : decode cX5_areTwo 10 = .ok (.invokevirtual 110, 3) := by decide +kernel
theorem dX5_areTwo_13 : decode cX5_areTwo 13 = .ok (.ifCond .eq 12, 3) := by decide +kernel
theorem dX5_areTwo_16 : decode cX5_areTwo 16 = .ok (.iload_n 1, 1) := by decide +kernel
theorem dX5_areTwo_17 : decode cX5_areTwo 17 = .ok (.iload_n 2, 1) := by decide +kernel
theorem dX5_areTwo_18 : decode cX5_areTwo 18 = .ok (.if_icmp .eq 7, 3) := by decide +kernel
theorem dX5_areTwo_21 : decode cX5_areTwo 21 = .ok (.iconst 1, 1) := by decide +kernel
theorem dX5_areTwo_22 : decode cX5_areTwo 22 = .ok (.goto 4, 3) := by decide +kernel
theorem dX5_areTwo_25 : decode cX5_areTwo 25 = .ok (.iconst 0, 1) := by decide +kernel
theorem dX5_areTwo_26 : decode cX5_areTwo 26 = .ok (.ireturn, 1) := by decide +kernel
theorem dX5_found_0 : decode cX5_found 0 = .ok (.aload_n 0, 1) := by decide +kernel
theorem dX5_found_1 : decode cX5_found 1 = .ok (.iload_n 1, 1) := by decide +kernel
theorem dX5_found_2 : decode cX5_found 2 = .ok (.putfield 49, 3) := by decide +kernel
theorem dX5_found_5 : decode cX5_found 5 = .ok (.aload_n 0, 1) := by decide +kernel
theorem dX5_found_6 : decode cX5_found 6 = .ok (.getfield 46, 3) := by decide +kernel
theorem dX5_found_9 : decode cX5_found 9 = .ok (.iload_n 1, 1) := by decide +kernel
theorem dX5_found_10 : decode cX5_found 10 = .ok (.dup2, 1) := by decide +kernel
theorem dX5_found_11 : decode cX5_found 11 = .ok (.iaload, 1) := by decide +kernel
theorem dX5_found_12 : decode cX5_found 12 = .ok (.iconst 1, 1) := by decide +kernel
theorem dX5_found_13 : decode cX5_found 13 = .ok (.iadd, 1) := by decide +kernel
theorem dX5_found_14 : decode cX5_found 14 = .ok (.iastore, 1) := by decide +kernel
theorem dX5_found_15 : decode cX5_found 15 = .ok (.bipush (-3), 2) := by decide +kernel
theorem dX5_found_17 : decode cX5_found 17 = .ok (.ireturn, 1) := by decide +kernel
theorem dX5_rowRefusal_0 : decode cX5_rowRefusal 0 = .ok (.iload_n 1, 1) := by decide +kernel
theorem dX5_rowRefusal_1 : decode cX5_rowRefusal 1 = .ok (.invokestatic 64, 3) := by decide +kernel
theorem dX5_rowRefusal_4 : decode cX5_rowRefusal 4 = .ok (.ifCond .ne 5, 3) := by decide +kernel
theorem dX5_rowRefusal_7 : decode cX5_rowRefusal 7 = .ok (.iconst (-1), 1) := by decide +kernel
theorem dX5_rowRefusal_8 : decode cX5_rowRefusal 8 = .ok (.ireturn, 1) := by decide +kernel
theorem dX5_rowRefusal_9 : decode cX5_rowRefusal 9 = .ok (.aload_n 0, 1) := by decide +kernel
theorem dX5_rowRefusal_10 : decode cX5_rowRefusal 10 = .ok (.getfield 14, 3) := by decide +kernel
theorem dX5_rowRefusal_13 : decode cX5_rowRefusal 13 = .ok (.iload_n 1, 1) := by decide +kernel
theorem dX5_rowRefusal_14 : decode cX5_rowRefusal 14 = .ok (.iaload, 1) := by decide +kernel
theorem dX5_rowRefusal_15 : decode cX5_rowRefusal 15 = .ok (.ifCond .ge 11, 3) := by decide +kernel
theorem dX5_rowRefusal_18 : decode cX5_rowRefusal 18 = .ok (.aload_n 0, 1) := by decide +kernel
theorem dX5_rowRefusal_19 : decode cX5_rowRefusal 19 = .ok (.iconst 1, 1) := by decide +kernel
theorem dX5_rowRefusal_20 : decode cX5_rowRefusal 20 = .ok (.invokevirtual 68, 3) := by decide +kernel
theorem dX5_rowRefusal_23 : decode cX5_rowRefusal 23 = .ok (.goto 4, 3) := by decide +kernel
theorem dX5_rowRefusal_26 : decode cX5_rowRefusal 26 = .ok (.iconst 0, 1) := by decide +kernel
theorem dX5_rowRefusal_27 : decode cX5_rowRefusal 27 = .ok (.ireturn, 1) := by decide +kernel
theorem dX5_placeRefusal_0 : decode cX5_placeRefusal 0 = .ok (.aload_n 0, 1) := by decide +kernel
theorem dX5_placeRefusal_1 : decode cX5_placeRefusal 1 = .ok (.iload_n 1, 1) := by decide +kernel
theorem dX5_placeRefusal_2 : decode cX5_placeRefusal 2 = .ok (.invokevirtual 80, 3) := by decide +kernel
theorem dX5_placeRefusal_5 : decode cX5_placeRefusal 5 = .ok (.istore_n 3, 1) := by decide +kernel
theorem dX5_placeRefusal_6 : decode cX5_placeRefusal 6 = .ok (.iload_n 3, 1) := by decide +kernel
theorem dX5_placeRefusal_7 : decode cX5_placeRefusal 7 = .ok (.ifCond .eq 5, 3) := by decide +kernel
theorem dX5_placeRefusal_10 : decode cX5_placeRefusal 10 = .ok (.iload_n 3, 1) := by decide +kernel
theorem dX5_placeRefusal_11 : decode cX5_placeRefusal 11 = .ok (.ireturn, 1) := by decide +kernel
theorem dX5_placeRefusal_12 : decode cX5_placeRefusal 12 = .ok (.iload_n 2, 1) := by decide +kernel
theorem dX5_placeRefusal_13 : decode cX5_placeRefusal 13 = .ok (.ifCond .lt 13, 3) := by decide +kernel
theorem dX5_placeRefusal_16 : decode cX5_placeRefusal 16 = .ok (.iload_n 2, 1) := by decide +kernel
theorem dX5_placeRefusal_17 : decode cX5_placeRefusal 17 = .ok (.aload_n 0, 1) := by decide +kernel
theorem dX5_placeRefusal_18 : decode cX5_placeRefusal 18 = .ok (.getfield 14, 3) := by decide +kernel
theorem dX5_placeRefusal_21 : decode cX5_placeRefusal 21 = .ok (.iload_n 1, 1) := by decide +kernel
theorem dX5_placeRefusal_22 : decode cX5_placeRefusal 22 = .ok (.iaload, 1) := by decide +kernel
theorem dX5_placeRefusal_23 : decode cX5_placeRefusal 23 = .ok (.if_icmp .lt 11, 3) := by decide +kernel
theorem dX5_placeRefusal_26 : decode cX5_placeRefusal 26 = .ok (.aload_n 0, 1) := by decide +kernel
theorem dX5_placeRefusal_27 : decode cX5_placeRefusal 27 = .ok (.iconst 2, 1) := by decide +kernel
theorem dX5_placeRefusal_28 : decode cX5_placeRefusal 28 = .ok (.invokevirtual 68, 3) := by decide +kernel
theorem dX5_placeRefusal_31 : decode cX5_placeRefusal 31 = .ok (.goto 4, 3) := by decide +kernel
theorem dX5_placeRefusal_34 : decode cX5_placeRefusal 34 = .ok (.iconst 0, 1) := by decide +kernel
theorem dX5_placeRefusal_35 : decode cX5_placeRefusal 35 = .ok (.ireturn, 1) := by decide +kernel
theorem dX5_textRefusal_0 : decode cX5_textRefusal 0 = .ok (.iload_n 1, 1) := by decide +kernel
theorem dX5_textRefusal_1 : decode cX5_textRefusal 1 = .ok (.invokestatic 89, 3) := by decide +kernel
theorem dX5_textRefusal_4 : decode cX5_textRefusal 4 = .ok (.ifCond .ne 5, 3) := by decide +kernel
theorem dX5_textRefusal_7 : decode cX5_textRefusal 7 = .ok (.iconst (-1), 1) := by decide +kernel
theorem dX5_textRefusal_8 : decode cX5_textRefusal 8 = .ok (.ireturn, 1) := by decide +kernel
theorem dX5_textRefusal_9 : decode cX5_textRefusal 9 = .ok (.aload_n 0, 1) := by decide +kernel
theorem dX5_textRefusal_10 : decode cX5_textRefusal 10 = .ok (.getfield 23, 3) := by decide +kernel
theorem dX5_textRefusal_13 : decode cX5_textRefusal 13 = .ok (.iload_n 1, 1) := by decide +kernel
theorem dX5_textRefusal_14 : decode cX5_textRefusal 14 = .ok (.iaload, 1) := by decide +kernel
theorem dX5_textRefusal_15 : decode cX5_textRefusal 15 = .ok (.ifCond .ge 11, 3) := by decide +kernel
theorem dX5_textRefusal_18 : decode cX5_textRefusal 18 = .ok (.aload_n 0, 1) := by decide +kernel
theorem dX5_textRefusal_19 : decode cX5_textRefusal 19 = .ok (.iconst 1, 1) := by decide +kernel
theorem dX5_textRefusal_20 : decode cX5_textRefusal 20 = .ok (.invokevirtual 68, 3) := by decide +kernel
theorem dX5_textRefusal_23 : decode cX5_textRefusal 23 = .ok (.goto 4, 3) := by decide +kernel
theorem dX5_textRefusal_26 : decode cX5_textRefusal 26 = .ok (.iconst 0, 1) := by decide +kernel
theorem dX5_textRefusal_27 : decode cX5_textRefusal 27 = .ok (.ireturn, 1) := by decide +kernel
theorem dX5_queueRefusal_0 : decode cX5_queueRefusal 0 = .ok (.iload_n 1, 1) := by decide +kernel
theorem dX5_queueRefusal_1 : decode cX5_queueRefusal 1 = .ok (.invokestatic 64, 3) := by decide +kernel
theorem dX5_queueRefusal_4 : decode cX5_queueRefusal 4 = .ok (.ifCond .ne 5, 3) := by decide +kernel
theorem dX5_queueRefusal_7 : decode cX5_queueRefusal 7 = .ok (.iconst (-1), 1) := by decide +kernel
theorem dX5_queueRefusal_8 : decode cX5_queueRefusal 8 = .ok (.ireturn, 1) := by decide +kernel
theorem dX5_queueRefusal_9 : decode cX5_queueRefusal 9 = .ok (.aload_n 0, 1) := by decide +kernel
theorem dX5_queueRefusal_10 : decode cX5_queueRefusal 10 = .ok (.getfield 29, 3) := by decide +kernel
theorem dX5_queueRefusal_13 : decode cX5_queueRefusal 13 = .ok (.getfield 107, 3) := by decide +kernel
theorem dX5_queueRefusal_16 : decode cX5_queueRefusal 16 = .ok (.ifCond .ne 6, 3) := by decide +kernel
theorem dX5_queueRefusal_19 : decode cX5_queueRefusal 19 = .ok (.bipush (-4), 2) := by decide +kernel
theorem dX5_queueRefusal_21 : decode cX5_queueRefusal 21 = .ok (.ireturn, 1) := by decide +kernel
theorem dX5_queueRefusal_22 : decode cX5_queueRefusal 22 = .ok (.aload_n 0, 1) := by decide +kernel
theorem dX5_queueRefusal_23 : decode cX5_queueRefusal 23 = .ok (.getfield 14, 3) := by decide +kernel
theorem dX5_queueRefusal_26 : decode cX5_queueRefusal 26 = .ok (.iload_n 1, 1) := by decide +kernel
theorem dX5_queueRefusal_27 : decode cX5_queueRefusal 27 = .ok (.iaload, 1) := by decide +kernel
theorem dX5_queueRefusal_28 : decode cX5_queueRefusal 28 = .ok (.ifCond .ge 9, 3) := by decide +kernel
theorem dX5_queueRefusal_31 : decode cX5_queueRefusal 31 = .ok (.aload_n 0, 1) := by decide +kernel
theorem dX5_queueRefusal_32 : decode cX5_queueRefusal 32 = .ok (.iconst 1, 1) := by decide +kernel
theorem dX5_queueRefusal_33 : decode cX5_queueRefusal 33 = .ok (.invokevirtual 68, 3) := by decide +kernel
theorem dX5_queueRefusal_36 : decode cX5_queueRefusal 36 = .ok (.ireturn, 1) := by decide +kernel
theorem dX5_queueRefusal_37 : decode cX5_queueRefusal 37 = .ok (.aload_n 0, 1) := by decide +kernel
theorem dX5_queueRefusal_38 : decode cX5_queueRefusal 38 = .ok (.getfield 14, 3) := by decide +kernel
theorem dX5_queueRefusal_41 : decode cX5_queueRefusal 41 = .ok (.iload_n 1, 1) := by decide +kernel
theorem dX5_queueRefusal_42 : decode cX5_queueRefusal 42 = .ok (.iaload, 1) := by decide +kernel
theorem dX5_queueRefusal_43 : decode cX5_queueRefusal 43 = .ok (.iconst 2, 1) := by decide +kernel
theorem dX5_queueRefusal_44 : decode cX5_queueRefusal 44 = .ok (.irem, 1) := by decide +kernel
theorem dX5_queueRefusal_45 : decode cX5_queueRefusal 45 = .ok (.ifCond .ne 14, 3) := by decide +kernel
theorem dX5_queueRefusal_48 : decode cX5_queueRefusal 48 = .ok (.aload_n 0, 1) := by decide +kernel
theorem dX5_queueRefusal_49 : decode cX5_queueRefusal 49 = .ok (.getfield 14, 3) := by decide +kernel
theorem dX5_queueRefusal_52 : decode cX5_queueRefusal 52 = .ok (.iload_n 1, 1) := by decide +kernel
theorem dX5_queueRefusal_53 : decode cX5_queueRefusal 53 = .ok (.iaload, 1) := by decide +kernel
theorem dX5_queueRefusal_54 : decode cX5_queueRefusal 54 = .ok (.bipush 16, 2) := by decide +kernel
theorem dX5_queueRefusal_56 : decode cX5_queueRefusal 56 = .ok (.if_icmp .le 9, 3) := by decide +kernel
theorem dX5_queueRefusal_59 : decode cX5_queueRefusal 59 = .ok (.aload_n 0, 1) := by decide +kernel
theorem dX5_queueRefusal_60 : decode cX5_queueRefusal 60 = .ok (.iconst 5, 1) := by decide +kernel
theorem dX5_queueRefusal_61 : decode cX5_queueRefusal 61 = .ok (.invokevirtual 68, 3) := by decide +kernel
theorem dX5_queueRefusal_64 : decode cX5_queueRefusal 64 = .ok (.ireturn, 1) := by decide +kernel
theorem dX5_queueRefusal_65 : decode cX5_queueRefusal 65 = .ok (.aload_n 0, 1) := by decide +kernel
theorem dX5_queueRefusal_66 : decode cX5_queueRefusal 66 = .ok (.aload_n 0, 1) := by decide +kernel
theorem dX5_queueRefusal_67 : decode cX5_queueRefusal 67 = .ok (.getfield 11, 3) := by decide +kernel
theorem dX5_queueRefusal_70 : decode cX5_queueRefusal 70 = .ok (.iload_n 1, 1) := by decide +kernel
theorem dX5_queueRefusal_71 : decode cX5_queueRefusal 71 = .ok (.aaload, 1) := by decide +kernel
theorem dX5_queueRefusal_72 : decode cX5_queueRefusal 72 = .ok (.aload_n 0, 1) := by decide +kernel
theorem dX5_queueRefusal_73 : decode cX5_queueRefusal 73 = .ok (.getfield 14, 3) := by decide +kernel
theorem dX5_queueRefusal_76 : decode cX5_queueRefusal 76 = .ok (.iload_n 1, 1) := by decide +kernel
theorem dX5_queueRefusal_77 : decode cX5_queueRefusal 77 = .ok (.iaload, 1) := by decide +kernel
theorem dX5_queueRefusal_78 : decode cX5_queueRefusal 78 = .ok (.invokevirtual 298, 3) := by decide +kernel
theorem dX5_queueRefusal_81 : decode cX5_queueRefusal 81 = .ok (.ifCond .eq 7, 3) := by decide +kernel
theorem dX5_queueRefusal_84 : decode cX5_queueRefusal 84 = .ok (.iconst 0, 1) := by decide +kernel
theorem dX5_queueRefusal_85 : decode cX5_queueRefusal 85 = .ok (.goto 8, 3) := by decide +kernel
theorem dX5_queueRefusal_88 : decode cX5_queueRefusal 88 = .ok (.aload_n 0, 1) := by decide +kernel
theorem dX5_queueRefusal_89 : decode cX5_queueRefusal 89 = .ok (.iconst 3, 1) := by decide +kernel
theorem dX5_queueRefusal_90 : decode cX5_queueRefusal 90 = .ok (.invokevirtual 68, 3) := by decide +kernel
theorem dX5_queueRefusal_93 : decode cX5_queueRefusal 93 = .ok (.ireturn, 1) := by decide +kernel
theorem dX5_bookRefusal_0 : decode cX5_bookRefusal 0 = .ok (.aload_n 0, 1) := by decide +kernel
theorem dX5_bookRefusal_1 : decode cX5_bookRefusal 1 = .ok (.iload_n 1, 1) := by decide +kernel
theorem dX5_bookRefusal_2 : decode cX5_bookRefusal 2 = .ok (.invokevirtual 80, 3) := by decide +kernel
theorem dX5_bookRefusal_5 : decode cX5_bookRefusal 5 = .ok (.istore_n 2, 1) := by decide +kernel
theorem dX5_bookRefusal_6 : decode cX5_bookRefusal 6 = .ok (.iload_n 2, 1) := by decide +kernel
theorem dX5_bookRefusal_7 : decode cX5_bookRefusal 7 = .ok (.ifCond .eq 5, 3) := by decide +kernel
theorem dX5_bookRefusal_10 : decode cX5_bookRefusal 10 = .ok (.iload_n 2, 1) := by decide +kernel
theorem dX5_bookRefusal_11 : decode cX5_bookRefusal 11 = .ok (.ireturn, 1) := by decide +kernel
theorem dX5_bookRefusal_12 : decode cX5_bookRefusal 12 = .ok (.aload_n 0, 1) := by decide +kernel
theorem dX5_bookRefusal_13 : decode cX5_bookRefusal 13 = .ok (.getfield 14, 3) := by decide +kernel
theorem dX5_bookRefusal_16 : decode cX5_bookRefusal 16 = .ok (.iload_n 1, 1) := by decide +kernel
theorem dX5_bookRefusal_17 : decode cX5_bookRefusal 17 = .ok (.iaload, 1) := by decide +kernel
theorem dX5_bookRefusal_18 : decode cX5_bookRefusal 18 = .ok (.iconst 2, 1) := by decide +kernel
theorem dX5_bookRefusal_19 : decode cX5_bookRefusal 19 = .ok (.irem, 1) := by decide +kernel
theorem dX5_bookRefusal_20 : decode cX5_bookRefusal 20 = .ok (.ifCond .eq 9, 3) := by decide +kernel
theorem dX5_bookRefusal_23 : decode cX5_bookRefusal 23 = .ok (.aload_n 0, 1) := by decide +kernel
theorem dX5_bookRefusal_24 : decode cX5_bookRefusal 24 = .ok (.iconst 5, 1) := by decide +kernel
theorem dX5_bookRefusal_25 : decode cX5_bookRefusal 25 = .ok (.invokevirtual 68, 3) := by decide +kernel
theorem dX5_bookRefusal_28 : decode cX5_bookRefusal 28 = .ok (.ireturn, 1) := by decide +kernel
theorem dX5_bookRefusal_29 : decode cX5_bookRefusal 29 = .ok (.aload_n 0, 1) := by decide +kernel
theorem dX5_bookRefusal_30 : decode cX5_bookRefusal 30 = .ok (.getfield 11, 3) := by decide +kernel
theorem dX5_bookRefusal_33 : decode cX5_bookRefusal 33 = .ok (.iload_n 1, 1) := by decide +kernel
theorem dX5_bookRefusal_34 : decode cX5_bookRefusal 34 = .ok (.aaload, 1) := by decide +kernel
theorem dX5_bookRefusal_35 : decode cX5_bookRefusal 35 = .ok (.aload_n 0, 1) := by decide +kernel
theorem dX5_bookRefusal_36 : decode cX5_bookRefusal 36 = .ok (.getfield 14, 3) := by decide +kernel
theorem dX5_bookRefusal_39 : decode cX5_bookRefusal 39 = .ok (.iload_n 1, 1) := by decide +kernel
theorem dX5_bookRefusal_40 : decode cX5_bookRefusal 40 = .ok (.iaload, 1) := by decide +kernel
theorem dX5_bookRefusal_41 : decode cX5_bookRefusal 41 = .ok (.invokestatic 302, 3) := by decide +kernel
theorem dX5_bookRefusal_44 : decode cX5_bookRefusal 44 = .ok (.ifCond .eq 7, 3) := by decide +kernel
theorem dX5_bookRefusal_47 : decode cX5_bookRefusal 47 = .ok (.iconst 0, 1) := by decide +kernel
theorem dX5_bookRefusal_48 : decode cX5_bookRefusal 48 = .ok (.goto 8, 3) := by decide +kernel
theorem dX5_bookRefusal_51 : decode cX5_bookRefusal 51 = .ok (.aload_n 0, 1) := by decide +kernel
theorem dX5_bookRefusal_52 : decode cX5_bookRefusal 52 = .ok (.iconst 3, 1) := by decide +kernel
theorem dX5_bookRefusal_53 : decode cX5_bookRefusal 53 = .ok (.invokevirtual 68, 3) := by decide +kernel
theorem dX5_bookRefusal_56 : decode cX5_bookRefusal 56 = .ok (.ireturn, 1) := by decide +kernel
theorem dX5_isQueue_0 : decode cX5_isQueue 0 = .ok (.iconst 0, 1) := by decide +kernel
theorem dX5_isQueue_1 : decode cX5_isQueue 1 = .ok (.istore_n 3, 1) := by decide +kernel
theorem dX5_isQueue_2 : decode cX5_isQueue 2 = .ok (.iconst 0, 1) := by decide +kernel
theorem dX5_isQueue_3 : decode cX5_isQueue 3 = .ok (.istore 4, 2) := by decide +kernel
theorem dX5_isQueue_5 : decode cX5_isQueue 5 = .ok (.iload 4, 2) := by decide +kernel
theorem dX5_isQueue_7 : decode cX5_isQueue 7 = .ok (.iconst 1, 1) := by decide +kernel
theorem dX5_isQueue_8 : decode cX5_isQueue 8 = .ok (.iadd, 1) := by decide +kernel
theorem dX5_isQueue_9 : decode cX5_isQueue 9 = .ok (.iload_n 2, 1) := by decide +kernel
theorem dX5_isQueue_10 : decode cX5_isQueue 10 = .ok (.if_icmp .ge 51, 3) := by decide +kernel
theorem dX5_isQueue_13 : decode cX5_isQueue 13 = .ok (.aload_n 0, 1) := by decide +kernel
theorem dX5_isQueue_14 : decode cX5_isQueue 14 = .ok (.aload_n 1, 1) := by decide +kernel
theorem dX5_isQueue_15 : decode cX5_isQueue 15 = .ok (.iload 4, 2) := by decide +kernel
theorem dX5_isQueue_17 : decode cX5_isQueue 17 = .ok (.iaload, 1) := by decide +kernel
theorem dX5_isQueue_18 : decode cX5_isQueue 18 = .ok (.invokevirtual 110, 3) := by decide +kernel
theorem dX5_isQueue_21 : decode cX5_isQueue 21 = .ok (.ifCond .eq 25, 3) := by decide +kernel
theorem dX5_isQueue_24 : decode cX5_isQueue 24 = .ok (.aload_n 1, 1) := by decide +kernel
theorem dX5_isQueue_25 : decode cX5_isQueue 25 = .ok (.iload 4, 2) := by decide +kernel
theorem dX5_isQueue_27 : decode cX5_isQueue 27 = .ok (.iconst 1, 1) := by decide +kernel
theorem dX5_isQueue_28 : decode cX5_isQueue 28 = .ok (.iadd, 1) := by decide +kernel
theorem dX5_isQueue_29 : decode cX5_isQueue 29 = .ok (.iaload, 1) := by decide +kernel
theorem dX5_isQueue_30 : decode cX5_isQueue 30 = .ok (.iload_n 3, 1) := by decide +kernel
theorem dX5_isQueue_31 : decode cX5_isQueue 31 = .ok (.if_icmp .lt 15, 3) := by decide +kernel
theorem dX5_isQueue_34 : decode cX5_isQueue 34 = .ok (.aload_n 1, 1) := by decide +kernel
theorem dX5_isQueue_35 : decode cX5_isQueue 35 = .ok (.iload 4, 2) := by decide +kernel
theorem dX5_isQueue_37 : decode cX5_isQueue 37 = .ok (.iconst 1, 1) := by decide +kernel
theorem dX5_isQueue_38 : decode cX5_isQueue 38 = .ok (.iadd, 1) := by decide +kernel
theorem dX5_isQueue_39 : decode cX5_isQueue 39 = .ok (.iaload, 1) := by decide +kernel
theorem dX5_isQueue_40 : decode cX5_isQueue 40 = .ok (.sipush 999, 3) := by decide +kernel
theorem dX5_isQueue_43 : decode cX5_isQueue 43 = .ok (.if_icmp .le 5, 3) := by decide +kernel
theorem dX5_isQueue_46 : decode cX5_isQueue 46 = .ok (.iconst 0, 1) := by decide +kernel
theorem dX5_isQueue_47 : decode cX5_isQueue 47 = .ok (.ireturn, 1) := by decide +kernel
theorem dX5_isQueue_48 : decode cX5_isQueue 48 = .ok (.aload_n 1, 1) := by decide +kernel
theorem dX5_isQueue_49 : decode cX5_isQueue 49 = .ok (.iload 4, 2) := by decide +kernel
theorem dX5_isQueue_51 : decode cX5_isQueue 51 = .ok (.iconst 1, 1) := by decide +kernel
theorem dX5_isQueue_52 : decode cX5_isQueue 52 = .ok (.iadd, 1) := by decide +kernel
theorem dX5_isQueue_53 : decode cX5_isQueue 53 = .ok (.iaload, 1) := by decide +kernel
theorem dX5_isQueue_54 : decode cX5_isQueue 54 = .ok (.istore_n 3, 1) := by decide +kernel
theorem dX5_isQueue_55 : decode cX5_isQueue 55 = .ok (.iinc 4 2, 3) := by decide +kernel
theorem dX5_isQueue_58 : decode cX5_isQueue 58 = .ok (.goto (-53), 3) := by decide +kernel
theorem dX5_isQueue_61 : decode cX5_isQueue 61 = .ok (.iconst 1, 1) := by decide +kernel
theorem dX5_isQueue_62 : decode cX5_isQueue 62 = .ok (.ireturn, 1) := by decide +kernel
theorem dX5_isBook_0 : decode cX5_isBook 0 = .ok (.iconst 0, 1) := by decide +kernel
theorem dX5_isBook_1 : decode cX5_isBook 1 = .ok (.istore_n 2, 1) := by decide +kernel
theorem dX5_isBook_2 : decode cX5_isBook 2 = .ok (.iload_n 2, 1) := by decide +kernel
theorem dX5_isBook_3 : decode cX5_isBook 3 = .ok (.iconst 1, 1) := by decide +kernel
theorem dX5_isBook_4 : decode cX5_isBook 4 = .ok (.iadd, 1) := by decide +kernel
theorem dX5_isBook_5 : decode cX5_isBook 5 = .ok (.iload_n 1, 1) := by decide +kernel
theorem dX5_isBook_6 : decode cX5_isBook 6 = .ok (.if_icmp .ge 31, 3) := by decide +kernel
theorem dX5_isBook_9 : decode cX5_isBook 9 = .ok (.aload_n 0, 1) := by decide +kernel
theorem dX5_isBook_10 : decode cX5_isBook 10 = .ok (.iload_n 2, 1) := by decide +kernel
theorem dX5_isBook_11 : decode cX5_isBook 11 = .ok (.iaload, 1) := by decide +kernel
theorem dX5_isBook_12 : decode cX5_isBook 12 = .ok (.invokestatic 204, 3) := by decide +kernel
theorem dX5_isBook_15 : decode cX5_isBook 15 = .ok (.ifCond .eq 14, 3) := by decide +kernel
theorem dX5_isBook_18 : decode cX5_isBook 18 = .ok (.aload_n 0, 1) := by decide +kernel
theorem dX5_isBook_19 : decode cX5_isBook 19 = .ok (.iload_n 2, 1) := by decide +kernel
theorem dX5_isBook_20 : decode cX5_isBook 20 = .ok (.iconst 1, 1) := by decide +kernel
theorem dX5_isBook_21 : decode cX5_isBook 21 = .ok (.iadd, 1) := by decide +kernel
theorem dX5_isBook_22 : decode cX5_isBook 22 = .ok (.iaload, 1) := by decide +kernel
theorem dX5_isBook_23 : decode cX5_isBook 23 = .ok (.invokestatic 155, 3) := by decide +kernel
theorem dX5_isBook_26 : decode cX5_isBook 26 = .ok (.ifCond .ne 5, 3) := by decide +kernel
theorem dX5_isBook_29 : decode cX5_isBook 29 = .ok (.iconst 0, 1) := by decide +kernel
theorem dX5_isBook_30 : decode cX5_isBook 30 = .ok (.ireturn, 1) := by decide +kernel
theorem dX5_isBook_31 : decode cX5_isBook 31 = .ok (.iinc 2 2, 3) := by decide +kernel
theorem dX5_isBook_34 : decode cX5_isBook 34 = .ok (.goto (-32), 3) := by decide +kernel
theorem dX5_isBook_37 : decode cX5_isBook 37 = .ok (.iconst 1, 1) := by decide +kernel
theorem dX5_isBook_38 : decode cX5_isBook 38 = .ok (.ireturn, 1) := by decide +kernel
theorem dX5_makeRow_0 : decode cX5_makeRow 0 = .ok (.iconst 0, 1) := by decide +kernel
theorem dX5_makeRow_1 : decode cX5_makeRow 1 = .ok (.istore_n 3, 1) := by decide +kernel
theorem dX5_makeRow_2 : decode cX5_makeRow 2 = .ok (.iload_n 3, 1) := by decide +kernel
theorem dX5_makeRow_3 : decode cX5_makeRow 3 = .ok (.iload_n 2, 1) := by decide +kernel
theorem dX5_makeRow_4 : decode cX5_makeRow 4 = .ok (.if_icmp .ge 18, 3) := by decide +kernel
theorem dX5_makeRow_7 : decode cX5_makeRow 7 = .ok (.aload_n 0, 1) := by decide +kernel
theorem dX5_makeRow_8 : decode cX5_makeRow 8 = .ok (.getfield 11, 3) := by decide +kernel
theorem dX5_makeRow_11 : decode cX5_makeRow 11 = .ok (.iload_n 1, 1) := by decide +kernel
theorem dX5_makeRow_12 : decode cX5_makeRow 12 = .ok (.aaload, 1) := by decide +kernel
theorem dX5_makeRow_13 : decode cX5_makeRow 13 = .ok (.iload_n 3, 1) := by decide +kernel
theorem dX5_makeRow_14 : decode cX5_makeRow 14 = .ok (.iconst 0, 1) := by decide +kernel
theorem dX5_makeRow_15 : decode cX5_makeRow 15 = .ok (.iastore, 1) := by decide +kernel
theorem dX5_makeRow_16 : decode cX5_makeRow 16 = .ok (.iinc 3 1, 3) := by decide +kernel
theorem dX5_makeRow_19 : decode cX5_makeRow 19 = .ok (.goto (-17), 3) := by decide +kernel
theorem dX5_makeRow_22 : decode cX5_makeRow 22 = .ok (.aload_n 0, 1) := by decide +kernel
theorem dX5_makeRow_23 : decode cX5_makeRow 23 = .ok (.getfield 14, 3) := by decide +kernel
theorem dX5_makeRow_26 : decode cX5_makeRow 26 = .ok (.iload_n 1, 1) := by decide +kernel
theorem dX5_makeRow_27 : decode cX5_makeRow 27 = .ok (.iload_n 2, 1) := by decide +kernel
theorem dX5_makeRow_28 : decode cX5_makeRow 28 = .ok (.iastore, 1) := by decide +kernel
theorem dX5_makeRow_29 : decode cX5_makeRow 29 = .ok (.return_, 1) := by decide +kernel
theorem dX5_lineUp_0 : decode cX5_lineUp 0 = .ok (.iload_n 2, 1) := by decide +kernel
theorem dX5_lineUp_1 : decode cX5_lineUp 1 = .ok (.istore 4, 2) := by decide +kernel
theorem dX5_lineUp_3 : decode cX5_lineUp 3 = .ok (.iconst 0, 1) := by decide +kernel
theorem dX5_lineUp_4 : decode cX5_lineUp 4 = .ok (.istore 5, 2) := by decide +kernel
theorem dX5_lineUp_6 : decode cX5_lineUp 6 = .ok (.iload 5, 2) := by decide +kernel
theorem dX5_lineUp_8 : decode cX5_lineUp 8 = .ok (.aload_n 0, 1) := by decide +kernel
theorem dX5_lineUp_9 : decode cX5_lineUp 9 = .ok (.getfield 29, 3) := by decide +kernel
theorem dX5_lineUp_12 : decode cX5_lineUp 12 = .ok (.getfield 107, 3) := by decide +kernel
theorem dX5_lineUp_15 : decode cX5_lineUp 15 = .ok (.if_icmp .ge 40, 3) := by decide +kernel
theorem dX5_lineUp_18 : decode cX5_lineUp 18 = .ok (.aload_n 0, 1) := by decide +kernel
theorem dX5_lineUp_19 : decode cX5_lineUp 19 = .ok (.getfield 29, 3) := by decide +kernel
theorem dX5_lineUp_22 : decode cX5_lineUp 22 = .ok (.getfield 116, 3) := by decide +kernel
theorem dX5_lineUp_25 : decode cX5_lineUp 25 = .ok (.iload 5, 2) := by decide +kernel
theorem dX5_lineUp_27 : decode cX5_lineUp 27 = .ok (.aaload, 1) := by decide +kernel
theorem dX5_lineUp_28 : decode cX5_lineUp 28 = .ok (.invokevirtual 305, 3) := by decide +kernel
theorem dX5_lineUp_31 : decode cX5_lineUp 31 = .ok (.iload_n 3, 1) := by decide +kernel
theorem dX5_lineUp_32 : decode cX5_lineUp 32 = .ok (.if_icmp .ne 17, 3) := by decide +kernel
theorem dX5_lineUp_35 : decode cX5_lineUp 35 = .ok (.aload_n 0, 1) := by decide +kernel
theorem dX5_lineUp_36 : decode cX5_lineUp 36 = .ok (.getfield 11, 3) := by decide +kernel
theorem dX5_lineUp_39 : decode cX5_lineUp 39 = .ok (.iload_n 1, 1) := by decide +kernel
theorem dX5_lineUp_40 : decode cX5_lineUp 40 = .ok (.aaload, 1) := by decide +kernel
theorem dX5_lineUp_41 : decode cX5_lineUp 41 = .ok (.iload 4, 2) := by decide +kernel
theorem dX5_lineUp_43 : decode cX5_lineUp 43 = .ok (.iload 5, 2) := by decide +kernel
theorem dX5_lineUp_45 : decode cX5_lineUp 45 = .ok (.iastore, 1) := by decide +kernel
theorem dX5_lineUp_46 : decode cX5_lineUp 46 = .ok (.iinc 4 1, 3) := by decide +kernel
theorem dX5_lineUp_49 : decode cX5_lineUp 49 = .ok (.iinc 5 1, 3) := by decide +kernel
theorem dX5_lineUp_52 : decode cX5_lineUp 52 = .ok (.goto (-46), 3) := by decide +kernel
theorem dX5_lineUp_55 : decode cX5_lineUp 55 = .ok (.iload 4, 2) := by decide +kernel
theorem dX5_lineUp_57 : decode cX5_lineUp 57 = .ok (.ireturn, 1) := by decide +kernel
theorem dX5_liesOf_0 : decode cX5_liesOf 0 = .ok (.aload_n 0, 1) := by decide +kernel
theorem dX5_liesOf_1 : decode cX5_liesOf 1 = .ok (.getfield 29, 3) := by decide +kernel
theorem dX5_liesOf_4 : decode cX5_liesOf 4 = .ok (.getfield 116, 3) := by decide +kernel
theorem dX5_liesOf_7 : decode cX5_liesOf 7 = .ok (.iload_n 1, 1) := by decide +kernel
theorem dX5_liesOf_8 : decode cX5_liesOf 8 = .ok (.aaload, 1) := by decide +kernel
theorem dX5_liesOf_9 : decode cX5_liesOf 9 = .ok (.astore_n 3, 1) := by decide +kernel
theorem dX5_liesOf_10 : decode cX5_liesOf 10 = .ok (.aload_n 0, 1) := by decide +kernel
theorem dX5_liesOf_11 : decode cX5_liesOf 11 = .ok (.getfield 11, 3) := by decide +kernel
theorem dX5_liesOf_14 : decode cX5_liesOf 14 = .ok (.iload_n 2, 1) := by decide +kernel
theorem dX5_liesOf_15 : decode cX5_liesOf 15 = .ok (.aaload, 1) := by decide +kernel
theorem dX5_liesOf_16 : decode cX5_liesOf 16 = .ok (.aload_n 0, 1) := by decide +kernel
theorem dX5_liesOf_17 : decode cX5_liesOf 17 = .ok (.getfield 14, 3) := by decide +kernel
theorem dX5_liesOf_20 : decode cX5_liesOf 20 = .ok (.iload_n 2, 1) := by decide +kernel
theorem dX5_liesOf_21 : decode cX5_liesOf 21 = .ok (.iaload, 1) := by decide +kernel
theorem dX5_liesOf_22 : decode cX5_liesOf 22 = .ok (.aload_n 3, 1) := by decide +kernel
theorem dX5_liesOf_23 : decode cX5_liesOf 23 = .ok (.getfield 309, 3) := by decide +kernel
theorem dX5_liesOf_26 : decode cX5_liesOf 26 = .ok (.aload_n 3, 1) := by decide +kernel
theorem dX5_liesOf_27 : decode cX5_liesOf 27 = .ok (.getfield 312, 3) := by decide +kernel
theorem dX5_liesOf_30 : decode cX5_liesOf 30 = .ok (.aload_n 3, 1) := by decide +kernel
theorem dX5_liesOf_31 : decode cX5_liesOf 31 = .ok (.getfield 165, 3) := by decide +kernel
theorem dX5_liesOf_34 : decode cX5_liesOf 34 = .ok (.invokestatic 259, 3) := by decide +kernel
theorem dX5_liesOf_37 : decode cX5_liesOf 37 = .ok (.ireturn, 1) := by decide +kernel
theorem dX5_unlikeSales_0 : decode cX5_unlikeSales 0 = .ok (.iconst 0, 1) := by decide +kernel
theorem dX5_unlikeSales_1 : decode cX5_unlikeSales 1 = .ok (.istore 5, 2) := by decide +kernel
theorem dX5_unlikeSales_3 : decode cX5_unlikeSales 3 = .ok (.iconst 0, 1) := by decide +kernel
theorem dX5_unlikeSales_4 : decode cX5_unlikeSales 4 = .ok (.istore 6, 2) := by decide +kernel
theorem dX5_unlikeSales_6 : decode cX5_unlikeSales 6 = .ok (.iload 6, 2) := by decide +kernel
theorem dX5_unlikeSales_8 : decode cX5_unlikeSales 8 = .ok (.iconst 1, 1) := by decide +kernel
theorem dX5_unlikeSales_9 : decode cX5_unlikeSales 9 = .ok (.iadd, 1) := by decide +kernel
theorem dX5_unlikeSales_10 : decode cX5_unlikeSales 10 = .ok (.iload_n 1, 1) := by decide +kernel
theorem dX5_unlikeSales_11 : decode cX5_unlikeSales 11 = .ok (.if_icmp .ge 42, 3) := by decide +kernel
theorem dX5_unlikeSales_14 : decode cX5_unlikeSales 14 = .ok (.iload_n 2, 1) := by decide +kernel
theorem dX5_unlikeSales_15 : decode cX5_unlikeSales 15 = .ok (.aload_n 0, 1) := by decide +kernel
theorem dX5_unlikeSales_16 : decode cX5_unlikeSales 16 = .ok (.iload 6, 2) := by decide +kernel
theorem dX5_unlikeSales_18 : decode cX5_unlikeSales 18 = .ok (.iaload, 1) := by decide +kernel
theorem dX5_unlikeSales_19 : decode cX5_unlikeSales 19 = .ok (.invokestatic 315, 3) := by decide +kernel
theorem dX5_unlikeSales_22 : decode cX5_unlikeSales 22 = .ok (.ifCond .eq 8, 3) := by decide +kernel
theorem dX5_unlikeSales_25 : decode cX5_unlikeSales 25 = .ok (.iload 4, 2) := by decide +kernel
theorem dX5_unlikeSales_27 : decode cX5_unlikeSales 27 = .ok (.goto 4, 3) := by decide +kernel
theorem dX5_unlikeSales_30 : decode cX5_unlikeSales 30 = .ok (.iload_n 3, 1) := by decide +kernel
theorem dX5_unlikeSales_31 : decode cX5_unlikeSales 31 = .ok (.istore 7, 2) := by decide +kernel
theorem dX5_unlikeSales_33 : decode cX5_unlikeSales 33 = .ok (.iload 7, 2) := by decide +kernel
theorem dX5_unlikeSales_35 : decode cX5_unlikeSales 35 = .ok (.aload_n 0, 1) := by decide +kernel
theorem dX5_unlikeSales_36 : decode cX5_unlikeSales 36 = .ok (.iload 6, 2) := by decide +kernel
theorem dX5_unlikeSales_38 : decode cX5_unlikeSales 38 = .ok (.iconst 1, 1) := by decide +kernel
theorem dX5_unlikeSales_39 : decode cX5_unlikeSales 39 = .ok (.iadd, 1) := by decide +kernel
theorem dX5_unlikeSales_40 : decode cX5_unlikeSales 40 = .ok (.iaload, 1) := by decide +kernel
theorem dX5_unlikeSales_41 : decode cX5_unlikeSales 41 = .ok (.if_icmp .eq 6, 3) := by decide +kernel
theorem dX5_unlikeSales_44 : decode cX5_unlikeSales 44 = .ok (.iinc 5 1, 3) := by decide +kernel
theorem dX5_unlikeSales_47 : decode cX5_unlikeSales 47 = .ok (.iinc 6 2, 3) := by decide +kernel
theorem dX5_unlikeSales_50 : decode cX5_unlikeSales 50 = .ok (.goto (-44), 3) := by decide +kernel
theorem dX5_unlikeSales_53 : decode cX5_unlikeSales 53 = .ok (.iload 5, 2) := by decide +kernel
theorem dX5_unlikeSales_55 : decode cX5_unlikeSales 55 = .ok (.ireturn, 1) := by decide +kernel
theorem dX5_thoseThere_0 : decode cX5_thoseThere 0 = .ok (.iconst 0, 1) := by decide +kernel
theorem dX5_thoseThere_1 : decode cX5_thoseThere 1 = .ok (.istore_n 1, 1) := by decide +kernel
theorem dX5_thoseThere_2 : decode cX5_thoseThere 2 = .ok (.aload_n 0, 1) := by decide +kernel
theorem dX5_thoseThere_3 : decode cX5_thoseThere 3 = .ok (.astore_n 2, 1) := by decide +kernel
theorem dX5_thoseThere_4 : decode cX5_thoseThere 4 = .ok (.aload_n 2, 1) := by decide +kernel
theorem dX5_thoseThere_5 : decode cX5_thoseThere 5 = .ok (.arraylength, 1) := by decide +kernel
theorem dX5_thoseThere_6 : decode cX5_thoseThere 6 = .ok (.istore_n 3, 1) := by decide +kernel
theorem dX5_thoseThere_7 : decode cX5_thoseThere 7 = .ok (.iconst 0, 1) := by decide +kernel
theorem dX5_thoseThere_8 : decode cX5_thoseThere 8 = .ok (.istore 4, 2) := by decide +kernel
theorem dX5_thoseThere_10 : decode cX5_thoseThere 10 = .ok (.iload 4, 2) := by decide +kernel
theorem dX5_thoseThere_12 : decode cX5_thoseThere 12 = .ok (.iload_n 3, 1) := by decide +kernel
theorem dX5_thoseThere_13 : decode cX5_thoseThere 13 = .ok (.if_icmp .ge 23, 3) := by decide +kernel
theorem dX5_thoseThere_16 : decode cX5_thoseThere 16 = .ok (.aload_n 2, 1) := by decide +kernel
theorem dX5_thoseThere_17 : decode cX5_thoseThere 17 = .ok (.iload 4, 2) := by decide +kernel
theorem dX5_thoseThere_19 : decode cX5_thoseThere 19 = .ok (.iaload, 1) := by decide +kernel
theorem dX5_thoseThere_20 : decode cX5_thoseThere 20 = .ok (.istore 5, 2) := by decide +kernel
theorem dX5_thoseThere_22 : decode cX5_thoseThere 22 = .ok (.iload 5, 2) := by decide +kernel
theorem dX5_thoseThere_24 : decode cX5_thoseThere 24 = .ok (.ifCond .lt 6, 3) := by decide +kernel
theorem dX5_thoseThere_27 : decode cX5_thoseThere 27 = .ok (.iinc 1 1, 3) := by decide +kernel
theorem dX5_thoseThere_30 : decode cX5_thoseThere 30 = .ok (.iinc 4 1, 3) := by decide +kernel
theorem dX5_thoseThere_33 : decode cX5_thoseThere 33 = .ok (.goto (-23), 3) := by decide +kernel
theorem dX5_thoseThere_36 : decode cX5_thoseThere 36 = .ok (.iload_n 1, 1) := by decide +kernel
theorem dX5_thoseThere_37 : decode cX5_thoseThere 37 = .ok (.ireturn, 1) := by decide +kernel
theorem dX5_shopsKept_0 : decode cX5_shopsKept 0 = .ok (.iconst 0, 1) := by decide +kernel
theorem dX5_shopsKept_1 : decode cX5_shopsKept 1 = .ok (.istore_n 1, 1) := by decide +kernel
theorem dX5_shopsKept_2 : decode cX5_shopsKept 2 = .ok (.iconst 0, 1) := by decide +kernel
theorem dX5_shopsKept_3 : decode cX5_shopsKept 3 = .ok (.istore_n 2, 1) := by decide +kernel
theorem dX5_shopsKept_4 : decode cX5_shopsKept 4 = .ok (.iload_n 2, 1) := by decide +kernel
theorem dX5_shopsKept_5 : decode cX5_shopsKept 5 = .ok (.iconst 3, 1) := by decide +kernel
theorem dX5_shopsKept_6 : decode cX5_shopsKept 6 = .ok (.if_icmp .ge 24, 3) := by decide +kernel
theorem dX5_shopsKept_9 : decode cX5_shopsKept 9 = .ok (.aload_n 0, 1) := by decide +kernel
theorem dX5_shopsKept_10 : decode cX5_shopsKept 10 = .ok (.getfield 35, 3) := by decide +kernel
theorem dX5_shopsKept_13 : decode cX5_shopsKept 13 = .ok (.iload_n 2, 1) := by decide +kernel
theorem dX5_shopsKept_14 : decode cX5_shopsKept 14 = .ok (.aaload, 1) := by decide +kernel
theorem dX5_shopsKept_15 : decode cX5_shopsKept 15 = .ok (.getfield 103, 3) := by decide +kernel
theorem dX5_shopsKept_18 : decode cX5_shopsKept 18 = .ok (.ifCond .eq 6, 3) := by decide +kernel
theorem dX5_shopsKept_21 : decode cX5_shopsKept 21 = .ok (.iinc 1 1, 3) := by decide +kernel
theorem dX5_shopsKept_24 : decode cX5_shopsKept 24 = .ok (.iinc 2 1, 3) := by decide +kernel
theorem dX5_shopsKept_27 : decode cX5_shopsKept 27 = .ok (.goto (-23), 3) := by decide +kernel
theorem dX5_shopsKept_30 : decode cX5_shopsKept 30 = .ok (.iload_n 1, 1) := by decide +kernel
theorem dX5_shopsKept_31 : decode cX5_shopsKept 31 = .ok (.ireturn, 1) := by decide +kernel
theorem dX5_tell_0 : decode cX5_tell 0 = .ok (.lload_n 1, 1) := by decide +kernel
theorem dX5_tell_1 : decode cX5_tell 1 = .ok (.lload_n 3, 1) := by decide +kernel
theorem dX5_tell_2 : decode cX5_tell 2 = .ok (.invokestatic 318, 3) := by decide +kernel
theorem dX5_tell_5 : decode cX5_tell 5 = .ok (.lstore 5, 2) := by decide +kernel
theorem dX5_tell_7 : decode cX5_tell 7 = .ok (.lload 5, 2) := by decide +kernel
theorem dX5_tell_9 : decode cX5_tell 9 = .ok (.lconst 0, 1) := by decide +kernel
theorem dX5_tell_10 : decode cX5_tell 10 = .ok (.lcmp, 1) := by decide +kernel
theorem dX5_tell_11 : decode cX5_tell 11 = .ok (.ifCond .le 19, 3) := by decide +kernel
theorem dX5_tell_14 : decode cX5_tell 14 = .ok (.aload_n 0, 1) := by decide +kernel
theorem dX5_tell_15 : decode cX5_tell 15 = .ok (.lload_n 1, 1) := by decide +kernel
theorem dX5_tell_16 : decode cX5_tell 16 = .ok (.lload 5, 2) := by decide +kernel
theorem dX5_tell_18 : decode cX5_tell 18 = .ok (.ldiv, 1) := by decide +kernel
theorem dX5_tell_19 : decode cX5_tell 19 = .ok (.putfield 56, 3) := by decide +kernel
theorem dX5_tell_22 : decode cX5_tell 22 = .ok (.aload_n 0, 1) := by decide +kernel
theorem dX5_tell_23 : decode cX5_tell 23 = .ok (.lload_n 3, 1) := by decide +kernel
theorem dX5_tell_24 : decode cX5_tell 24 = .ok (.lload 5, 2) := by decide +kernel
theorem dX5_tell_26 : decode cX5_tell 26 = .ok (.ldiv, 1) := by decide +kernel
theorem dX5_tell_27 : decode cX5_tell 27 = .ok (.putfield 60, 3) := by decide +kernel
theorem dX5_tell_30 : decode cX5_tell 30 = .ok (.return_, 1) := by decide +kernel
theorem dX5_commonDivisor_0 : decode cX5_commonDivisor 0 = .ok (.lload_n 0, 1) := by decide +kernel
theorem dX5_commonDivisor_1 : decode cX5_commonDivisor 1 = .ok (.lstore 4, 2) := by decide +kernel
theorem dX5_commonDivisor_3 : decode cX5_commonDivisor 3 = .ok (.lload_n 2, 1) := by decide +kernel
theorem dX5_commonDivisor_4 : decode cX5_commonDivisor 4 = .ok (.lstore 6, 2) := by decide +kernel
theorem dX5_commonDivisor_6 : decode cX5_commonDivisor 6 = .ok (.iconst 0, 1) := by decide +kernel
theorem dX5_commonDivisor_7 : decode cX5_commonDivisor 7 = .ok (.istore 8, 2) := by decide +kernel
theorem dX5_commonDivisor_9 : decode cX5_commonDivisor 9 = .ok (.iload 8, 2) := by decide +kernel
theorem dX5_commonDivisor_11 : decode cX5_commonDivisor 11 = .ok (.sipush 200, 3) := by decide +kernel
theorem dX5_commonDivisor_14 : decode cX5_commonDivisor 14 = .ok (.if_icmp .ge 31, 3) := by decide +kernel
theorem dX5_commonDivisor_17 : decode cX5_commonDivisor 17 = .ok (.lload 6, 2) := by decide +kernel
theorem dX5_commonDivisor_19 : decode cX5_commonDivisor 19 = .ok (.lconst 0, 1) := by decide +kernel
theorem dX5_commonDivisor_20 : decode cX5_commonDivisor 20 = .ok (.lcmp, 1) := by decide +kernel
theorem dX5_commonDivisor_21 : decode cX5_commonDivisor 21 = .ok (.ifCond .eq 24, 3) := by decide +kernel
theorem dX5_commonDivisor_24 : decode cX5_commonDivisor 24 = .ok (.lload 4, 2) := by decide +kernel
theorem dX5_commonDivisor_26 : decode cX5_commonDivisor 26 = .ok (.lload 6, 2) := by decide +kernel
theorem dX5_commonDivisor_28 : decode cX5_commonDivisor 28 = .ok (.lrem, 1) := by decide +kernel
theorem dX5_commonDivisor_29 : decode cX5_commonDivisor 29 = .ok (.lstore 9, 2) := by decide +kernel
theorem dX5_commonDivisor_31 : decode cX5_commonDivisor 31 = .ok (.lload 6, 2) := by decide +kernel
theorem dX5_commonDivisor_33 : decode cX5_commonDivisor 33 = .ok (.lstore 4, 2) := by decide +kernel
theorem dX5_commonDivisor_35 : decode cX5_commonDivisor 35 = .ok (.lload 9, 2) := by decide +kernel
theorem dX5_commonDivisor_37 : decode cX5_commonDivisor 37 = .ok (.lstore 6, 2) := by decide +kernel
theorem dX5_commonDivisor_39 : decode cX5_commonDivisor 39 = .ok (.iinc 8 1, 3) := by decide +kernel
theorem dX5_commonDivisor_42 : decode cX5_commonDivisor 42 = .ok (.goto (-33), 3) := by decide +kernel
theorem dX5_commonDivisor_45 : decode cX5_commonDivisor 45 = .ok (.lload 4, 2) := by decide +kernel
theorem dX5_commonDivisor_47 : decode cX5_commonDivisor 47 = .ok (.lreturn, 1) := by decide +kernel
theorem dX5_power_0 : decode cX5_power 0 = .ok (.lconst 1, 1) := by decide +kernel
theorem dX5_power_1 : decode cX5_power 1 = .ok (.lstore_n 3, 1) := by decide +kernel
theorem dX5_power_2 : decode cX5_power 2 = .ok (.iconst 0, 1) := by decide +kernel
theorem dX5_power_3 : decode cX5_power 3 = .ok (.istore 5, 2) := by decide +kernel
theorem dX5_power_5 : decode cX5_power 5 = .ok (.iload 5, 2) := by decide +kernel
theorem dX5_power_7 : decode cX5_power 7 = .ok (.iload_n 2, 1) := by decide +kernel
theorem dX5_power_8 : decode cX5_power 8 = .ok (.if_icmp .ge 13, 3) := by decide +kernel
theorem dX5_power_11 : decode cX5_power 11 = .ok (.lload_n 3, 1) := by decide +kernel
theorem dX5_power_12 : decode cX5_power 12 = .ok (.lload_n 0, 1) := by decide +kernel
theorem dX5_power_13 : decode cX5_power 13 = .ok (.lmul, 1) := by decide +kernel
theorem dX5_power_14 : decode cX5_power 14 = .ok (.lstore_n 3, 1) := by decide +kernel
theorem dX5_power_15 : decode cX5_power 15 = .ok (.iinc 5 1, 3) := by decide +kernel
theorem dX5_power_18 : decode cX5_power 18 = .ok (.goto (-13), 3) := by decide +kernel
theorem dX5_power_21 : decode cX5_power 21 = .ok (.lload_n 3, 1) := by decide +kernel
theorem dX5_power_22 : decode cX5_power 22 = .ok (.lreturn, 1) := by decide +kernel
theorem dX5_faultOf_0 : decode cX5_faultOf 0 = .ok (.iconst 0, 1) := by decide +kernel
theorem dX5_faultOf_1 : decode cX5_faultOf 1 = .ok (.istore_n 2, 1) := by decide +kernel
theorem dX5_faultOf_2 : decode cX5_faultOf 2 = .ok (.iconst 0, 1) := by decide +kernel
theorem dX5_faultOf_3 : decode cX5_faultOf 3 = .ok (.istore_n 3, 1) := by decide +kernel
theorem dX5_faultOf_4 : decode cX5_faultOf 4 = .ok (.iload_n 3, 1) := by decide +kernel
theorem dX5_faultOf_5 : decode cX5_faultOf 5 = .ok (.iload_n 1, 1) := by decide +kernel
theorem dX5_faultOf_6 : decode cX5_faultOf 6 = .ok (.if_icmp .ge 52, 3) := by decide +kernel
theorem dX5_faultOf_9 : decode cX5_faultOf 9 = .ok (.aload_n 0, 1) := by decide +kernel
theorem dX5_faultOf_10 : decode cX5_faultOf 10 = .ok (.iload_n 3, 1) := by decide +kernel
theorem dX5_faultOf_11 : decode cX5_faultOf 11 = .ok (.baload, 1) := by decide +kernel
theorem dX5_faultOf_12 : decode cX5_faultOf 12 = .ok (.bipush 32, 2) := by decide +kernel
theorem dX5_faultOf_14 : decode cX5_faultOf 14 = .ok (.if_icmp .ne 9, 3) := by decide +kernel
theorem dX5_faultOf_17 : decode cX5_faultOf 17 = .ok (.iinc 3 1, 3) := by decide +kernel
theorem dX5_faultOf_20 : decode cX5_faultOf 20 = .ok (.goto (-16), 3) := by decide +kernel
theorem dX5_faultOf_23 : decode cX5_faultOf 23 = .ok (.iload_n 2, 1) := by decide +kernel
theorem dX5_faultOf_24 : decode cX5_faultOf 24 = .ok (.bipush 6, 2) := by decide +kernel
theorem dX5_faultOf_26 : decode cX5_faultOf 26 = .ok (.if_icmp .ne 5, 3) := by decide +kernel
theorem dX5_faultOf_29 : decode cX5_faultOf 29 = .ok (.iload_n 3, 1) := by decide +kernel
theorem dX5_faultOf_30 : decode cX5_faultOf 30 = .ok (.ireturn, 1) := by decide +kernel
theorem dX5_faultOf_31 : decode cX5_faultOf 31 = .ok (.aload_n 0, 1) := by decide +kernel
theorem dX5_faultOf_32 : decode cX5_faultOf 32 = .ok (.iload_n 1, 1) := by decide +kernel
theorem dX5_faultOf_33 : decode cX5_faultOf 33 = .ok (.iload_n 3, 1) := by decide +kernel
theorem dX5_faultOf_34 : decode cX5_faultOf 34 = .ok (.invokestatic 322, 3) := by decide +kernel
theorem dX5_faultOf_37 : decode cX5_faultOf 37 = .ok (.istore 4, 2) := by decide +kernel
theorem dX5_faultOf_39 : decode cX5_faultOf 39 = .ok (.iload 4, 2) := by decide +kernel
theorem dX5_faultOf_41 : decode cX5_faultOf 41 = .ok (.bipush (-9), 2) := by decide +kernel
theorem dX5_faultOf_43 : decode cX5_faultOf 43 = .ok (.if_icmp .eq 6, 3) := by decide +kernel
theorem dX5_faultOf_46 : decode cX5_faultOf 46 = .ok (.iload 4, 2) := by decide +kernel
theorem dX5_faultOf_48 : decode cX5_faultOf 48 = .ok (.ireturn, 1) := by decide +kernel
theorem dX5_faultOf_49 : decode cX5_faultOf 49 = .ok (.iinc 2 1, 3) := by decide +kernel
theorem dX5_faultOf_52 : decode cX5_faultOf 52 = .ok (.iinc 3 6, 3) := by decide +kernel
theorem dX5_faultOf_55 : decode cX5_faultOf 55 = .ok (.goto (-51), 3) := by decide +kernel
theorem dX5_faultOf_58 : decode cX5_faultOf 58 = .ok (.iload_n 2, 1) := by decide +kernel
theorem dX5_faultOf_59 : decode cX5_faultOf 59 = .ok (.ifCond .ne 7, 3) := by decide +kernel
theorem dX5_faultOf_62 : decode cX5_faultOf 62 = .ok (.iload_n 1, 1) := by decide +kernel
theorem dX5_faultOf_63 : decode cX5_faultOf 63 = .ok (.goto 5, 3) := by decide +kernel
theorem dX5_faultOf_66 : decode cX5_faultOf 66 = .ok (.bipush (-9), 2) := by decide +kernel
theorem dX5_faultOf_68 : decode cX5_faultOf 68 = .ok (.ireturn, 1) := by decide +kernel
theorem dX5_itemFault_0 : decode cX5_itemFault 0 = .ok (.iconst 0, 1) := by decide +kernel
theorem dX5_itemFault_1 : decode cX5_itemFault 1 = .ok (.istore_n 3, 1) := by decide +kernel
theorem dX5_itemFault_2 : decode cX5_itemFault 2 = .ok (.iload_n 3, 1) := by decide +kernel
theorem dX5_itemFault_3 : decode cX5_itemFault 3 = .ok (.bipush 6, 2) := by decide +kernel
theorem dX5_itemFault_5 : decode cX5_itemFault 5 = .ok (.if_icmp .ge 34, 3) := by decide +kernel
theorem dX5_itemFault_8 : decode cX5_itemFault 8 = .ok (.iload_n 2, 1) := by decide +kernel
theorem dX5_itemFault_9 : decode cX5_itemFault 9 = .ok (.iload_n 3, 1) := by decide +kernel
theorem dX5_itemFault_10 : decode cX5_itemFault 10 = .ok (.iadd, 1) := by decide +kernel
theorem dX5_itemFault_11 : decode cX5_itemFault 11 = .ok (.istore 4, 2) := by decide +kernel
theorem dX5_itemFault_13 : decode cX5_itemFault 13 = .ok (.iload 4, 2) := by decide +kernel
theorem dX5_itemFault_15 : decode cX5_itemFault 15 = .ok (.iload_n 1, 1) := by decide +kernel
theorem dX5_itemFault_16 : decode cX5_itemFault 16 = .ok (.if_icmp .ge 14, 3) := by decide +kernel
theorem dX5_itemFault_19 : decode cX5_itemFault 19 = .ok (.aload_n 0, 1) := by decide +kernel
theorem dX5_itemFault_20 : decode cX5_itemFault 20 = .ok (.iload 4, 2) := by decide +kernel
theorem dX5_itemFault_22 : decode cX5_itemFault 22 = .ok (.baload, 1) := by decide +kernel
theorem dX5_itemFault_23 : decode cX5_itemFault 23 = .ok (.iload_n 3, 1) := by decide +kernel
theorem dX5_itemFault_24 : decode cX5_itemFault 24 = .ok (.invokestatic 326, 3) := by decide +kernel
theorem dX5_itemFault_27 : decode cX5_itemFault 27 = .ok (.ifCond .ne 6, 3) := by decide +kernel
theorem dX5_itemFault_30 : decode cX5_itemFault 30 = .ok (.iload 4, 2) := by decide +kernel
theorem dX5_itemFault_32 : decode cX5_itemFault 32 = .ok (.ireturn, 1) := by decide +kernel
theorem dX5_itemFault_33 : decode cX5_itemFault 33 = .ok (.iinc 3 1, 3) := by decide +kernel
theorem dX5_itemFault_36 : decode cX5_itemFault 36 = .ok (.goto (-34), 3) := by decide +kernel
theorem dX5_itemFault_39 : decode cX5_itemFault 39 = .ok (.bipush (-9), 2) := by decide +kernel
theorem dX5_itemFault_41 : decode cX5_itemFault 41 = .ok (.ireturn, 1) := by decide +kernel
theorem dX5_mayStand_0 : decode cX5_mayStand 0 = .ok (.iload_n 1, 1) := by decide +kernel
theorem dX5_mayStand_1 : decode cX5_mayStand 1 = .ok (.ifCond .ne 18, 3) := by decide +kernel
theorem dX5_mayStand_4 : decode cX5_mayStand 4 = .ok (.iload_n 0, 1) := by decide +kernel
theorem dX5_mayStand_5 : decode cX5_mayStand 5 = .ok (.invokestatic 329, 3) := by decide +kernel
theorem dX5_mayStand_8 : decode cX5_mayStand 8 = .ok (.bipush (-9), 2) := by decide +kernel
theorem dX5_mayStand_10 : decode cX5_mayStand 10 = .ok (.if_icmp .eq 7, 3) := by decide +kernel
theorem dX5_mayStand_13 : decode cX5_mayStand 13 = .ok (.iconst 1, 1) := by decide +kernel
theorem dX5_mayStand_14 : decode cX5_mayStand 14 = .ok (.goto 4, 3) := by decide +kernel
theorem dX5_mayStand_17 : decode cX5_mayStand 17 = .ok (.iconst 0, 1) := by decide +kernel
theorem dX5_mayStand_18 : decode cX5_mayStand 18 = .ok (.ireturn, 1) := by decide +kernel
theorem dX5_mayStand_19 : decode cX5_mayStand 19 = .ok (.iload_n 0, 1) := by decide +kernel
theorem dX5_mayStand_20 : decode cX5_mayStand 20 = .ok (.bipush 48, 2) := by decide +kernel
theorem dX5_mayStand_22 : decode cX5_mayStand 22 = .ok (.isub, 1) := by decide +kernel
theorem dX5_mayStand_23 : decode cX5_mayStand 23 = .ok (.istore_n 2, 1) := by decide +kernel
theorem dX5_mayStand_24 : decode cX5_mayStand 24 = .ok (.iload_n 2, 1) := by decide +kernel
theorem dX5_mayStand_25 : decode cX5_mayStand 25 = .ok (.getstatic 332, 3) := by decide +kernel
theorem dX5_mayStand_28 : decode cX5_mayStand 28 = .ok (.iload_n 1, 1) := by decide +kernel
theorem dX5_mayStand_29 : decode cX5_mayStand 29 = .ok (.iaload, 1) := by decide +kernel
theorem dX5_mayStand_30 : decode cX5_mayStand 30 = .ok (.if_icmp .lt 16, 3) := by decide +kernel
theorem dX5_mayStand_33 : decode cX5_mayStand 33 = .ok (.iload_n 2, 1) := by decide +kernel
theorem dX5_mayStand_34 : decode cX5_mayStand 34 = .ok (.getstatic 335, 3) := by decide +kernel
theorem dX5_mayStand_37 : decode cX5_mayStand 37 = .ok (.iload_n 1, 1) := by decide +kernel
theorem dX5_mayStand_38 : decode cX5_mayStand 38 = .ok (.iaload, 1) := by decide +kernel
theorem dX5_mayStand_39 : decode cX5_mayStand 39 = .ok (.if_icmp .gt 7, 3) := by decide +kernel
theorem dX5_mayStand_42 : decode cX5_mayStand 42 = .ok (.iconst 1, 1) := by decide +kernel
theorem dX5_mayStand_43 : decode cX5_mayStand 43 = .ok (.goto 4, 3) := by decide +kernel
theorem dX5_mayStand_46 : decode cX5_mayStand 46 = .ok (.iconst 0, 1) := by decide +kernel
theorem dX5_mayStand_47 : decode cX5_mayStand 47 = .ok (.ireturn, 1) := by decide +kernel
theorem dX5_kindOf_0 : decode cX5_kindOf 0 = .ok (.iconst 0, 1) := by decide +kernel
theorem dX5_kindOf_1 : decode cX5_kindOf 1 = .ok (.istore_n 1, 1) := by decide +kernel
theorem dX5_kindOf_2 : decode cX5_kindOf 2 = .ok (.iload_n 1, 1) := by decide +kernel
theorem dX5_kindOf_3 : decode cX5_kindOf 3 = .ok (.bipush 6, 2) := by decide +kernel
theorem dX5_kindOf_5 : decode cX5_kindOf 5 = .ok (.if_icmp .ge 20, 3) := by decide +kernel
theorem dX5_kindOf_8 : decode cX5_kindOf 8 = .ok (.getstatic 338, 3) := by decide +kernel
theorem dX5_kindOf_11 : decode cX5_kindOf 11 = .ok (.iload_n 1, 1) := by decide +kernel
theorem dX5_kindOf_12 : decode cX5_kindOf 12 = .ok (.iaload, 1) := by decide +kernel
theorem dX5_kindOf_13 : decode cX5_kindOf 13 = .ok (.iload_n 0, 1) := by decide +kernel
theorem dX5_kindOf_14 : decode cX5_kindOf 14 = .ok (.if_icmp .ne 5, 3) := by decide +kernel
theorem dX5_kindOf_17 : decode cX5_kindOf 17 = .ok (.iload_n 1, 1) := by decide +kernel
theorem dX5_kindOf_18 : decode cX5_kindOf 18 = .ok (.ireturn, 1) := by decide +kernel
theorem dX5_kindOf_19 : decode cX5_kindOf 19 = .ok (.iinc 1 1, 3) := by decide +kernel
theorem dX5_kindOf_22 : decode cX5_kindOf 22 = .ok (.goto (-20), 3) := by decide +kernel
theorem dX5_kindOf_25 : decode cX5_kindOf 25 = .ok (.bipush (-9), 2) := by decide +kernel
theorem dX5_kindOf_27 : decode cX5_kindOf 27 = .ok (.ireturn, 1) := by decide +kernel
theorem dX5_wantsOther_0 : decode cX5_wantsOther 0 = .ok (.iload_n 0, 1) := by decide +kernel
theorem dX5_wantsOther_1 : decode cX5_wantsOther 1 = .ok (.tableswitch 86 2 5 #[31, 86, 73, 42], 31) := by decide +kernel
theorem dX5_wantsOther_32 : decode cX5_wantsOther 32 = .ok (.iload_n 1, 1) := by decide +kernel
theorem dX5_wantsOther_33 : decode cX5_wantsOther 33 = .ok (.iconst 3, 1) := by decide +kernel
theorem dX5_wantsOther_34 : decode cX5_wantsOther 34 = .ok (.if_icmp .lt 7, 3) := by decide +kernel
theorem dX5_wantsOther_37 : decode cX5_wantsOther 37 = .ok (.iconst 1, 1) := by decide +kernel
theorem dX5_wantsOther_38 : decode cX5_wantsOther 38 = .ok (.goto 4, 3) := by decide +kernel
theorem dX5_wantsOther_41 : decode cX5_wantsOther 41 = .ok (.iconst 0, 1) := by decide +kernel
theorem dX5_wantsOther_42 : decode cX5_wantsOther 42 = .ok (.ireturn, 1) := by decide +kernel
theorem dX5_wantsOther_43 : decode cX5_wantsOther 43 = .ok (.iload_n 1, 1) := by decide +kernel
theorem dX5_wantsOther_44 : decode cX5_wantsOther 44 = .ok (.iconst 5, 1) := by decide +kernel
theorem dX5_wantsOther_45 : decode cX5_wantsOther 45 = .ok (.irem, 1) := by decide +kernel
theorem dX5_wantsOther_46 : decode cX5_wantsOther 46 = .ok (.iconst 4, 1) := by decide +kernel
theorem dX5_wantsOther_47 : decode cX5_wantsOther 47 = .ok (.if_icmp .ne 16, 3) := by decide +kernel
theorem dX5_wantsOther_50 : decode cX5_wantsOther 50 = .ok (.iload_n 1, 1) := by decide +kernel
theorem dX5_wantsOther_51 : decode cX5_wantsOther 51 = .ok (.iconst 3, 1) := by decide +kernel
theorem dX5_wantsOther_52 : decode cX5_wantsOther 52 = .ok (.if_icmp .ge 7, 3) := by decide +kernel
theorem dX5_wantsOther_55 : decode cX5_wantsOther 55 = .ok (.iconst 1, 1) := by decide +kernel
theorem dX5_wantsOther_56 : decode cX5_wantsOther 56 = .ok (.goto 17, 3) := by decide +kernel
theorem dX5_wantsOther_59 : decode cX5_wantsOther 59 = .ok (.iconst 0, 1) := by decide +kernel
theorem dX5_wantsOther_60 : decode cX5_wantsOther 60 = .ok (.goto 13, 3) := by decide +kernel
theorem dX5_wantsOther_63 : decode cX5_wantsOther 63 = .ok (.iload_n 1, 1) := by decide +kernel
theorem dX5_wantsOther_64 : decode cX5_wantsOther 64 = .ok (.iconst 3, 1) := by decide +kernel
theorem dX5_wantsOther_65 : decode cX5_wantsOther 65 = .ok (.if_icmp .lt 7, 3) := by decide +kernel
theorem dX5_wantsOther_68 : decode cX5_wantsOther 68 = .ok (.iconst 1, 1) := by decide +kernel
theorem dX5_wantsOther_69 : decode cX5_wantsOther 69 = .ok (.goto 4, 3) := by decide +kernel
theorem dX5_wantsOther_72 : decode cX5_wantsOther 72 = .ok (.iconst 0, 1) := by decide +kernel
theorem dX5_wantsOther_73 : decode cX5_wantsOther 73 = .ok (.ireturn, 1) := by decide +kernel
theorem dX5_wantsOther_74 : decode cX5_wantsOther 74 = .ok (.iload_n 1, 1) := by decide +kernel
theorem dX5_wantsOther_75 : decode cX5_wantsOther 75 = .ok (.iconst 2, 1) := by decide +kernel
theorem dX5_wantsOther_76 : decode cX5_wantsOther 76 = .ok (.irem, 1) := by decide +kernel
theorem dX5_wantsOther_77 : decode cX5_wantsOther 77 = .ok (.iconst 1, 1) := by decide +kernel
theorem dX5_wantsOther_78 : decode cX5_wantsOther 78 = .ok (.if_icmp .ne 7, 3) := by decide +kernel
theorem dX5_wantsOther_81 : decode cX5_wantsOther 81 = .ok (.iconst 1, 1) := by decide +kernel
theorem dX5_wantsOther_82 : decode cX5_wantsOther 82 = .ok (.goto 4, 3) := by decide +kernel
theorem dX5_wantsOther_85 : decode cX5_wantsOther 85 = .ok (.iconst 0, 1) := by decide +kernel
theorem dX5_wantsOther_86 : decode cX5_wantsOther 86 = .ok (.ireturn, 1) := by decide +kernel
theorem dX5_wantsOther_87 : decode cX5_wantsOther 87 = .ok (.iconst 0, 1) := by decide +kernel
theorem dX5_wantsOther_88 : decode cX5_wantsOther 88 = .ok (.ireturn, 1) := by decide +kernel
end
section
theorem dX6_init_0 : decode cX6_init 0 = .ok (.aload_n 0, 1) := by decide +kernel
theorem dX6_init_1 : decode cX6_init 1 = .ok (.invokespecial 1, 3) := by decide +kernel
theorem dX6_init_4 : decode cX6_init 4 = .ok (.aload_n 0, 1) := by decide +kernel
theorem dX6_init_5 : decode cX6_init 5 = .ok (.bipush 6, 2) := by decide +kernel
theorem dX6_init_7 : decode cX6_init 7 = .ok (.newarray .int, 2) := by decide +kernel
theorem dX6_init_9 : decode cX6_init 9 = .ok (.putfield 7, 3) := by decide +kernel
theorem dX6_init_12 : decode cX6_init 12 = .ok (.aload_n 0, 1) := by decide +kernel
theorem dX6_init_13 : decode cX6_init 13 = .ok (.lconst 1, 1) := by decide +kernel
theorem dX6_init_14 : decode cX6_init 14 = .ok (.putfield 13, 3) := by decide +kernel
theorem dX6_init_17 : decode cX6_init 17 = .ok (.aload_n 0, 1) := by decide +kernel
theorem dX6_init_18 : decode cX6_init 18 = .ok (.bipush 6, 2) := by decide +kernel
theorem dX6_init_20 : decode cX6_init 20 = .ok (.newarray .int, 2) := by decide +kernel
theorem dX6_init_22 : decode cX6_init 22 = .ok (.putfield 17, 3) := by decide +kernel
theorem dX6_init_25 : decode cX6_init 25 = .ok (.aload_n 0, 1) := by decide +kernel
theorem dX6_init_26 : decode cX6_init 26 = .ok (.sipush 240, 3) := by decide +kernel
theorem dX6_init_29 : decode cX6_init 29 = .ok (.newarray .int, 2) := by decide +kernel
theorem dX6_init_31 : decode cX6_init 31 = .ok (.putfield 20, 3) := by decide +kernel
theorem dX6_init_34 : decode cX6_init 34 = .ok (.aload_n 0, 1) := by decide +kernel
theorem dX6_init_35 : decode cX6_init 35 = .ok (.bipush 40, 2) := by decide +kernel
theorem dX6_init_37 : decode cX6_init 37 = .ok (.newarray .int, 2) := by decide +kernel
theorem dX6_init_39 : decode cX6_init 39 = .ok (.putfield 23, 3) := by decide +kernel
theorem dX6_init_42 : decode cX6_init 42 = .ok (.aload_n 0, 1) := by decide +kernel
theorem dX6_init_43 : decode cX6_init 43 = .ok (.iconst 4, 1) := by decide +kernel
theorem dX6_init_44 : decode cX6_init 44 = .ok (.newarray .int, 2) := by decide +kernel
theorem dX6_init_46 : decode cX6_init 46 = .ok (.putfield 26, 3) := by decide +kernel
theorem dX6_init_49 : decode cX6_init 49 = .ok (.aload_n 0, 1) := by decide +kernel
theorem dX6_init_50 : decode cX6_init 50 = .ok (.sipush 240, 3) := by decide +kernel
theorem dX6_init_53 : decode cX6_init 53 = .ok (.newarray .byte, 2) := by decide +kernel
theorem dX6_init_55 : decode cX6_init 55 = .ok (.putfield 29, 3) := by decide +kernel
theorem dX6_init_58 : decode cX6_init 58 = .ok (.aload_n 0, 1) := by decide +kernel
theorem dX6_init_59 : decode cX6_init 59 = .ok (.bipush 6, 2) := by decide +kernel
theorem dX6_init_61 : decode cX6_init 61 = .ok (.newarray .int, 2) := by decide +kernel
theorem dX6_init_63 : decode cX6_init 63 = .ok (.putfield 33, 3) := by decide +kernel
theorem dX6_init_66 : decode cX6_init 66 = .ok (.aload_n 0, 1) := by decide +kernel
theorem dX6_init_67 : decode cX6_init 67 = .ok (.bipush 6, 2) := by decide +kernel
theorem dX6_init_69 : decode cX6_init 69 = .ok (.newarray .int, 2) := by decide +kernel
theorem dX6_init_71 : decode cX6_init 71 = .ok (.putfield 36, 3) := by decide +kernel
theorem dX6_init_74 : decode cX6_init 74 = .ok (.aload_n 0, 1) := by decide +kernel
theorem dX6_init_75 : decode cX6_init 75 = .ok (.bipush 6, 2) := by decide +kernel
theorem dX6_init_77 : decode cX6_init 77 = .ok (.newarray .int, 2) := by decide +kernel
theorem dX6_init_79 : decode cX6_init 79 = .ok (.putfield 39, 3) := by decide +kernel
theorem dX6_init_82 : decode cX6_init 82 = .ok (.aload_n 0, 1) := by decide +kernel
theorem dX6_init_83 : decode cX6_init 83 = .ok (.bipush 6, 2) := by decide +kernel
theorem dX6_init_85 : decode cX6_init 85 = .ok (.newarray .int, 2) := by decide +kernel
theorem dX6_init_87 : decode cX6_init 87 = .ok (.putfield 42, 3) := by decide +kernel
theorem dX6_init_90 : decode cX6_init 90 = .ok (.aload_n 0, 1) := by decide +kernel
theorem dX6_init_91 : decode cX6_init 91 = .ok (.bipush 6, 2) := by decide +kernel
theorem dX6_init_93 : decode cX6_init 93 = .ok (.newarray .int, 2) := by decide +kernel
theorem dX6_init_95 : decode cX6_init 95 = .ok (.putfield 45, 3) := by decide +kernel
theorem dX6_init_98 : decode cX6_init 98 = .ok (.aload_n 0, 1) := by decide +kernel
theorem dX6_init_99 : decode cX6_init 99 = .ok (.bipush 6, 2) := by decide +kernel
theorem dX6_init_101 : decode cX6_init 101 = .ok (.newarray .int, 2) := by decide +kernel
theorem dX6_init_103 : decode cX6_init 103 = .ok (.putfield 48, 3) := by decide +kernel
theorem dX6_init_106 : decode cX6_init 106 = .ok (.aload_n 0, 1) := by decide +kernel
theorem dX6_init_107 : decode cX6_init 107 = .ok (.bipush 36, 2) := by decide +kernel
theorem dX6_init_109 : decode cX6_init 109 = .ok (.newarray .int, 2) := by decide +kernel
theorem dX6_init_111 : decode cX6_init 111 = .ok (.putfield 51, 3) := by decide +kernel
theorem dX6_init_114 : decode cX6_init 114 = .ok (.aload_n 0, 1) := by decide +kernel
theorem dX6_init_115 : decode cX6_init 115 = .ok (.bipush 14, 2) := by decide +kernel
theorem dX6_init_117 : decode cX6_init 117 = .ok (.newarray .int, 2) := by decide +kernel
theorem dX6_init_119 : decode cX6_init 119 = .ok (.putfield 54, 3) := by decide +kernel
theorem dX6_init_122 : decode cX6_init 122 = .ok (.aload_n 0, 1) := by decide +kernel
theorem dX6_init_123 : decode cX6_init 123 = .ok (.sipush 840, 3) := by decide +kernel
theorem dX6_init_126 : decode cX6_init 126 = .ok (.newarray .int, 2) := by decide +kernel
theorem dX6_init_128 : decode cX6_init 128 = .ok (.putfield 57, 3) := by decide +kernel
theorem dX6_init_131 : decode cX6_init 131 = .ok (.aload_n 0, 1) := by decide +kernel
theorem dX6_init_132 : decode cX6_init 132 = .ok (.iconst 3, 1) := by decide +kernel
theorem dX6_init_133 : decode cX6_init 133 = .ok (.newarray .boolean, 2) := by decide +kernel
theorem dX6_init_135 : decode cX6_init 135 = .ok (.putfield 60, 3) := by decide +kernel
theorem dX6_init_138 : decode cX6_init 138 = .ok (.aload_n 0, 1) := by decide +kernel
theorem dX6_init_139 : decode cX6_init 139 = .ok (.iconst 3, 1) := by decide +kernel
theorem dX6_init_140 : decode cX6_init 140 = .ok (.newarray .int, 2) := by decide +kernel
theorem dX6_init_142 : decode cX6_init 142 = .ok (.putfield 64, 3) := by decide +kernel
theorem dX6_init_145 : decode cX6_init 145 = .ok (.aload_n 0, 1) := by decide +kernel
theorem dX6_init_146 : decode cX6_init 146 = .ok (.bipush 18, 2) := by decide +kernel
theorem dX6_init_148 : decode cX6_init 148 = .ok (.newarray .int, 2) := by decide +kernel
theorem dX6_init_150 : decode cX6_init 150 = .ok (.putfield 67, 3) := by decide +kernel
theorem dX6_init_153 : decode cX6_init 153 = .ok (.aload_n 0, 1) := by decide +kernel
theorem dX6_init_154 : decode cX6_init 154 = .ok (.bipush 42, 2) := by decide +kernel
theorem dX6_init_156 : decode cX6_init 156 = .ok (.newarray .int, 2) := by decide +kernel
theorem dX6_init_158 : decode cX6_init 158 = .ok (.putfield 70, 3) := by decide +kernel
theorem dX6_init_161 : decode cX6_init 161 = .ok (.aload_n 0, 1) := by decide +kernel
theorem dX6_init_162 : decode cX6_init 162 = .ok (.sipush 2520, 3) := by decide +kernel
theorem dX6_init_165 : decode cX6_init 165 = .ok (.newarray .int, 2) := by decide +kernel
theorem dX6_init_167 : decode cX6_init 167 = .ok (.putfield 73, 3) := by decide +kernel
theorem dX6_init_170 : decode cX6_init 170 = .ok (.aload_n 0, 1) := by decide +kernel
theorem dX6_init_171 : decode cX6_init 171 = .ok (.bipush 6, 2) := by decide +kernel
theorem dX6_init_173 : decode cX6_init 173 = .ok (.newarray .int, 2) := by decide +kernel
theorem dX6_init_175 : decode cX6_init 175 = .ok (.putfield 76, 3) := by decide +kernel
theorem dX6_init_178 : decode cX6_init 178 = .ok (.iconst 0, 1) := by decide +kernel
theorem dX6_init_179 : decode cX6_init 179 = .ok (.istore_n 1, 1) := by decide +kernel
theorem dX6_init_180 : decode cX6_init 180 = .ok (.iload_n 1, 1) := by decide +kernel
theorem dX6_init_181 : decode cX6_init 181 = .ok (.bipush 6, 2) := by decide +kernel
theorem dX6_init_183 : decode cX6_init 183 = .ok (.if_icmp .ge 16, 3) := by decide +kernel
theorem dX6_init_186 : decode cX6_init 186 = .ok (.aload_n 0, 1) := by decide +kernel
theorem dX6_init_187 : decode cX6_init 187 = .ok (.getfield 17, 3) := by decide +kernel
theorem dX6_init_190 : decode cX6_init 190 = .ok (.iload_n 1, 1) := by decide +kernel
theorem dX6_init_191 : decode cX6_init 191 = .ok (.iconst (-1), 1) := by decide +kernel
theorem dX6_init_192 : decode cX6_init 192 = .ok (.iastore, 1) := by decide +kernel
theorem dX6_init_193 : decode cX6_init 193 = .ok (.iinc 1 1, 3) := by decide +kernel
theorem dX6_init_196 : decode cX6_init 196 = .ok (.goto (-16), 3) := by decide +kernel
theorem dX6_init_199 : decode cX6_init 199 = .ok (.iconst 0, 1) := by decide +kernel
theorem dX6_init_200 : decode cX6_init 200 = .ok (.istore_n 1, 1) := by decide +kernel
theorem dX6_init_201 : decode cX6_init 201 = .ok (.iload_n 1, 1) := by decide +kernel
theorem dX6_init_202 : decode cX6_init 202 = .ok (.iconst 4, 1) := by decide +kernel
theorem dX6_init_203 : decode cX6_init 203 = .ok (.if_icmp .ge 16, 3) := by decide +kernel
theorem dX6_init_206 : decode cX6_init 206 = .ok (.aload_n 0, 1) := by decide +kernel
theorem dX6_init_207 : decode cX6_init 207 = .ok (.getfield 26, 3) := by decide +kernel
theorem dX6_init_210 : decode cX6_init 210 = .ok (.iload_n 1, 1) := by decide +kernel
theorem dX6_init_211 : decode cX6_init 211 = .ok (.iconst (-1), 1) := by decide +kernel
theorem dX6_init_212 : decode cX6_init 212 = .ok (.iastore, 1) := by decide +kernel
theorem dX6_init_213 : decode cX6_init 213 = .ok (.iinc 1 1, 3) := by decide +kernel
theorem dX6_init_216 : decode cX6_init 216 = .ok (.goto (-15), 3) := by decide +kernel
theorem dX6_init_219 : decode cX6_init 219 = .ok (.return_, 1) := by decide +kernel
theorem dX6_in_0 : decode cX6_in 0 = .ok (.iload_n 0, 1) := by decide +kernel
theorem dX6_in_1 : decode cX6_in 1 = .ok (.iload_n 1, 1) := by decide +kernel
theorem dX6_in_2 : decode cX6_in 2 = .ok (.if_icmp .lt 12, 3) := by decide +kernel
theorem dX6_in_5 : decode cX6_in 5 = .ok (.iload_n 0, 1) := by decide +kernel
theorem dX6_in_6 : decode cX6_in 6 = .ok (.iload_n 2, 1) := by decide +kernel
theorem dX6_in_7 : decode cX6_in 7 = .ok (.if_icmp .gt 7, 3) := by decide +kernel
theorem dX6_in_10 : decode cX6_in 10 = .ok (.iconst 1, 1) := by decide +kernel
theorem dX6_in_11 : decode cX6_in 11 = .ok (.goto 4, 3) := by decide +kernel
theorem dX6_in_14 : decode cX6_in 14 = .ok (.iconst 0, 1) := by decide +kernel
theorem dX6_in_15 : decode cX6_in 15 = .ok (.ireturn, 1) := by decide +kernel
theorem dX6_has_0 : decode cX6_has 0 = .ok (.iload_n 0, 1) := by decide +kernel
theorem dX6_has_1 : decode cX6_has 1 = .ok (.iload_n 1, 1) := by decide +kernel
theorem dX6_has_2 : decode cX6_has 2 = .ok (.ishr, 1) := by decide +kernel
theorem dX6_has_3 : decode cX6_has 3 = .ok (.iconst 1, 1) := by decide +kernel
theorem dX6_has_4 : decode cX6_has 4 = .ok (.iand, 1) := by decide +kernel
theorem dX6_has_5 : decode cX6_has 5 = .ok (.iconst 1, 1) := by decide +kernel
theorem dX6_has_6 : decode cX6_has 6 = .ok (.if_icmp .ne 7, 3) := by decide +kernel
theorem dX6_has_9 : decode cX6_has 9 = .ok (.iconst 1, 1) := by decide +kernel
theorem dX6_has_10 : decode cX6_has 10 = .ok (.goto 4, 3) := by decide +kernel
theorem dX6_has_13 : decode cX6_has 13 = .ok (.iconst 0, 1) := by decide +kernel
theorem dX6_has_14 : decode cX6_has 14 = .ok (.ireturn, 1) := by decide +kernel
theorem dX6_bits_0 : decode cX6_bits 0 = .ok (.iconst 0, 1) := by decide +kernel
theorem dX6_bits_1 : decode cX6_bits 1 = .ok (.istore_n 1, 1) := by decide +kernel
theorem dX6_bits_2 : decode cX6_bits 2 = .ok (.iload_n 0, 1) := by decide +kernel
theorem dX6_bits_3 : decode cX6_bits 3 = .ok (.istore_n 2, 1) := by decide +kernel
theorem dX6_bits_4 : decode cX6_bits 4 = .ok (.iload_n 2, 1) := by decide +kernel
theorem dX6_bits_5 : decode cX6_bits 5 = .ok (.ifCond .eq 15, 3) := by decide +kernel
theorem dX6_bits_8 : decode cX6_bits 8 = .ok (.iinc 1 1, 3) := by decide +kernel
theorem dX6_bits_11 : decode cX6_bits 11 = .ok (.iload_n 2, 1) := by decide +kernel
theorem dX6_bits_12 : decode cX6_bits 12 = .ok (.iload_n 2, 1) := by decide +kernel
theorem dX6_bits_13 : decode cX6_bits 13 = .ok (.iconst 1, 1) := by decide +kernel
theorem dX6_bits_14 : decode cX6_bits 14 = .ok (.isub, 1) := by decide +kernel
theorem dX6_bits_15 : decode cX6_bits 15 = .ok (.iand, 1) := by decide +kernel
theorem dX6_bits_16 : decode cX6_bits 16 = .ok (.istore_n 2, 1) := by decide +kernel
theorem dX6_bits_17 : decode cX6_bits 17 = .ok (.goto (-13), 3) := by decide +kernel
theorem dX6_bits_20 : decode cX6_bits 20 = .ok (.iload_n 1, 1) := by decide +kernel
theorem dX6_bits_21 : decode cX6_bits 21 = .ok (.ireturn, 1) := by decide +kernel
theorem dX6_meets_0 : decode cX6_meets 0 = .ok (.aload_n 0, 1) := by decide +kernel
theorem dX6_meets_1 : decode cX6_meets 1 = .ok (.iload_n 1, 1) := by decide +kernel
theorem dX6_meets_2 : decode cX6_meets 2 = .ok (.putfield 79, 3) := by decide +kernel
theorem dX6_meets_5 : decode cX6_meets 5 = .ok (.aload_n 0, 1) := by decide +kernel
theorem dX6_meets_6 : decode cX6_meets 6 = .ok (.getfield 7, 3) := by decide +kernel
theorem dX6_meets_9 : decode cX6_meets 9 = .ok (.iload_n 1, 1) := by decide +kernel
theorem dX6_meets_10 : decode cX6_meets 10 = .ok (.dup2, 1) := by decide +kernel
theorem dX6_meets_11 : decode cX6_meets 11 = .ok (.iaload, 1) := by decide +kernel
theorem dX6_meets_12 : decode cX6_meets 12 = .ok (.iconst 1, 1) := by decide +kernel
theorem dX6_meets_13 : decode cX6_meets 13 = .ok (.iadd, 1) := by decide +kernel
theorem dX6_meets_14 : decode cX6_meets 14 = .ok (.iastore, 1) := by decide +kernel
theorem dX6_meets_15 : decode cX6_meets 15 = .ok (.bipush (-3), 2) := by decide +kernel
theorem dX6_meets_17 : decode cX6_meets 17 = .ok (.ireturn, 1) := by decide +kernel
theorem dX6_finding_0 : decode cX6_finding 0 = .ok (.aload_n 0, 1) := by decide +kernel
theorem dX6_finding_1 : decode cX6_finding 1 = .ok (.getfield 79, 3) := by decide +kernel
theorem dX6_finding_4 : decode cX6_finding 4 = .ok (.ireturn, 1) := by decide +kernel
theorem dX6_findings_0 : decode cX6_findings 0 = .ok (.iload_n 1, 1) := by decide +kernel
theorem dX6_findings_1 : decode cX6_findings 1 = .ok (.iconst 1, 1) := by decide +kernel
theorem dX6_findings_2 : decode cX6_findings 2 = .ok (.iconst 5, 1) := by decide +kernel
theorem dX6_findings_3 : decode cX6_findings 3 = .ok (.invokestatic 83, 3) := by decide +kernel
theorem dX6_findings_6 : decode cX6_findings 6 = .ok (.ifCond .eq 12, 3) := by decide +kernel
theorem dX6_findings_9 : decode cX6_findings 9 = .ok (.aload_n 0, 1) := by decide +kernel
theorem dX6_findings_10 : decode cX6_findings 10 = .ok (.getfield 7, 3) := by decide +kernel
theorem dX6_findings_13 : decode cX6_findings 13 = .ok (.iload_n 1, 1) := by decide +kernel
theorem dX6_findings_14 : decode cX6_findings 14 = .ok (.iaload, 1) := by decide +kernel
theorem dX6_findings_15 : decode cX6_findings 15 = .ok (.goto 4, 3) := by decide +kernel
theorem dX6_findings_18 : decode cX6_findings 18 = .ok (.iconst (-1), 1) := by decide +kernel
theorem dX6_findings_19 : decode cX6_findings 19 = .ok (.ireturn, 1) := by decide +kernel
theorem dX6_tells_0 : decode cX6_tells 0 = .ok (.aload_n 0, 1) := by decide +kernel
theorem dX6_tells_1 : decode cX6_tells 1 = .ok (.iload_n 1, 1) := by decide +kernel
theorem dX6_tells_2 : decode cX6_tells 2 = .ok (.putfield 87, 3) := by decide +kernel
theorem dX6_tells_5 : decode cX6_tells 5 = .ok (.iload_n 2, 1) := by decide +kernel
theorem dX6_tells_6 : decode cX6_tells 6 = .ok (.ireturn, 1) := by decide +kernel
theorem dX6_asked_0 : decode cX6_asked 0 = .ok (.aload_n 0, 1) := by decide +kernel
theorem dX6_asked_1 : decode cX6_asked 1 = .ok (.getfield 87, 3) := by decide +kernel
theorem dX6_asked_4 : decode cX6_asked 4 = .ok (.ireturn, 1) := by decide +kernel
theorem dX6_fraction_0 : decode cX6_fraction 0 = .ok (.iload_n 1, 1) := by decide +kernel
theorem dX6_fraction_1 : decode cX6_fraction 1 = .ok (.istore_n 3, 1) := by decide +kernel
theorem dX6_fraction_2 : decode cX6_fraction 2 = .ok (.iload_n 2, 1) := by decide +kernel
theorem dX6_fraction_3 : decode cX6_fraction 3 = .ok (.istore 4, 2) := by decide +kernel
theorem dX6_fraction_5 : decode cX6_fraction 5 = .ok (.iload 4, 2) := by decide +kernel
theorem dX6_fraction_7 : decode cX6_fraction 7 = .ok (.ifCond .eq 19, 3) := by decide +kernel
theorem dX6_fraction_10 : decode cX6_fraction 10 = .ok (.iload_n 3, 1) := by decide +kernel
theorem dX6_fraction_11 : decode cX6_fraction 11 = .ok (.iload 4, 2) := by decide +kernel
theorem dX6_fraction_13 : decode cX6_fraction 13 = .ok (.irem, 1) := by decide +kernel
theorem dX6_fraction_14 : decode cX6_fraction 14 = .ok (.istore 5, 2) := by decide +kernel
theorem dX6_fraction_16 : decode cX6_fraction 16 = .ok (.iload 4, 2) := by decide +kernel
theorem dX6_fraction_18 : decode cX6_fraction 18 = .ok (.istore_n 3, 1) := by decide +kernel
theorem dX6_fraction_19 : decode cX6_fraction 19 = .ok (.iload 5, 2) := by decide +kernel
theorem dX6_fraction_21 : decode cX6_fraction 21 = .ok (.istore 4, 2) := by decide +kernel
theorem dX6_fraction_23 : decode cX6_fraction 23 = .ok (.goto (-18), 3) := by decide +kernel
theorem dX6_fraction_26 : decode cX6_fraction 26 = .ok (.aload_n 0, 1) := by decide +kernel
theorem dX6_fraction_27 : decode cX6_fraction 27 = .ok (.iload_n 1, 1) := by decide +kernel
theorem dX6_fraction_28 : decode cX6_fraction 28 = .ok (.iload_n 3, 1) := by decide +kernel
theorem dX6_fraction_29 : decode cX6_fraction 29 = .ok (.idiv, 1) := by decide +kernel
theorem dX6_fraction_30 : decode cX6_fraction 30 = .ok (.i2l, 1) := by decide +kernel
theorem dX6_fraction_31 : decode cX6_fraction 31 = .ok (.putfield 90, 3) := by decide +kernel
theorem dX6_fraction_34 : decode cX6_fraction 34 = .ok (.aload_n 0, 1) := by decide +kernel
theorem dX6_fraction_35 : decode cX6_fraction 35 = .ok (.iload_n 2, 1) := by decide +kernel
theorem dX6_fraction_36 : decode cX6_fraction 36 = .ok (.iload_n 3, 1) := by decide +kernel
theorem dX6_fraction_37 : decode cX6_fraction 37 = .ok (.idiv, 1) := by decide +kernel
theorem dX6_fraction_38 : decode cX6_fraction 38 = .ok (.i2l, 1) := by decide +kernel
theorem dX6_fraction_39 : decode cX6_fraction 39 = .ok (.putfield 13, 3) := by decide +kernel
theorem dX6_fraction_42 : decode cX6_fraction 42 = .ok (.iconst 1, 1) := by decide +kernel
theorem dX6_fraction_43 : decode cX6_fraction 43 = .ok (.ireturn, 1) := by decide +kernel
theorem dX6_upper_0 : decode cX6_upper 0 = .ok (.aload_n 0, 1) := by decide +kernel
theorem dX6_upper_1 : decode cX6_upper 1 = .ok (.getfield 90, 3) := by decide +kernel
theorem dX6_upper_4 : decode cX6_upper 4 = .ok (.lreturn, 1) := by decide +kernel
theorem dX6_lower_0 : decode cX6_lower 0 = .ok (.aload_n 0, 1) := by decide +kernel
theorem dX6_lower_1 : decode cX6_lower 1 = .ok (.getfield 13, 3) := by decide +kernel
theorem dX6_lower_4 : decode cX6_lower 4 = .ok (.lreturn, 1) := by decide +kernel
theorem dX6_isRow_0 : decode cX6_isRow 0 = .ok (.iload_n 0, 1) := by decide +kernel
theorem dX6_isRow_1 : decode cX6_isRow 1 = .ok (.iconst 0, 1) := by decide +kernel
theorem dX6_isRow_2 : decode cX6_isRow 2 = .ok (.iconst 5, 1) := by decide +kernel
theorem dX6_isRow_3 : decode cX6_isRow 3 = .ok (.invokestatic 83, 3) := by decide +kernel
theorem dX6_isRow_6 : decode cX6_isRow 6 = .ok (.ireturn, 1) := by decide +kernel
theorem dX6_rowAt_0 : decode cX6_rowAt 0 = .ok (.aload_n 0, 1) := by decide +kernel
theorem dX6_rowAt_1 : decode cX6_rowAt 1 = .ok (.getfield 20, 3) := by decide +kernel
theorem dX6_rowAt_4 : decode cX6_rowAt 4 = .ok (.bipush 40, 2) := by decide +kernel
theorem dX6_rowAt_6 : decode cX6_rowAt 6 = .ok (.iload_n 1, 1) := by decide +kernel
theorem dX6_rowAt_7 : decode cX6_rowAt 7 = .ok (.imul, 1) := by decide +kernel
theorem dX6_rowAt_8 : decode cX6_rowAt 8 = .ok (.iload_n 2, 1) := by decide +kernel
theorem dX6_rowAt_9 : decode cX6_rowAt 9 = .ok (.iadd, 1) := by decide +kernel
theorem dX6_rowAt_10 : decode cX6_rowAt 10 = .ok (.iaload, 1) := by decide +kernel
theorem dX6_rowAt_11 : decode cX6_rowAt 11 = .ok (.ireturn, 1) := by decide +kernel
theorem dX6_row_0 : decode cX6_row 0 = .ok (.iload_n 1, 1) := by decide +kernel
theorem dX6_row_1 : decode cX6_row 1 = .ok (.invokestatic 93, 3) := by decide +kernel
theorem dX6_row_4 : decode cX6_row 4 = .ok (.ifCond .eq 9, 3) := by decide +kernel
theorem dX6_row_7 : decode cX6_row 7 = .ok (.iload_n 2, 1) := by decide +kernel
theorem dX6_row_8 : decode cX6_row 8 = .ok (.bipush 40, 2) := by decide +kernel
theorem dX6_row_10 : decode cX6_row 10 = .ok (.if_icmp .le 5, 3) := by decide +kernel
theorem dX6_row_13 : decode cX6_row 13 = .ok (.iconst (-1), 1) := by decide +kernel
theorem dX6_row_14 : decode cX6_row 14 = .ok (.ireturn, 1) := by decide +kernel
theorem dX6_row_15 : decode cX6_row 15 = .ok (.iload_n 2, 1) := by decide +kernel
theorem dX6_row_16 : decode cX6_row 16 = .ok (.ifCond .ge 9, 3) := by decide +kernel
theorem dX6_row_19 : decode cX6_row 19 = .ok (.aload_n 0, 1) := by decide +kernel
theorem dX6_row_20 : decode cX6_row 20 = .ok (.iconst 5, 1) := by decide +kernel
theorem dX6_row_21 : decode cX6_row 21 = .ok (.invokevirtual 97, 3) := by decide +kernel
theorem dX6_row_24 : decode cX6_row 24 = .ok (.ireturn, 1) := by decide +kernel
theorem dX6_row_25 : decode cX6_row 25 = .ok (.aload_n 0, 1) := by decide +kernel
theorem dX6_row_26 : decode cX6_row 26 = .ok (.getfield 17, 3) := by decide +kernel
theorem dX6_row_29 : decode cX6_row 29 = .ok (.iload_n 1, 1) := by decide +kernel
theorem dX6_row_30 : decode cX6_row 30 = .ok (.iload_n 2, 1) := by decide +kernel
theorem dX6_row_31 : decode cX6_row 31 = .ok (.iastore, 1) := by decide +kernel
theorem dX6_row_32 : decode cX6_row 32 = .ok (.iconst 0, 1) := by decide +kernel
theorem dX6_row_33 : decode cX6_row 33 = .ok (.istore_n 3, 1) := by decide +kernel
theorem dX6_row_34 : decode cX6_row 34 = .ok (.iload_n 3, 1) := by decide +kernel
theorem dX6_row_35 : decode cX6_row 35 = .ok (.bipush 40, 2) := by decide +kernel
theorem dX6_row_37 : decode cX6_row 37 = .ok (.if_icmp .ge 21, 3) := by decide +kernel
theorem dX6_row_40 : decode cX6_row 40 = .ok (.aload_n 0, 1) := by decide +kernel
theorem dX6_row_41 : decode cX6_row 41 = .ok (.getfield 20, 3) := by decide +kernel
theorem dX6_row_44 : decode cX6_row 44 = .ok (.bipush 40, 2) := by decide +kernel
theorem dX6_row_46 : decode cX6_row 46 = .ok (.iload_n 1, 1) := by decide +kernel
theorem dX6_row_47 : decode cX6_row 47 = .ok (.imul, 1) := by decide +kernel
theorem dX6_row_48 : decode cX6_row 48 = .ok (.iload_n 3, 1) := by decide +kernel
theorem dX6_row_49 : decode cX6_row 49 = .ok (.iadd, 1) := by decide +kernel
theorem dX6_row_50 : decode cX6_row 50 = .ok (.iconst 0, 1) := by decide +kernel
theorem dX6_row_51 : decode cX6_row 51 = .ok (.iastore, 1) := by decide +kernel
theorem dX6_row_52 : decode cX6_row 52 = .ok (.iinc 3 1, 3) := by decide +kernel
theorem dX6_row_55 : decode cX6_row 55 = .ok (.goto (-21), 3) := by decide +kernel
theorem dX6_row_58 : decode cX6_row 58 = .ok (.iload_n 2, 1) := by decide +kernel
theorem dX6_row_59 : decode cX6_row 59 = .ok (.ireturn, 1) := by decide +kernel
theorem dX6_lay_0 : decode cX6_lay 0 = .ok (.iload_n 1, 1) := by decide +kernel
theorem dX6_lay_1 : decode cX6_lay 1 = .ok (.invokestatic 93, 3) := by decide +kernel
theorem dX6_lay_4 : decode cX6_lay 4 = .ok (.ifCond .ne 5, 3) := by decide +kernel
theorem dX6_lay_7 : decode cX6_lay 7 = .ok (.iconst (-1), 1) := by decide +kernel
theorem dX6_lay_8 : decode cX6_lay 8 = .ok (.ireturn, 1) := by decide +kernel
theorem dX6_lay_9 : decode cX6_lay 9 = .ok (.aload_n 0, 1) := by decide +kernel
theorem dX6_lay_10 : decode cX6_lay 10 = .ok (.getfield 17, 3) := by decide +kernel
theorem dX6_lay_13 : decode cX6_lay 13 = .ok (.iload_n 1, 1) := by decide +kernel
theorem dX6_lay_14 : decode cX6_lay 14 = .ok (.iaload, 1) := by decide +kernel
theorem dX6_lay_15 : decode cX6_lay 15 = .ok (.ifCond .ge 9, 3) := by decide +kernel
theorem dX6_lay_18 : decode cX6_lay 18 = .ok (.aload_n 0, 1) := by decide +kernel
theorem dX6_lay_19 : decode cX6_lay 19 = .ok (.iconst 1, 1) := by decide +kernel
theorem dX6_lay_20 : decode cX6_lay 20 = .ok (.invokevirtual 97, 3) := by decide +kernel
theorem dX6_lay_23 : decode cX6_lay 23 = .ok (.ireturn, 1) := by decide +kernel
theorem dX6_lay_24 : decode cX6_lay 24 = .ok (.iload_n 2, 1) := by decide +kernel
theorem dX6_lay_25 : decode cX6_lay 25 = .ok (.iconst 0, 1) := by decide +kernel
theorem dX6_lay_26 : decode cX6_lay 26 = .ok (.aload_n 0, 1) := by decide +kernel
theorem dX6_lay_27 : decode cX6_lay 27 = .ok (.getfield 17, 3) := by decide +kernel
theorem dX6_lay_30 : decode cX6_lay 30 = .ok (.iload_n 1, 1) := by decide +kernel
theorem dX6_lay_31 : decode cX6_lay 31 = .ok (.iaload, 1) := by decide +kernel
theorem dX6_lay_32 : decode cX6_lay 32 = .ok (.iconst 1, 1) := by decide +kernel
theorem dX6_lay_33 : decode cX6_lay 33 = .ok (.isub, 1) := by decide +kernel
theorem dX6_lay_34 : decode cX6_lay 34 = .ok (.invokestatic 83, 3) := by decide +kernel
theorem dX6_lay_37 : decode cX6_lay 37 = .ok (.ifCond .ne 9, 3) := by decide +kernel
theorem dX6_lay_40 : decode cX6_lay 40 = .ok (.aload_n 0, 1) := by decide +kernel
theorem dX6_lay_41 : decode cX6_lay 41 = .ok (.iconst 2, 1) := by decide +kernel
theorem dX6_lay_42 : decode cX6_lay 42 = .ok (.invokevirtual 97, 3) := by decide +kernel
theorem dX6_lay_45 : decode cX6_lay 45 = .ok (.ireturn, 1) := by decide +kernel
theorem dX6_lay_46 : decode cX6_lay 46 = .ok (.aload_n 0, 1) := by decide +kernel
theorem dX6_lay_47 : decode cX6_lay 47 = .ok (.iload_n 1, 1) := by decide +kernel
theorem dX6_lay_48 : decode cX6_lay 48 = .ok (.iload_n 2, 1) := by decide +kernel
theorem dX6_lay_49 : decode cX6_lay 49 = .ok (.invokevirtual 101, 3) := by decide +kernel
theorem dX6_lay_52 : decode cX6_lay 52 = .ok (.istore 4, 2) := by decide +kernel
theorem dX6_lay_54 : decode cX6_lay 54 = .ok (.aload_n 0, 1) := by decide +kernel
theorem dX6_lay_55 : decode cX6_lay 55 = .ok (.getfield 20, 3) := by decide +kernel
theorem dX6_lay_58 : decode cX6_lay 58 = .ok (.bipush 40, 2) := by decide +kernel
theorem dX6_lay_60 : decode cX6_lay 60 = .ok (.iload_n 1, 1) := by decide +kernel
theorem dX6_lay_61 : decode cX6_lay 61 = .ok (.imul, 1) := by decide +kernel
theorem dX6_lay_62 : decode cX6_lay 62 = .ok (.iload_n 2, 1) := by decide +kernel
theorem dX6_lay_63 : decode cX6_lay 63 = .ok (.iadd, 1) := by decide +kernel
theorem dX6_lay_64 : decode cX6_lay 64 = .ok (.iload_n 3, 1) := by decide +kernel
theorem dX6_lay_65 : decode cX6_lay 65 = .ok (.iastore, 1) := by decide +kernel
theorem dX6_lay_66 : decode cX6_lay 66 = .ok (.aload_n 0, 1) := by decide +kernel
theorem dX6_lay_67 : decode cX6_lay 67 = .ok (.iload 4, 2) := by decide +kernel
theorem dX6_lay_69 : decode cX6_lay 69 = .ok (.iconst 1, 1) := by decide +kernel
theorem dX6_lay_70 : decode cX6_lay 70 = .ok (.invokevirtual 105, 3) := by decide +kernel
theorem dX6_lay_73 : decode cX6_lay 73 = .ok (.ireturn, 1) := by decide +kernel
theorem dX6_at_0 : decode cX6_at 0 = .ok (.iload_n 1, 1) := by decide +kernel
theorem dX6_at_1 : decode cX6_at 1 = .ok (.invokestatic 93, 3) := by decide +kernel
theorem dX6_at_4 : decode cX6_at 4 = .ok (.ifCond .ne 5, 3) := by decide +kernel
theorem dX6_at_7 : decode cX6_at 7 = .ok (.iconst (-1), 1) := by decide +kernel
theorem dX6_at_8 : decode cX6_at 8 = .ok (.ireturn, 1) := by decide +kernel
theorem dX6_at_9 : decode cX6_at 9 = .ok (.aload_n 0, 1) := by decide +kernel
theorem dX6_at_10 : decode cX6_at 10 = .ok (.getfield 17, 3) := by decide +kernel
theorem dX6_at_13 : decode cX6_at 13 = .ok (.iload_n 1, 1) := by decide +kernel
theorem dX6_at_14 : decode cX6_at 14 = .ok (.iaload, 1) := by decide +kernel
theorem dX6_at_15 : decode cX6_at 15 = .ok (.ifCond .ge 9, 3) := by decide +kernel
theorem dX6_at_18 : decode cX6_at 18 = .ok (.aload_n 0, 1) := by decide +kernel
theorem dX6_at_19 : decode cX6_at 19 = .ok (.iconst 1, 1) := by decide +kernel
theorem dX6_at_20 : decode cX6_at 20 = .ok (.invokevirtual 97, 3) := by decide +kernel
theorem dX6_at_23 : decode cX6_at 23 = .ok (.ireturn, 1) := by decide +kernel
theorem dX6_at_24 : decode cX6_at 24 = .ok (.iload_n 2, 1) := by decide +kernel
theorem dX6_at_25 : decode cX6_at 25 = .ok (.iconst 0, 1) := by decide +kernel
theorem dX6_at_26 : decode cX6_at 26 = .ok (.aload_n 0, 1) := by decide +kernel
theorem dX6_at_27 : decode cX6_at 27 = .ok (.getfield 17, 3) := by decide +kernel
theorem dX6_at_30 : decode cX6_at 30 = .ok (.iload_n 1, 1) := by decide +kernel
theorem dX6_at_31 : decode cX6_at 31 = .ok (.iaload, 1) := by decide +kernel
theorem dX6_at_32 : decode cX6_at 32 = .ok (.iconst 1, 1) := by decide +kernel
theorem dX6_at_33 : decode cX6_at 33 = .ok (.isub, 1) := by decide +kernel
theorem dX6_at_34 : decode cX6_at 34 = .ok (.invokestatic 83, 3) := by decide +kernel
theorem dX6_at_37 : decode cX6_at 37 = .ok (.ifCond .eq 17, 3) := by decide +kernel
theorem dX6_at_40 : decode cX6_at 40 = .ok (.aload_n 0, 1) := by decide +kernel
theorem dX6_at_41 : decode cX6_at 41 = .ok (.aload_n 0, 1) := by decide +kernel
theorem dX6_at_42 : decode cX6_at 42 = .ok (.iload_n 1, 1) := by decide +kernel
theorem dX6_at_43 : decode cX6_at 43 = .ok (.iload_n 2, 1) := by decide +kernel
theorem dX6_at_44 : decode cX6_at 44 = .ok (.invokevirtual 101, 3) := by decide +kernel
theorem dX6_at_47 : decode cX6_at 47 = .ok (.iconst 1, 1) := by decide +kernel
theorem dX6_at_48 : decode cX6_at 48 = .ok (.invokevirtual 105, 3) := by decide +kernel
theorem dX6_at_51 : decode cX6_at 51 = .ok (.goto 8, 3) := by decide +kernel
theorem dX6_at_54 : decode cX6_at 54 = .ok (.aload_n 0, 1) := by decide +kernel
theorem dX6_at_55 : decode cX6_at 55 = .ok (.iconst 2, 1) := by decide +kernel
theorem dX6_at_56 : decode cX6_at 56 = .ok (.invokevirtual 97, 3) := by decide +kernel
theorem dX6_at_59 : decode cX6_at 59 = .ok (.ireturn, 1) := by decide +kernel
theorem dX6_tear_0 : decode cX6_tear 0 = .ok (.iload_n 1, 1) := by decide +kernel
theorem dX6_tear_1 : decode cX6_tear 1 = .ok (.invokestatic 93, 3) := by decide +kernel
theorem dX6_tear_4 : decode cX6_tear 4 = .ok (.ifCond .ne 5, 3) := by decide +kernel
theorem dX6_tear_7 : decode cX6_tear 7 = .ok (.iconst (-1), 1) := by decide +kernel
theorem dX6_tear_8 : decode cX6_tear 8 = .ok (.ireturn, 1) := by decide +kernel
theorem dX6_tear_9 : decode cX6_tear 9 = .ok (.aload_n 0, 1) := by decide +kernel
theorem dX6_tear_10 : decode cX6_tear 10 = .ok (.getfield 17, 3) := by decide +kernel
theorem dX6_tear_13 : decode cX6_tear 13 = .ok (.iload_n 1, 1) := by decide +kernel
theorem dX6_tear_14 : decode cX6_tear 14 = .ok (.iaload, 1) := by decide +kernel
theorem dX6_tear_15 : decode cX6_tear 15 = .ok (.ifCond .ge 9, 3) := by decide +kernel
theorem dX6_tear_18 : decode cX6_tear 18 = .ok (.aload_n 0, 1) := by decide +kernel
theorem dX6_tear_19 : decode cX6_tear 19 = .ok (.iconst 1, 1) := by decide +kernel
theorem dX6_tear_20 : decode cX6_tear 20 = .ok (.invokevirtual 97, 3) := by decide +kernel
theorem dX6_tear_23 : decode cX6_tear 23 = .ok (.ireturn, 1) := by decide +kernel
theorem dX6_tear_24 : decode cX6_tear 24 = .ok (.aload_n 0, 1) := by decide +kernel
theorem dX6_tear_25 : decode cX6_tear 25 = .ok (.getfield 17, 3) := by decide +kernel
theorem dX6_tear_28 : decode cX6_tear 28 = .ok (.iload_n 1, 1) := by decide +kernel
theorem dX6_tear_29 : decode cX6_tear 29 = .ok (.iconst (-1), 1) := by decide +kernel
theorem dX6_tear_30 : decode cX6_tear 30 = .ok (.iastore, 1) := by decide +kernel
theorem dX6_tear_31 : decode cX6_tear 31 = .ok (.iconst 1, 1) := by decide +kernel
theorem dX6_tear_32 : decode cX6_tear 32 = .ok (.ireturn, 1) := by decide +kernel
theorem dX6_copy_0 : decode cX6_copy 0 = .ok (.iload_n 1, 1) := by decide +kernel
theorem dX6_copy_1 : decode cX6_copy 1 = .ok (.invokestatic 93, 3) := by decide +kernel
theorem dX6_copy_4 : decode cX6_copy 4 = .ok (.ifCond .eq 10, 3) := by decide +kernel
theorem dX6_copy_7 : decode cX6_copy 7 = .ok (.iload_n 3, 1) := by decide +kernel
theorem dX6_copy_8 : decode cX6_copy 8 = .ok (.invokestatic 93, 3) := by decide +kernel
theorem dX6_copy_11 : decode cX6_copy 11 = .ok (.ifCond .ne 5, 3) := by decide +kernel
theorem dX6_copy_14 : decode cX6_copy 14 = .ok (.iconst (-1), 1) := by decide +kernel
theorem dX6_copy_15 : decode cX6_copy 15 = .ok (.ireturn, 1) := by decide +kernel
theorem dX6_copy_16 : decode cX6_copy 16 = .ok (.iload 5, 2) := by decide +kernel
theorem dX6_copy_18 : decode cX6_copy 18 = .ok (.ifCond .ge 9, 3) := by decide +kernel
theorem dX6_copy_21 : decode cX6_copy 21 = .ok (.aload_n 0, 1) := by decide +kernel
theorem dX6_copy_22 : decode cX6_copy 22 = .ok (.iconst 5, 1) := by decide +kernel
theorem dX6_copy_23 : decode cX6_copy 23 = .ok (.invokevirtual 97, 3) := by decide +kernel
theorem dX6_copy_26 : decode cX6_copy 26 = .ok (.ireturn, 1) := by decide +kernel
theorem dX6_copy_27 : decode cX6_copy 27 = .ok (.aload_n 0, 1) := by decide +kernel
theorem dX6_copy_28 : decode cX6_copy 28 = .ok (.getfield 17, 3) := by decide +kernel
theorem dX6_copy_31 : decode cX6_copy 31 = .ok (.iload_n 1, 1) := by decide +kernel
theorem dX6_copy_32 : decode cX6_copy 32 = .ok (.iaload, 1) := by decide +kernel
theorem dX6_copy_33 : decode cX6_copy 33 = .ok (.ifCond .lt 12, 3) := by decide +kernel
theorem dX6_copy_36 : decode cX6_copy 36 = .ok (.aload_n 0, 1) := by decide +kernel
theorem dX6_copy_37 : decode cX6_copy 37 = .ok (.getfield 17, 3) := by decide +kernel
theorem dX6_copy_40 : decode cX6_copy 40 = .ok (.iload_n 3, 1) := by decide +kernel
theorem dX6_copy_41 : decode cX6_copy 41 = .ok (.iaload, 1) := by decide +kernel
theorem dX6_copy_42 : decode cX6_copy 42 = .ok (.ifCond .ge 9, 3) := by decide +kernel
theorem dX6_copy_45 : decode cX6_copy 45 = .ok (.aload_n 0, 1) := by decide +kernel
theorem dX6_copy_46 : decode cX6_copy 46 = .ok (.iconst 1, 1) := by decide +kernel
theorem dX6_copy_47 : decode cX6_copy 47 = .ok (.invokevirtual 97, 3) := by decide +kernel
theorem dX6_copy_50 : decode cX6_copy 50 = .ok (.ireturn, 1) := by decide +kernel
theorem dX6_copy_51 : decode cX6_copy 51 = .ok (.iload_n 2, 1) := by decide +kernel
theorem dX6_copy_52 : decode cX6_copy 52 = .ok (.ifCond .lt 43, 3) := by decide +kernel
theorem dX6_copy_55 : decode cX6_copy 55 = .ok (.iload 4, 2) := by decide +kernel
theorem dX6_copy_57 : decode cX6_copy 57 = .ok (.ifCond .lt 38, 3) := by decide +kernel
theorem dX6_copy_60 : decode cX6_copy 60 = .ok (.iload_n 2, 1) := by decide +kernel
theorem dX6_copy_61 : decode cX6_copy 61 = .ok (.i2l, 1) := by decide +kernel
theorem dX6_copy_62 : decode cX6_copy 62 = .ok (.iload 5, 2) := by decide +kernel
theorem dX6_copy_64 : decode cX6_copy 64 = .ok (.i2l, 1) := by decide +kernel
theorem dX6_copy_65 : decode cX6_copy 65 = .ok (.ladd, 1) := by decide +kernel
theorem dX6_copy_66 : decode cX6_copy 66 = .ok (.aload_n 0, 1) := by decide +kernel
theorem dX6_copy_67 : decode cX6_copy 67 = .ok (.getfield 17, 3) := by decide +kernel
theorem dX6_copy_70 : decode cX6_copy 70 = .ok (.iload_n 1, 1) := by decide +kernel
theorem dX6_copy_71 : decode cX6_copy 71 = .ok (.iaload, 1) := by decide +kernel
theorem dX6_copy_72 : decode cX6_copy 72 = .ok (.i2l, 1) := by decide +kernel
theorem dX6_copy_73 : decode cX6_copy 73 = .ok (.lcmp, 1) := by decide +kernel
theorem dX6_copy_74 : decode cX6_copy 74 = .ok (.ifCond .gt 21, 3) := by decide +kernel
theorem dX6_copy_77 : decode cX6_copy 77 = .ok (.iload 4, 2) := by decide +kernel
theorem dX6_copy_79 : decode cX6_copy 79 = .ok (.i2l, 1) := by decide +kernel
theorem dX6_copy_80 : decode cX6_copy 80 = .ok (.iload 5, 2) := by decide +kernel
theorem dX6_copy_82 : decode cX6_copy 82 = .ok (.i2l, 1) := by decide +kernel
theorem dX6_copy_83 : decode cX6_copy 83 = .ok (.ladd, 1) := by decide +kernel
theorem dX6_copy_84 : decode cX6_copy 84 = .ok (.aload_n 0, 1) := by decide +kernel
theorem dX6_copy_85 : decode cX6_copy 85 = .ok (.getfield 17, 3) := by decide +kernel
theorem dX6_copy_88 : decode cX6_copy 88 = .ok (.iload_n 3, 1) := by decide +kernel
theorem dX6_copy_89 : decode cX6_copy 89 = .ok (.iaload, 1) := by decide +kernel
theorem dX6_copy_90 : decode cX6_copy 90 = .ok (.i2l, 1) := by decide +kernel
theorem dX6_copy_91 : decode cX6_copy 91 = .ok (.lcmp, 1) := by decide +kernel
theorem dX6_copy_92 : decode cX6_copy 92 = .ok (.ifCond .le 9, 3) := by decide +kernel
theorem dX6_copy_95 : decode cX6_copy 95 = .ok (.aload_n 0, 1) := by decide +kernel
theorem dX6_copy_96 : decode cX6_copy 96 = .ok (.iconst 2, 1) := by decide +kernel
theorem dX6_copy_97 : decode cX6_copy 97 = .ok (.invokevirtual 97, 3) := by decide +kernel
theorem dX6_copy_100 : decode cX6_copy 100 = .ok (.ireturn, 1) := by decide +kernel
theorem dX6_copy_101 : decode cX6_copy 101 = .ok (.iconst 0, 1) := by decide +kernel
theorem dX6_copy_102 : decode cX6_copy 102 = .ok (.istore 6, 2) := by decide +kernel
theorem dX6_copy_104 : decode cX6_copy 104 = .ok (.iload 6, 2) := by decide +kernel
theorem dX6_copy_106 : decode cX6_copy 106 = .ok (.iload 5, 2) := by decide +kernel
theorem dX6_copy_108 : decode cX6_copy 108 = .ok (.if_icmp .ge 25, 3) := by decide +kernel
theorem dX6_copy_111 : decode cX6_copy 111 = .ok (.aload_n 0, 1) := by decide +kernel
theorem dX6_copy_112 : decode cX6_copy 112 = .ok (.getfield 23, 3) := by decide +kernel
theorem dX6_copy_115 : decode cX6_copy 115 = .ok (.iload 6, 2) := by decide +kernel
theorem dX6_copy_117 : decode cX6_copy 117 = .ok (.aload_n 0, 1) := by decide +kernel
theorem dX6_copy_118 : decode cX6_copy 118 = .ok (.iload_n 1, 1) := by decide +kernel
theorem dX6_copy_119 : decode cX6_copy 119 = .ok (.iload_n 2, 1) := by decide +kernel
theorem dX6_copy_120 : decode cX6_copy 120 = .ok (.iload 6, 2) := by decide +kernel
theorem dX6_copy_122 : decode cX6_copy 122 = .ok (.iadd, 1) := by decide +kernel
theorem dX6_copy_123 : decode cX6_copy 123 = .ok (.invokevirtual 101, 3) := by decide +kernel
theorem dX6_copy_126 : decode cX6_copy 126 = .ok (.iastore, 1) := by decide +kernel
theorem dX6_copy_127 : decode cX6_copy 127 = .ok (.iinc 6 1, 3) := by decide +kernel
theorem dX6_copy_130 : decode cX6_copy 130 = .ok (.goto (-26), 3) := by decide +kernel
theorem dX6_copy_133 : decode cX6_copy 133 = .ok (.iconst 0, 1) := by decide +kernel
theorem dX6_copy_134 : decode cX6_copy 134 = .ok (.istore 6, 2) := by decide +kernel
theorem dX6_copy_136 : decode cX6_copy 136 = .ok (.iload 6, 2) := by decide +kernel
theorem dX6_copy_138 : decode cX6_copy 138 = .ok (.iload 5, 2) := by decide +kernel
theorem dX6_copy_140 : decode cX6_copy 140 = .ok (.if_icmp .ge 31, 3) := by decide +kernel
theorem dX6_copy_143 : decode cX6_copy 143 = .ok (.aload_n 0, 1) := by decide +kernel
theorem dX6_copy_144 : decode cX6_copy 144 = .ok (.getfield 20, 3) := by decide +kernel
theorem dX6_copy_147 : decode cX6_copy 147 = .ok (.bipush 40, 2) := by decide +kernel
theorem dX6_copy_149 : decode cX6_copy 149 = .ok (.iload_n 3, 1) := by decide +kernel
theorem dX6_copy_150 : decode cX6_copy 150 = .ok (.imul, 1) := by decide +kernel
theorem dX6_copy_151 : decode cX6_copy 151 = .ok (.iload 4, 2) := by decide +kernel
theorem dX6_copy_153 : decode cX6_copy 153 = .ok (.iadd, 1) := by decide +kernel
theorem dX6_copy_154 : decode cX6_copy 154 = .ok (.iload 6, 2) := by decide +kernel
theorem dX6_copy_156 : decode cX6_copy 156 = .ok (.iadd, 1) := by decide +kernel
theorem dX6_copy_157 : decode cX6_copy 157 = .ok (.aload_n 0, 1) := by decide +kernel
theorem dX6_copy_158 : decode cX6_copy 158 = .ok (.getfield 23, 3) := by decide +kernel
theorem dX6_copy_161 : decode cX6_copy 161 = .ok (.iload 6, 2) := by decide +kernel
theorem dX6_copy_163 : decode cX6_copy 163 = .ok (.iaload, 1) := by decide +kernel
theorem dX6_copy_164 : decode cX6_copy 164 = .ok (.iastore, 1) := by decide +kernel
theorem dX6_copy_165 : decode cX6_copy 165 = .ok (.iinc 6 1, 3) := by decide +kernel
theorem dX6_copy_168 : decode cX6_copy 168 = .ok (.goto (-32), 3) := by decide +kernel
theorem dX6_copy_171 : decode cX6_copy 171 = .ok (.iconst 1, 1) := by decide +kernel
theorem dX6_copy_172 : decode cX6_copy 172 = .ok (.ireturn, 1) := by decide +kernel
theorem dX6_mean_0 : decode cX6_mean 0 = .ok (.iload_n 1, 1) := by decide +kernel
theorem dX6_mean_1 : decode cX6_mean 1 = .ok (.invokestatic 93, 3) := by decide +kernel
theorem dX6_mean_4 : decode cX6_mean 4 = .ok (.ifCond .ne 5, 3) := by decide +kernel
theorem dX6_mean_7 : decode cX6_mean 7 = .ok (.iconst (-1), 1) := by decide +kernel
theorem dX6_mean_8 : decode cX6_mean 8 = .ok (.ireturn, 1) := by decide +kernel
theorem dX6_mean_9 : decode cX6_mean 9 = .ok (.aload_n 0, 1) := by decide +kernel
theorem dX6_mean_10 : decode cX6_mean 10 = .ok (.getfield 17, 3) := by decide +kernel
theorem dX6_mean_13 : decode cX6_mean 13 = .ok (.iload_n 1, 1) := by decide +kernel
theorem dX6_mean_14 : decode cX6_mean 14 = .ok (.iaload, 1) := by decide +kernel
theorem dX6_mean_15 : decode cX6_mean 15 = .ok (.ifCond .ge 9, 3) := by decide +kernel
theorem dX6_mean_18 : decode cX6_mean 18 = .ok (.aload_n 0, 1) := by decide +kernel
theorem dX6_mean_19 : decode cX6_mean 19 = .ok (.iconst 1, 1) := by decide +kernel
theorem dX6_mean_20 : decode cX6_mean 20 = .ok (.invokevirtual 97, 3) := by decide +kernel
theorem dX6_mean_23 : decode cX6_mean 23 = .ok (.ireturn, 1) := by decide +kernel
theorem dX6_mean_24 : decode cX6_mean 24 = .ok (.aload_n 0, 1) := by decide +kernel
theorem dX6_mean_25 : decode cX6_mean 25 = .ok (.getfield 17, 3) := by decide +kernel
theorem dX6_mean_28 : decode cX6_mean 28 = .ok (.iload_n 1, 1) := by decide +kernel
theorem dX6_mean_29 : decode cX6_mean 29 = .ok (.iaload, 1) := by decide +kernel
theorem dX6_mean_30 : decode cX6_mean 30 = .ok (.ifCond .ne 9, 3) := by decide +kernel
theorem dX6_mean_33 : decode cX6_mean 33 = .ok (.aload_n 0, 1) := by decide +kernel
theorem dX6_mean_34 : decode cX6_mean 34 = .ok (.iconst 4, 1) := by decide +kernel
theorem dX6_mean_35 : decode cX6_mean 35 = .ok (.invokevirtual 97, 3) := by decide +kernel
theorem dX6_mean_38 : decode cX6_mean 38 = .ok (.ireturn, 1) := by decide +kernel
theorem dX6_mean_39 : decode cX6_mean 39 = .ok (.lconst 0, 1) := by decide +kernel
theorem dX6_mean_40 : decode cX6_mean 40 = .ok (.lstore_n 2, 1) := by decide +kernel
theorem dX6_mean_41 : decode cX6_mean 41 = .ok (.iconst 0, 1) := by decide +kernel
theorem dX6_mean_42 : decode cX6_mean 42 = .ok (.istore 4, 2) := by decide +kernel
theorem dX6_mean_44 : decode cX6_mean 44 = .ok (.iload 4, 2) := by decide +kernel
theorem dX6_mean_46 : decode cX6_mean 46 = .ok (.aload_n 0, 1) := by decide +kernel
theorem dX6_mean_47 : decode cX6_mean 47 = .ok (.getfield 17, 3) := by decide +kernel
theorem dX6_mean_50 : decode cX6_mean 50 = .ok (.iload_n 1, 1) := by decide +kernel
theorem dX6_mean_51 : decode cX6_mean 51 = .ok (.iaload, 1) := by decide +kernel
theorem dX6_mean_52 : decode cX6_mean 52 = .ok (.if_icmp .ge 20, 3) := by decide +kernel
theorem dX6_mean_55 : decode cX6_mean 55 = .ok (.lload_n 2, 1) := by decide +kernel
theorem dX6_mean_56 : decode cX6_mean 56 = .ok (.aload_n 0, 1) := by decide +kernel
theorem dX6_mean_57 : decode cX6_mean 57 = .ok (.iload_n 1, 1) := by decide +kernel
theorem dX6_mean_58 : decode cX6_mean 58 = .ok (.iload 4, 2) := by decide +kernel
theorem dX6_mean_60 : decode cX6_mean 60 = .ok (.invokevirtual 101, 3) := by decide +kernel
theorem dX6_mean_63 : decode cX6_mean 63 = .ok (.i2l, 1) := by decide +kernel
theorem dX6_mean_64 : decode cX6_mean 64 = .ok (.ladd, 1) := by decide +kernel
theorem dX6_mean_65 : decode cX6_mean 65 = .ok (.lstore_n 2, 1) := by decide +kernel
theorem dX6_mean_66 : decode cX6_mean 66 = .ok (.iinc 4 1, 3) := by decide +kernel
theorem dX6_mean_69 : decode cX6_mean 69 = .ok (.goto (-25), 3) := by decide +kernel
theorem dX6_mean_72 : decode cX6_mean 72 = .ok (.aload_n 0, 1) := by decide +kernel
theorem dX6_mean_73 : decode cX6_mean 73 = .ok (.lload_n 2, 1) := by decide +kernel
theorem dX6_mean_74 : decode cX6_mean 74 = .ok (.aload_n 0, 1) := by decide +kernel
theorem dX6_mean_75 : decode cX6_mean 75 = .ok (.getfield 17, 3) := by decide +kernel
theorem dX6_mean_78 : decode cX6_mean 78 = .ok (.iload_n 1, 1) := by decide +kernel
theorem dX6_mean_79 : decode cX6_mean 79 = .ok (.iaload, 1) := by decide +kernel
theorem dX6_mean_80 : decode cX6_mean 80 = .ok (.i2l, 1) := by decide +kernel
theorem dX6_mean_81 : decode cX6_mean 81 = .ok (.ldiv, 1) := by decide +kernel
theorem dX6_mean_82 : decode cX6_mean 82 = .ok (.l2i, 1) := by decide +kernel
theorem dX6_mean_83 : decode cX6_mean 83 = .ok (.iconst 1, 1) := by decide +kernel
theorem dX6_mean_84 : decode cX6_mean 84 = .ok (.invokevirtual 105, 3) := by decide +kernel
theorem dX6_mean_87 : decode cX6_mean 87 = .ok (.ireturn, 1) := by decide +kernel
theorem dX6_isText_0 : decode cX6_isText 0 = .ok (.iload_n 0, 1) := by decide +kernel
theorem dX6_isText_1 : decode cX6_isText 1 = .ok (.iconst 0, 1) := by decide +kernel
theorem dX6_isText_2 : decode cX6_isText 2 = .ok (.iconst 3, 1) := by decide +kernel
theorem dX6_isText_3 : decode cX6_isText 3 = .ok (.invokestatic 83, 3) := by decide +kernel
theorem dX6_isText_6 : decode cX6_isText 6 = .ok (.ireturn, 1) := by decide +kernel
theorem dX6_text_0 : decode cX6_text 0 = .ok (.iload_n 1, 1) := by decide +kernel
theorem dX6_text_1 : decode cX6_text 1 = .ok (.invokestatic 108, 3) := by decide +kernel
theorem dX6_text_4 : decode cX6_text 4 = .ok (.ifCond .eq 9, 3) := by decide +kernel
theorem dX6_text_7 : decode cX6_text 7 = .ok (.iload_n 2, 1) := by decide +kernel
theorem dX6_text_8 : decode cX6_text 8 = .ok (.bipush 60, 2) := by decide +kernel
theorem dX6_text_10 : decode cX6_text 10 = .ok (.if_icmp .le 5, 3) := by decide +kernel
theorem dX6_text_13 : decode cX6_text 13 = .ok (.iconst (-1), 1) := by decide +kernel
theorem dX6_text_14 : decode cX6_text 14 = .ok (.ireturn, 1) := by decide +kernel
theorem dX6_text_15 : decode cX6_text 15 = .ok (.iload_n 2, 1) := by decide +kernel
theorem dX6_text_16 : decode cX6_text 16 = .ok (.ifCond .ge 9, 3) := by decide +kernel
theorem dX6_text_19 : decode cX6_text 19 = .ok (.aload_n 0, 1) := by decide +kernel
theorem dX6_text_20 : decode cX6_text 20 = .ok (.iconst 5, 1) := by decide +kernel
theorem dX6_text_21 : decode cX6_text 21 = .ok (.invokevirtual 97, 3) := by decide +kernel
theorem dX6_text_24 : decode cX6_text 24 = .ok (.ireturn, 1) := by decide +kernel
theorem dX6_text_25 : decode cX6_text 25 = .ok (.aload_n 0, 1) := by decide +kernel
theorem dX6_text_26 : decode cX6_text 26 = .ok (.getfield 26, 3) := by decide +kernel
theorem dX6_text_29 : decode cX6_text 29 = .ok (.iload_n 1, 1) := by decide +kernel
theorem dX6_text_30 : decode cX6_text 30 = .ok (.iload_n 2, 1) := by decide +kernel
theorem dX6_text_31 : decode cX6_text 31 = .ok (.iastore, 1) := by decide +kernel
theorem dX6_text_32 : decode cX6_text 32 = .ok (.iconst 0, 1) := by decide +kernel
theorem dX6_text_33 : decode cX6_text 33 = .ok (.istore_n 3, 1) := by decide +kernel
theorem dX6_text_34 : decode cX6_text 34 = .ok (.iload_n 3, 1) := by decide +kernel
theorem dX6_text_35 : decode cX6_text 35 = .ok (.bipush 60, 2) := by decide +kernel
theorem dX6_text_37 : decode cX6_text 37 = .ok (.if_icmp .ge 22, 3) := by decide +kernel
theorem dX6_text_40 : decode cX6_text 40 = .ok (.aload_n 0, 1) := by decide +kernel
theorem dX6_text_41 : decode cX6_text 41 = .ok (.getfield 29, 3) := by decide +kernel
theorem dX6_text_44 : decode cX6_text 44 = .ok (.bipush 60, 2) := by decide +kernel
theorem dX6_text_46 : decode cX6_text 46 = .ok (.iload_n 1, 1) := by decide +kernel
theorem dX6_text_47 : decode cX6_text 47 = .ok (.imul, 1) := by decide +kernel
theorem dX6_text_48 : decode cX6_text 48 = .ok (.iload_n 3, 1) := by decide +kernel
theorem dX6_text_49 : decode cX6_text 49 = .ok (.iadd, 1) := by decide +kernel
theorem dX6_text_50 : decode cX6_text 50 = .ok (.bipush 32, 2) := by decide +kernel
theorem dX6_text_52 : decode cX6_text 52 = .ok (.bastore, 1) := by decide +kernel
theorem dX6_text_53 : decode cX6_text 53 = .ok (.iinc 3 1, 3) := by decide +kernel
theorem dX6_text_56 : decode cX6_text 56 = .ok (.goto (-22), 3) := by decide +kernel
theorem dX6_text_59 : decode cX6_text 59 = .ok (.iload_n 2, 1) := by decide +kernel
theorem dX6_text_60 : decode cX6_text 60 = .ok (.ireturn, 1) := by decide +kernel
theorem dX6_put_0 : decode cX6_put 0 = .ok (.iload_n 1, 1) := by decide +kernel
theorem dX6_put_1 : decode cX6_put 1 = .ok (.invokestatic 108, 3) := by decide +kernel
theorem dX6_put_4 : decode cX6_put 4 = .ok (.ifCond .ne 5, 3) := by decide +kernel
theorem dX6_put_7 : decode cX6_put 7 = .ok (.iconst (-1), 1) := by decide +kernel
theorem dX6_put_8 : decode cX6_put 8 = .ok (.ireturn, 1) := by decide +kernel
theorem dX6_put_9 : decode cX6_put 9 = .ok (.aload_n 0, 1) := by decide +kernel
theorem dX6_put_10 : decode cX6_put 10 = .ok (.getfield 26, 3) := by decide +kernel
theorem dX6_put_13 : decode cX6_put 13 = .ok (.iload_n 1, 1) := by decide +kernel
theorem dX6_put_14 : decode cX6_put 14 = .ok (.iaload, 1) := by decide +kernel
theorem dX6_put_15 : decode cX6_put 15 = .ok (.ifCond .ge 9, 3) := by decide +kernel
theorem dX6_put_18 : decode cX6_put 18 = .ok (.aload_n 0, 1) := by decide +kernel
theorem dX6_put_19 : decode cX6_put 19 = .ok (.iconst 1, 1) := by decide +kernel
theorem dX6_put_20 : decode cX6_put 20 = .ok (.invokevirtual 97, 3) := by decide +kernel
theorem dX6_put_23 : decode cX6_put 23 = .ok (.ireturn, 1) := by decide +kernel
theorem dX6_put_24 : decode cX6_put 24 = .ok (.iload_n 2, 1) := by decide +kernel
theorem dX6_put_25 : decode cX6_put 25 = .ok (.iconst 0, 1) := by decide +kernel
theorem dX6_put_26 : decode cX6_put 26 = .ok (.aload_n 0, 1) := by decide +kernel
theorem dX6_put_27 : decode cX6_put 27 = .ok (.getfield 26, 3) := by decide +kernel
theorem dX6_put_30 : decode cX6_put 30 = .ok (.iload_n 1, 1) := by decide +kernel
theorem dX6_put_31 : decode cX6_put 31 = .ok (.iaload, 1) := by decide +kernel
theorem dX6_put_32 : decode cX6_put 32 = .ok (.iconst 1, 1) := by decide +kernel
theorem dX6_put_33 : decode cX6_put 33 = .ok (.isub, 1) := by decide +kernel
theorem dX6_put_34 : decode cX6_put 34 = .ok (.invokestatic 83, 3) := by decide +kernel
theorem dX6_put_37 : decode cX6_put 37 = .ok (.ifCond .ne 9, 3) := by decide +kernel
theorem dX6_put_40 : decode cX6_put 40 = .ok (.aload_n 0, 1) := by decide +kernel
theorem dX6_put_41 : decode cX6_put 41 = .ok (.iconst 2, 1) := by decide +kernel
theorem dX6_put_42 : decode cX6_put 42 = .ok (.invokevirtual 97, 3) := by decide +kernel
theorem dX6_put_45 : decode cX6_put 45 = .ok (.ireturn, 1) := by decide +kernel
theorem dX6_put_46 : decode cX6_put 46 = .ok (.aload_n 0, 1) := by decide +kernel
theorem dX6_put_47 : decode cX6_put 47 = .ok (.getfield 29, 3) := by decide +kernel
theorem dX6_put_50 : decode cX6_put 50 = .ok (.bipush 60, 2) := by decide +kernel
theorem dX6_put_52 : decode cX6_put 52 = .ok (.iload_n 1, 1) := by decide +kernel
theorem dX6_put_53 : decode cX6_put 53 = .ok (.imul, 1) := by decide +kernel
theorem dX6_put_54 : decode cX6_put 54 = .ok (.iload_n 2, 1) := by decide +kernel
theorem dX6_put_55 : decode cX6_put 55 = .ok (.iadd, 1) := by decide +kernel
theorem dX6_put_56 : decode cX6_put 56 = .ok (.baload, 1) := by decide +kernel
theorem dX6_put_57 : decode cX6_put 57 = .ok (.istore 4, 2) := by decide +kernel
theorem dX6_put_59 : decode cX6_put 59 = .ok (.aload_n 0, 1) := by decide +kernel
theorem dX6_put_60 : decode cX6_put 60 = .ok (.getfield 29, 3) := by decide +kernel
theorem dX6_put_63 : decode cX6_put 63 = .ok (.bipush 60, 2) := by decide +kernel
theorem dX6_put_65 : decode cX6_put 65 = .ok (.iload_n 1, 1) := by decide +kernel
theorem dX6_put_66 : decode cX6_put 66 = .ok (.imul, 1) := by decide +kernel
theorem dX6_put_67 : decode cX6_put 67 = .ok (.iload_n 2, 1) := by decide +kernel
theorem dX6_put_68 : decode cX6_put 68 = .ok (.iadd, 1) := by decide +kernel
theorem dX6_put_69 : decode cX6_put 69 = .ok (.iload_n 3, 1) := by decide +kernel
theorem dX6_put_70 : decode cX6_put 70 = .ok (.i2b, 1) := by decide +kernel
theorem dX6_put_71 : decode cX6_put 71 = .ok (.bastore, 1) := by decide +kernel
theorem dX6_put_72 : decode cX6_put 72 = .ok (.sipush 1000, 3) := by decide +kernel
theorem dX6_put_75 : decode cX6_put 75 = .ok (.iload 4, 2) := by decide +kernel
theorem dX6_put_77 : decode cX6_put 77 = .ok (.iadd, 1) := by decide +kernel
theorem dX6_put_78 : decode cX6_put 78 = .ok (.ireturn, 1) := by decide +kernel
theorem dX6_byteAt_0 : decode cX6_byteAt 0 = .ok (.iload_n 2, 1) := by decide +kernel
theorem dX6_byteAt_1 : decode cX6_byteAt 1 = .ok (.aload_n 0, 1) := by decide +kernel
theorem dX6_byteAt_2 : decode cX6_byteAt 2 = .ok (.getfield 26, 3) := by decide +kernel
theorem dX6_byteAt_5 : decode cX6_byteAt 5 = .ok (.iload_n 1, 1) := by decide +kernel
theorem dX6_byteAt_6 : decode cX6_byteAt 6 = .ok (.iaload, 1) := by decide +kernel
theorem dX6_byteAt_7 : decode cX6_byteAt 7 = .ok (.if_icmp .ge 17, 3) := by decide +kernel
theorem dX6_byteAt_10 : decode cX6_byteAt 10 = .ok (.aload_n 0, 1) := by decide +kernel
theorem dX6_byteAt_11 : decode cX6_byteAt 11 = .ok (.getfield 29, 3) := by decide +kernel
theorem dX6_byteAt_14 : decode cX6_byteAt 14 = .ok (.bipush 60, 2) := by decide +kernel
theorem dX6_byteAt_16 : decode cX6_byteAt 16 = .ok (.iload_n 1, 1) := by decide +kernel
theorem dX6_byteAt_17 : decode cX6_byteAt 17 = .ok (.imul, 1) := by decide +kernel
theorem dX6_byteAt_18 : decode cX6_byteAt 18 = .ok (.iload_n 2, 1) := by decide +kernel
theorem dX6_byteAt_19 : decode cX6_byteAt 19 = .ok (.iadd, 1) := by decide +kernel
theorem dX6_byteAt_20 : decode cX6_byteAt 20 = .ok (.baload, 1) := by decide +kernel
theorem dX6_byteAt_21 : decode cX6_byteAt 21 = .ok (.goto 4, 3) := by decide +kernel
theorem dX6_byteAt_24 : decode cX6_byteAt 24 = .ok (.iconst 0, 1) := by decide +kernel
theorem dX6_byteAt_25 : decode cX6_byteAt 25 = .ok (.ireturn, 1) := by decide +kernel
theorem dX6_layRow_0 : decode cX6_layRow 0 = .ok (.aload_n 0, 1) := by decide +kernel
theorem dX6_layRow_1 : decode cX6_layRow 1 = .ok (.getfield 17, 3) := by decide +kernel
theorem dX6_layRow_4 : decode cX6_layRow 4 = .ok (.iload_n 1, 1) := by decide +kernel
theorem dX6_layRow_5 : decode cX6_layRow 5 = .ok (.iload_n 3, 1) := by decide +kernel
theorem dX6_layRow_6 : decode cX6_layRow 6 = .ok (.iastore, 1) := by decide +kernel
theorem dX6_layRow_7 : decode cX6_layRow 7 = .ok (.iconst 0, 1) := by decide +kernel
theorem dX6_layRow_8 : decode cX6_layRow 8 = .ok (.istore 4, 2) := by decide +kernel
theorem dX6_layRow_10 : decode cX6_layRow 10 = .ok (.iload 4, 2) := by decide +kernel
theorem dX6_layRow_12 : decode cX6_layRow 12 = .ok (.bipush 40, 2) := by decide +kernel
theorem dX6_layRow_14 : decode cX6_layRow 14 = .ok (.if_icmp .ge 35, 3) := by decide +kernel
theorem dX6_layRow_17 : decode cX6_layRow 17 = .ok (.aload_n 0, 1) := by decide +kernel
theorem dX6_layRow_18 : decode cX6_layRow 18 = .ok (.getfield 20, 3) := by decide +kernel
theorem dX6_layRow_21 : decode cX6_layRow 21 = .ok (.bipush 40, 2) := by decide +kernel
theorem dX6_layRow_23 : decode cX6_layRow 23 = .ok (.iload_n 1, 1) := by decide +kernel
theorem dX6_layRow_24 : decode cX6_layRow 24 = .ok (.imul, 1) := by decide +kernel
theorem dX6_layRow_25 : decode cX6_layRow 25 = .ok (.iload 4, 2) := by decide +kernel
theorem dX6_layRow_27 : decode cX6_layRow 27 = .ok (.iadd, 1) := by decide +kernel
theorem dX6_layRow_28 : decode cX6_layRow 28 = .ok (.iload 4, 2) := by decide +kernel
theorem dX6_layRow_30 : decode cX6_layRow 30 = .ok (.iload_n 3, 1) := by decide +kernel
theorem dX6_layRow_31 : decode cX6_layRow 31 = .ok (.if_icmp .ge 10, 3) := by decide +kernel
theorem dX6_layRow_34 : decode cX6_layRow 34 = .ok (.aload_n 2, 1) := by decide +kernel
theorem dX6_layRow_35 : decode cX6_layRow 35 = .ok (.iload 4, 2) := by decide +kernel
theorem dX6_layRow_37 : decode cX6_layRow 37 = .ok (.iaload, 1) := by decide +kernel
theorem dX6_layRow_38 : decode cX6_layRow 38 = .ok (.goto 4, 3) := by decide +kernel
theorem dX6_layRow_41 : decode cX6_layRow 41 = .ok (.iconst 0, 1) := by decide +kernel
theorem dX6_layRow_42 : decode cX6_layRow 42 = .ok (.iastore, 1) := by decide +kernel
theorem dX6_layRow_43 : decode cX6_layRow 43 = .ok (.iinc 4 1, 3) := by decide +kernel
theorem dX6_layRow_46 : decode cX6_layRow 46 = .ok (.goto (-36), 3) := by decide +kernel
theorem dX6_layRow_49 : decode cX6_layRow 49 = .ok (.return_, 1) := by decide +kernel
theorem dX6_kindOf_0 : decode cX6_kindOf 0 = .ok (.iload_n 0, 1) := by decide +kernel
theorem dX6_kindOf_1 : decode cX6_kindOf 1 = .ok (.lookupswitch 71 #[(99, 63), (102, 69), (104, 65), (114, 59), (115, 61), (121, 67)], 59) := by decide +kernel
theorem dX6_kindOf_60 : decode cX6_kindOf 60 = .ok (.iconst 0, 1) := by decide +kernel
theorem dX6_kindOf_61 : decode cX6_kindOf 61 = .ok (.ireturn, 1) := by decide +kernel
theorem dX6_kindOf_62 : decode cX6_kindOf 62 = .ok (.iconst 1, 1) := by decide +kernel
theorem dX6_kindOf_63 : decode cX6_kindOf 63 = .ok (.ireturn, 1) := by decide +kernel
theorem dX6_kindOf_64 : decode cX6_kindOf 64 = .ok (.iconst 2, 1) := by decide +kernel
theorem dX6_kindOf_65 : decode cX6_kindOf 65 = .ok (.ireturn, 1) := by decide +kernel
theorem dX6_kindOf_66 : decode cX6_kindOf 66 = .ok (.iconst 3, 1) := by decide +kernel
theorem dX6_kindOf_67 : decode cX6_kindOf 67 = .ok (.ireturn, 1) := by decide +kernel
theorem dX6_kindOf_68 : decode cX6_kindOf 68 = .ok (.iconst 4, 1) := by decide +kernel
theorem dX6_kindOf_69 : decode cX6_kindOf 69 = .ok (.ireturn, 1) := by decide +kernel
theorem dX6_kindOf_70 : decode cX6_kindOf 70 = .ok (.iconst 5, 1) := by decide +kernel
theorem dX6_kindOf_71 : decode cX6_kindOf 71 = .ok (.ireturn, 1) := by decide +kernel
theorem dX6_kindOf_72 : decode cX6_kindOf 72 = .ok (.bipush (-9), 2) := by decide +kernel
theorem dX6_kindOf_74 : decode cX6_kindOf 74 = .ok (.ireturn, 1) := by decide +kernel
theorem dX6_lowOf_0 : decode cX6_lowOf 0 = .ok (.iload_n 0, 1) := by decide +kernel
theorem dX6_lowOf_1 : decode cX6_lowOf 1 = .ok (.iconst 5, 1) := by decide +kernel
theorem dX6_lowOf_2 : decode cX6_lowOf 2 = .ok (.if_icmp .ne 7, 3) := by decide +kernel
theorem dX6_lowOf_5 : decode cX6_lowOf 5 = .ok (.iconst 1, 1) := by decide +kernel
theorem dX6_lowOf_6 : decode cX6_lowOf 6 = .ok (.goto 4, 3) := by decide +kernel
theorem dX6_lowOf_9 : decode cX6_lowOf 9 = .ok (.iconst 0, 1) := by decide +kernel
theorem dX6_lowOf_10 : decode cX6_lowOf 10 = .ok (.ireturn, 1) := by decide +kernel
theorem dX6_highOf_0 : decode cX6_highOf 0 = .ok (.iload_n 0, 1) := by decide +kernel
theorem dX6_highOf_1 : decode cX6_highOf 1 = .ok (.iconst 3, 1) := by decide +kernel
theorem dX6_highOf_2 : decode cX6_highOf 2 = .ok (.if_icmp .ge 7, 3) := by decide +kernel
theorem dX6_highOf_5 : decode cX6_highOf 5 = .ok (.iconst 3, 1) := by decide +kernel
theorem dX6_highOf_6 : decode cX6_highOf 6 = .ok (.goto 14, 3) := by decide +kernel
theorem dX6_highOf_9 : decode cX6_highOf 9 = .ok (.iload_n 0, 1) := by decide +kernel
theorem dX6_highOf_10 : decode cX6_highOf 10 = .ok (.iconst 5, 1) := by decide +kernel
theorem dX6_highOf_11 : decode cX6_highOf 11 = .ok (.if_icmp .ge 7, 3) := by decide +kernel
theorem dX6_highOf_14 : decode cX6_highOf 14 = .ok (.iconst 5, 1) := by decide +kernel
theorem dX6_highOf_15 : decode cX6_highOf 15 = .ok (.goto 5, 3) := by decide +kernel
theorem dX6_highOf_18 : decode cX6_highOf 18 = .ok (.bipush 9, 2) := by decide +kernel
theorem dX6_highOf_20 : decode cX6_highOf 20 = .ok (.ireturn, 1) := by decide +kernel
theorem dX6_readsOne_0 : decode cX6_readsOne 0 = .ok (.aload_n 0, 1) := by decide +kernel
theorem dX6_readsOne_1 : decode cX6_readsOne 1 = .ok (.iload_n 1, 1) := by decide +kernel
theorem dX6_readsOne_2 : decode cX6_readsOne 2 = .ok (.aload_n 0, 1) := by decide +kernel
theorem dX6_readsOne_3 : decode cX6_readsOne 3 = .ok (.getfield 111, 3) := by decide +kernel
theorem dX6_readsOne_6 : decode cX6_readsOne 6 = .ok (.invokevirtual 114, 3) := by decide +kernel
theorem dX6_readsOne_9 : decode cX6_readsOne 9 = .ok (.invokestatic 117, 3) := by decide +kernel
theorem dX6_readsOne_12 : decode cX6_readsOne 12 = .ok (.istore_n 2, 1) := by decide +kernel
theorem dX6_readsOne_13 : decode cX6_readsOne 13 = .ok (.iload_n 2, 1) := by decide +kernel
theorem dX6_readsOne_14 : decode cX6_readsOne 14 = .ok (.bipush (-9), 2) := by decide +kernel
theorem dX6_readsOne_16 : decode cX6_readsOne 16 = .ok (.if_icmp .eq 12, 3) := by decide +kernel
theorem dX6_readsOne_19 : decode cX6_readsOne 19 = .ok (.aload_n 0, 1) := by decide +kernel
theorem dX6_readsOne_20 : decode cX6_readsOne 20 = .ok (.getfield 120, 3) := by decide +kernel
theorem dX6_readsOne_23 : decode cX6_readsOne 23 = .ok (.bipush 6, 2) := by decide +kernel
theorem dX6_readsOne_25 : decode cX6_readsOne 25 = .ok (.if_icmp .ne 5, 3) := by decide +kernel
theorem dX6_readsOne_28 : decode cX6_readsOne 28 = .ok (.iconst 0, 1) := by decide +kernel
theorem dX6_readsOne_29 : decode cX6_readsOne 29 = .ok (.ireturn, 1) := by decide +kernel
theorem dX6_readsOne_30 : decode cX6_readsOne 30 = .ok (.bipush 6, 2) := by decide +kernel
theorem dX6_readsOne_32 : decode cX6_readsOne 32 = .ok (.aload_n 0, 1) := by decide +kernel
theorem dX6_readsOne_33 : decode cX6_readsOne 33 = .ok (.getfield 120, 3) := by decide +kernel
theorem dX6_readsOne_36 : decode cX6_readsOne 36 = .ok (.imul, 1) := by decide +kernel
theorem dX6_readsOne_37 : decode cX6_readsOne 37 = .ok (.istore_n 3, 1) := by decide +kernel
theorem dX6_readsOne_38 : decode cX6_readsOne 38 = .ok (.aload_n 0, 1) := by decide +kernel
theorem dX6_readsOne_39 : decode cX6_readsOne 39 = .ok (.dup, 1) := by decide +kernel
theorem dX6_readsOne_40 : decode cX6_readsOne 40 = .ok (.getfield 111, 3) := by decide +kernel
theorem dX6_readsOne_43 : decode cX6_readsOne 43 = .ok (.iconst 1, 1) := by decide +kernel
theorem dX6_readsOne_44 : decode cX6_readsOne 44 = .ok (.iadd, 1) := by decide +kernel
theorem dX6_readsOne_45 : decode cX6_readsOne 45 = .ok (.putfield 111, 3) := by decide +kernel
theorem dX6_readsOne_48 : decode cX6_readsOne 48 = .ok (.aload_n 0, 1) := by decide +kernel
theorem dX6_readsOne_49 : decode cX6_readsOne 49 = .ok (.getfield 51, 3) := by decide +kernel
theorem dX6_readsOne_52 : decode cX6_readsOne 52 = .ok (.iload_n 3, 1) := by decide +kernel
theorem dX6_readsOne_53 : decode cX6_readsOne 53 = .ok (.iload_n 2, 1) := by decide +kernel
theorem dX6_readsOne_54 : decode cX6_readsOne 54 = .ok (.iastore, 1) := by decide +kernel
theorem dX6_readsOne_55 : decode cX6_readsOne 55 = .ok (.iconst 1, 1) := by decide +kernel
theorem dX6_readsOne_56 : decode cX6_readsOne 56 = .ok (.istore 4, 2) := by decide +kernel
theorem dX6_readsOne_58 : decode cX6_readsOne 58 = .ok (.iload 4, 2) := by decide +kernel
theorem dX6_readsOne_60 : decode cX6_readsOne 60 = .ok (.bipush 6, 2) := by decide +kernel
theorem dX6_readsOne_62 : decode cX6_readsOne 62 = .ok (.if_icmp .ge 64, 3) := by decide +kernel
theorem dX6_readsOne_65 : decode cX6_readsOne 65 = .ok (.aload_n 0, 1) := by decide +kernel
theorem dX6_readsOne_66 : decode cX6_readsOne 66 = .ok (.iload_n 1, 1) := by decide +kernel
theorem dX6_readsOne_67 : decode cX6_readsOne 67 = .ok (.aload_n 0, 1) := by decide +kernel
theorem dX6_readsOne_68 : decode cX6_readsOne 68 = .ok (.getfield 111, 3) := by decide +kernel
theorem dX6_readsOne_71 : decode cX6_readsOne 71 = .ok (.invokevirtual 114, 3) := by decide +kernel
theorem dX6_readsOne_74 : decode cX6_readsOne 74 = .ok (.bipush 48, 2) := by decide +kernel
theorem dX6_readsOne_76 : decode cX6_readsOne 76 = .ok (.isub, 1) := by decide +kernel
theorem dX6_readsOne_77 : decode cX6_readsOne 77 = .ok (.istore 5, 2) := by decide +kernel
theorem dX6_readsOne_79 : decode cX6_readsOne 79 = .ok (.iload 5, 2) := by decide +kernel
theorem dX6_readsOne_81 : decode cX6_readsOne 81 = .ok (.iload 4, 2) := by decide +kernel
theorem dX6_readsOne_83 : decode cX6_readsOne 83 = .ok (.invokestatic 123, 3) := by decide +kernel
theorem dX6_readsOne_86 : decode cX6_readsOne 86 = .ok (.iload 4, 2) := by decide +kernel
theorem dX6_readsOne_88 : decode cX6_readsOne 88 = .ok (.invokestatic 126, 3) := by decide +kernel
theorem dX6_readsOne_91 : decode cX6_readsOne 91 = .ok (.invokestatic 83, 3) := by decide +kernel
theorem dX6_readsOne_94 : decode cX6_readsOne 94 = .ok (.ifCond .ne 5, 3) := by decide +kernel
theorem dX6_readsOne_97 : decode cX6_readsOne 97 = .ok (.iconst 0, 1) := by decide +kernel
theorem dX6_readsOne_98 : decode cX6_readsOne 98 = .ok (.ireturn, 1) := by decide +kernel
theorem dX6_readsOne_99 : decode cX6_readsOne 99 = .ok (.aload_n 0, 1) := by decide +kernel
theorem dX6_readsOne_100 : decode cX6_readsOne 100 = .ok (.getfield 51, 3) := by decide +kernel
theorem dX6_readsOne_103 : decode cX6_readsOne 103 = .ok (.iload_n 3, 1) := by decide +kernel
theorem dX6_readsOne_104 : decode cX6_readsOne 104 = .ok (.iload 4, 2) := by decide +kernel
theorem dX6_readsOne_106 : decode cX6_readsOne 106 = .ok (.iadd, 1) := by decide +kernel
theorem dX6_readsOne_107 : decode cX6_readsOne 107 = .ok (.iload 5, 2) := by decide +kernel
theorem dX6_readsOne_109 : decode cX6_readsOne 109 = .ok (.iastore, 1) := by decide +kernel
theorem dX6_readsOne_110 : decode cX6_readsOne 110 = .ok (.aload_n 0, 1) := by decide +kernel
theorem dX6_readsOne_111 : decode cX6_readsOne 111 = .ok (.dup, 1) := by decide +kernel
theorem dX6_readsOne_112 : decode cX6_readsOne 112 = .ok (.getfield 111, 3) := by decide +kernel
theorem dX6_readsOne_115 : decode cX6_readsOne 115 = .ok (.iconst 1, 1) := by decide +kernel
theorem dX6_readsOne_116 : decode cX6_readsOne 116 = .ok (.iadd, 1) := by decide +kernel
theorem dX6_readsOne_117 : decode cX6_readsOne 117 = .ok (.putfield 111, 3) := by decide +kernel
theorem dX6_readsOne_120 : decode cX6_readsOne 120 = .ok (.iinc 4 1, 3) := by decide +kernel
theorem dX6_readsOne_123 : decode cX6_readsOne 123 = .ok (.goto (-65), 3) := by decide +kernel
theorem dX6_readsOne_126 : decode cX6_readsOne 126 = .ok (.aload_n 0, 1) := by decide +kernel
theorem dX6_readsOne_127 : decode cX6_readsOne 127 = .ok (.dup, 1) := by decide +kernel
theorem dX6_readsOne_128 : decode cX6_readsOne 128 = .ok (.getfield 120, 3) := by decide +kernel
theorem dX6_readsOne_131 : decode cX6_readsOne 131 = .ok (.iconst 1, 1) := by decide +kernel
theorem dX6_readsOne_132 : decode cX6_readsOne 132 = .ok (.iadd, 1) := by decide +kernel
theorem dX6_readsOne_133 : decode cX6_readsOne 133 = .ok (.putfield 120, 3) := by decide +kernel
theorem dX6_readsOne_136 : decode cX6_readsOne 136 = .ok (.iconst 1, 1) := by decide +kernel
theorem dX6_readsOne_137 : decode cX6_readsOne 137 = .ok (.ireturn, 1) := by decide +kernel
theorem dX6_faultOf_0 : decode cX6_faultOf 0 = .ok (.aload_n 0, 1) := by decide +kernel
theorem dX6_faultOf_1 : decode cX6_faultOf 1 = .ok (.iconst 0, 1) := by decide +kernel
theorem dX6_faultOf_2 : decode cX6_faultOf 2 = .ok (.putfield 111, 3) := by decide +kernel
theorem dX6_faultOf_5 : decode cX6_faultOf 5 = .ok (.aload_n 0, 1) := by decide +kernel
theorem dX6_faultOf_6 : decode cX6_faultOf 6 = .ok (.iconst 0, 1) := by decide +kernel
theorem dX6_faultOf_7 : decode cX6_faultOf 7 = .ok (.putfield 120, 3) := by decide +kernel
theorem dX6_faultOf_10 : decode cX6_faultOf 10 = .ok (.aload_n 0, 1) := by decide +kernel
theorem dX6_faultOf_11 : decode cX6_faultOf 11 = .ok (.getfield 111, 3) := by decide +kernel
theorem dX6_faultOf_14 : decode cX6_faultOf 14 = .ok (.aload_n 0, 1) := by decide +kernel
theorem dX6_faultOf_15 : decode cX6_faultOf 15 = .ok (.getfield 26, 3) := by decide +kernel
theorem dX6_faultOf_18 : decode cX6_faultOf 18 = .ok (.iload_n 1, 1) := by decide +kernel
theorem dX6_faultOf_19 : decode cX6_faultOf 19 = .ok (.iaload, 1) := by decide +kernel
theorem dX6_faultOf_20 : decode cX6_faultOf 20 = .ok (.if_icmp .ge 43, 3) := by decide +kernel
theorem dX6_faultOf_23 : decode cX6_faultOf 23 = .ok (.aload_n 0, 1) := by decide +kernel
theorem dX6_faultOf_24 : decode cX6_faultOf 24 = .ok (.iload_n 1, 1) := by decide +kernel
theorem dX6_faultOf_25 : decode cX6_faultOf 25 = .ok (.aload_n 0, 1) := by decide +kernel
theorem dX6_faultOf_26 : decode cX6_faultOf 26 = .ok (.getfield 111, 3) := by decide +kernel
theorem dX6_faultOf_29 : decode cX6_faultOf 29 = .ok (.invokevirtual 114, 3) := by decide +kernel
theorem dX6_faultOf_32 : decode cX6_faultOf 32 = .ok (.bipush 32, 2) := by decide +kernel
theorem dX6_faultOf_34 : decode cX6_faultOf 34 = .ok (.if_icmp .ne 16, 3) := by decide +kernel
theorem dX6_faultOf_37 : decode cX6_faultOf 37 = .ok (.aload_n 0, 1) := by decide +kernel
theorem dX6_faultOf_38 : decode cX6_faultOf 38 = .ok (.dup, 1) := by decide +kernel
theorem dX6_faultOf_39 : decode cX6_faultOf 39 = .ok (.getfield 111, 3) := by decide +kernel
theorem dX6_faultOf_42 : decode cX6_faultOf 42 = .ok (.iconst 1, 1) := by decide +kernel
theorem dX6_faultOf_43 : decode cX6_faultOf 43 = .ok (.iadd, 1) := by decide +kernel
theorem dX6_faultOf_44 : decode cX6_faultOf 44 = .ok (.putfield 111, 3) := by decide +kernel
theorem dX6_faultOf_47 : decode cX6_faultOf 47 = .ok (.goto (-37), 3) := by decide +kernel
theorem dX6_faultOf_50 : decode cX6_faultOf 50 = .ok (.aload_n 0, 1) := by decide +kernel
theorem dX6_faultOf_51 : decode cX6_faultOf 51 = .ok (.iload_n 1, 1) := by decide +kernel
theorem dX6_faultOf_52 : decode cX6_faultOf 52 = .ok (.invokevirtual 129, 3) := by decide +kernel
theorem dX6_faultOf_55 : decode cX6_faultOf 55 = .ok (.ifCond .ne (-45), 3) := by decide +kernel
theorem dX6_faultOf_58 : decode cX6_faultOf 58 = .ok (.aload_n 0, 1) := by decide +kernel
theorem dX6_faultOf_59 : decode cX6_faultOf 59 = .ok (.getfield 111, 3) := by decide +kernel
theorem dX6_faultOf_62 : decode cX6_faultOf 62 = .ok (.ireturn, 1) := by decide +kernel
theorem dX6_faultOf_63 : decode cX6_faultOf 63 = .ok (.aload_n 0, 1) := by decide +kernel
theorem dX6_faultOf_64 : decode cX6_faultOf 64 = .ok (.getfield 120, 3) := by decide +kernel
theorem dX6_faultOf_67 : decode cX6_faultOf 67 = .ok (.ifCond .ne 12, 3) := by decide +kernel
theorem dX6_faultOf_70 : decode cX6_faultOf 70 = .ok (.aload_n 0, 1) := by decide +kernel
theorem dX6_faultOf_71 : decode cX6_faultOf 71 = .ok (.getfield 26, 3) := by decide +kernel
theorem dX6_faultOf_74 : decode cX6_faultOf 74 = .ok (.iload_n 1, 1) := by decide +kernel
theorem dX6_faultOf_75 : decode cX6_faultOf 75 = .ok (.iaload, 1) := by decide +kernel
theorem dX6_faultOf_76 : decode cX6_faultOf 76 = .ok (.goto 5, 3) := by decide +kernel
theorem dX6_faultOf_79 : decode cX6_faultOf 79 = .ok (.bipush (-9), 2) := by decide +kernel
theorem dX6_faultOf_81 : decode cX6_faultOf 81 = .ok (.ireturn, 1) := by decide +kernel
theorem dX6_fault_0 : decode cX6_fault 0 = .ok (.iload_n 1, 1) := by decide +kernel
theorem dX6_fault_1 : decode cX6_fault 1 = .ok (.invokestatic 108, 3) := by decide +kernel
theorem dX6_fault_4 : decode cX6_fault 4 = .ok (.ifCond .ne 5, 3) := by decide +kernel
theorem dX6_fault_7 : decode cX6_fault 7 = .ok (.iconst (-1), 1) := by decide +kernel
theorem dX6_fault_8 : decode cX6_fault 8 = .ok (.ireturn, 1) := by decide +kernel
theorem dX6_fault_9 : decode cX6_fault 9 = .ok (.aload_n 0, 1) := by decide +kernel
theorem dX6_fault_10 : decode cX6_fault 10 = .ok (.getfield 26, 3) := by decide +kernel
theorem dX6_fault_13 : decode cX6_fault 13 = .ok (.iload_n 1, 1) := by decide +kernel
theorem dX6_fault_14 : decode cX6_fault 14 = .ok (.iaload, 1) := by decide +kernel
theorem dX6_fault_15 : decode cX6_fault 15 = .ok (.ifCond .ge 11, 3) := by decide +kernel
theorem dX6_fault_18 : decode cX6_fault 18 = .ok (.aload_n 0, 1) := by decide +kernel
theorem dX6_fault_19 : decode cX6_fault 19 = .ok (.iconst 1, 1) := by decide +kernel
theorem dX6_fault_20 : decode cX6_fault 20 = .ok (.invokevirtual 97, 3) := by decide +kernel
theorem dX6_fault_23 : decode cX6_fault 23 = .ok (.goto 8, 3) := by decide +kernel
theorem dX6_fault_26 : decode cX6_fault 26 = .ok (.aload_n 0, 1) := by decide +kernel
theorem dX6_fault_27 : decode cX6_fault 27 = .ok (.iload_n 1, 1) := by decide +kernel
theorem dX6_fault_28 : decode cX6_fault 28 = .ok (.invokevirtual 132, 3) := by decide +kernel
theorem dX6_fault_31 : decode cX6_fault 31 = .ok (.ireturn, 1) := by decide +kernel
theorem dX6_shop_0 : decode cX6_shop 0 = .ok (.iload_n 1, 1) := by decide +kernel
theorem dX6_shop_1 : decode cX6_shop 1 = .ok (.invokestatic 108, 3) := by decide +kernel
theorem dX6_shop_4 : decode cX6_shop 4 = .ok (.ifCond .ne 5, 3) := by decide +kernel
theorem dX6_shop_7 : decode cX6_shop 7 = .ok (.iconst (-1), 1) := by decide +kernel
theorem dX6_shop_8 : decode cX6_shop 8 = .ok (.ireturn, 1) := by decide +kernel
theorem dX6_shop_9 : decode cX6_shop 9 = .ok (.aload_n 0, 1) := by decide +kernel
theorem dX6_shop_10 : decode cX6_shop 10 = .ok (.getfield 26, 3) := by decide +kernel
theorem dX6_shop_13 : decode cX6_shop 13 = .ok (.iload_n 1, 1) := by decide +kernel
theorem dX6_shop_14 : decode cX6_shop 14 = .ok (.iaload, 1) := by decide +kernel
theorem dX6_shop_15 : decode cX6_shop 15 = .ok (.ifCond .ge 9, 3) := by decide +kernel
theorem dX6_shop_18 : decode cX6_shop 18 = .ok (.aload_n 0, 1) := by decide +kernel
theorem dX6_shop_19 : decode cX6_shop 19 = .ok (.iconst 1, 1) := by decide +kernel
theorem dX6_shop_20 : decode cX6_shop 20 = .ok (.invokevirtual 97, 3) := by decide +kernel
theorem dX6_shop_23 : decode cX6_shop 23 = .ok (.ireturn, 1) := by decide +kernel
theorem dX6_shop_24 : decode cX6_shop 24 = .ok (.aload_n 0, 1) := by decide +kernel
theorem dX6_shop_25 : decode cX6_shop 25 = .ok (.iload_n 1, 1) := by decide +kernel
theorem dX6_shop_26 : decode cX6_shop 26 = .ok (.invokevirtual 132, 3) := by decide +kernel
theorem dX6_shop_29 : decode cX6_shop 29 = .ok (.bipush (-9), 2) := by decide +kernel
theorem dX6_shop_31 : decode cX6_shop 31 = .ok (.if_icmp .eq 6, 3) := by decide +kernel
theorem dX6_shop_34 : decode cX6_shop 34 = .ok (.bipush (-4), 2) := by decide +kernel
theorem dX6_shop_36 : decode cX6_shop 36 = .ok (.ireturn, 1) := by decide +kernel
theorem dX6_shop_37 : decode cX6_shop 37 = .ok (.aload_n 0, 1) := by decide +kernel
theorem dX6_shop_38 : decode cX6_shop 38 = .ok (.aload_n 0, 1) := by decide +kernel
theorem dX6_shop_39 : decode cX6_shop 39 = .ok (.getfield 120, 3) := by decide +kernel
theorem dX6_shop_42 : decode cX6_shop 42 = .ok (.putfield 135, 3) := by decide +kernel
theorem dX6_shop_45 : decode cX6_shop 45 = .ok (.iconst 0, 1) := by decide +kernel
theorem dX6_shop_46 : decode cX6_shop 46 = .ok (.istore_n 2, 1) := by decide +kernel
theorem dX6_shop_47 : decode cX6_shop 47 = .ok (.iload_n 2, 1) := by decide +kernel
theorem dX6_shop_48 : decode cX6_shop 48 = .ok (.aload_n 0, 1) := by decide +kernel
theorem dX6_shop_49 : decode cX6_shop 49 = .ok (.getfield 135, 3) := by decide +kernel
theorem dX6_shop_52 : decode cX6_shop 52 = .ok (.if_icmp .ge 109, 3) := by decide +kernel
theorem dX6_shop_55 : decode cX6_shop 55 = .ok (.aload_n 0, 1) := by decide +kernel
theorem dX6_shop_56 : decode cX6_shop 56 = .ok (.getfield 33, 3) := by decide +kernel
theorem dX6_shop_59 : decode cX6_shop 59 = .ok (.iload_n 2, 1) := by decide +kernel
theorem dX6_shop_60 : decode cX6_shop 60 = .ok (.aload_n 0, 1) := by decide +kernel
theorem dX6_shop_61 : decode cX6_shop 61 = .ok (.getfield 51, 3) := by decide +kernel
theorem dX6_shop_64 : decode cX6_shop 64 = .ok (.bipush 6, 2) := by decide +kernel
theorem dX6_shop_66 : decode cX6_shop 66 = .ok (.iload_n 2, 1) := by decide +kernel
theorem dX6_shop_67 : decode cX6_shop 67 = .ok (.imul, 1) := by decide +kernel
theorem dX6_shop_68 : decode cX6_shop 68 = .ok (.iaload, 1) := by decide +kernel
theorem dX6_shop_69 : decode cX6_shop 69 = .ok (.iastore, 1) := by decide +kernel
theorem dX6_shop_70 : decode cX6_shop 70 = .ok (.aload_n 0, 1) := by decide +kernel
theorem dX6_shop_71 : decode cX6_shop 71 = .ok (.getfield 36, 3) := by decide +kernel
theorem dX6_shop_74 : decode cX6_shop 74 = .ok (.iload_n 2, 1) := by decide +kernel
theorem dX6_shop_75 : decode cX6_shop 75 = .ok (.aload_n 0, 1) := by decide +kernel
theorem dX6_shop_76 : decode cX6_shop 76 = .ok (.getfield 51, 3) := by decide +kernel
theorem dX6_shop_79 : decode cX6_shop 79 = .ok (.bipush 6, 2) := by decide +kernel
theorem dX6_shop_81 : decode cX6_shop 81 = .ok (.iload_n 2, 1) := by decide +kernel
theorem dX6_shop_82 : decode cX6_shop 82 = .ok (.imul, 1) := by decide +kernel
theorem dX6_shop_83 : decode cX6_shop 83 = .ok (.iconst 1, 1) := by decide +kernel
theorem dX6_shop_84 : decode cX6_shop 84 = .ok (.iadd, 1) := by decide +kernel
theorem dX6_shop_85 : decode cX6_shop 85 = .ok (.iaload, 1) := by decide +kernel
theorem dX6_shop_86 : decode cX6_shop 86 = .ok (.iastore, 1) := by decide +kernel
theorem dX6_shop_87 : decode cX6_shop 87 = .ok (.aload_n 0, 1) := by decide +kernel
theorem dX6_shop_88 : decode cX6_shop 88 = .ok (.getfield 39, 3) := by decide +kernel
theorem dX6_shop_91 : decode cX6_shop 91 = .ok (.iload_n 2, 1) := by decide +kernel
theorem dX6_shop_92 : decode cX6_shop 92 = .ok (.aload_n 0, 1) := by decide +kernel
theorem dX6_shop_93 : decode cX6_shop 93 = .ok (.getfield 51, 3) := by decide +kernel
theorem dX6_shop_96 : decode cX6_shop 96 = .ok (.bipush 6, 2) := by decide +kernel
theorem dX6_shop_98 : decode cX6_shop 98 = .ok (.iload_n 2, 1) := by decide +kernel
theorem dX6_shop_99 : decode cX6_shop 99 = .ok (.imul, 1) := by decide +kernel
theorem dX6_shop_100 : decode cX6_shop 100 = .ok (.iconst 2, 1) := by decide +kernel
theorem dX6_shop_101 : decode cX6_shop 101 = .ok (.iadd, 1) := by decide +kernel
theorem dX6_shop_102 : decode cX6_shop 102 = .ok (.iaload, 1) := by decide +kernel
theorem dX6_shop_103 : decode cX6_shop 103 = .ok (.iastore, 1) := by decide +kernel
theorem dX6_shop_104 : decode cX6_shop 104 = .ok (.aload_n 0, 1) := by decide +kernel
theorem dX6_shop_105 : decode cX6_shop 105 = .ok (.getfield 42, 3) := by decide +kernel
theorem dX6_shop_108 : decode cX6_shop 108 = .ok (.iload_n 2, 1) := by decide +kernel
theorem dX6_shop_109 : decode cX6_shop 109 = .ok (.aload_n 0, 1) := by decide +kernel
theorem dX6_shop_110 : decode cX6_shop 110 = .ok (.getfield 51, 3) := by decide +kernel
theorem dX6_shop_113 : decode cX6_shop 113 = .ok (.bipush 6, 2) := by decide +kernel
theorem dX6_shop_115 : decode cX6_shop 115 = .ok (.iload_n 2, 1) := by decide +kernel
theorem dX6_shop_116 : decode cX6_shop 116 = .ok (.imul, 1) := by decide +kernel
theorem dX6_shop_117 : decode cX6_shop 117 = .ok (.iconst 3, 1) := by decide +kernel
theorem dX6_shop_118 : decode cX6_shop 118 = .ok (.iadd, 1) := by decide +kernel
theorem dX6_shop_119 : decode cX6_shop 119 = .ok (.iaload, 1) := by decide +kernel
theorem dX6_shop_120 : decode cX6_shop 120 = .ok (.iastore, 1) := by decide +kernel
theorem dX6_shop_121 : decode cX6_shop 121 = .ok (.aload_n 0, 1) := by decide +kernel
theorem dX6_shop_122 : decode cX6_shop 122 = .ok (.getfield 45, 3) := by decide +kernel
theorem dX6_shop_125 : decode cX6_shop 125 = .ok (.iload_n 2, 1) := by decide +kernel
theorem dX6_shop_126 : decode cX6_shop 126 = .ok (.aload_n 0, 1) := by decide +kernel
theorem dX6_shop_127 : decode cX6_shop 127 = .ok (.getfield 51, 3) := by decide +kernel
theorem dX6_shop_130 : decode cX6_shop 130 = .ok (.bipush 6, 2) := by decide +kernel
theorem dX6_shop_132 : decode cX6_shop 132 = .ok (.iload_n 2, 1) := by decide +kernel
theorem dX6_shop_133 : decode cX6_shop 133 = .ok (.imul, 1) := by decide +kernel
theorem dX6_shop_134 : decode cX6_shop 134 = .ok (.iconst 4, 1) := by decide +kernel
theorem dX6_shop_135 : decode cX6_shop 135 = .ok (.iadd, 1) := by decide +kernel
theorem dX6_shop_136 : decode cX6_shop 136 = .ok (.iaload, 1) := by decide +kernel
theorem dX6_shop_137 : decode cX6_shop 137 = .ok (.iastore, 1) := by decide +kernel
theorem dX6_shop_138 : decode cX6_shop 138 = .ok (.aload_n 0, 1) := by decide +kernel
theorem dX6_shop_139 : decode cX6_shop 139 = .ok (.getfield 48, 3) := by decide +kernel
theorem dX6_shop_142 : decode cX6_shop 142 = .ok (.iload_n 2, 1) := by decide +kernel
theorem dX6_shop_143 : decode cX6_shop 143 = .ok (.aload_n 0, 1) := by decide +kernel
theorem dX6_shop_144 : decode cX6_shop 144 = .ok (.getfield 51, 3) := by decide +kernel
theorem dX6_shop_147 : decode cX6_shop 147 = .ok (.bipush 6, 2) := by decide +kernel
theorem dX6_shop_149 : decode cX6_shop 149 = .ok (.iload_n 2, 1) := by decide +kernel
theorem dX6_shop_150 : decode cX6_shop 150 = .ok (.imul, 1) := by decide +kernel
theorem dX6_shop_151 : decode cX6_shop 151 = .ok (.iconst 5, 1) := by decide +kernel
theorem dX6_shop_152 : decode cX6_shop 152 = .ok (.iadd, 1) := by decide +kernel
theorem dX6_shop_153 : decode cX6_shop 153 = .ok (.iaload, 1) := by decide +kernel
theorem dX6_shop_154 : decode cX6_shop 154 = .ok (.iastore, 1) := by decide +kernel
theorem dX6_shop_155 : decode cX6_shop 155 = .ok (.iinc 2 1, 3) := by decide +kernel
theorem dX6_shop_158 : decode cX6_shop 158 = .ok (.goto (-111), 3) := by decide +kernel
theorem dX6_shop_161 : decode cX6_shop 161 = .ok (.iconst 0, 1) := by decide +kernel
theorem dX6_shop_162 : decode cX6_shop 162 = .ok (.istore_n 2, 1) := by decide +kernel
theorem dX6_shop_163 : decode cX6_shop 163 = .ok (.iload_n 2, 1) := by decide +kernel
theorem dX6_shop_164 : decode cX6_shop 164 = .ok (.bipush 14, 2) := by decide +kernel
theorem dX6_shop_166 : decode cX6_shop 166 = .ok (.if_icmp .ge 16, 3) := by decide +kernel
theorem dX6_shop_169 : decode cX6_shop 169 = .ok (.aload_n 0, 1) := by decide +kernel
theorem dX6_shop_170 : decode cX6_shop 170 = .ok (.getfield 54, 3) := by decide +kernel
theorem dX6_shop_173 : decode cX6_shop 173 = .ok (.iload_n 2, 1) := by decide +kernel
theorem dX6_shop_174 : decode cX6_shop 174 = .ok (.iconst 0, 1) := by decide +kernel
theorem dX6_shop_175 : decode cX6_shop 175 = .ok (.iastore, 1) := by decide +kernel
theorem dX6_shop_176 : decode cX6_shop 176 = .ok (.iinc 2 1, 3) := by decide +kernel
theorem dX6_shop_179 : decode cX6_shop 179 = .ok (.goto (-16), 3) := by decide +kernel
theorem dX6_shop_182 : decode cX6_shop 182 = .ok (.aload_n 0, 1) := by decide +kernel
theorem dX6_shop_183 : decode cX6_shop 183 = .ok (.iconst 0, 1) := by decide +kernel
theorem dX6_shop_184 : decode cX6_shop 184 = .ok (.putfield 138, 3) := by decide +kernel
theorem dX6_shop_187 : decode cX6_shop 187 = .ok (.iconst 0, 1) := by decide +kernel
theorem dX6_shop_188 : decode cX6_shop 188 = .ok (.istore_n 2, 1) := by decide +kernel
theorem dX6_shop_189 : decode cX6_shop 189 = .ok (.iload_n 2, 1) := by decide +kernel
theorem dX6_shop_190 : decode cX6_shop 190 = .ok (.iconst 3, 1) := by decide +kernel
theorem dX6_shop_191 : decode cX6_shop 191 = .ok (.if_icmp .ge 16, 3) := by decide +kernel
theorem dX6_shop_194 : decode cX6_shop 194 = .ok (.aload_n 0, 1) := by decide +kernel
theorem dX6_shop_195 : decode cX6_shop 195 = .ok (.getfield 60, 3) := by decide +kernel
theorem dX6_shop_198 : decode cX6_shop 198 = .ok (.iload_n 2, 1) := by decide +kernel
theorem dX6_shop_199 : decode cX6_shop 199 = .ok (.iconst 0, 1) := by decide +kernel
theorem dX6_shop_200 : decode cX6_shop 200 = .ok (.bastore, 1) := by decide +kernel
theorem dX6_shop_201 : decode cX6_shop 201 = .ok (.iinc 2 1, 3) := by decide +kernel
theorem dX6_shop_204 : decode cX6_shop 204 = .ok (.goto (-15), 3) := by decide +kernel
theorem dX6_shop_207 : decode cX6_shop 207 = .ok (.aload_n 0, 1) := by decide +kernel
theorem dX6_shop_208 : decode cX6_shop 208 = .ok (.getfield 135, 3) := by decide +kernel
theorem dX6_shop_211 : decode cX6_shop 211 = .ok (.ireturn, 1) := by decide +kernel
theorem dX6_isRegular_0 : decode cX6_isRegular 0 = .ok (.iload_n 1, 1) := by decide +kernel
theorem dX6_isRegular_1 : decode cX6_isRegular 1 = .ok (.iconst 0, 1) := by decide +kernel
theorem dX6_isRegular_2 : decode cX6_isRegular 2 = .ok (.aload_n 0, 1) := by decide +kernel
theorem dX6_isRegular_3 : decode cX6_isRegular 3 = .ok (.getfield 135, 3) := by decide +kernel
theorem dX6_isRegular_6 : decode cX6_isRegular 6 = .ok (.iconst 1, 1) := by decide +kernel
theorem dX6_isRegular_7 : decode cX6_isRegular 7 = .ok (.isub, 1) := by decide +kernel
theorem dX6_isRegular_8 : decode cX6_isRegular 8 = .ok (.invokestatic 83, 3) := by decide +kernel
theorem dX6_isRegular_11 : decode cX6_isRegular 11 = .ok (.ireturn, 1) := by decide +kernel
theorem dX6_isThing_0 : decode cX6_isThing 0 = .ok (.iload_n 0, 1) := by decide +kernel
theorem dX6_isThing_1 : decode cX6_isThing 1 = .ok (.iconst 0, 1) := by decide +kernel
theorem dX6_isThing_2 : decode cX6_isThing 2 = .ok (.iconst 5, 1) := by decide +kernel
theorem dX6_isThing_3 : decode cX6_isThing 3 = .ok (.invokestatic 83, 3) := by decide +kernel
theorem dX6_isThing_6 : decode cX6_isThing 6 = .ok (.ireturn, 1) := by decide +kernel
theorem dX6_isLaid_0 : decode cX6_isLaid 0 = .ok (.iload_n 0, 1) := by decide +kernel
theorem dX6_isLaid_1 : decode cX6_isLaid 1 = .ok (.bipush (-9), 2) := by decide +kernel
theorem dX6_isLaid_3 : decode cX6_isLaid 3 = .ok (.if_icmp .eq 10, 3) := by decide +kernel
theorem dX6_isLaid_6 : decode cX6_isLaid 6 = .ok (.iload_n 0, 1) := by decide +kernel
theorem dX6_isLaid_7 : decode cX6_isLaid 7 = .ok (.invokestatic 141, 3) := by decide +kernel
theorem dX6_isLaid_10 : decode cX6_isLaid 10 = .ok (.ifCond .eq 7, 3) := by decide +kernel
theorem dX6_isLaid_13 : decode cX6_isLaid 13 = .ok (.iconst 1, 1) := by decide +kernel
theorem dX6_isLaid_14 : decode cX6_isLaid 14 = .ok (.goto 4, 3) := by decide +kernel
theorem dX6_isLaid_17 : decode cX6_isLaid 17 = .ok (.iconst 0, 1) := by decide +kernel
theorem dX6_isLaid_18 : decode cX6_isLaid 18 = .ok (.ireturn, 1) := by decide +kernel
theorem dX6_isOther_0 : decode cX6_isOther 0 = .ok (.iload_n 0, 1) := by decide +kernel
theorem dX6_isOther_1 : decode cX6_isOther 1 = .ok (.tableswitch 86 2 5 #[31, 86, 73, 42], 31) := by decide +kernel
theorem dX6_isOther_32 : decode cX6_isOther 32 = .ok (.iload_n 1, 1) := by decide +kernel
theorem dX6_isOther_33 : decode cX6_isOther 33 = .ok (.iconst 2, 1) := by decide +kernel
theorem dX6_isOther_34 : decode cX6_isOther 34 = .ok (.if_icmp .le 7, 3) := by decide +kernel
theorem dX6_isOther_37 : decode cX6_isOther 37 = .ok (.iconst 1, 1) := by decide +kernel
theorem dX6_isOther_38 : decode cX6_isOther 38 = .ok (.goto 4, 3) := by decide +kernel
theorem dX6_isOther_41 : decode cX6_isOther 41 = .ok (.iconst 0, 1) := by decide +kernel
theorem dX6_isOther_42 : decode cX6_isOther 42 = .ok (.ireturn, 1) := by decide +kernel
theorem dX6_isOther_43 : decode cX6_isOther 43 = .ok (.iload_n 1, 1) := by decide +kernel
theorem dX6_isOther_44 : decode cX6_isOther 44 = .ok (.iconst 5, 1) := by decide +kernel
theorem dX6_isOther_45 : decode cX6_isOther 45 = .ok (.irem, 1) := by decide +kernel
theorem dX6_isOther_46 : decode cX6_isOther 46 = .ok (.iconst 4, 1) := by decide +kernel
theorem dX6_isOther_47 : decode cX6_isOther 47 = .ok (.if_icmp .ne 16, 3) := by decide +kernel
theorem dX6_isOther_50 : decode cX6_isOther 50 = .ok (.iload_n 1, 1) := by decide +kernel
theorem dX6_isOther_51 : decode cX6_isOther 51 = .ok (.iconst 2, 1) := by decide +kernel
theorem dX6_isOther_52 : decode cX6_isOther 52 = .ok (.if_icmp .gt 7, 3) := by decide +kernel
theorem dX6_isOther_55 : decode cX6_isOther 55 = .ok (.iconst 1, 1) := by decide +kernel
theorem dX6_isOther_56 : decode cX6_isOther 56 = .ok (.goto 17, 3) := by decide +kernel
theorem dX6_isOther_59 : decode cX6_isOther 59 = .ok (.iconst 0, 1) := by decide +kernel
theorem dX6_isOther_60 : decode cX6_isOther 60 = .ok (.goto 13, 3) := by decide +kernel
theorem dX6_isOther_63 : decode cX6_isOther 63 = .ok (.iload_n 1, 1) := by decide +kernel
theorem dX6_isOther_64 : decode cX6_isOther 64 = .ok (.iconst 2, 1) := by decide +kernel
theorem dX6_isOther_65 : decode cX6_isOther 65 = .ok (.if_icmp .le 7, 3) := by decide +kernel
theorem dX6_isOther_68 : decode cX6_isOther 68 = .ok (.iconst 1, 1) := by decide +kernel
theorem dX6_isOther_69 : decode cX6_isOther 69 = .ok (.goto 4, 3) := by decide +kernel
theorem dX6_isOther_72 : decode cX6_isOther 72 = .ok (.iconst 0, 1) := by decide +kernel
theorem dX6_isOther_73 : decode cX6_isOther 73 = .ok (.ireturn, 1) := by decide +kernel
theorem dX6_isOther_74 : decode cX6_isOther 74 = .ok (.iload_n 1, 1) := by decide +kernel
theorem dX6_isOther_75 : decode cX6_isOther 75 = .ok (.iconst 2, 1) := by decide +kernel
theorem dX6_isOther_76 : decode cX6_isOther 76 = .ok (.irem, 1) := by decide +kernel
theorem dX6_isOther_77 : decode cX6_isOther 77 = .ok (.iconst 1, 1) := by decide +kernel
theorem dX6_isOther_78 : decode cX6_isOther 78 = .ok (.if_icmp .ne 7, 3) := by decide +kernel
theorem dX6_isOther_81 : decode cX6_isOther 81 = .ok (.iconst 1, 1) := by decide +kernel
theorem dX6_isOther_82 : decode cX6_isOther 82 = .ok (.goto 4, 3) := by decide +kernel
theorem dX6_isOther_85 : decode cX6_isOther 85 = .ok (.iconst 0, 1) := by decide +kernel
theorem dX6_isOther_86 : decode cX6_isOther 86 = .ok (.ireturn, 1) := by decide +kernel
theorem dX6_isOther_87 : decode cX6_isOther 87 = .ok (.iconst 0, 1) := by decide +kernel
theorem dX6_isOther_88 : decode cX6_isOther 88 = .ok (.ireturn, 1) := by decide +kernel
theorem dX6_wantsOn_0 : decode cX6_wantsOn 0 = .ok (.aload_n 0, 1) := by decide +kernel
theorem dX6_wantsOn_1 : decode cX6_wantsOn 1 = .ok (.getfield 33, 3) := by decide +kernel
theorem dX6_wantsOn_4 : decode cX6_wantsOn 4 = .ok (.iload_n 1, 1) := by decide +kernel
theorem dX6_wantsOn_5 : decode cX6_wantsOn 5 = .ok (.iaload, 1) := by decide +kernel
theorem dX6_wantsOn_6 : decode cX6_wantsOn 6 = .ok (.iload_n 2, 1) := by decide +kernel
theorem dX6_wantsOn_7 : decode cX6_wantsOn 7 = .ok (.invokestatic 144, 3) := by decide +kernel
theorem dX6_wantsOn_10 : decode cX6_wantsOn 10 = .ok (.ifCond .eq 12, 3) := by decide +kernel
theorem dX6_wantsOn_13 : decode cX6_wantsOn 13 = .ok (.aload_n 0, 1) := by decide +kernel
theorem dX6_wantsOn_14 : decode cX6_wantsOn 14 = .ok (.getfield 45, 3) := by decide +kernel
theorem dX6_wantsOn_17 : decode cX6_wantsOn 17 = .ok (.iload_n 1, 1) := by decide +kernel
theorem dX6_wantsOn_18 : decode cX6_wantsOn 18 = .ok (.iaload, 1) := by decide +kernel
theorem dX6_wantsOn_19 : decode cX6_wantsOn 19 = .ok (.goto 9, 3) := by decide +kernel
theorem dX6_wantsOn_22 : decode cX6_wantsOn 22 = .ok (.aload_n 0, 1) := by decide +kernel
theorem dX6_wantsOn_23 : decode cX6_wantsOn 23 = .ok (.getfield 42, 3) := by decide +kernel
theorem dX6_wantsOn_26 : decode cX6_wantsOn 26 = .ok (.iload_n 1, 1) := by decide +kernel
theorem dX6_wantsOn_27 : decode cX6_wantsOn 27 = .ok (.iaload, 1) := by decide +kernel
theorem dX6_wantsOn_28 : decode cX6_wantsOn 28 = .ok (.ireturn, 1) := by decide +kernel
theorem dX6_wantsNow_0 : decode cX6_wantsNow 0 = .ok (.aload_n 0, 1) := by decide +kernel
theorem dX6_wantsNow_1 : decode cX6_wantsNow 1 = .ok (.iload_n 1, 1) := by decide +kernel
theorem dX6_wantsNow_2 : decode cX6_wantsNow 2 = .ok (.aload_n 0, 1) := by decide +kernel
theorem dX6_wantsNow_3 : decode cX6_wantsNow 3 = .ok (.getfield 54, 3) := by decide +kernel
theorem dX6_wantsNow_6 : decode cX6_wantsNow 6 = .ok (.bipush 12, 2) := by decide +kernel
theorem dX6_wantsNow_8 : decode cX6_wantsNow 8 = .ok (.iaload, 1) := by decide +kernel
theorem dX6_wantsNow_9 : decode cX6_wantsNow 9 = .ok (.invokevirtual 148, 3) := by decide +kernel
theorem dX6_wantsNow_12 : decode cX6_wantsNow 12 = .ok (.ireturn, 1) := by decide +kernel
theorem dX6_isKnown_0 : decode cX6_isKnown 0 = .ok (.aload_n 0, 1) := by decide +kernel
theorem dX6_isKnown_1 : decode cX6_isKnown 1 = .ok (.getfield 54, 3) := by decide +kernel
theorem dX6_isKnown_4 : decode cX6_isKnown 4 = .ok (.iload_n 1, 1) := by decide +kernel
theorem dX6_isKnown_5 : decode cX6_isKnown 5 = .ok (.iaload, 1) := by decide +kernel
theorem dX6_isKnown_6 : decode cX6_isKnown 6 = .ok (.iconst 1, 1) := by decide +kernel
theorem dX6_isKnown_7 : decode cX6_isKnown 7 = .ok (.if_icmp .le 7, 3) := by decide +kernel
theorem dX6_isKnown_10 : decode cX6_isKnown 10 = .ok (.iconst 1, 1) := by decide +kernel
theorem dX6_isKnown_11 : decode cX6_isKnown 11 = .ok (.goto 4, 3) := by decide +kernel
theorem dX6_isKnown_14 : decode cX6_isKnown 14 = .ok (.iconst 0, 1) := by decide +kernel
theorem dX6_isKnown_15 : decode cX6_isKnown 15 = .ok (.ireturn, 1) := by decide +kernel
theorem dX6_isSilent_0 : decode cX6_isSilent 0 = .ok (.aload_n 0, 1) := by decide +kernel
theorem dX6_isSilent_1 : decode cX6_isSilent 1 = .ok (.getfield 33, 3) := by decide +kernel
theorem dX6_isSilent_4 : decode cX6_isSilent 4 = .ok (.iload_n 1, 1) := by decide +kernel
theorem dX6_isSilent_5 : decode cX6_isSilent 5 = .ok (.iaload, 1) := by decide +kernel
theorem dX6_isSilent_6 : decode cX6_isSilent 6 = .ok (.iconst 1, 1) := by decide +kernel
theorem dX6_isSilent_7 : decode cX6_isSilent 7 = .ok (.if_icmp .eq 13, 3) := by decide +kernel
theorem dX6_isSilent_10 : decode cX6_isSilent 10 = .ok (.aload_n 0, 1) := by decide +kernel
theorem dX6_isSilent_11 : decode cX6_isSilent 11 = .ok (.getfield 33, 3) := by decide +kernel
theorem dX6_isSilent_14 : decode cX6_isSilent 14 = .ok (.iload_n 1, 1) := by decide +kernel
theorem dX6_isSilent_15 : decode cX6_isSilent 15 = .ok (.iaload, 1) := by decide +kernel
theorem dX6_isSilent_16 : decode cX6_isSilent 16 = .ok (.iconst 4, 1) := by decide +kernel
theorem dX6_isSilent_17 : decode cX6_isSilent 17 = .ok (.if_icmp .ne 7, 3) := by decide +kernel
theorem dX6_isSilent_20 : decode cX6_isSilent 20 = .ok (.iconst 1, 1) := by decide +kernel
theorem dX6_isSilent_21 : decode cX6_isSilent 21 = .ok (.goto 4, 3) := by decide +kernel
theorem dX6_isSilent_24 : decode cX6_isSilent 24 = .ok (.iconst 0, 1) := by decide +kernel
theorem dX6_isSilent_25 : decode cX6_isSilent 25 = .ok (.ireturn, 1) := by decide +kernel
theorem dX6_askedIn_0 : decode cX6_askedIn 0 = .ok (.aload_n 0, 1) := by decide +kernel
theorem dX6_askedIn_1 : decode cX6_askedIn 1 = .ok (.iload_n 1, 1) := by decide +kernel
theorem dX6_askedIn_2 : decode cX6_askedIn 2 = .ok (.invokevirtual 151, 3) := by decide +kernel
theorem dX6_askedIn_5 : decode cX6_askedIn 5 = .ok (.ifCond .eq 8, 3) := by decide +kernel
theorem dX6_askedIn_8 : decode cX6_askedIn 8 = .ok (.bipush 30, 2) := by decide +kernel
theorem dX6_askedIn_10 : decode cX6_askedIn 10 = .ok (.goto 5, 3) := by decide +kernel
theorem dX6_askedIn_13 : decode cX6_askedIn 13 = .ok (.bipush 40, 2) := by decide +kernel
theorem dX6_askedIn_15 : decode cX6_askedIn 15 = .ok (.ireturn, 1) := by decide +kernel
theorem dX6_isSour_0 : decode cX6_isSour 0 = .ok (.iload_n 2, 1) := by decide +kernel
theorem dX6_isSour_1 : decode cX6_isSour 1 = .ok (.bipush (-9), 2) := by decide +kernel
theorem dX6_isSour_3 : decode cX6_isSour 3 = .ok (.if_icmp .eq 24, 3) := by decide +kernel
theorem dX6_isSour_6 : decode cX6_isSour 6 = .ok (.aload_n 0, 1) := by decide +kernel
theorem dX6_isSour_7 : decode cX6_isSour 7 = .ok (.iload_n 1, 1) := by decide +kernel
theorem dX6_isSour_8 : decode cX6_isSour 8 = .ok (.invokevirtual 154, 3) := by decide +kernel
theorem dX6_isSour_11 : decode cX6_isSour 11 = .ok (.ifCond .eq 16, 3) := by decide +kernel
theorem dX6_isSour_14 : decode cX6_isSour 14 = .ok (.aload_n 0, 1) := by decide +kernel
theorem dX6_isSour_15 : decode cX6_isSour 15 = .ok (.iload_n 1, 1) := by decide +kernel
theorem dX6_isSour_16 : decode cX6_isSour 16 = .ok (.invokevirtual 157, 3) := by decide +kernel
theorem dX6_isSour_19 : decode cX6_isSour 19 = .ok (.iload_n 2, 1) := by decide +kernel
theorem dX6_isSour_20 : decode cX6_isSour 20 = .ok (.if_icmp .eq 7, 3) := by decide +kernel
theorem dX6_isSour_23 : decode cX6_isSour 23 = .ok (.iconst 1, 1) := by decide +kernel
theorem dX6_isSour_24 : decode cX6_isSour 24 = .ok (.goto 4, 3) := by decide +kernel
theorem dX6_isSour_27 : decode cX6_isSour 27 = .ok (.iconst 0, 1) := by decide +kernel
theorem dX6_isSour_28 : decode cX6_isSour 28 = .ok (.ireturn, 1) := by decide +kernel
theorem dX6_takesIn_0 : decode cX6_takesIn 0 = .ok (.iload_n 2, 1) := by decide +kernel
theorem dX6_takesIn_1 : decode cX6_takesIn 1 = .ok (.bipush (-9), 2) := by decide +kernel
theorem dX6_takesIn_3 : decode cX6_takesIn 3 = .ok (.if_icmp .ne 9, 3) := by decide +kernel
theorem dX6_takesIn_6 : decode cX6_takesIn 6 = .ok (.aload_n 0, 1) := by decide +kernel
theorem dX6_takesIn_7 : decode cX6_takesIn 7 = .ok (.iload_n 1, 1) := by decide +kernel
theorem dX6_takesIn_8 : decode cX6_takesIn 8 = .ok (.invokevirtual 160, 3) := by decide +kernel
theorem dX6_takesIn_11 : decode cX6_takesIn 11 = .ok (.ireturn, 1) := by decide +kernel
theorem dX6_takesIn_12 : decode cX6_takesIn 12 = .ok (.aload_n 0, 1) := by decide +kernel
theorem dX6_takesIn_13 : decode cX6_takesIn 13 = .ok (.iload_n 1, 1) := by decide +kernel
theorem dX6_takesIn_14 : decode cX6_takesIn 14 = .ok (.invokevirtual 157, 3) := by decide +kernel
theorem dX6_takesIn_17 : decode cX6_takesIn 17 = .ok (.iload_n 2, 1) := by decide +kernel
theorem dX6_takesIn_18 : decode cX6_takesIn 18 = .ok (.if_icmp .eq 11, 3) := by decide +kernel
theorem dX6_takesIn_21 : decode cX6_takesIn 21 = .ok (.aload_n 0, 1) := by decide +kernel
theorem dX6_takesIn_22 : decode cX6_takesIn 22 = .ok (.iload_n 1, 1) := by decide +kernel
theorem dX6_takesIn_23 : decode cX6_takesIn 23 = .ok (.invokevirtual 154, 3) := by decide +kernel
theorem dX6_takesIn_26 : decode cX6_takesIn 26 = .ok (.ifCond .eq 6, 3) := by decide +kernel
theorem dX6_takesIn_29 : decode cX6_takesIn 29 = .ok (.bipush 9, 2) := by decide +kernel
theorem dX6_takesIn_31 : decode cX6_takesIn 31 = .ok (.ireturn, 1) := by decide +kernel
theorem dX6_takesIn_32 : decode cX6_takesIn 32 = .ok (.bipush 9, 2) := by decide +kernel
theorem dX6_takesIn_34 : decode cX6_takesIn 34 = .ok (.aload_n 0, 1) := by decide +kernel
theorem dX6_takesIn_35 : decode cX6_takesIn 35 = .ok (.iload_n 1, 1) := by decide +kernel
theorem dX6_takesIn_36 : decode cX6_takesIn 36 = .ok (.invokevirtual 160, 3) := by decide +kernel
theorem dX6_takesIn_39 : decode cX6_takesIn 39 = .ok (.iadd, 1) := by decide +kernel
theorem dX6_takesIn_40 : decode cX6_takesIn 40 = .ok (.aload_n 0, 1) := by decide +kernel
theorem dX6_takesIn_41 : decode cX6_takesIn 41 = .ok (.getfield 33, 3) := by decide +kernel
theorem dX6_takesIn_44 : decode cX6_takesIn 44 = .ok (.iload_n 1, 1) := by decide +kernel
theorem dX6_takesIn_45 : decode cX6_takesIn 45 = .ok (.iaload, 1) := by decide +kernel
theorem dX6_takesIn_46 : decode cX6_takesIn 46 = .ok (.iconst 3, 1) := by decide +kernel
theorem dX6_takesIn_47 : decode cX6_takesIn 47 = .ok (.if_icmp .ne 8, 3) := by decide +kernel
theorem dX6_takesIn_50 : decode cX6_takesIn 50 = .ok (.bipush 20, 2) := by decide +kernel
theorem dX6_takesIn_52 : decode cX6_takesIn 52 = .ok (.goto 5, 3) := by decide +kernel
theorem dX6_takesIn_55 : decode cX6_takesIn 55 = .ok (.bipush 10, 2) := by decide +kernel
theorem dX6_takesIn_57 : decode cX6_takesIn 57 = .ok (.iadd, 1) := by decide +kernel
theorem dX6_takesIn_58 : decode cX6_takesIn 58 = .ok (.ireturn, 1) := by decide +kernel
theorem dX6_regularTells_0 : decode cX6_regularTells 0 = .ok (.iload_n 2, 1) := by decide +kernel
theorem dX6_regularTells_1 : decode cX6_regularTells 1 = .ok (.tableswitch 106 0 7 #[47, 54, 61, 68, 75, 82, 89, 96], 47) := by decide +kernel
theorem dX6_regularTells_48 : decode cX6_regularTells 48 = .ok (.aload_n 0, 1) := by decide +kernel
theorem dX6_regularTells_49 : decode cX6_regularTells 49 = .ok (.getfield 33, 3) := by decide +kernel
theorem dX6_regularTells_52 : decode cX6_regularTells 52 = .ok (.iload_n 1, 1) := by decide +kernel
theorem dX6_regularTells_53 : decode cX6_regularTells 53 = .ok (.iaload, 1) := by decide +kernel
theorem dX6_regularTells_54 : decode cX6_regularTells 54 = .ok (.ireturn, 1) := by decide +kernel
theorem dX6_regularTells_55 : decode cX6_regularTells 55 = .ok (.aload_n 0, 1) := by decide +kernel
theorem dX6_regularTells_56 : decode cX6_regularTells 56 = .ok (.getfield 36, 3) := by decide +kernel
theorem dX6_regularTells_59 : decode cX6_regularTells 59 = .ok (.iload_n 1, 1) := by decide +kernel
theorem dX6_regularTells_60 : decode cX6_regularTells 60 = .ok (.iaload, 1) := by decide +kernel
theorem dX6_regularTells_61 : decode cX6_regularTells 61 = .ok (.ireturn, 1) := by decide +kernel
theorem dX6_regularTells_62 : decode cX6_regularTells 62 = .ok (.aload_n 0, 1) := by decide +kernel
theorem dX6_regularTells_63 : decode cX6_regularTells 63 = .ok (.getfield 39, 3) := by decide +kernel
theorem dX6_regularTells_66 : decode cX6_regularTells 66 = .ok (.iload_n 1, 1) := by decide +kernel
theorem dX6_regularTells_67 : decode cX6_regularTells 67 = .ok (.iaload, 1) := by decide +kernel
theorem dX6_regularTells_68 : decode cX6_regularTells 68 = .ok (.ireturn, 1) := by decide +kernel
theorem dX6_regularTells_69 : decode cX6_regularTells 69 = .ok (.aload_n 0, 1) := by decide +kernel
theorem dX6_regularTells_70 : decode cX6_regularTells 70 = .ok (.getfield 42, 3) := by decide +kernel
theorem dX6_regularTells_73 : decode cX6_regularTells 73 = .ok (.iload_n 1, 1) := by decide +kernel
theorem dX6_regularTells_74 : decode cX6_regularTells 74 = .ok (.iaload, 1) := by decide +kernel
theorem dX6_regularTells_75 : decode cX6_regularTells 75 = .ok (.ireturn, 1) := by decide +kernel
theorem dX6_regularTells_76 : decode cX6_regularTells 76 = .ok (.aload_n 0, 1) := by decide +kernel
theorem dX6_regularTells_77 : decode cX6_regularTells 77 = .ok (.getfield 45, 3) := by decide +kernel
theorem dX6_regularTells_80 : decode cX6_regularTells 80 = .ok (.iload_n 1, 1) := by decide +kernel
theorem dX6_regularTells_81 : decode cX6_regularTells 81 = .ok (.iaload, 1) := by decide +kernel
theorem dX6_regularTells_82 : decode cX6_regularTells 82 = .ok (.ireturn, 1) := by decide +kernel
theorem dX6_regularTells_83 : decode cX6_regularTells 83 = .ok (.aload_n 0, 1) := by decide +kernel
theorem dX6_regularTells_84 : decode cX6_regularTells 84 = .ok (.getfield 48, 3) := by decide +kernel
theorem dX6_regularTells_87 : decode cX6_regularTells 87 = .ok (.iload_n 1, 1) := by decide +kernel
theorem dX6_regularTells_88 : decode cX6_regularTells 88 = .ok (.iaload, 1) := by decide +kernel
theorem dX6_regularTells_89 : decode cX6_regularTells 89 = .ok (.ireturn, 1) := by decide +kernel
theorem dX6_regularTells_90 : decode cX6_regularTells 90 = .ok (.aload_n 0, 1) := by decide +kernel
theorem dX6_regularTells_91 : decode cX6_regularTells 91 = .ok (.getfield 54, 3) := by decide +kernel
theorem dX6_regularTells_94 : decode cX6_regularTells 94 = .ok (.iload_n 1, 1) := by decide +kernel
theorem dX6_regularTells_95 : decode cX6_regularTells 95 = .ok (.iaload, 1) := by decide +kernel
theorem dX6_regularTells_96 : decode cX6_regularTells 96 = .ok (.ireturn, 1) := by decide +kernel
theorem dX6_regularTells_97 : decode cX6_regularTells 97 = .ok (.aload_n 0, 1) := by decide +kernel
theorem dX6_regularTells_98 : decode cX6_regularTells 98 = .ok (.getfield 54, 3) := by decide +kernel
theorem dX6_regularTells_101 : decode cX6_regularTells 101 = .ok (.bipush 6, 2) := by decide +kernel
theorem dX6_regularTells_103 : decode cX6_regularTells 103 = .ok (.iload_n 1, 1) := by decide +kernel
theorem dX6_regularTells_104 : decode cX6_regularTells 104 = .ok (.iadd, 1) := by decide +kernel
theorem dX6_regularTells_105 : decode cX6_regularTells 105 = .ok (.iaload, 1) := by decide +kernel
theorem dX6_regularTells_106 : decode cX6_regularTells 106 = .ok (.ireturn, 1) := by decide +kernel
theorem dX6_regularTells_107 : decode cX6_regularTells 107 = .ok (.aload_n 0, 1) := by decide +kernel
theorem dX6_regularTells_108 : decode cX6_regularTells 108 = .ok (.iload_n 1, 1) := by decide +kernel
theorem dX6_regularTells_109 : decode cX6_regularTells 109 = .ok (.invokevirtual 157, 3) := by decide +kernel
theorem dX6_regularTells_112 : decode cX6_regularTells 112 = .ok (.ireturn, 1) := by decide +kernel
theorem dX6_regular_0 : decode cX6_regular 0 = .ok (.aload_n 0, 1) := by decide +kernel
theorem dX6_regular_1 : decode cX6_regular 1 = .ok (.iload_n 1, 1) := by decide +kernel
theorem dX6_regular_2 : decode cX6_regular 2 = .ok (.invokevirtual 163, 3) := by decide +kernel
theorem dX6_regular_5 : decode cX6_regular 5 = .ok (.ifCond .eq 27, 3) := by decide +kernel
theorem dX6_regular_8 : decode cX6_regular 8 = .ok (.iload_n 2, 1) := by decide +kernel
theorem dX6_regular_9 : decode cX6_regular 9 = .ok (.iconst 0, 1) := by decide +kernel
theorem dX6_regular_10 : decode cX6_regular 10 = .ok (.bipush 8, 2) := by decide +kernel
theorem dX6_regular_12 : decode cX6_regular 12 = .ok (.invokestatic 83, 3) := by decide +kernel
theorem dX6_regular_15 : decode cX6_regular 15 = .ok (.ifCond .eq 17, 3) := by decide +kernel
theorem dX6_regular_18 : decode cX6_regular 18 = .ok (.aload_n 0, 1) := by decide +kernel
theorem dX6_regular_19 : decode cX6_regular 19 = .ok (.aload_n 0, 1) := by decide +kernel
theorem dX6_regular_20 : decode cX6_regular 20 = .ok (.iload_n 1, 1) := by decide +kernel
theorem dX6_regular_21 : decode cX6_regular 21 = .ok (.iload_n 2, 1) := by decide +kernel
theorem dX6_regular_22 : decode cX6_regular 22 = .ok (.invokevirtual 166, 3) := by decide +kernel
theorem dX6_regular_25 : decode cX6_regular 25 = .ok (.iconst 1, 1) := by decide +kernel
theorem dX6_regular_26 : decode cX6_regular 26 = .ok (.invokevirtual 105, 3) := by decide +kernel
theorem dX6_regular_29 : decode cX6_regular 29 = .ok (.goto 4, 3) := by decide +kernel
theorem dX6_regular_32 : decode cX6_regular 32 = .ok (.iconst (-1), 1) := by decide +kernel
theorem dX6_regular_33 : decode cX6_regular 33 = .ok (.ireturn, 1) := by decide +kernel
theorem dX6_soursBy_0 : decode cX6_soursBy 0 = .ok (.iconst 0, 1) := by decide +kernel
theorem dX6_soursBy_1 : decode cX6_soursBy 1 = .ok (.istore_n 2, 1) := by decide +kernel
theorem dX6_soursBy_2 : decode cX6_soursBy 2 = .ok (.iconst 0, 1) := by decide +kernel
theorem dX6_soursBy_3 : decode cX6_soursBy 3 = .ok (.istore_n 3, 1) := by decide +kernel
theorem dX6_soursBy_4 : decode cX6_soursBy 4 = .ok (.iload_n 3, 1) := by decide +kernel
theorem dX6_soursBy_5 : decode cX6_soursBy 5 = .ok (.bipush 6, 2) := by decide +kernel
theorem dX6_soursBy_7 : decode cX6_soursBy 7 = .ok (.if_icmp .ge 26, 3) := by decide +kernel
theorem dX6_soursBy_10 : decode cX6_soursBy 10 = .ok (.iload_n 2, 1) := by decide +kernel
theorem dX6_soursBy_11 : decode cX6_soursBy 11 = .ok (.aload_n 0, 1) := by decide +kernel
theorem dX6_soursBy_12 : decode cX6_soursBy 12 = .ok (.iload_n 1, 1) := by decide +kernel
theorem dX6_soursBy_13 : decode cX6_soursBy 13 = .ok (.iload_n 3, 1) := by decide +kernel
theorem dX6_soursBy_14 : decode cX6_soursBy 14 = .ok (.invokevirtual 169, 3) := by decide +kernel
theorem dX6_soursBy_17 : decode cX6_soursBy 17 = .ok (.ifCond .eq 7, 3) := by decide +kernel
theorem dX6_soursBy_20 : decode cX6_soursBy 20 = .ok (.iconst 1, 1) := by decide +kernel
theorem dX6_soursBy_21 : decode cX6_soursBy 21 = .ok (.goto 4, 3) := by decide +kernel
theorem dX6_soursBy_24 : decode cX6_soursBy 24 = .ok (.iconst 0, 1) := by decide +kernel
theorem dX6_soursBy_25 : decode cX6_soursBy 25 = .ok (.iadd, 1) := by decide +kernel
theorem dX6_soursBy_26 : decode cX6_soursBy 26 = .ok (.istore_n 2, 1) := by decide +kernel
theorem dX6_soursBy_27 : decode cX6_soursBy 27 = .ok (.iinc 3 1, 3) := by decide +kernel
theorem dX6_soursBy_30 : decode cX6_soursBy 30 = .ok (.goto (-26), 3) := by decide +kernel
theorem dX6_soursBy_33 : decode cX6_soursBy 33 = .ok (.iload_n 2, 1) := by decide +kernel
theorem dX6_soursBy_34 : decode cX6_soursBy 34 = .ok (.ireturn, 1) := by decide +kernel
theorem dX6_changesIn_0 : decode cX6_changesIn 0 = .ok (.iconst 1, 1) := by decide +kernel
theorem dX6_changesIn_1 : decode cX6_changesIn 1 = .ok (.istore_n 2, 1) := by decide +kernel
theorem dX6_changesIn_2 : decode cX6_changesIn 2 = .ok (.iload_n 2, 1) := by decide +kernel
theorem dX6_changesIn_3 : decode cX6_changesIn 3 = .ok (.bipush 10, 2) := by decide +kernel
theorem dX6_changesIn_5 : decode cX6_changesIn 5 = .ok (.if_icmp .ge 33, 3) := by decide +kernel
theorem dX6_changesIn_8 : decode cX6_changesIn 8 = .ok (.aload_n 0, 1) := by decide +kernel
theorem dX6_changesIn_9 : decode cX6_changesIn 9 = .ok (.iload_n 1, 1) := by decide +kernel
theorem dX6_changesIn_10 : decode cX6_changesIn 10 = .ok (.aload_n 0, 1) := by decide +kernel
theorem dX6_changesIn_11 : decode cX6_changesIn 11 = .ok (.getfield 54, 3) := by decide +kernel
theorem dX6_changesIn_14 : decode cX6_changesIn 14 = .ok (.bipush 12, 2) := by decide +kernel
theorem dX6_changesIn_16 : decode cX6_changesIn 16 = .ok (.iaload, 1) := by decide +kernel
theorem dX6_changesIn_17 : decode cX6_changesIn 17 = .ok (.iload_n 2, 1) := by decide +kernel
theorem dX6_changesIn_18 : decode cX6_changesIn 18 = .ok (.iadd, 1) := by decide +kernel
theorem dX6_changesIn_19 : decode cX6_changesIn 19 = .ok (.invokevirtual 148, 3) := by decide +kernel
theorem dX6_changesIn_22 : decode cX6_changesIn 22 = .ok (.aload_n 0, 1) := by decide +kernel
theorem dX6_changesIn_23 : decode cX6_changesIn 23 = .ok (.iload_n 1, 1) := by decide +kernel
theorem dX6_changesIn_24 : decode cX6_changesIn 24 = .ok (.invokevirtual 157, 3) := by decide +kernel
theorem dX6_changesIn_27 : decode cX6_changesIn 27 = .ok (.if_icmp .eq 5, 3) := by decide +kernel
theorem dX6_changesIn_30 : decode cX6_changesIn 30 = .ok (.iload_n 2, 1) := by decide +kernel
theorem dX6_changesIn_31 : decode cX6_changesIn 31 = .ok (.ireturn, 1) := by decide +kernel
theorem dX6_changesIn_32 : decode cX6_changesIn 32 = .ok (.iinc 2 1, 3) := by decide +kernel
theorem dX6_changesIn_35 : decode cX6_changesIn 35 = .ok (.goto (-33), 3) := by decide +kernel
theorem dX6_changesIn_38 : decode cX6_changesIn 38 = .ok (.bipush (-9), 2) := by decide +kernel
theorem dX6_changesIn_40 : decode cX6_changesIn 40 = .ok (.ireturn, 1) := by decide +kernel
theorem dX6_looksLike_0 : decode cX6_looksLike 0 = .ok (.iconst 0, 1) := by decide +kernel
theorem dX6_looksLike_1 : decode cX6_looksLike 1 = .ok (.istore_n 2, 1) := by decide +kernel
theorem dX6_looksLike_2 : decode cX6_looksLike 2 = .ok (.iconst 0, 1) := by decide +kernel
theorem dX6_looksLike_3 : decode cX6_looksLike 3 = .ok (.istore_n 3, 1) := by decide +kernel
theorem dX6_looksLike_4 : decode cX6_looksLike 4 = .ok (.iload_n 3, 1) := by decide +kernel
theorem dX6_looksLike_5 : decode cX6_looksLike 5 = .ok (.aload_n 0, 1) := by decide +kernel
theorem dX6_looksLike_6 : decode cX6_looksLike 6 = .ok (.getfield 135, 3) := by decide +kernel
theorem dX6_looksLike_9 : decode cX6_looksLike 9 = .ok (.if_icmp .ge 52, 3) := by decide +kernel
theorem dX6_looksLike_12 : decode cX6_looksLike 12 = .ok (.iload_n 2, 1) := by decide +kernel
theorem dX6_looksLike_13 : decode cX6_looksLike 13 = .ok (.iload_n 3, 1) := by decide +kernel
theorem dX6_looksLike_14 : decode cX6_looksLike 14 = .ok (.iload_n 1, 1) := by decide +kernel
theorem dX6_looksLike_15 : decode cX6_looksLike 15 = .ok (.if_icmp .eq 37, 3) := by decide +kernel
theorem dX6_looksLike_18 : decode cX6_looksLike 18 = .ok (.aload_n 0, 1) := by decide +kernel
theorem dX6_looksLike_19 : decode cX6_looksLike 19 = .ok (.getfield 36, 3) := by decide +kernel
theorem dX6_looksLike_22 : decode cX6_looksLike 22 = .ok (.iload_n 3, 1) := by decide +kernel
theorem dX6_looksLike_23 : decode cX6_looksLike 23 = .ok (.iaload, 1) := by decide +kernel
theorem dX6_looksLike_24 : decode cX6_looksLike 24 = .ok (.aload_n 0, 1) := by decide +kernel
theorem dX6_looksLike_25 : decode cX6_looksLike 25 = .ok (.getfield 36, 3) := by decide +kernel
theorem dX6_looksLike_28 : decode cX6_looksLike 28 = .ok (.iload_n 1, 1) := by decide +kernel
theorem dX6_looksLike_29 : decode cX6_looksLike 29 = .ok (.iaload, 1) := by decide +kernel
theorem dX6_looksLike_30 : decode cX6_looksLike 30 = .ok (.if_icmp .ne 22, 3) := by decide +kernel
theorem dX6_looksLike_33 : decode cX6_looksLike 33 = .ok (.aload_n 0, 1) := by decide +kernel
theorem dX6_looksLike_34 : decode cX6_looksLike 34 = .ok (.getfield 39, 3) := by decide +kernel
theorem dX6_looksLike_37 : decode cX6_looksLike 37 = .ok (.iload_n 3, 1) := by decide +kernel
theorem dX6_looksLike_38 : decode cX6_looksLike 38 = .ok (.iaload, 1) := by decide +kernel
theorem dX6_looksLike_39 : decode cX6_looksLike 39 = .ok (.aload_n 0, 1) := by decide +kernel
theorem dX6_looksLike_40 : decode cX6_looksLike 40 = .ok (.getfield 39, 3) := by decide +kernel
theorem dX6_looksLike_43 : decode cX6_looksLike 43 = .ok (.iload_n 1, 1) := by decide +kernel
theorem dX6_looksLike_44 : decode cX6_looksLike 44 = .ok (.iaload, 1) := by decide +kernel
theorem dX6_looksLike_45 : decode cX6_looksLike 45 = .ok (.if_icmp .ne 7, 3) := by decide +kernel
theorem dX6_looksLike_48 : decode cX6_looksLike 48 = .ok (.iconst 1, 1) := by decide +kernel
theorem dX6_looksLike_49 : decode cX6_looksLike 49 = .ok (.goto 4, 3) := by decide +kernel
theorem dX6_looksLike_52 : decode cX6_looksLike 52 = .ok (.iconst 0, 1) := by decide +kernel
theorem dX6_looksLike_53 : decode cX6_looksLike 53 = .ok (.iadd, 1) := by decide +kernel
theorem dX6_looksLike_54 : decode cX6_looksLike 54 = .ok (.istore_n 2, 1) := by decide +kernel
theorem dX6_looksLike_55 : decode cX6_looksLike 55 = .ok (.iinc 3 1, 3) := by decide +kernel
theorem dX6_looksLike_58 : decode cX6_looksLike 58 = .ok (.goto (-54), 3) := by decide +kernel
theorem dX6_looksLike_61 : decode cX6_looksLike 61 = .ok (.iload_n 2, 1) := by decide +kernel
theorem dX6_looksLike_62 : decode cX6_looksLike 62 = .ok (.ireturn, 1) := by decide +kernel
theorem dX6_othersOf_0 : decode cX6_othersOf 0 = .ok (.iconst 0, 1) := by decide +kernel
theorem dX6_othersOf_1 : decode cX6_othersOf 1 = .ok (.istore_n 2, 1) := by decide +kernel
theorem dX6_othersOf_2 : decode cX6_othersOf 2 = .ok (.iconst 0, 1) := by decide +kernel
theorem dX6_othersOf_3 : decode cX6_othersOf 3 = .ok (.istore_n 3, 1) := by decide +kernel
theorem dX6_othersOf_4 : decode cX6_othersOf 4 = .ok (.iload_n 3, 1) := by decide +kernel
theorem dX6_othersOf_5 : decode cX6_othersOf 5 = .ok (.bipush 10, 2) := by decide +kernel
theorem dX6_othersOf_7 : decode cX6_othersOf 7 = .ok (.if_icmp .ge 32, 3) := by decide +kernel
theorem dX6_othersOf_10 : decode cX6_othersOf 10 = .ok (.iload_n 2, 1) := by decide +kernel
theorem dX6_othersOf_11 : decode cX6_othersOf 11 = .ok (.aload_n 0, 1) := by decide +kernel
theorem dX6_othersOf_12 : decode cX6_othersOf 12 = .ok (.iload_n 1, 1) := by decide +kernel
theorem dX6_othersOf_13 : decode cX6_othersOf 13 = .ok (.iload_n 3, 1) := by decide +kernel
theorem dX6_othersOf_14 : decode cX6_othersOf 14 = .ok (.invokevirtual 148, 3) := by decide +kernel
theorem dX6_othersOf_17 : decode cX6_othersOf 17 = .ok (.aload_n 0, 1) := by decide +kernel
theorem dX6_othersOf_18 : decode cX6_othersOf 18 = .ok (.getfield 45, 3) := by decide +kernel
theorem dX6_othersOf_21 : decode cX6_othersOf 21 = .ok (.iload_n 1, 1) := by decide +kernel
theorem dX6_othersOf_22 : decode cX6_othersOf 22 = .ok (.iaload, 1) := by decide +kernel
theorem dX6_othersOf_23 : decode cX6_othersOf 23 = .ok (.if_icmp .ne 7, 3) := by decide +kernel
theorem dX6_othersOf_26 : decode cX6_othersOf 26 = .ok (.iconst 1, 1) := by decide +kernel
theorem dX6_othersOf_27 : decode cX6_othersOf 27 = .ok (.goto 4, 3) := by decide +kernel
theorem dX6_othersOf_30 : decode cX6_othersOf 30 = .ok (.iconst 0, 1) := by decide +kernel
theorem dX6_othersOf_31 : decode cX6_othersOf 31 = .ok (.iadd, 1) := by decide +kernel
theorem dX6_othersOf_32 : decode cX6_othersOf 32 = .ok (.istore_n 2, 1) := by decide +kernel
theorem dX6_othersOf_33 : decode cX6_othersOf 33 = .ok (.iinc 3 1, 3) := by decide +kernel
theorem dX6_othersOf_36 : decode cX6_othersOf 36 = .ok (.goto (-32), 3) := by decide +kernel
theorem dX6_othersOf_39 : decode cX6_othersOf 39 = .ok (.iload_n 2, 1) := by decide +kernel
theorem dX6_othersOf_40 : decode cX6_othersOf 40 = .ok (.ireturn, 1) := by decide +kernel
theorem dX6_mark_0 : decode cX6_mark 0 = .ok (.aload_n 0, 1) := by decide +kernel
theorem dX6_mark_1 : decode cX6_mark 1 = .ok (.iload_n 1, 1) := by decide +kernel
theorem dX6_mark_2 : decode cX6_mark 2 = .ok (.invokevirtual 163, 3) := by decide +kernel
theorem dX6_mark_5 : decode cX6_mark 5 = .ok (.ifCond .eq 12, 3) := by decide +kernel
theorem dX6_mark_8 : decode cX6_mark 8 = .ok (.iload_n 2, 1) := by decide +kernel
theorem dX6_mark_9 : decode cX6_mark 9 = .ok (.iconst 1, 1) := by decide +kernel
theorem dX6_mark_10 : decode cX6_mark 10 = .ok (.iconst 5, 1) := by decide +kernel
theorem dX6_mark_11 : decode cX6_mark 11 = .ok (.invokestatic 83, 3) := by decide +kernel
theorem dX6_mark_14 : decode cX6_mark 14 = .ok (.ifCond .ne 5, 3) := by decide +kernel
theorem dX6_mark_17 : decode cX6_mark 17 = .ok (.iconst (-1), 1) := by decide +kernel
theorem dX6_mark_18 : decode cX6_mark 18 = .ok (.ireturn, 1) := by decide +kernel
theorem dX6_mark_19 : decode cX6_mark 19 = .ok (.aload_n 0, 1) := by decide +kernel
theorem dX6_mark_20 : decode cX6_mark 20 = .ok (.getfield 33, 3) := by decide +kernel
theorem dX6_mark_23 : decode cX6_mark 23 = .ok (.iload_n 1, 1) := by decide +kernel
theorem dX6_mark_24 : decode cX6_mark 24 = .ok (.iaload, 1) := by decide +kernel
theorem dX6_mark_25 : decode cX6_mark 25 = .ok (.istore_n 3, 1) := by decide +kernel
theorem dX6_mark_26 : decode cX6_mark 26 = .ok (.iload_n 3, 1) := by decide +kernel
theorem dX6_mark_27 : decode cX6_mark 27 = .ok (.iload_n 2, 1) := by decide +kernel
theorem dX6_mark_28 : decode cX6_mark 28 = .ok (.if_icmp .eq 29, 3) := by decide +kernel
theorem dX6_mark_31 : decode cX6_mark 31 = .ok (.iload_n 2, 1) := by decide +kernel
theorem dX6_mark_32 : decode cX6_mark 32 = .ok (.iconst 1, 1) := by decide +kernel
theorem dX6_mark_33 : decode cX6_mark 33 = .ok (.if_icmp .ne 8, 3) := by decide +kernel
theorem dX6_mark_36 : decode cX6_mark 36 = .ok (.iload_n 3, 1) := by decide +kernel
theorem dX6_mark_37 : decode cX6_mark 37 = .ok (.iconst 4, 1) := by decide +kernel
theorem dX6_mark_38 : decode cX6_mark 38 = .ok (.if_icmp .eq 19, 3) := by decide +kernel
theorem dX6_mark_41 : decode cX6_mark 41 = .ok (.iload_n 2, 1) := by decide +kernel
theorem dX6_mark_42 : decode cX6_mark 42 = .ok (.iconst 2, 1) := by decide +kernel
theorem dX6_mark_43 : decode cX6_mark 43 = .ok (.if_icmp .ne 8, 3) := by decide +kernel
theorem dX6_mark_46 : decode cX6_mark 46 = .ok (.iload_n 3, 1) := by decide +kernel
theorem dX6_mark_47 : decode cX6_mark 47 = .ok (.iconst 5, 1) := by decide +kernel
theorem dX6_mark_48 : decode cX6_mark 48 = .ok (.if_icmp .eq 9, 3) := by decide +kernel
theorem dX6_mark_51 : decode cX6_mark 51 = .ok (.aload_n 0, 1) := by decide +kernel
theorem dX6_mark_52 : decode cX6_mark 52 = .ok (.iconst 3, 1) := by decide +kernel
theorem dX6_mark_53 : decode cX6_mark 53 = .ok (.invokevirtual 97, 3) := by decide +kernel
theorem dX6_mark_56 : decode cX6_mark 56 = .ok (.ireturn, 1) := by decide +kernel
theorem dX6_mark_57 : decode cX6_mark 57 = .ok (.iload_n 2, 1) := by decide +kernel
theorem dX6_mark_58 : decode cX6_mark 58 = .ok (.tableswitch 60 1 4 #[30, 36, 42, 54], 30) := by decide +kernel
theorem dX6_mark_88 : decode cX6_mark 88 = .ok (.aload_n 0, 1) := by decide +kernel
theorem dX6_mark_89 : decode cX6_mark 89 = .ok (.iload_n 1, 1) := by decide +kernel
theorem dX6_mark_90 : decode cX6_mark 90 = .ok (.invokevirtual 172, 3) := by decide +kernel
theorem dX6_mark_93 : decode cX6_mark 93 = .ok (.ireturn, 1) := by decide +kernel
theorem dX6_mark_94 : decode cX6_mark 94 = .ok (.aload_n 0, 1) := by decide +kernel
theorem dX6_mark_95 : decode cX6_mark 95 = .ok (.iload_n 1, 1) := by decide +kernel
theorem dX6_mark_96 : decode cX6_mark 96 = .ok (.invokevirtual 175, 3) := by decide +kernel
theorem dX6_mark_99 : decode cX6_mark 99 = .ok (.ireturn, 1) := by decide +kernel
theorem dX6_mark_100 : decode cX6_mark 100 = .ok (.bipush 9, 2) := by decide +kernel
theorem dX6_mark_102 : decode cX6_mark 102 = .ok (.aload_n 0, 1) := by decide +kernel
theorem dX6_mark_103 : decode cX6_mark 103 = .ok (.iload_n 1, 1) := by decide +kernel
theorem dX6_mark_104 : decode cX6_mark 104 = .ok (.invokevirtual 160, 3) := by decide +kernel
theorem dX6_mark_107 : decode cX6_mark 107 = .ok (.iadd, 1) := by decide +kernel
theorem dX6_mark_108 : decode cX6_mark 108 = .ok (.bipush 20, 2) := by decide +kernel
theorem dX6_mark_110 : decode cX6_mark 110 = .ok (.iadd, 1) := by decide +kernel
theorem dX6_mark_111 : decode cX6_mark 111 = .ok (.ireturn, 1) := by decide +kernel
theorem dX6_mark_112 : decode cX6_mark 112 = .ok (.aload_n 0, 1) := by decide +kernel
theorem dX6_mark_113 : decode cX6_mark 113 = .ok (.iload_n 1, 1) := by decide +kernel
theorem dX6_mark_114 : decode cX6_mark 114 = .ok (.invokevirtual 178, 3) := by decide +kernel
theorem dX6_mark_117 : decode cX6_mark 117 = .ok (.ireturn, 1) := by decide +kernel
theorem dX6_mark_118 : decode cX6_mark 118 = .ok (.aload_n 0, 1) := by decide +kernel
theorem dX6_mark_119 : decode cX6_mark 119 = .ok (.iload_n 1, 1) := by decide +kernel
theorem dX6_mark_120 : decode cX6_mark 120 = .ok (.invokevirtual 181, 3) := by decide +kernel
theorem dX6_mark_123 : decode cX6_mark 123 = .ok (.ireturn, 1) := by decide +kernel
theorem dX6_other_0 : decode cX6_other 0 = .ok (.aload_n 0, 1) := by decide +kernel
theorem dX6_other_1 : decode cX6_other 1 = .ok (.iload_n 1, 1) := by decide +kernel
theorem dX6_other_2 : decode cX6_other 2 = .ok (.invokevirtual 163, 3) := by decide +kernel
theorem dX6_other_5 : decode cX6_other 5 = .ok (.ifCond .eq 10, 3) := by decide +kernel
theorem dX6_other_8 : decode cX6_other 8 = .ok (.iload_n 2, 1) := by decide +kernel
theorem dX6_other_9 : decode cX6_other 9 = .ok (.invokestatic 141, 3) := by decide +kernel
theorem dX6_other_12 : decode cX6_other 12 = .ok (.ifCond .ne 5, 3) := by decide +kernel
theorem dX6_other_15 : decode cX6_other 15 = .ok (.iconst (-1), 1) := by decide +kernel
theorem dX6_other_16 : decode cX6_other 16 = .ok (.ireturn, 1) := by decide +kernel
theorem dX6_other_17 : decode cX6_other 17 = .ok (.aload_n 0, 1) := by decide +kernel
theorem dX6_other_18 : decode cX6_other 18 = .ok (.getfield 138, 3) := by decide +kernel
theorem dX6_other_21 : decode cX6_other 21 = .ok (.ifCond .le 6, 3) := by decide +kernel
theorem dX6_other_24 : decode cX6_other 24 = .ok (.bipush (-4), 2) := by decide +kernel
theorem dX6_other_26 : decode cX6_other 26 = .ok (.ireturn, 1) := by decide +kernel
theorem dX6_other_27 : decode cX6_other 27 = .ok (.aload_n 0, 1) := by decide +kernel
theorem dX6_other_28 : decode cX6_other 28 = .ok (.getfield 45, 3) := by decide +kernel
theorem dX6_other_31 : decode cX6_other 31 = .ok (.iload_n 1, 1) := by decide +kernel
theorem dX6_other_32 : decode cX6_other 32 = .ok (.iaload, 1) := by decide +kernel
theorem dX6_other_33 : decode cX6_other 33 = .ok (.istore_n 3, 1) := by decide +kernel
theorem dX6_other_34 : decode cX6_other 34 = .ok (.aload_n 0, 1) := by decide +kernel
theorem dX6_other_35 : decode cX6_other 35 = .ok (.getfield 45, 3) := by decide +kernel
theorem dX6_other_38 : decode cX6_other 38 = .ok (.iload_n 1, 1) := by decide +kernel
theorem dX6_other_39 : decode cX6_other 39 = .ok (.iload_n 2, 1) := by decide +kernel
theorem dX6_other_40 : decode cX6_other 40 = .ok (.iastore, 1) := by decide +kernel
theorem dX6_other_41 : decode cX6_other 41 = .ok (.iload_n 3, 1) := by decide +kernel
theorem dX6_other_42 : decode cX6_other 42 = .ok (.ireturn, 1) := by decide +kernel
theorem dX6_remember_0 : decode cX6_remember 0 = .ok (.iconst 0, 1) := by decide +kernel
theorem dX6_remember_1 : decode cX6_remember 1 = .ok (.istore_n 1, 1) := by decide +kernel
theorem dX6_remember_2 : decode cX6_remember 2 = .ok (.iload_n 1, 1) := by decide +kernel
theorem dX6_remember_3 : decode cX6_remember 3 = .ok (.bipush 14, 2) := by decide +kernel
theorem dX6_remember_5 : decode cX6_remember 5 = .ok (.if_icmp .ge 29, 3) := by decide +kernel
theorem dX6_remember_8 : decode cX6_remember 8 = .ok (.aload_n 0, 1) := by decide +kernel
theorem dX6_remember_9 : decode cX6_remember 9 = .ok (.getfield 57, 3) := by decide +kernel
theorem dX6_remember_12 : decode cX6_remember 12 = .ok (.bipush 14, 2) := by decide +kernel
theorem dX6_remember_14 : decode cX6_remember 14 = .ok (.aload_n 0, 1) := by decide +kernel
theorem dX6_remember_15 : decode cX6_remember 15 = .ok (.getfield 138, 3) := by decide +kernel
theorem dX6_remember_18 : decode cX6_remember 18 = .ok (.imul, 1) := by decide +kernel
theorem dX6_remember_19 : decode cX6_remember 19 = .ok (.iload_n 1, 1) := by decide +kernel
theorem dX6_remember_20 : decode cX6_remember 20 = .ok (.iadd, 1) := by decide +kernel
theorem dX6_remember_21 : decode cX6_remember 21 = .ok (.aload_n 0, 1) := by decide +kernel
theorem dX6_remember_22 : decode cX6_remember 22 = .ok (.getfield 54, 3) := by decide +kernel
theorem dX6_remember_25 : decode cX6_remember 25 = .ok (.iload_n 1, 1) := by decide +kernel
theorem dX6_remember_26 : decode cX6_remember 26 = .ok (.iaload, 1) := by decide +kernel
theorem dX6_remember_27 : decode cX6_remember 27 = .ok (.iastore, 1) := by decide +kernel
theorem dX6_remember_28 : decode cX6_remember 28 = .ok (.iinc 1 1, 3) := by decide +kernel
theorem dX6_remember_31 : decode cX6_remember 31 = .ok (.goto (-29), 3) := by decide +kernel
theorem dX6_remember_34 : decode cX6_remember 34 = .ok (.aload_n 0, 1) := by decide +kernel
theorem dX6_remember_35 : decode cX6_remember 35 = .ok (.dup, 1) := by decide +kernel
theorem dX6_remember_36 : decode cX6_remember 36 = .ok (.getfield 138, 3) := by decide +kernel
theorem dX6_remember_39 : decode cX6_remember 39 = .ok (.iconst 1, 1) := by decide +kernel
theorem dX6_remember_40 : decode cX6_remember 40 = .ok (.iadd, 1) := by decide +kernel
theorem dX6_remember_41 : decode cX6_remember 41 = .ok (.putfield 138, 3) := by decide +kernel
theorem dX6_remember_44 : decode cX6_remember 44 = .ok (.return_, 1) := by decide +kernel
theorem dX6_serves_0 : decode cX6_serves 0 = .ok (.aload_n 0, 1) := by decide +kernel
theorem dX6_serves_1 : decode cX6_serves 1 = .ok (.iload_n 1, 1) := by decide +kernel
theorem dX6_serves_2 : decode cX6_serves 2 = .ok (.iload_n 2, 1) := by decide +kernel
theorem dX6_serves_3 : decode cX6_serves 3 = .ok (.invokevirtual 184, 3) := by decide +kernel
theorem dX6_serves_6 : decode cX6_serves 6 = .ok (.istore_n 3, 1) := by decide +kernel
theorem dX6_serves_7 : decode cX6_serves 7 = .ok (.aload_n 0, 1) := by decide +kernel
theorem dX6_serves_8 : decode cX6_serves 8 = .ok (.iload_n 1, 1) := by decide +kernel
theorem dX6_serves_9 : decode cX6_serves 9 = .ok (.iload_n 2, 1) := by decide +kernel
theorem dX6_serves_10 : decode cX6_serves 10 = .ok (.invokevirtual 169, 3) := by decide +kernel
theorem dX6_serves_13 : decode cX6_serves 13 = .ok (.istore 4, 2) := by decide +kernel
theorem dX6_serves_15 : decode cX6_serves 15 = .ok (.aload_n 0, 1) := by decide +kernel
theorem dX6_serves_16 : decode cX6_serves 16 = .ok (.invokevirtual 187, 3) := by decide +kernel
theorem dX6_serves_19 : decode cX6_serves 19 = .ok (.aload_n 0, 1) := by decide +kernel
theorem dX6_serves_20 : decode cX6_serves 20 = .ok (.getfield 54, 3) := by decide +kernel
theorem dX6_serves_23 : decode cX6_serves 23 = .ok (.iload_n 1, 1) := by decide +kernel
theorem dX6_serves_24 : decode cX6_serves 24 = .ok (.dup2, 1) := by decide +kernel
theorem dX6_serves_25 : decode cX6_serves 25 = .ok (.iaload, 1) := by decide +kernel
theorem dX6_serves_26 : decode cX6_serves 26 = .ok (.iconst 1, 1) := by decide +kernel
theorem dX6_serves_27 : decode cX6_serves 27 = .ok (.iadd, 1) := by decide +kernel
theorem dX6_serves_28 : decode cX6_serves 28 = .ok (.iastore, 1) := by decide +kernel
theorem dX6_serves_29 : decode cX6_serves 29 = .ok (.aload_n 0, 1) := by decide +kernel
theorem dX6_serves_30 : decode cX6_serves 30 = .ok (.getfield 54, 3) := by decide +kernel
theorem dX6_serves_33 : decode cX6_serves 33 = .ok (.bipush 6, 2) := by decide +kernel
theorem dX6_serves_35 : decode cX6_serves 35 = .ok (.iload_n 1, 1) := by decide +kernel
theorem dX6_serves_36 : decode cX6_serves 36 = .ok (.iadd, 1) := by decide +kernel
theorem dX6_serves_37 : decode cX6_serves 37 = .ok (.dup2, 1) := by decide +kernel
theorem dX6_serves_38 : decode cX6_serves 38 = .ok (.iaload, 1) := by decide +kernel
theorem dX6_serves_39 : decode cX6_serves 39 = .ok (.iload 4, 2) := by decide +kernel
theorem dX6_serves_41 : decode cX6_serves 41 = .ok (.ifCond .eq 7, 3) := by decide +kernel
theorem dX6_serves_44 : decode cX6_serves 44 = .ok (.iconst 1, 1) := by decide +kernel
theorem dX6_serves_45 : decode cX6_serves 45 = .ok (.goto 4, 3) := by decide +kernel
theorem dX6_serves_48 : decode cX6_serves 48 = .ok (.iconst 0, 1) := by decide +kernel
theorem dX6_serves_49 : decode cX6_serves 49 = .ok (.iadd, 1) := by decide +kernel
theorem dX6_serves_50 : decode cX6_serves 50 = .ok (.iastore, 1) := by decide +kernel
theorem dX6_serves_51 : decode cX6_serves 51 = .ok (.aload_n 0, 1) := by decide +kernel
theorem dX6_serves_52 : decode cX6_serves 52 = .ok (.getfield 54, 3) := by decide +kernel
theorem dX6_serves_55 : decode cX6_serves 55 = .ok (.bipush 13, 2) := by decide +kernel
theorem dX6_serves_57 : decode cX6_serves 57 = .ok (.dup2, 1) := by decide +kernel
theorem dX6_serves_58 : decode cX6_serves 58 = .ok (.iaload, 1) := by decide +kernel
theorem dX6_serves_59 : decode cX6_serves 59 = .ok (.iload_n 3, 1) := by decide +kernel
theorem dX6_serves_60 : decode cX6_serves 60 = .ok (.iadd, 1) := by decide +kernel
theorem dX6_serves_61 : decode cX6_serves 61 = .ok (.iastore, 1) := by decide +kernel
theorem dX6_serves_62 : decode cX6_serves 62 = .ok (.iload_n 3, 1) := by decide +kernel
theorem dX6_serves_63 : decode cX6_serves 63 = .ok (.ireturn, 1) := by decide +kernel
theorem dX6_serve_0 : decode cX6_serve 0 = .ok (.aload_n 0, 1) := by decide +kernel
theorem dX6_serve_1 : decode cX6_serve 1 = .ok (.iload_n 1, 1) := by decide +kernel
theorem dX6_serve_2 : decode cX6_serve 2 = .ok (.invokevirtual 163, 3) := by decide +kernel
theorem dX6_serve_5 : decode cX6_serve 5 = .ok (.ifCond .eq 10, 3) := by decide +kernel
theorem dX6_serve_8 : decode cX6_serve 8 = .ok (.iload_n 2, 1) := by decide +kernel
theorem dX6_serve_9 : decode cX6_serve 9 = .ok (.invokestatic 190, 3) := by decide +kernel
theorem dX6_serve_12 : decode cX6_serve 12 = .ok (.ifCond .ne 5, 3) := by decide +kernel
theorem dX6_serve_15 : decode cX6_serve 15 = .ok (.iconst (-1), 1) := by decide +kernel
theorem dX6_serve_16 : decode cX6_serve 16 = .ok (.ireturn, 1) := by decide +kernel
theorem dX6_serve_17 : decode cX6_serve 17 = .ok (.aload_n 0, 1) := by decide +kernel
theorem dX6_serve_18 : decode cX6_serve 18 = .ok (.getfield 54, 3) := by decide +kernel
theorem dX6_serve_21 : decode cX6_serve 21 = .ok (.bipush 13, 2) := by decide +kernel
theorem dX6_serve_23 : decode cX6_serve 23 = .ok (.iaload, 1) := by decide +kernel
theorem dX6_serve_24 : decode cX6_serve 24 = .ok (.aload_n 0, 1) := by decide +kernel
theorem dX6_serve_25 : decode cX6_serve 25 = .ok (.iload_n 1, 1) := by decide +kernel
theorem dX6_serve_26 : decode cX6_serve 26 = .ok (.iload_n 2, 1) := by decide +kernel
theorem dX6_serve_27 : decode cX6_serve 27 = .ok (.invokevirtual 184, 3) := by decide +kernel
theorem dX6_serve_30 : decode cX6_serve 30 = .ok (.iadd, 1) := by decide +kernel
theorem dX6_serve_31 : decode cX6_serve 31 = .ok (.sipush 9999, 3) := by decide +kernel
theorem dX6_serve_34 : decode cX6_serve 34 = .ok (.if_icmp .le 6, 3) := by decide +kernel
theorem dX6_serve_37 : decode cX6_serve 37 = .ok (.bipush (-4), 2) := by decide +kernel
theorem dX6_serve_39 : decode cX6_serve 39 = .ok (.ireturn, 1) := by decide +kernel
theorem dX6_serve_40 : decode cX6_serve 40 = .ok (.aload_n 0, 1) := by decide +kernel
theorem dX6_serve_41 : decode cX6_serve 41 = .ok (.getfield 138, 3) := by decide +kernel
theorem dX6_serve_44 : decode cX6_serve 44 = .ok (.bipush 60, 2) := by decide +kernel
theorem dX6_serve_46 : decode cX6_serve 46 = .ok (.if_icmp .ne 8, 3) := by decide +kernel
theorem dX6_serve_49 : decode cX6_serve 49 = .ok (.bipush (-2), 2) := by decide +kernel
theorem dX6_serve_51 : decode cX6_serve 51 = .ok (.goto 9, 3) := by decide +kernel
theorem dX6_serve_54 : decode cX6_serve 54 = .ok (.aload_n 0, 1) := by decide +kernel
theorem dX6_serve_55 : decode cX6_serve 55 = .ok (.iload_n 1, 1) := by decide +kernel
theorem dX6_serve_56 : decode cX6_serve 56 = .ok (.iload_n 2, 1) := by decide +kernel
theorem dX6_serve_57 : decode cX6_serve 57 = .ok (.invokevirtual 193, 3) := by decide +kernel
theorem dX6_serve_60 : decode cX6_serve 60 = .ok (.ireturn, 1) := by decide +kernel
theorem dX6_morning_0 : decode cX6_morning 0 = .ok (.aload_n 0, 1) := by decide +kernel
theorem dX6_morning_1 : decode cX6_morning 1 = .ok (.getfield 135, 3) := by decide +kernel
theorem dX6_morning_4 : decode cX6_morning 4 = .ok (.ifCond .ne 6, 3) := by decide +kernel
theorem dX6_morning_7 : decode cX6_morning 7 = .ok (.bipush (-4), 2) := by decide +kernel
theorem dX6_morning_9 : decode cX6_morning 9 = .ok (.ireturn, 1) := by decide +kernel
theorem dX6_morning_10 : decode cX6_morning 10 = .ok (.aload_n 0, 1) := by decide +kernel
theorem dX6_morning_11 : decode cX6_morning 11 = .ok (.getfield 138, 3) := by decide +kernel
theorem dX6_morning_14 : decode cX6_morning 14 = .ok (.bipush 60, 2) := by decide +kernel
theorem dX6_morning_16 : decode cX6_morning 16 = .ok (.if_icmp .ne 6, 3) := by decide +kernel
theorem dX6_morning_19 : decode cX6_morning 19 = .ok (.bipush (-2), 2) := by decide +kernel
theorem dX6_morning_21 : decode cX6_morning 21 = .ok (.ireturn, 1) := by decide +kernel
theorem dX6_morning_22 : decode cX6_morning 22 = .ok (.aload_n 0, 1) := by decide +kernel
theorem dX6_morning_23 : decode cX6_morning 23 = .ok (.invokevirtual 187, 3) := by decide +kernel
theorem dX6_morning_26 : decode cX6_morning 26 = .ok (.aload_n 0, 1) := by decide +kernel
theorem dX6_morning_27 : decode cX6_morning 27 = .ok (.getfield 54, 3) := by decide +kernel
theorem dX6_morning_30 : decode cX6_morning 30 = .ok (.bipush 12, 2) := by decide +kernel
theorem dX6_morning_32 : decode cX6_morning 32 = .ok (.dup2, 1) := by decide +kernel
theorem dX6_morning_33 : decode cX6_morning 33 = .ok (.iaload, 1) := by decide +kernel
theorem dX6_morning_34 : decode cX6_morning 34 = .ok (.iconst 1, 1) := by decide +kernel
theorem dX6_morning_35 : decode cX6_morning 35 = .ok (.iadd, 1) := by decide +kernel
theorem dX6_morning_36 : decode cX6_morning 36 = .ok (.iastore, 1) := by decide +kernel
theorem dX6_morning_37 : decode cX6_morning 37 = .ok (.aload_n 0, 1) := by decide +kernel
theorem dX6_morning_38 : decode cX6_morning 38 = .ok (.getfield 54, 3) := by decide +kernel
theorem dX6_morning_41 : decode cX6_morning 41 = .ok (.bipush 13, 2) := by decide +kernel
theorem dX6_morning_43 : decode cX6_morning 43 = .ok (.iconst 0, 1) := by decide +kernel
theorem dX6_morning_44 : decode cX6_morning 44 = .ok (.iastore, 1) := by decide +kernel
theorem dX6_morning_45 : decode cX6_morning 45 = .ok (.aload_n 0, 1) := by decide +kernel
theorem dX6_morning_46 : decode cX6_morning 46 = .ok (.getfield 54, 3) := by decide +kernel
theorem dX6_morning_49 : decode cX6_morning 49 = .ok (.bipush 12, 2) := by decide +kernel
theorem dX6_morning_51 : decode cX6_morning 51 = .ok (.iaload, 1) := by decide +kernel
theorem dX6_morning_52 : decode cX6_morning 52 = .ok (.ireturn, 1) := by decide +kernel
theorem dX6_undo_0 : decode cX6_undo 0 = .ok (.iload_n 1, 1) := by decide +kernel
theorem dX6_undo_1 : decode cX6_undo 1 = .ok (.iconst 0, 1) := by decide +kernel
theorem dX6_undo_2 : decode cX6_undo 2 = .ok (.aload_n 0, 1) := by decide +kernel
theorem dX6_undo_3 : decode cX6_undo 3 = .ok (.getfield 138, 3) := by decide +kernel
theorem dX6_undo_6 : decode cX6_undo 6 = .ok (.invokestatic 83, 3) := by decide +kernel
theorem dX6_undo_9 : decode cX6_undo 9 = .ok (.ifCond .ne 5, 3) := by decide +kernel
theorem dX6_undo_12 : decode cX6_undo 12 = .ok (.iconst (-1), 1) := by decide +kernel
theorem dX6_undo_13 : decode cX6_undo 13 = .ok (.ireturn, 1) := by decide +kernel
theorem dX6_undo_14 : decode cX6_undo 14 = .ok (.aload_n 0, 1) := by decide +kernel
theorem dX6_undo_15 : decode cX6_undo 15 = .ok (.getfield 138, 3) := by decide +kernel
theorem dX6_undo_18 : decode cX6_undo 18 = .ok (.iload_n 1, 1) := by decide +kernel
theorem dX6_undo_19 : decode cX6_undo 19 = .ok (.isub, 1) := by decide +kernel
theorem dX6_undo_20 : decode cX6_undo 20 = .ok (.istore_n 2, 1) := by decide +kernel
theorem dX6_undo_21 : decode cX6_undo 21 = .ok (.iconst 0, 1) := by decide +kernel
theorem dX6_undo_22 : decode cX6_undo 22 = .ok (.istore_n 3, 1) := by decide +kernel
theorem dX6_undo_23 : decode cX6_undo 23 = .ok (.iload_n 3, 1) := by decide +kernel
theorem dX6_undo_24 : decode cX6_undo 24 = .ok (.bipush 14, 2) := by decide +kernel
theorem dX6_undo_26 : decode cX6_undo 26 = .ok (.if_icmp .ge 30, 3) := by decide +kernel
theorem dX6_undo_29 : decode cX6_undo 29 = .ok (.iload_n 2, 1) := by decide +kernel
theorem dX6_undo_30 : decode cX6_undo 30 = .ok (.ifCond .le 26, 3) := by decide +kernel
theorem dX6_undo_33 : decode cX6_undo 33 = .ok (.aload_n 0, 1) := by decide +kernel
theorem dX6_undo_34 : decode cX6_undo 34 = .ok (.getfield 54, 3) := by decide +kernel
theorem dX6_undo_37 : decode cX6_undo 37 = .ok (.iload_n 3, 1) := by decide +kernel
theorem dX6_undo_38 : decode cX6_undo 38 = .ok (.aload_n 0, 1) := by decide +kernel
theorem dX6_undo_39 : decode cX6_undo 39 = .ok (.getfield 57, 3) := by decide +kernel
theorem dX6_undo_42 : decode cX6_undo 42 = .ok (.bipush 14, 2) := by decide +kernel
theorem dX6_undo_44 : decode cX6_undo 44 = .ok (.iload_n 1, 1) := by decide +kernel
theorem dX6_undo_45 : decode cX6_undo 45 = .ok (.imul, 1) := by decide +kernel
theorem dX6_undo_46 : decode cX6_undo 46 = .ok (.iload_n 3, 1) := by decide +kernel
theorem dX6_undo_47 : decode cX6_undo 47 = .ok (.iadd, 1) := by decide +kernel
theorem dX6_undo_48 : decode cX6_undo 48 = .ok (.iaload, 1) := by decide +kernel
theorem dX6_undo_49 : decode cX6_undo 49 = .ok (.iastore, 1) := by decide +kernel
theorem dX6_undo_50 : decode cX6_undo 50 = .ok (.iinc 3 1, 3) := by decide +kernel
theorem dX6_undo_53 : decode cX6_undo 53 = .ok (.goto (-30), 3) := by decide +kernel
theorem dX6_undo_56 : decode cX6_undo 56 = .ok (.aload_n 0, 1) := by decide +kernel
theorem dX6_undo_57 : decode cX6_undo 57 = .ok (.iload_n 1, 1) := by decide +kernel
theorem dX6_undo_58 : decode cX6_undo 58 = .ok (.putfield 138, 3) := by decide +kernel
theorem dX6_undo_61 : decode cX6_undo 61 = .ok (.iload_n 2, 1) := by decide +kernel
theorem dX6_undo_62 : decode cX6_undo 62 = .ok (.ireturn, 1) := by decide +kernel
theorem dX6_keep_0 : decode cX6_keep 0 = .ok (.iload_n 1, 1) := by decide +kernel
theorem dX6_keep_1 : decode cX6_keep 1 = .ok (.iconst 0, 1) := by decide +kernel
theorem dX6_keep_2 : decode cX6_keep 2 = .ok (.iconst 2, 1) := by decide +kernel
theorem dX6_keep_3 : decode cX6_keep 3 = .ok (.invokestatic 83, 3) := by decide +kernel
theorem dX6_keep_6 : decode cX6_keep 6 = .ok (.ifCond .ne 5, 3) := by decide +kernel
theorem dX6_keep_9 : decode cX6_keep 9 = .ok (.iconst (-1), 1) := by decide +kernel
theorem dX6_keep_10 : decode cX6_keep 10 = .ok (.ireturn, 1) := by decide +kernel
theorem dX6_keep_11 : decode cX6_keep 11 = .ok (.aload_n 0, 1) := by decide +kernel
theorem dX6_keep_12 : decode cX6_keep 12 = .ok (.getfield 135, 3) := by decide +kernel
theorem dX6_keep_15 : decode cX6_keep 15 = .ok (.ifCond .ne 6, 3) := by decide +kernel
theorem dX6_keep_18 : decode cX6_keep 18 = .ok (.bipush (-4), 2) := by decide +kernel
theorem dX6_keep_20 : decode cX6_keep 20 = .ok (.ireturn, 1) := by decide +kernel
theorem dX6_keep_21 : decode cX6_keep 21 = .ok (.aload_n 0, 1) := by decide +kernel
theorem dX6_keep_22 : decode cX6_keep 22 = .ok (.getfield 60, 3) := by decide +kernel
theorem dX6_keep_25 : decode cX6_keep 25 = .ok (.iload_n 1, 1) := by decide +kernel
theorem dX6_keep_26 : decode cX6_keep 26 = .ok (.iconst 1, 1) := by decide +kernel
theorem dX6_keep_27 : decode cX6_keep 27 = .ok (.bastore, 1) := by decide +kernel
theorem dX6_keep_28 : decode cX6_keep 28 = .ok (.aload_n 0, 1) := by decide +kernel
theorem dX6_keep_29 : decode cX6_keep 29 = .ok (.getfield 64, 3) := by decide +kernel
theorem dX6_keep_32 : decode cX6_keep 32 = .ok (.iload_n 1, 1) := by decide +kernel
theorem dX6_keep_33 : decode cX6_keep 33 = .ok (.aload_n 0, 1) := by decide +kernel
theorem dX6_keep_34 : decode cX6_keep 34 = .ok (.getfield 138, 3) := by decide +kernel
theorem dX6_keep_37 : decode cX6_keep 37 = .ok (.iastore, 1) := by decide +kernel
theorem dX6_keep_38 : decode cX6_keep 38 = .ok (.iconst 0, 1) := by decide +kernel
theorem dX6_keep_39 : decode cX6_keep 39 = .ok (.istore_n 2, 1) := by decide +kernel
theorem dX6_keep_40 : decode cX6_keep 40 = .ok (.iload_n 2, 1) := by decide +kernel
theorem dX6_keep_41 : decode cX6_keep 41 = .ok (.bipush 6, 2) := by decide +kernel
theorem dX6_keep_43 : decode cX6_keep 43 = .ok (.if_icmp .ge 26, 3) := by decide +kernel
theorem dX6_keep_46 : decode cX6_keep 46 = .ok (.aload_n 0, 1) := by decide +kernel
theorem dX6_keep_47 : decode cX6_keep 47 = .ok (.getfield 67, 3) := by decide +kernel
theorem dX6_keep_50 : decode cX6_keep 50 = .ok (.bipush 6, 2) := by decide +kernel
theorem dX6_keep_52 : decode cX6_keep 52 = .ok (.iload_n 1, 1) := by decide +kernel
theorem dX6_keep_53 : decode cX6_keep 53 = .ok (.imul, 1) := by decide +kernel
theorem dX6_keep_54 : decode cX6_keep 54 = .ok (.iload_n 2, 1) := by decide +kernel
theorem dX6_keep_55 : decode cX6_keep 55 = .ok (.iadd, 1) := by decide +kernel
theorem dX6_keep_56 : decode cX6_keep 56 = .ok (.aload_n 0, 1) := by decide +kernel
theorem dX6_keep_57 : decode cX6_keep 57 = .ok (.getfield 45, 3) := by decide +kernel
theorem dX6_keep_60 : decode cX6_keep 60 = .ok (.iload_n 2, 1) := by decide +kernel
theorem dX6_keep_61 : decode cX6_keep 61 = .ok (.iaload, 1) := by decide +kernel
theorem dX6_keep_62 : decode cX6_keep 62 = .ok (.iastore, 1) := by decide +kernel
theorem dX6_keep_63 : decode cX6_keep 63 = .ok (.iinc 2 1, 3) := by decide +kernel
theorem dX6_keep_66 : decode cX6_keep 66 = .ok (.goto (-26), 3) := by decide +kernel
theorem dX6_keep_69 : decode cX6_keep 69 = .ok (.iconst 0, 1) := by decide +kernel
theorem dX6_keep_70 : decode cX6_keep 70 = .ok (.istore_n 2, 1) := by decide +kernel
theorem dX6_keep_71 : decode cX6_keep 71 = .ok (.iload_n 2, 1) := by decide +kernel
theorem dX6_keep_72 : decode cX6_keep 72 = .ok (.bipush 14, 2) := by decide +kernel
theorem dX6_keep_74 : decode cX6_keep 74 = .ok (.if_icmp .ge 26, 3) := by decide +kernel
theorem dX6_keep_77 : decode cX6_keep 77 = .ok (.aload_n 0, 1) := by decide +kernel
theorem dX6_keep_78 : decode cX6_keep 78 = .ok (.getfield 70, 3) := by decide +kernel
theorem dX6_keep_81 : decode cX6_keep 81 = .ok (.bipush 14, 2) := by decide +kernel
theorem dX6_keep_83 : decode cX6_keep 83 = .ok (.iload_n 1, 1) := by decide +kernel
theorem dX6_keep_84 : decode cX6_keep 84 = .ok (.imul, 1) := by decide +kernel
theorem dX6_keep_85 : decode cX6_keep 85 = .ok (.iload_n 2, 1) := by decide +kernel
theorem dX6_keep_86 : decode cX6_keep 86 = .ok (.iadd, 1) := by decide +kernel
theorem dX6_keep_87 : decode cX6_keep 87 = .ok (.aload_n 0, 1) := by decide +kernel
theorem dX6_keep_88 : decode cX6_keep 88 = .ok (.getfield 54, 3) := by decide +kernel
theorem dX6_keep_91 : decode cX6_keep 91 = .ok (.iload_n 2, 1) := by decide +kernel
theorem dX6_keep_92 : decode cX6_keep 92 = .ok (.iaload, 1) := by decide +kernel
theorem dX6_keep_93 : decode cX6_keep 93 = .ok (.iastore, 1) := by decide +kernel
theorem dX6_keep_94 : decode cX6_keep 94 = .ok (.iinc 2 1, 3) := by decide +kernel
theorem dX6_keep_97 : decode cX6_keep 97 = .ok (.goto (-26), 3) := by decide +kernel
theorem dX6_keep_100 : decode cX6_keep 100 = .ok (.iconst 0, 1) := by decide +kernel
theorem dX6_keep_101 : decode cX6_keep 101 = .ok (.istore_n 2, 1) := by decide +kernel
theorem dX6_keep_102 : decode cX6_keep 102 = .ok (.iload_n 2, 1) := by decide +kernel
theorem dX6_keep_103 : decode cX6_keep 103 = .ok (.bipush 14, 2) := by decide +kernel
theorem dX6_keep_105 : decode cX6_keep 105 = .ok (.aload_n 0, 1) := by decide +kernel
theorem dX6_keep_106 : decode cX6_keep 106 = .ok (.getfield 138, 3) := by decide +kernel
theorem dX6_keep_109 : decode cX6_keep 109 = .ok (.imul, 1) := by decide +kernel
theorem dX6_keep_110 : decode cX6_keep 110 = .ok (.if_icmp .ge 27, 3) := by decide +kernel
theorem dX6_keep_113 : decode cX6_keep 113 = .ok (.aload_n 0, 1) := by decide +kernel
theorem dX6_keep_114 : decode cX6_keep 114 = .ok (.getfield 73, 3) := by decide +kernel
theorem dX6_keep_117 : decode cX6_keep 117 = .ok (.sipush 840, 3) := by decide +kernel
theorem dX6_keep_120 : decode cX6_keep 120 = .ok (.iload_n 1, 1) := by decide +kernel
theorem dX6_keep_121 : decode cX6_keep 121 = .ok (.imul, 1) := by decide +kernel
theorem dX6_keep_122 : decode cX6_keep 122 = .ok (.iload_n 2, 1) := by decide +kernel
theorem dX6_keep_123 : decode cX6_keep 123 = .ok (.iadd, 1) := by decide +kernel
theorem dX6_keep_124 : decode cX6_keep 124 = .ok (.aload_n 0, 1) := by decide +kernel
theorem dX6_keep_125 : decode cX6_keep 125 = .ok (.getfield 57, 3) := by decide +kernel
theorem dX6_keep_128 : decode cX6_keep 128 = .ok (.iload_n 2, 1) := by decide +kernel
theorem dX6_keep_129 : decode cX6_keep 129 = .ok (.iaload, 1) := by decide +kernel
theorem dX6_keep_130 : decode cX6_keep 130 = .ok (.iastore, 1) := by decide +kernel
theorem dX6_keep_131 : decode cX6_keep 131 = .ok (.iinc 2 1, 3) := by decide +kernel
theorem dX6_keep_134 : decode cX6_keep 134 = .ok (.goto (-32), 3) := by decide +kernel
theorem dX6_keep_137 : decode cX6_keep 137 = .ok (.aload_n 0, 1) := by decide +kernel
theorem dX6_keep_138 : decode cX6_keep 138 = .ok (.getfield 138, 3) := by decide +kernel
theorem dX6_keep_141 : decode cX6_keep 141 = .ok (.ireturn, 1) := by decide +kernel
theorem dX6_on_0 : decode cX6_on 0 = .ok (.iload_n 1, 1) := by decide +kernel
theorem dX6_on_1 : decode cX6_on 1 = .ok (.iconst 0, 1) := by decide +kernel
theorem dX6_on_2 : decode cX6_on 2 = .ok (.iconst 2, 1) := by decide +kernel
theorem dX6_on_3 : decode cX6_on 3 = .ok (.invokestatic 83, 3) := by decide +kernel
theorem dX6_on_6 : decode cX6_on 6 = .ok (.ifCond .ne 5, 3) := by decide +kernel
theorem dX6_on_9 : decode cX6_on 9 = .ok (.iconst (-1), 1) := by decide +kernel
theorem dX6_on_10 : decode cX6_on 10 = .ok (.ireturn, 1) := by decide +kernel
theorem dX6_on_11 : decode cX6_on 11 = .ok (.aload_n 0, 1) := by decide +kernel
theorem dX6_on_12 : decode cX6_on 12 = .ok (.getfield 60, 3) := by decide +kernel
theorem dX6_on_15 : decode cX6_on 15 = .ok (.iload_n 1, 1) := by decide +kernel
theorem dX6_on_16 : decode cX6_on 16 = .ok (.baload, 1) := by decide +kernel
theorem dX6_on_17 : decode cX6_on 17 = .ok (.ifCond .ne 9, 3) := by decide +kernel
theorem dX6_on_20 : decode cX6_on 20 = .ok (.aload_n 0, 1) := by decide +kernel
theorem dX6_on_21 : decode cX6_on 21 = .ok (.iconst 1, 1) := by decide +kernel
theorem dX6_on_22 : decode cX6_on 22 = .ok (.invokevirtual 97, 3) := by decide +kernel
theorem dX6_on_25 : decode cX6_on 25 = .ok (.ireturn, 1) := by decide +kernel
theorem dX6_on_26 : decode cX6_on 26 = .ok (.aload_n 0, 1) := by decide +kernel
theorem dX6_on_27 : decode cX6_on 27 = .ok (.aload_n 0, 1) := by decide +kernel
theorem dX6_on_28 : decode cX6_on 28 = .ok (.getfield 64, 3) := by decide +kernel
theorem dX6_on_31 : decode cX6_on 31 = .ok (.iload_n 1, 1) := by decide +kernel
theorem dX6_on_32 : decode cX6_on 32 = .ok (.iaload, 1) := by decide +kernel
theorem dX6_on_33 : decode cX6_on 33 = .ok (.putfield 138, 3) := by decide +kernel
theorem dX6_on_36 : decode cX6_on 36 = .ok (.iconst 0, 1) := by decide +kernel
theorem dX6_on_37 : decode cX6_on 37 = .ok (.istore_n 2, 1) := by decide +kernel
theorem dX6_on_38 : decode cX6_on 38 = .ok (.iload_n 2, 1) := by decide +kernel
theorem dX6_on_39 : decode cX6_on 39 = .ok (.bipush 6, 2) := by decide +kernel
theorem dX6_on_41 : decode cX6_on 41 = .ok (.if_icmp .ge 26, 3) := by decide +kernel
theorem dX6_on_44 : decode cX6_on 44 = .ok (.aload_n 0, 1) := by decide +kernel
theorem dX6_on_45 : decode cX6_on 45 = .ok (.getfield 45, 3) := by decide +kernel
theorem dX6_on_48 : decode cX6_on 48 = .ok (.iload_n 2, 1) := by decide +kernel
theorem dX6_on_49 : decode cX6_on 49 = .ok (.aload_n 0, 1) := by decide +kernel
theorem dX6_on_50 : decode cX6_on 50 = .ok (.getfield 67, 3) := by decide +kernel
theorem dX6_on_53 : decode cX6_on 53 = .ok (.bipush 6, 2) := by decide +kernel
theorem dX6_on_55 : decode cX6_on 55 = .ok (.iload_n 1, 1) := by decide +kernel
theorem dX6_on_56 : decode cX6_on 56 = .ok (.imul, 1) := by decide +kernel
theorem dX6_on_57 : decode cX6_on 57 = .ok (.iload_n 2, 1) := by decide +kernel
theorem dX6_on_58 : decode cX6_on 58 = .ok (.iadd, 1) := by decide +kernel
theorem dX6_on_59 : decode cX6_on 59 = .ok (.iaload, 1) := by decide +kernel
theorem dX6_on_60 : decode cX6_on 60 = .ok (.iastore, 1) := by decide +kernel
theorem dX6_on_61 : decode cX6_on 61 = .ok (.iinc 2 1, 3) := by decide +kernel
theorem dX6_on_64 : decode cX6_on 64 = .ok (.goto (-26), 3) := by decide +kernel
theorem dX6_on_67 : decode cX6_on 67 = .ok (.iconst 0, 1) := by decide +kernel
theorem dX6_on_68 : decode cX6_on 68 = .ok (.istore_n 2, 1) := by decide +kernel
theorem dX6_on_69 : decode cX6_on 69 = .ok (.iload_n 2, 1) := by decide +kernel
theorem dX6_on_70 : decode cX6_on 70 = .ok (.bipush 14, 2) := by decide +kernel
theorem dX6_on_72 : decode cX6_on 72 = .ok (.if_icmp .ge 26, 3) := by decide +kernel
theorem dX6_on_75 : decode cX6_on 75 = .ok (.aload_n 0, 1) := by decide +kernel
theorem dX6_on_76 : decode cX6_on 76 = .ok (.getfield 54, 3) := by decide +kernel
theorem dX6_on_79 : decode cX6_on 79 = .ok (.iload_n 2, 1) := by decide +kernel
theorem dX6_on_80 : decode cX6_on 80 = .ok (.aload_n 0, 1) := by decide +kernel
theorem dX6_on_81 : decode cX6_on 81 = .ok (.getfield 70, 3) := by decide +kernel
theorem dX6_on_84 : decode cX6_on 84 = .ok (.bipush 14, 2) := by decide +kernel
theorem dX6_on_86 : decode cX6_on 86 = .ok (.iload_n 1, 1) := by decide +kernel
theorem dX6_on_87 : decode cX6_on 87 = .ok (.imul, 1) := by decide +kernel
theorem dX6_on_88 : decode cX6_on 88 = .ok (.iload_n 2, 1) := by decide +kernel
theorem dX6_on_89 : decode cX6_on 89 = .ok (.iadd, 1) := by decide +kernel
theorem dX6_on_90 : decode cX6_on 90 = .ok (.iaload, 1) := by decide +kernel
theorem dX6_on_91 : decode cX6_on 91 = .ok (.iastore, 1) := by decide +kernel
theorem dX6_on_92 : decode cX6_on 92 = .ok (.iinc 2 1, 3) := by decide +kernel
theorem dX6_on_95 : decode cX6_on 95 = .ok (.goto (-26), 3) := by decide +kernel
theorem dX6_on_98 : decode cX6_on 98 = .ok (.iconst 0, 1) := by decide +kernel
theorem dX6_on_99 : decode cX6_on 99 = .ok (.istore_n 2, 1) := by decide +kernel
theorem dX6_on_100 : decode cX6_on 100 = .ok (.iload_n 2, 1) := by decide +kernel
theorem dX6_on_101 : decode cX6_on 101 = .ok (.bipush 14, 2) := by decide +kernel
theorem dX6_on_103 : decode cX6_on 103 = .ok (.aload_n 0, 1) := by decide +kernel
theorem dX6_on_104 : decode cX6_on 104 = .ok (.getfield 138, 3) := by decide +kernel
theorem dX6_on_107 : decode cX6_on 107 = .ok (.imul, 1) := by decide +kernel
theorem dX6_on_108 : decode cX6_on 108 = .ok (.if_icmp .ge 27, 3) := by decide +kernel
theorem dX6_on_111 : decode cX6_on 111 = .ok (.aload_n 0, 1) := by decide +kernel
theorem dX6_on_112 : decode cX6_on 112 = .ok (.getfield 57, 3) := by decide +kernel
theorem dX6_on_115 : decode cX6_on 115 = .ok (.iload_n 2, 1) := by decide +kernel
theorem dX6_on_116 : decode cX6_on 116 = .ok (.aload_n 0, 1) := by decide +kernel
theorem dX6_on_117 : decode cX6_on 117 = .ok (.getfield 73, 3) := by decide +kernel
theorem dX6_on_120 : decode cX6_on 120 = .ok (.sipush 840, 3) := by decide +kernel
theorem dX6_on_123 : decode cX6_on 123 = .ok (.iload_n 1, 1) := by decide +kernel
theorem dX6_on_124 : decode cX6_on 124 = .ok (.imul, 1) := by decide +kernel
theorem dX6_on_125 : decode cX6_on 125 = .ok (.iload_n 2, 1) := by decide +kernel
theorem dX6_on_126 : decode cX6_on 126 = .ok (.iadd, 1) := by decide +kernel
theorem dX6_on_127 : decode cX6_on 127 = .ok (.iaload, 1) := by decide +kernel
theorem dX6_on_128 : decode cX6_on 128 = .ok (.iastore, 1) := by decide +kernel
theorem dX6_on_129 : decode cX6_on 129 = .ok (.iinc 2 1, 3) := by decide +kernel
theorem dX6_on_132 : decode cX6_on 132 = .ok (.goto (-32), 3) := by decide +kernel
theorem dX6_on_135 : decode cX6_on 135 = .ok (.aload_n 0, 1) := by decide +kernel
theorem dX6_on_136 : decode cX6_on 136 = .ok (.getfield 138, 3) := by decide +kernel
theorem dX6_on_139 : decode cX6_on 139 = .ok (.ireturn, 1) := by decide +kernel
theorem dX6_isSign_0 : decode cX6_isSign 0 = .ok (.iload_n 0, 1) := by decide +kernel
theorem dX6_isSign_1 : decode cX6_isSign 1 = .ok (.bipush (-9), 2) := by decide +kernel
theorem dX6_isSign_3 : decode cX6_isSign 3 = .ok (.if_icmp .eq 12, 3) := by decide +kernel
theorem dX6_isSign_6 : decode cX6_isSign 6 = .ok (.iload_n 0, 1) := by decide +kernel
theorem dX6_isSign_7 : decode cX6_isSign 7 = .ok (.iconst 0, 1) := by decide +kernel
theorem dX6_isSign_8 : decode cX6_isSign 8 = .ok (.iconst 3, 1) := by decide +kernel
theorem dX6_isSign_9 : decode cX6_isSign 9 = .ok (.invokestatic 83, 3) := by decide +kernel
theorem dX6_isSign_12 : decode cX6_isSign 12 = .ok (.ifCond .eq 7, 3) := by decide +kernel
theorem dX6_isSign_15 : decode cX6_isSign 15 = .ok (.iconst 1, 1) := by decide +kernel
theorem dX6_isSign_16 : decode cX6_isSign 16 = .ok (.goto 4, 3) := by decide +kernel
theorem dX6_isSign_19 : decode cX6_isSign 19 = .ok (.iconst 0, 1) := by decide +kernel
theorem dX6_isSign_20 : decode cX6_isSign 20 = .ok (.ireturn, 1) := by decide +kernel
theorem dX6_looksSo_0 : decode cX6_looksSo 0 = .ok (.iconst 0, 1) := by decide +kernel
theorem dX6_looksSo_1 : decode cX6_looksSo 1 = .ok (.istore_n 3, 1) := by decide +kernel
theorem dX6_looksSo_2 : decode cX6_looksSo 2 = .ok (.iconst 0, 1) := by decide +kernel
theorem dX6_looksSo_3 : decode cX6_looksSo 3 = .ok (.istore 4, 2) := by decide +kernel
theorem dX6_looksSo_5 : decode cX6_looksSo 5 = .ok (.iload 4, 2) := by decide +kernel
theorem dX6_looksSo_7 : decode cX6_looksSo 7 = .ok (.aload_n 0, 1) := by decide +kernel
theorem dX6_looksSo_8 : decode cX6_looksSo 8 = .ok (.getfield 135, 3) := by decide +kernel
theorem dX6_looksSo_11 : decode cX6_looksSo 11 = .ok (.if_icmp .ge 66, 3) := by decide +kernel
theorem dX6_looksSo_14 : decode cX6_looksSo 14 = .ok (.iload_n 1, 1) := by decide +kernel
theorem dX6_looksSo_15 : decode cX6_looksSo 15 = .ok (.bipush (-9), 2) := by decide +kernel
theorem dX6_looksSo_17 : decode cX6_looksSo 17 = .ok (.if_icmp .eq 14, 3) := by decide +kernel
theorem dX6_looksSo_20 : decode cX6_looksSo 20 = .ok (.aload_n 0, 1) := by decide +kernel
theorem dX6_looksSo_21 : decode cX6_looksSo 21 = .ok (.getfield 36, 3) := by decide +kernel
theorem dX6_looksSo_24 : decode cX6_looksSo 24 = .ok (.iload 4, 2) := by decide +kernel
theorem dX6_looksSo_26 : decode cX6_looksSo 26 = .ok (.iaload, 1) := by decide +kernel
theorem dX6_looksSo_27 : decode cX6_looksSo 27 = .ok (.iload_n 1, 1) := by decide +kernel
theorem dX6_looksSo_28 : decode cX6_looksSo 28 = .ok (.if_icmp .ne 24, 3) := by decide +kernel
theorem dX6_looksSo_31 : decode cX6_looksSo 31 = .ok (.iload_n 2, 1) := by decide +kernel
theorem dX6_looksSo_32 : decode cX6_looksSo 32 = .ok (.bipush (-9), 2) := by decide +kernel
theorem dX6_looksSo_34 : decode cX6_looksSo 34 = .ok (.if_icmp .eq 14, 3) := by decide +kernel
theorem dX6_looksSo_37 : decode cX6_looksSo 37 = .ok (.aload_n 0, 1) := by decide +kernel
theorem dX6_looksSo_38 : decode cX6_looksSo 38 = .ok (.getfield 39, 3) := by decide +kernel
theorem dX6_looksSo_41 : decode cX6_looksSo 41 = .ok (.iload 4, 2) := by decide +kernel
theorem dX6_looksSo_43 : decode cX6_looksSo 43 = .ok (.iaload, 1) := by decide +kernel
theorem dX6_looksSo_44 : decode cX6_looksSo 44 = .ok (.iload_n 2, 1) := by decide +kernel
theorem dX6_looksSo_45 : decode cX6_looksSo 45 = .ok (.if_icmp .ne 7, 3) := by decide +kernel
theorem dX6_looksSo_48 : decode cX6_looksSo 48 = .ok (.iconst 1, 1) := by decide +kernel
theorem dX6_looksSo_49 : decode cX6_looksSo 49 = .ok (.goto 4, 3) := by decide +kernel
theorem dX6_looksSo_52 : decode cX6_looksSo 52 = .ok (.iconst 0, 1) := by decide +kernel
theorem dX6_looksSo_53 : decode cX6_looksSo 53 = .ok (.istore 5, 2) := by decide +kernel
theorem dX6_looksSo_55 : decode cX6_looksSo 55 = .ok (.iload_n 3, 1) := by decide +kernel
theorem dX6_looksSo_56 : decode cX6_looksSo 56 = .ok (.iload 5, 2) := by decide +kernel
theorem dX6_looksSo_58 : decode cX6_looksSo 58 = .ok (.ifCond .eq 10, 3) := by decide +kernel
theorem dX6_looksSo_61 : decode cX6_looksSo 61 = .ok (.iconst 1, 1) := by decide +kernel
theorem dX6_looksSo_62 : decode cX6_looksSo 62 = .ok (.iload 4, 2) := by decide +kernel
theorem dX6_looksSo_64 : decode cX6_looksSo 64 = .ok (.ishl, 1) := by decide +kernel
theorem dX6_looksSo_65 : decode cX6_looksSo 65 = .ok (.goto 4, 3) := by decide +kernel
theorem dX6_looksSo_68 : decode cX6_looksSo 68 = .ok (.iconst 0, 1) := by decide +kernel
theorem dX6_looksSo_69 : decode cX6_looksSo 69 = .ok (.ior, 1) := by decide +kernel
theorem dX6_looksSo_70 : decode cX6_looksSo 70 = .ok (.istore_n 3, 1) := by decide +kernel
theorem dX6_looksSo_71 : decode cX6_looksSo 71 = .ok (.iinc 4 1, 3) := by decide +kernel
theorem dX6_looksSo_74 : decode cX6_looksSo 74 = .ok (.goto (-69), 3) := by decide +kernel
theorem dX6_looksSo_77 : decode cX6_looksSo 77 = .ok (.iload_n 3, 1) := by decide +kernel
theorem dX6_looksSo_78 : decode cX6_looksSo 78 = .ok (.ireturn, 1) := by decide +kernel
theorem dX6_who_0 : decode cX6_who 0 = .ok (.iload_n 1, 1) := by decide +kernel
theorem dX6_who_1 : decode cX6_who 1 = .ok (.invokestatic 196, 3) := by decide +kernel
theorem dX6_who_4 : decode cX6_who 4 = .ok (.ifCond .eq 19, 3) := by decide +kernel
theorem dX6_who_7 : decode cX6_who 7 = .ok (.iload_n 2, 1) := by decide +kernel
theorem dX6_who_8 : decode cX6_who 8 = .ok (.invokestatic 196, 3) := by decide +kernel
theorem dX6_who_11 : decode cX6_who 11 = .ok (.ifCond .eq 12, 3) := by decide +kernel
theorem dX6_who_14 : decode cX6_who 14 = .ok (.aload_n 0, 1) := by decide +kernel
theorem dX6_who_15 : decode cX6_who 15 = .ok (.iload_n 1, 1) := by decide +kernel
theorem dX6_who_16 : decode cX6_who 16 = .ok (.iload_n 2, 1) := by decide +kernel
theorem dX6_who_17 : decode cX6_who 17 = .ok (.invokevirtual 199, 3) := by decide +kernel
theorem dX6_who_20 : decode cX6_who 20 = .ok (.goto 4, 3) := by decide +kernel
theorem dX6_who_23 : decode cX6_who 23 = .ok (.iconst (-1), 1) := by decide +kernel
theorem dX6_who_24 : decode cX6_who 24 = .ok (.ireturn, 1) := by decide +kernel
theorem dX6_parts_0 : decode cX6_parts 0 = .ok (.aload_n 0, 1) := by decide +kernel
theorem dX6_parts_1 : decode cX6_parts 1 = .ok (.iload_n 1, 1) := by decide +kernel
theorem dX6_parts_2 : decode cX6_parts 2 = .ok (.invokevirtual 163, 3) := by decide +kernel
theorem dX6_parts_5 : decode cX6_parts 5 = .ok (.ifCond .eq 16, 3) := by decide +kernel
theorem dX6_parts_8 : decode cX6_parts 8 = .ok (.aload_n 0, 1) := by decide +kernel
theorem dX6_parts_9 : decode cX6_parts 9 = .ok (.iload_n 2, 1) := by decide +kernel
theorem dX6_parts_10 : decode cX6_parts 10 = .ok (.invokevirtual 163, 3) := by decide +kernel
theorem dX6_parts_13 : decode cX6_parts 13 = .ok (.ifCond .eq 8, 3) := by decide +kernel
theorem dX6_parts_16 : decode cX6_parts 16 = .ok (.iload_n 1, 1) := by decide +kernel
theorem dX6_parts_17 : decode cX6_parts 17 = .ok (.iload_n 2, 1) := by decide +kernel
theorem dX6_parts_18 : decode cX6_parts 18 = .ok (.if_icmp .ne 5, 3) := by decide +kernel
theorem dX6_parts_21 : decode cX6_parts 21 = .ok (.iconst (-1), 1) := by decide +kernel
theorem dX6_parts_22 : decode cX6_parts 22 = .ok (.ireturn, 1) := by decide +kernel
theorem dX6_parts_23 : decode cX6_parts 23 = .ok (.aload_n 0, 1) := by decide +kernel
theorem dX6_parts_24 : decode cX6_parts 24 = .ok (.getfield 36, 3) := by decide +kernel
theorem dX6_parts_27 : decode cX6_parts 27 = .ok (.iload_n 1, 1) := by decide +kernel
theorem dX6_parts_28 : decode cX6_parts 28 = .ok (.iaload, 1) := by decide +kernel
theorem dX6_parts_29 : decode cX6_parts 29 = .ok (.aload_n 0, 1) := by decide +kernel
theorem dX6_parts_30 : decode cX6_parts 30 = .ok (.getfield 36, 3) := by decide +kernel
theorem dX6_parts_33 : decode cX6_parts 33 = .ok (.iload_n 2, 1) := by decide +kernel
theorem dX6_parts_34 : decode cX6_parts 34 = .ok (.iaload, 1) := by decide +kernel
theorem dX6_parts_35 : decode cX6_parts 35 = .ok (.if_icmp .eq 7, 3) := by decide +kernel
theorem dX6_parts_38 : decode cX6_parts 38 = .ok (.iconst 1, 1) := by decide +kernel
theorem dX6_parts_39 : decode cX6_parts 39 = .ok (.goto 4, 3) := by decide +kernel
theorem dX6_parts_42 : decode cX6_parts 42 = .ok (.iconst 0, 1) := by decide +kernel
theorem dX6_parts_43 : decode cX6_parts 43 = .ok (.aload_n 0, 1) := by decide +kernel
theorem dX6_parts_44 : decode cX6_parts 44 = .ok (.getfield 39, 3) := by decide +kernel
theorem dX6_parts_47 : decode cX6_parts 47 = .ok (.iload_n 1, 1) := by decide +kernel
theorem dX6_parts_48 : decode cX6_parts 48 = .ok (.iaload, 1) := by decide +kernel
theorem dX6_parts_49 : decode cX6_parts 49 = .ok (.aload_n 0, 1) := by decide +kernel
theorem dX6_parts_50 : decode cX6_parts 50 = .ok (.getfield 39, 3) := by decide +kernel
theorem dX6_parts_53 : decode cX6_parts 53 = .ok (.iload_n 2, 1) := by decide +kernel
theorem dX6_parts_54 : decode cX6_parts 54 = .ok (.iaload, 1) := by decide +kernel
theorem dX6_parts_55 : decode cX6_parts 55 = .ok (.if_icmp .eq 7, 3) := by decide +kernel
theorem dX6_parts_58 : decode cX6_parts 58 = .ok (.iconst 2, 1) := by decide +kernel
theorem dX6_parts_59 : decode cX6_parts 59 = .ok (.goto 4, 3) := by decide +kernel
theorem dX6_parts_62 : decode cX6_parts 62 = .ok (.iconst 0, 1) := by decide +kernel
theorem dX6_parts_63 : decode cX6_parts 63 = .ok (.iadd, 1) := by decide +kernel
theorem dX6_parts_64 : decode cX6_parts 64 = .ok (.ireturn, 1) := by decide +kernel
theorem dX6_wants_0 : decode cX6_wants 0 = .ok (.aload_n 0, 1) := by decide +kernel
theorem dX6_wants_1 : decode cX6_wants 1 = .ok (.iload_n 1, 1) := by decide +kernel
theorem dX6_wants_2 : decode cX6_wants 2 = .ok (.invokevirtual 163, 3) := by decide +kernel
theorem dX6_wants_5 : decode cX6_wants 5 = .ok (.ifCond .eq 23, 3) := by decide +kernel
theorem dX6_wants_8 : decode cX6_wants 8 = .ok (.iload_n 2, 1) := by decide +kernel
theorem dX6_wants_9 : decode cX6_wants 9 = .ok (.iconst 0, 1) := by decide +kernel
theorem dX6_wants_10 : decode cX6_wants 10 = .ok (.sipush 999, 3) := by decide +kernel
theorem dX6_wants_13 : decode cX6_wants 13 = .ok (.invokestatic 83, 3) := by decide +kernel
theorem dX6_wants_16 : decode cX6_wants 16 = .ok (.ifCond .eq 12, 3) := by decide +kernel
theorem dX6_wants_19 : decode cX6_wants 19 = .ok (.aload_n 0, 1) := by decide +kernel
theorem dX6_wants_20 : decode cX6_wants 20 = .ok (.iload_n 1, 1) := by decide +kernel
theorem dX6_wants_21 : decode cX6_wants 21 = .ok (.iload_n 2, 1) := by decide +kernel
theorem dX6_wants_22 : decode cX6_wants 22 = .ok (.invokevirtual 148, 3) := by decide +kernel
theorem dX6_wants_25 : decode cX6_wants 25 = .ok (.goto 4, 3) := by decide +kernel
theorem dX6_wants_28 : decode cX6_wants 28 = .ok (.iconst (-1), 1) := by decide +kernel
theorem dX6_wants_29 : decode cX6_wants 29 = .ok (.ireturn, 1) := by decide +kernel
theorem dX6_comesOf_0 : decode cX6_comesOf 0 = .ok (.iconst 0, 1) := by decide +kernel
theorem dX6_comesOf_1 : decode cX6_comesOf 1 = .ok (.istore_n 2, 1) := by decide +kernel
theorem dX6_comesOf_2 : decode cX6_comesOf 2 = .ok (.iconst 0, 1) := by decide +kernel
theorem dX6_comesOf_3 : decode cX6_comesOf 3 = .ok (.istore_n 3, 1) := by decide +kernel
theorem dX6_comesOf_4 : decode cX6_comesOf 4 = .ok (.iload_n 3, 1) := by decide +kernel
theorem dX6_comesOf_5 : decode cX6_comesOf 5 = .ok (.aload_n 0, 1) := by decide +kernel
theorem dX6_comesOf_6 : decode cX6_comesOf 6 = .ok (.getfield 135, 3) := by decide +kernel
theorem dX6_comesOf_9 : decode cX6_comesOf 9 = .ok (.if_icmp .ge 30, 3) := by decide +kernel
theorem dX6_comesOf_12 : decode cX6_comesOf 12 = .ok (.iload_n 2, 1) := by decide +kernel
theorem dX6_comesOf_13 : decode cX6_comesOf 13 = .ok (.iload_n 1, 1) := by decide +kernel
theorem dX6_comesOf_14 : decode cX6_comesOf 14 = .ok (.iload_n 3, 1) := by decide +kernel
theorem dX6_comesOf_15 : decode cX6_comesOf 15 = .ok (.invokestatic 202, 3) := by decide +kernel
theorem dX6_comesOf_18 : decode cX6_comesOf 18 = .ok (.ifCond .eq 12, 3) := by decide +kernel
theorem dX6_comesOf_21 : decode cX6_comesOf 21 = .ok (.aload_n 0, 1) := by decide +kernel
theorem dX6_comesOf_22 : decode cX6_comesOf 22 = .ok (.getfield 48, 3) := by decide +kernel
theorem dX6_comesOf_25 : decode cX6_comesOf 25 = .ok (.iload_n 3, 1) := by decide +kernel
theorem dX6_comesOf_26 : decode cX6_comesOf 26 = .ok (.iaload, 1) := by decide +kernel
theorem dX6_comesOf_27 : decode cX6_comesOf 27 = .ok (.goto 4, 3) := by decide +kernel
theorem dX6_comesOf_30 : decode cX6_comesOf 30 = .ok (.iconst 0, 1) := by decide +kernel
theorem dX6_comesOf_31 : decode cX6_comesOf 31 = .ok (.iadd, 1) := by decide +kernel
theorem dX6_comesOf_32 : decode cX6_comesOf 32 = .ok (.istore_n 2, 1) := by decide +kernel
theorem dX6_comesOf_33 : decode cX6_comesOf 33 = .ok (.iinc 3 1, 3) := by decide +kernel
theorem dX6_comesOf_36 : decode cX6_comesOf 36 = .ok (.goto (-32), 3) := by decide +kernel
theorem dX6_comesOf_39 : decode cX6_comesOf 39 = .ok (.iload_n 2, 1) := by decide +kernel
theorem dX6_comesOf_40 : decode cX6_comesOf 40 = .ok (.ireturn, 1) := by decide +kernel
theorem dX6_wanting_0 : decode cX6_wanting 0 = .ok (.iconst 0, 1) := by decide +kernel
theorem dX6_wanting_1 : decode cX6_wanting 1 = .ok (.istore_n 3, 1) := by decide +kernel
theorem dX6_wanting_2 : decode cX6_wanting 2 = .ok (.iconst 0, 1) := by decide +kernel
theorem dX6_wanting_3 : decode cX6_wanting 3 = .ok (.istore 4, 2) := by decide +kernel
theorem dX6_wanting_5 : decode cX6_wanting 5 = .ok (.iload 4, 2) := by decide +kernel
theorem dX6_wanting_7 : decode cX6_wanting 7 = .ok (.aload_n 0, 1) := by decide +kernel
theorem dX6_wanting_8 : decode cX6_wanting 8 = .ok (.getfield 135, 3) := by decide +kernel
theorem dX6_wanting_11 : decode cX6_wanting 11 = .ok (.if_icmp .ge 39, 3) := by decide +kernel
theorem dX6_wanting_14 : decode cX6_wanting 14 = .ok (.iload_n 3, 1) := by decide +kernel
theorem dX6_wanting_15 : decode cX6_wanting 15 = .ok (.iload_n 1, 1) := by decide +kernel
theorem dX6_wanting_16 : decode cX6_wanting 16 = .ok (.iload 4, 2) := by decide +kernel
theorem dX6_wanting_18 : decode cX6_wanting 18 = .ok (.invokestatic 202, 3) := by decide +kernel
theorem dX6_wanting_21 : decode cX6_wanting 21 = .ok (.ifCond .eq 20, 3) := by decide +kernel
theorem dX6_wanting_24 : decode cX6_wanting 24 = .ok (.aload_n 0, 1) := by decide +kernel
theorem dX6_wanting_25 : decode cX6_wanting 25 = .ok (.iload 4, 2) := by decide +kernel
theorem dX6_wanting_27 : decode cX6_wanting 27 = .ok (.invokevirtual 157, 3) := by decide +kernel
theorem dX6_wanting_30 : decode cX6_wanting 30 = .ok (.iload_n 2, 1) := by decide +kernel
theorem dX6_wanting_31 : decode cX6_wanting 31 = .ok (.if_icmp .ne 10, 3) := by decide +kernel
theorem dX6_wanting_34 : decode cX6_wanting 34 = .ok (.iconst 1, 1) := by decide +kernel
theorem dX6_wanting_35 : decode cX6_wanting 35 = .ok (.iload 4, 2) := by decide +kernel
theorem dX6_wanting_37 : decode cX6_wanting 37 = .ok (.ishl, 1) := by decide +kernel
theorem dX6_wanting_38 : decode cX6_wanting 38 = .ok (.goto 4, 3) := by decide +kernel
theorem dX6_wanting_41 : decode cX6_wanting 41 = .ok (.iconst 0, 1) := by decide +kernel
theorem dX6_wanting_42 : decode cX6_wanting 42 = .ok (.ior, 1) := by decide +kernel
theorem dX6_wanting_43 : decode cX6_wanting 43 = .ok (.istore_n 3, 1) := by decide +kernel
theorem dX6_wanting_44 : decode cX6_wanting 44 = .ok (.iinc 4 1, 3) := by decide +kernel
theorem dX6_wanting_47 : decode cX6_wanting 47 = .ok (.goto (-42), 3) := by decide +kernel
theorem dX6_wanting_50 : decode cX6_wanting 50 = .ok (.iload_n 3, 1) := by decide +kernel
theorem dX6_wanting_51 : decode cX6_wanting 51 = .ok (.ireturn, 1) := by decide +kernel
theorem dX6_likely_0 : decode cX6_likely 0 = .ok (.iload_n 1, 1) := by decide +kernel
theorem dX6_likely_1 : decode cX6_likely 1 = .ok (.invokestatic 196, 3) := by decide +kernel
theorem dX6_likely_4 : decode cX6_likely 4 = .ok (.ifCond .eq 17, 3) := by decide +kernel
theorem dX6_likely_7 : decode cX6_likely 7 = .ok (.iload_n 2, 1) := by decide +kernel
theorem dX6_likely_8 : decode cX6_likely 8 = .ok (.invokestatic 196, 3) := by decide +kernel
theorem dX6_likely_11 : decode cX6_likely 11 = .ok (.ifCond .eq 10, 3) := by decide +kernel
theorem dX6_likely_14 : decode cX6_likely 14 = .ok (.iload_n 3, 1) := by decide +kernel
theorem dX6_likely_15 : decode cX6_likely 15 = .ok (.invokestatic 141, 3) := by decide +kernel
theorem dX6_likely_18 : decode cX6_likely 18 = .ok (.ifCond .ne 5, 3) := by decide +kernel
theorem dX6_likely_21 : decode cX6_likely 21 = .ok (.iconst (-1), 1) := by decide +kernel
theorem dX6_likely_22 : decode cX6_likely 22 = .ok (.ireturn, 1) := by decide +kernel
theorem dX6_likely_23 : decode cX6_likely 23 = .ok (.aload_n 0, 1) := by decide +kernel
theorem dX6_likely_24 : decode cX6_likely 24 = .ok (.iload_n 1, 1) := by decide +kernel
theorem dX6_likely_25 : decode cX6_likely 25 = .ok (.iload_n 2, 1) := by decide +kernel
theorem dX6_likely_26 : decode cX6_likely 26 = .ok (.invokevirtual 199, 3) := by decide +kernel
theorem dX6_likely_29 : decode cX6_likely 29 = .ok (.istore 4, 2) := by decide +kernel
theorem dX6_likely_31 : decode cX6_likely 31 = .ok (.iload 4, 2) := by decide +kernel
theorem dX6_likely_33 : decode cX6_likely 33 = .ok (.ifCond .ne 11, 3) := by decide +kernel
theorem dX6_likely_36 : decode cX6_likely 36 = .ok (.aload_n 0, 1) := by decide +kernel
theorem dX6_likely_37 : decode cX6_likely 37 = .ok (.iconst 4, 1) := by decide +kernel
theorem dX6_likely_38 : decode cX6_likely 38 = .ok (.invokevirtual 97, 3) := by decide +kernel
theorem dX6_likely_41 : decode cX6_likely 41 = .ok (.goto 24, 3) := by decide +kernel
theorem dX6_likely_44 : decode cX6_likely 44 = .ok (.aload_n 0, 1) := by decide +kernel
theorem dX6_likely_45 : decode cX6_likely 45 = .ok (.aload_n 0, 1) := by decide +kernel
theorem dX6_likely_46 : decode cX6_likely 46 = .ok (.aload_n 0, 1) := by decide +kernel
theorem dX6_likely_47 : decode cX6_likely 47 = .ok (.iload 4, 2) := by decide +kernel
theorem dX6_likely_49 : decode cX6_likely 49 = .ok (.iload_n 3, 1) := by decide +kernel
theorem dX6_likely_50 : decode cX6_likely 50 = .ok (.invokevirtual 205, 3) := by decide +kernel
theorem dX6_likely_53 : decode cX6_likely 53 = .ok (.invokevirtual 208, 3) := by decide +kernel
theorem dX6_likely_56 : decode cX6_likely 56 = .ok (.aload_n 0, 1) := by decide +kernel
theorem dX6_likely_57 : decode cX6_likely 57 = .ok (.iload 4, 2) := by decide +kernel
theorem dX6_likely_59 : decode cX6_likely 59 = .ok (.invokevirtual 208, 3) := by decide +kernel
theorem dX6_likely_62 : decode cX6_likely 62 = .ok (.invokevirtual 211, 3) := by decide +kernel
theorem dX6_likely_65 : decode cX6_likely 65 = .ok (.ireturn, 1) := by decide +kernel
theorem dX6_takesOf_0 : decode cX6_takesOf 0 = .ok (.iconst 0, 1) := by decide +kernel
theorem dX6_takesOf_1 : decode cX6_takesOf 1 = .ok (.istore_n 3, 1) := by decide +kernel
theorem dX6_takesOf_2 : decode cX6_takesOf 2 = .ok (.iconst 0, 1) := by decide +kernel
theorem dX6_takesOf_3 : decode cX6_takesOf 3 = .ok (.istore 4, 2) := by decide +kernel
theorem dX6_takesOf_5 : decode cX6_takesOf 5 = .ok (.iload 4, 2) := by decide +kernel
theorem dX6_takesOf_7 : decode cX6_takesOf 7 = .ok (.aload_n 0, 1) := by decide +kernel
theorem dX6_takesOf_8 : decode cX6_takesOf 8 = .ok (.getfield 135, 3) := by decide +kernel
theorem dX6_takesOf_11 : decode cX6_takesOf 11 = .ok (.if_icmp .ge 40, 3) := by decide +kernel
theorem dX6_takesOf_14 : decode cX6_takesOf 14 = .ok (.iload_n 3, 1) := by decide +kernel
theorem dX6_takesOf_15 : decode cX6_takesOf 15 = .ok (.iload_n 1, 1) := by decide +kernel
theorem dX6_takesOf_16 : decode cX6_takesOf 16 = .ok (.iload 4, 2) := by decide +kernel
theorem dX6_takesOf_18 : decode cX6_takesOf 18 = .ok (.invokestatic 202, 3) := by decide +kernel
theorem dX6_takesOf_21 : decode cX6_takesOf 21 = .ok (.ifCond .eq 21, 3) := by decide +kernel
theorem dX6_takesOf_24 : decode cX6_takesOf 24 = .ok (.aload_n 0, 1) := by decide +kernel
theorem dX6_takesOf_25 : decode cX6_takesOf 25 = .ok (.getfield 48, 3) := by decide +kernel
theorem dX6_takesOf_28 : decode cX6_takesOf 28 = .ok (.iload 4, 2) := by decide +kernel
theorem dX6_takesOf_30 : decode cX6_takesOf 30 = .ok (.iaload, 1) := by decide +kernel
theorem dX6_takesOf_31 : decode cX6_takesOf 31 = .ok (.aload_n 0, 1) := by decide +kernel
theorem dX6_takesOf_32 : decode cX6_takesOf 32 = .ok (.iload 4, 2) := by decide +kernel
theorem dX6_takesOf_34 : decode cX6_takesOf 34 = .ok (.iload_n 2, 1) := by decide +kernel
theorem dX6_takesOf_35 : decode cX6_takesOf 35 = .ok (.invokevirtual 184, 3) := by decide +kernel
theorem dX6_takesOf_38 : decode cX6_takesOf 38 = .ok (.imul, 1) := by decide +kernel
theorem dX6_takesOf_39 : decode cX6_takesOf 39 = .ok (.goto 4, 3) := by decide +kernel
theorem dX6_takesOf_42 : decode cX6_takesOf 42 = .ok (.iconst 0, 1) := by decide +kernel
theorem dX6_takesOf_43 : decode cX6_takesOf 43 = .ok (.iadd, 1) := by decide +kernel
theorem dX6_takesOf_44 : decode cX6_takesOf 44 = .ok (.istore_n 3, 1) := by decide +kernel
theorem dX6_takesOf_45 : decode cX6_takesOf 45 = .ok (.iinc 4 1, 3) := by decide +kernel
theorem dX6_takesOf_48 : decode cX6_takesOf 48 = .ok (.goto (-43), 3) := by decide +kernel
theorem dX6_takesOf_51 : decode cX6_takesOf 51 = .ok (.iload_n 3, 1) := by decide +kernel
theorem dX6_takesOf_52 : decode cX6_takesOf 52 = .ok (.ireturn, 1) := by decide +kernel
theorem dX6_takes_0 : decode cX6_takes 0 = .ok (.iload_n 1, 1) := by decide +kernel
theorem dX6_takes_1 : decode cX6_takes 1 = .ok (.invokestatic 196, 3) := by decide +kernel
theorem dX6_takes_4 : decode cX6_takes 4 = .ok (.ifCond .eq 17, 3) := by decide +kernel
theorem dX6_takes_7 : decode cX6_takes 7 = .ok (.iload_n 2, 1) := by decide +kernel
theorem dX6_takes_8 : decode cX6_takes 8 = .ok (.invokestatic 196, 3) := by decide +kernel
theorem dX6_takes_11 : decode cX6_takes 11 = .ok (.ifCond .eq 10, 3) := by decide +kernel
theorem dX6_takes_14 : decode cX6_takes 14 = .ok (.iload_n 3, 1) := by decide +kernel
theorem dX6_takes_15 : decode cX6_takes 15 = .ok (.invokestatic 190, 3) := by decide +kernel
theorem dX6_takes_18 : decode cX6_takes 18 = .ok (.ifCond .ne 5, 3) := by decide +kernel
theorem dX6_takes_21 : decode cX6_takes 21 = .ok (.iconst (-1), 1) := by decide +kernel
theorem dX6_takes_22 : decode cX6_takes 22 = .ok (.ireturn, 1) := by decide +kernel
theorem dX6_takes_23 : decode cX6_takes 23 = .ok (.aload_n 0, 1) := by decide +kernel
theorem dX6_takes_24 : decode cX6_takes 24 = .ok (.iload_n 1, 1) := by decide +kernel
theorem dX6_takes_25 : decode cX6_takes 25 = .ok (.iload_n 2, 1) := by decide +kernel
theorem dX6_takes_26 : decode cX6_takes 26 = .ok (.invokevirtual 199, 3) := by decide +kernel
theorem dX6_takes_29 : decode cX6_takes 29 = .ok (.istore 4, 2) := by decide +kernel
theorem dX6_takes_31 : decode cX6_takes 31 = .ok (.iload 4, 2) := by decide +kernel
theorem dX6_takes_33 : decode cX6_takes 33 = .ok (.ifCond .ne 11, 3) := by decide +kernel
theorem dX6_takes_36 : decode cX6_takes 36 = .ok (.aload_n 0, 1) := by decide +kernel
theorem dX6_takes_37 : decode cX6_takes 37 = .ok (.iconst 4, 1) := by decide +kernel
theorem dX6_takes_38 : decode cX6_takes 38 = .ok (.invokevirtual 97, 3) := by decide +kernel
theorem dX6_takes_41 : decode cX6_takes 41 = .ok (.goto 20, 3) := by decide +kernel
theorem dX6_takes_44 : decode cX6_takes 44 = .ok (.aload_n 0, 1) := by decide +kernel
theorem dX6_takes_45 : decode cX6_takes 45 = .ok (.aload_n 0, 1) := by decide +kernel
theorem dX6_takes_46 : decode cX6_takes 46 = .ok (.iload 4, 2) := by decide +kernel
theorem dX6_takes_48 : decode cX6_takes 48 = .ok (.iload_n 3, 1) := by decide +kernel
theorem dX6_takes_49 : decode cX6_takes 49 = .ok (.invokevirtual 214, 3) := by decide +kernel
theorem dX6_takes_52 : decode cX6_takes 52 = .ok (.aload_n 0, 1) := by decide +kernel
theorem dX6_takes_53 : decode cX6_takes 53 = .ok (.iload 4, 2) := by decide +kernel
theorem dX6_takes_55 : decode cX6_takes 55 = .ok (.invokevirtual 208, 3) := by decide +kernel
theorem dX6_takes_58 : decode cX6_takes 58 = .ok (.invokevirtual 211, 3) := by decide +kernel
theorem dX6_takes_61 : decode cX6_takes 61 = .ok (.ireturn, 1) := by decide +kernel
theorem dX6_quickestOf_0 : decode cX6_quickestOf 0 = .ok (.bipush (-9), 2) := by decide +kernel
theorem dX6_quickestOf_2 : decode cX6_quickestOf 2 = .ok (.istore_n 2, 1) := by decide +kernel
theorem dX6_quickestOf_3 : decode cX6_quickestOf 3 = .ok (.iconst 0, 1) := by decide +kernel
theorem dX6_quickestOf_4 : decode cX6_quickestOf 4 = .ok (.istore_n 3, 1) := by decide +kernel
theorem dX6_quickestOf_5 : decode cX6_quickestOf 5 = .ok (.iload_n 3, 1) := by decide +kernel
theorem dX6_quickestOf_6 : decode cX6_quickestOf 6 = .ok (.bipush 6, 2) := by decide +kernel
theorem dX6_quickestOf_8 : decode cX6_quickestOf 8 = .ok (.if_icmp .ge 30, 3) := by decide +kernel
theorem dX6_quickestOf_11 : decode cX6_quickestOf 11 = .ok (.aload_n 0, 1) := by decide +kernel
theorem dX6_quickestOf_12 : decode cX6_quickestOf 12 = .ok (.iload_n 1, 1) := by decide +kernel
theorem dX6_quickestOf_13 : decode cX6_quickestOf 13 = .ok (.iload_n 3, 1) := by decide +kernel
theorem dX6_quickestOf_14 : decode cX6_quickestOf 14 = .ok (.invokevirtual 214, 3) := by decide +kernel
theorem dX6_quickestOf_17 : decode cX6_quickestOf 17 = .ok (.aload_n 0, 1) := by decide +kernel
theorem dX6_quickestOf_18 : decode cX6_quickestOf 18 = .ok (.iload_n 1, 1) := by decide +kernel
theorem dX6_quickestOf_19 : decode cX6_quickestOf 19 = .ok (.iload_n 2, 1) := by decide +kernel
theorem dX6_quickestOf_20 : decode cX6_quickestOf 20 = .ok (.invokevirtual 214, 3) := by decide +kernel
theorem dX6_quickestOf_23 : decode cX6_quickestOf 23 = .ok (.if_icmp .ge 7, 3) := by decide +kernel
theorem dX6_quickestOf_26 : decode cX6_quickestOf 26 = .ok (.iload_n 3, 1) := by decide +kernel
theorem dX6_quickestOf_27 : decode cX6_quickestOf 27 = .ok (.goto 4, 3) := by decide +kernel
theorem dX6_quickestOf_30 : decode cX6_quickestOf 30 = .ok (.iload_n 2, 1) := by decide +kernel
theorem dX6_quickestOf_31 : decode cX6_quickestOf 31 = .ok (.istore_n 2, 1) := by decide +kernel
theorem dX6_quickestOf_32 : decode cX6_quickestOf 32 = .ok (.iinc 3 1, 3) := by decide +kernel
theorem dX6_quickestOf_35 : decode cX6_quickestOf 35 = .ok (.goto (-30), 3) := by decide +kernel
theorem dX6_quickestOf_38 : decode cX6_quickestOf 38 = .ok (.iload_n 2, 1) := by decide +kernel
theorem dX6_quickestOf_39 : decode cX6_quickestOf 39 = .ok (.ireturn, 1) := by decide +kernel
theorem dX6_soured_0 : decode cX6_soured 0 = .ok (.iconst 0, 1) := by decide +kernel
theorem dX6_soured_1 : decode cX6_soured 1 = .ok (.istore_n 3, 1) := by decide +kernel
theorem dX6_soured_2 : decode cX6_soured 2 = .ok (.iconst 0, 1) := by decide +kernel
theorem dX6_soured_3 : decode cX6_soured 3 = .ok (.istore 4, 2) := by decide +kernel
theorem dX6_soured_5 : decode cX6_soured 5 = .ok (.iload 4, 2) := by decide +kernel
theorem dX6_soured_7 : decode cX6_soured 7 = .ok (.aload_n 0, 1) := by decide +kernel
theorem dX6_soured_8 : decode cX6_soured 8 = .ok (.getfield 135, 3) := by decide +kernel
theorem dX6_soured_11 : decode cX6_soured 11 = .ok (.if_icmp .ge 39, 3) := by decide +kernel
theorem dX6_soured_14 : decode cX6_soured 14 = .ok (.iload_n 3, 1) := by decide +kernel
theorem dX6_soured_15 : decode cX6_soured 15 = .ok (.iload_n 1, 1) := by decide +kernel
theorem dX6_soured_16 : decode cX6_soured 16 = .ok (.iload 4, 2) := by decide +kernel
theorem dX6_soured_18 : decode cX6_soured 18 = .ok (.invokestatic 202, 3) := by decide +kernel
theorem dX6_soured_21 : decode cX6_soured 21 = .ok (.ifCond .eq 20, 3) := by decide +kernel
theorem dX6_soured_24 : decode cX6_soured 24 = .ok (.aload_n 0, 1) := by decide +kernel
theorem dX6_soured_25 : decode cX6_soured 25 = .ok (.iload 4, 2) := by decide +kernel
theorem dX6_soured_27 : decode cX6_soured 27 = .ok (.iload_n 2, 1) := by decide +kernel
theorem dX6_soured_28 : decode cX6_soured 28 = .ok (.invokevirtual 169, 3) := by decide +kernel
theorem dX6_soured_31 : decode cX6_soured 31 = .ok (.ifCond .eq 10, 3) := by decide +kernel
theorem dX6_soured_34 : decode cX6_soured 34 = .ok (.iconst 1, 1) := by decide +kernel
theorem dX6_soured_35 : decode cX6_soured 35 = .ok (.iload 4, 2) := by decide +kernel
theorem dX6_soured_37 : decode cX6_soured 37 = .ok (.ishl, 1) := by decide +kernel
theorem dX6_soured_38 : decode cX6_soured 38 = .ok (.goto 4, 3) := by decide +kernel
theorem dX6_soured_41 : decode cX6_soured 41 = .ok (.iconst 0, 1) := by decide +kernel
theorem dX6_soured_42 : decode cX6_soured 42 = .ok (.ior, 1) := by decide +kernel
theorem dX6_soured_43 : decode cX6_soured 43 = .ok (.istore_n 3, 1) := by decide +kernel
theorem dX6_soured_44 : decode cX6_soured 44 = .ok (.iinc 4 1, 3) := by decide +kernel
theorem dX6_soured_47 : decode cX6_soured 47 = .ok (.goto (-42), 3) := by decide +kernel
theorem dX6_soured_50 : decode cX6_soured 50 = .ok (.iload_n 3, 1) := by decide +kernel
theorem dX6_soured_51 : decode cX6_soured 51 = .ok (.ireturn, 1) := by decide +kernel
theorem dX6_quickest_0 : decode cX6_quickest 0 = .ok (.iload_n 1, 1) := by decide +kernel
theorem dX6_quickest_1 : decode cX6_quickest 1 = .ok (.invokestatic 196, 3) := by decide +kernel
theorem dX6_quickest_4 : decode cX6_quickest 4 = .ok (.ifCond .eq 10, 3) := by decide +kernel
theorem dX6_quickest_7 : decode cX6_quickest 7 = .ok (.iload_n 2, 1) := by decide +kernel
theorem dX6_quickest_8 : decode cX6_quickest 8 = .ok (.invokestatic 196, 3) := by decide +kernel
theorem dX6_quickest_11 : decode cX6_quickest 11 = .ok (.ifCond .ne 5, 3) := by decide +kernel
theorem dX6_quickest_14 : decode cX6_quickest 14 = .ok (.iconst (-1), 1) := by decide +kernel
theorem dX6_quickest_15 : decode cX6_quickest 15 = .ok (.ireturn, 1) := by decide +kernel
theorem dX6_quickest_16 : decode cX6_quickest 16 = .ok (.aload_n 0, 1) := by decide +kernel
theorem dX6_quickest_17 : decode cX6_quickest 17 = .ok (.iload_n 1, 1) := by decide +kernel
theorem dX6_quickest_18 : decode cX6_quickest 18 = .ok (.iload_n 2, 1) := by decide +kernel
theorem dX6_quickest_19 : decode cX6_quickest 19 = .ok (.invokevirtual 199, 3) := by decide +kernel
theorem dX6_quickest_22 : decode cX6_quickest 22 = .ok (.istore_n 3, 1) := by decide +kernel
theorem dX6_quickest_23 : decode cX6_quickest 23 = .ok (.iload_n 3, 1) := by decide +kernel
theorem dX6_quickest_24 : decode cX6_quickest 24 = .ok (.ifCond .ne 9, 3) := by decide +kernel
theorem dX6_quickest_27 : decode cX6_quickest 27 = .ok (.aload_n 0, 1) := by decide +kernel
theorem dX6_quickest_28 : decode cX6_quickest 28 = .ok (.iconst 4, 1) := by decide +kernel
theorem dX6_quickest_29 : decode cX6_quickest 29 = .ok (.invokevirtual 97, 3) := by decide +kernel
theorem dX6_quickest_32 : decode cX6_quickest 32 = .ok (.ireturn, 1) := by decide +kernel
theorem dX6_quickest_33 : decode cX6_quickest 33 = .ok (.aload_n 0, 1) := by decide +kernel
theorem dX6_quickest_34 : decode cX6_quickest 34 = .ok (.iload_n 3, 1) := by decide +kernel
theorem dX6_quickest_35 : decode cX6_quickest 35 = .ok (.invokevirtual 217, 3) := by decide +kernel
theorem dX6_quickest_38 : decode cX6_quickest 38 = .ok (.istore 4, 2) := by decide +kernel
theorem dX6_quickest_40 : decode cX6_quickest 40 = .ok (.aload_n 0, 1) := by decide +kernel
theorem dX6_quickest_41 : decode cX6_quickest 41 = .ok (.aload_n 0, 1) := by decide +kernel
theorem dX6_quickest_42 : decode cX6_quickest 42 = .ok (.iload_n 3, 1) := by decide +kernel
theorem dX6_quickest_43 : decode cX6_quickest 43 = .ok (.iload 4, 2) := by decide +kernel
theorem dX6_quickest_45 : decode cX6_quickest 45 = .ok (.invokevirtual 220, 3) := by decide +kernel
theorem dX6_quickest_48 : decode cX6_quickest 48 = .ok (.invokestatic 223, 3) := by decide +kernel
theorem dX6_quickest_51 : decode cX6_quickest 51 = .ok (.iload 4, 2) := by decide +kernel
theorem dX6_quickest_53 : decode cX6_quickest 53 = .ok (.invokevirtual 105, 3) := by decide +kernel
theorem dX6_quickest_56 : decode cX6_quickest 56 = .ok (.ireturn, 1) := by decide +kernel
theorem dX6_needQueue_0 : decode cX6_needQueue 0 = .ok (.iload_n 2, 1) := by decide +kernel
theorem dX6_needQueue_1 : decode cX6_needQueue 1 = .ok (.ifCond .eq 10, 3) := by decide +kernel
theorem dX6_needQueue_4 : decode cX6_needQueue 4 = .ok (.iload_n 1, 1) := by decide +kernel
theorem dX6_needQueue_5 : decode cX6_needQueue 5 = .ok (.invokestatic 93, 3) := by decide +kernel
theorem dX6_needQueue_8 : decode cX6_needQueue 8 = .ok (.ifCond .ne 5, 3) := by decide +kernel
theorem dX6_needQueue_11 : decode cX6_needQueue 11 = .ok (.iconst (-1), 1) := by decide +kernel
theorem dX6_needQueue_12 : decode cX6_needQueue 12 = .ok (.ireturn, 1) := by decide +kernel
theorem dX6_needQueue_13 : decode cX6_needQueue 13 = .ok (.aload_n 0, 1) := by decide +kernel
theorem dX6_needQueue_14 : decode cX6_needQueue 14 = .ok (.getfield 135, 3) := by decide +kernel
theorem dX6_needQueue_17 : decode cX6_needQueue 17 = .ok (.ifCond .ne 6, 3) := by decide +kernel
theorem dX6_needQueue_20 : decode cX6_needQueue 20 = .ok (.bipush (-4), 2) := by decide +kernel
theorem dX6_needQueue_22 : decode cX6_needQueue 22 = .ok (.ireturn, 1) := by decide +kernel
theorem dX6_needQueue_23 : decode cX6_needQueue 23 = .ok (.aload_n 0, 1) := by decide +kernel
theorem dX6_needQueue_24 : decode cX6_needQueue 24 = .ok (.getfield 17, 3) := by decide +kernel
theorem dX6_needQueue_27 : decode cX6_needQueue 27 = .ok (.iload_n 1, 1) := by decide +kernel
theorem dX6_needQueue_28 : decode cX6_needQueue 28 = .ok (.iaload, 1) := by decide +kernel
theorem dX6_needQueue_29 : decode cX6_needQueue 29 = .ok (.ifCond .ge 9, 3) := by decide +kernel
theorem dX6_needQueue_32 : decode cX6_needQueue 32 = .ok (.aload_n 0, 1) := by decide +kernel
theorem dX6_needQueue_33 : decode cX6_needQueue 33 = .ok (.iconst 1, 1) := by decide +kernel
theorem dX6_needQueue_34 : decode cX6_needQueue 34 = .ok (.invokevirtual 97, 3) := by decide +kernel
theorem dX6_needQueue_37 : decode cX6_needQueue 37 = .ok (.ireturn, 1) := by decide +kernel
theorem dX6_needQueue_38 : decode cX6_needQueue 38 = .ok (.aload_n 0, 1) := by decide +kernel
theorem dX6_needQueue_39 : decode cX6_needQueue 39 = .ok (.getfield 17, 3) := by decide +kernel
theorem dX6_needQueue_42 : decode cX6_needQueue 42 = .ok (.iload_n 1, 1) := by decide +kernel
theorem dX6_needQueue_43 : decode cX6_needQueue 43 = .ok (.iaload, 1) := by decide +kernel
theorem dX6_needQueue_44 : decode cX6_needQueue 44 = .ok (.iconst 2, 1) := by decide +kernel
theorem dX6_needQueue_45 : decode cX6_needQueue 45 = .ok (.irem, 1) := by decide +kernel
theorem dX6_needQueue_46 : decode cX6_needQueue 46 = .ok (.ifCond .ne 14, 3) := by decide +kernel
theorem dX6_needQueue_49 : decode cX6_needQueue 49 = .ok (.aload_n 0, 1) := by decide +kernel
theorem dX6_needQueue_50 : decode cX6_needQueue 50 = .ok (.getfield 17, 3) := by decide +kernel
theorem dX6_needQueue_53 : decode cX6_needQueue 53 = .ok (.iload_n 1, 1) := by decide +kernel
theorem dX6_needQueue_54 : decode cX6_needQueue 54 = .ok (.iaload, 1) := by decide +kernel
theorem dX6_needQueue_55 : decode cX6_needQueue 55 = .ok (.bipush 16, 2) := by decide +kernel
theorem dX6_needQueue_57 : decode cX6_needQueue 57 = .ok (.if_icmp .le 9, 3) := by decide +kernel
theorem dX6_needQueue_60 : decode cX6_needQueue 60 = .ok (.aload_n 0, 1) := by decide +kernel
theorem dX6_needQueue_61 : decode cX6_needQueue 61 = .ok (.iconst 5, 1) := by decide +kernel
theorem dX6_needQueue_62 : decode cX6_needQueue 62 = .ok (.invokevirtual 97, 3) := by decide +kernel
theorem dX6_needQueue_65 : decode cX6_needQueue 65 = .ok (.ireturn, 1) := by decide +kernel
theorem dX6_needQueue_66 : decode cX6_needQueue 66 = .ok (.iconst 1, 1) := by decide +kernel
theorem dX6_needQueue_67 : decode cX6_needQueue 67 = .ok (.istore_n 3, 1) := by decide +kernel
theorem dX6_needQueue_68 : decode cX6_needQueue 68 = .ok (.iconst 0, 1) := by decide +kernel
theorem dX6_needQueue_69 : decode cX6_needQueue 69 = .ok (.istore 4, 2) := by decide +kernel
theorem dX6_needQueue_71 : decode cX6_needQueue 71 = .ok (.iload 4, 2) := by decide +kernel
theorem dX6_needQueue_73 : decode cX6_needQueue 73 = .ok (.aload_n 0, 1) := by decide +kernel
theorem dX6_needQueue_74 : decode cX6_needQueue 74 = .ok (.getfield 17, 3) := by decide +kernel
theorem dX6_needQueue_77 : decode cX6_needQueue 77 = .ok (.iload_n 1, 1) := by decide +kernel
theorem dX6_needQueue_78 : decode cX6_needQueue 78 = .ok (.iaload, 1) := by decide +kernel
theorem dX6_needQueue_79 : decode cX6_needQueue 79 = .ok (.if_icmp .ge 73, 3) := by decide +kernel
theorem dX6_needQueue_82 : decode cX6_needQueue 82 = .ok (.iload 4, 2) := by decide +kernel
theorem dX6_needQueue_84 : decode cX6_needQueue 84 = .ok (.ifCond .ne 7, 3) := by decide +kernel
theorem dX6_needQueue_87 : decode cX6_needQueue 87 = .ok (.iconst 0, 1) := by decide +kernel
theorem dX6_needQueue_88 : decode cX6_needQueue 88 = .ok (.goto 12, 3) := by decide +kernel
theorem dX6_needQueue_91 : decode cX6_needQueue 91 = .ok (.aload_n 0, 1) := by decide +kernel
theorem dX6_needQueue_92 : decode cX6_needQueue 92 = .ok (.iload_n 1, 1) := by decide +kernel
theorem dX6_needQueue_93 : decode cX6_needQueue 93 = .ok (.iload 4, 2) := by decide +kernel
theorem dX6_needQueue_95 : decode cX6_needQueue 95 = .ok (.iconst 1, 1) := by decide +kernel
theorem dX6_needQueue_96 : decode cX6_needQueue 96 = .ok (.isub, 1) := by decide +kernel
theorem dX6_needQueue_97 : decode cX6_needQueue 97 = .ok (.invokevirtual 101, 3) := by decide +kernel
theorem dX6_needQueue_100 : decode cX6_needQueue 100 = .ok (.istore 5, 2) := by decide +kernel
theorem dX6_needQueue_102 : decode cX6_needQueue 102 = .ok (.iload_n 3, 1) := by decide +kernel
theorem dX6_needQueue_103 : decode cX6_needQueue 103 = .ok (.ifCond .eq 41, 3) := by decide +kernel
theorem dX6_needQueue_106 : decode cX6_needQueue 106 = .ok (.aload_n 0, 1) := by decide +kernel
theorem dX6_needQueue_107 : decode cX6_needQueue 107 = .ok (.aload_n 0, 1) := by decide +kernel
theorem dX6_needQueue_108 : decode cX6_needQueue 108 = .ok (.iload_n 1, 1) := by decide +kernel
theorem dX6_needQueue_109 : decode cX6_needQueue 109 = .ok (.iload 4, 2) := by decide +kernel
theorem dX6_needQueue_111 : decode cX6_needQueue 111 = .ok (.invokevirtual 101, 3) := by decide +kernel
theorem dX6_needQueue_114 : decode cX6_needQueue 114 = .ok (.invokevirtual 163, 3) := by decide +kernel
theorem dX6_needQueue_117 : decode cX6_needQueue 117 = .ok (.ifCond .eq 27, 3) := by decide +kernel
theorem dX6_needQueue_120 : decode cX6_needQueue 120 = .ok (.aload_n 0, 1) := by decide +kernel
theorem dX6_needQueue_121 : decode cX6_needQueue 121 = .ok (.iload_n 1, 1) := by decide +kernel
theorem dX6_needQueue_122 : decode cX6_needQueue 122 = .ok (.iload 4, 2) := by decide +kernel
theorem dX6_needQueue_124 : decode cX6_needQueue 124 = .ok (.iconst 1, 1) := by decide +kernel
theorem dX6_needQueue_125 : decode cX6_needQueue 125 = .ok (.iadd, 1) := by decide +kernel
theorem dX6_needQueue_126 : decode cX6_needQueue 126 = .ok (.invokevirtual 101, 3) := by decide +kernel
theorem dX6_needQueue_129 : decode cX6_needQueue 129 = .ok (.iload 5, 2) := by decide +kernel
theorem dX6_needQueue_131 : decode cX6_needQueue 131 = .ok (.sipush 999, 3) := by decide +kernel
theorem dX6_needQueue_134 : decode cX6_needQueue 134 = .ok (.invokestatic 83, 3) := by decide +kernel
theorem dX6_needQueue_137 : decode cX6_needQueue 137 = .ok (.ifCond .eq 7, 3) := by decide +kernel
theorem dX6_needQueue_140 : decode cX6_needQueue 140 = .ok (.iconst 1, 1) := by decide +kernel
theorem dX6_needQueue_141 : decode cX6_needQueue 141 = .ok (.goto 4, 3) := by decide +kernel
theorem dX6_needQueue_144 : decode cX6_needQueue 144 = .ok (.iconst 0, 1) := by decide +kernel
theorem dX6_needQueue_145 : decode cX6_needQueue 145 = .ok (.istore_n 3, 1) := by decide +kernel
theorem dX6_needQueue_146 : decode cX6_needQueue 146 = .ok (.iinc 4 2, 3) := by decide +kernel
theorem dX6_needQueue_149 : decode cX6_needQueue 149 = .ok (.goto (-78), 3) := by decide +kernel
theorem dX6_needQueue_152 : decode cX6_needQueue 152 = .ok (.iload_n 3, 1) := by decide +kernel
theorem dX6_needQueue_153 : decode cX6_needQueue 153 = .ok (.ifCond .eq 7, 3) := by decide +kernel
theorem dX6_needQueue_156 : decode cX6_needQueue 156 = .ok (.iconst 0, 1) := by decide +kernel
theorem dX6_needQueue_157 : decode cX6_needQueue 157 = .ok (.goto 8, 3) := by decide +kernel
theorem dX6_needQueue_160 : decode cX6_needQueue 160 = .ok (.aload_n 0, 1) := by decide +kernel
theorem dX6_needQueue_161 : decode cX6_needQueue 161 = .ok (.iconst 3, 1) := by decide +kernel
theorem dX6_needQueue_162 : decode cX6_needQueue 162 = .ok (.invokevirtual 97, 3) := by decide +kernel
theorem dX6_needQueue_165 : decode cX6_needQueue 165 = .ok (.ireturn, 1) := by decide +kernel
theorem dX6_passes_0 : decode cX6_passes 0 = .ok (.aload_n 0, 1) := by decide +kernel
theorem dX6_passes_1 : decode cX6_passes 1 = .ok (.iconst 0, 1) := by decide +kernel
theorem dX6_passes_2 : decode cX6_passes 2 = .ok (.putfield 226, 3) := by decide +kernel
theorem dX6_passes_5 : decode cX6_passes 5 = .ok (.aload_n 0, 1) := by decide +kernel
theorem dX6_passes_6 : decode cX6_passes 6 = .ok (.iconst 0, 1) := by decide +kernel
theorem dX6_passes_7 : decode cX6_passes 7 = .ok (.putfield 229, 3) := by decide +kernel
theorem dX6_passes_10 : decode cX6_passes 10 = .ok (.aload_n 0, 1) := by decide +kernel
theorem dX6_passes_11 : decode cX6_passes 11 = .ok (.iconst 0, 1) := by decide +kernel
theorem dX6_passes_12 : decode cX6_passes 12 = .ok (.putfield 232, 3) := by decide +kernel
theorem dX6_passes_15 : decode cX6_passes 15 = .ok (.iconst 0, 1) := by decide +kernel
theorem dX6_passes_16 : decode cX6_passes 16 = .ok (.istore_n 3, 1) := by decide +kernel
theorem dX6_passes_17 : decode cX6_passes 17 = .ok (.iload_n 3, 1) := by decide +kernel
theorem dX6_passes_18 : decode cX6_passes 18 = .ok (.aload_n 0, 1) := by decide +kernel
theorem dX6_passes_19 : decode cX6_passes 19 = .ok (.getfield 17, 3) := by decide +kernel
theorem dX6_passes_22 : decode cX6_passes 22 = .ok (.iload_n 1, 1) := by decide +kernel
theorem dX6_passes_23 : decode cX6_passes 23 = .ok (.iaload, 1) := by decide +kernel
theorem dX6_passes_24 : decode cX6_passes 24 = .ok (.if_icmp .ge 121, 3) := by decide +kernel
theorem dX6_passes_27 : decode cX6_passes 27 = .ok (.aload_n 0, 1) := by decide +kernel
theorem dX6_passes_28 : decode cX6_passes 28 = .ok (.iload_n 1, 1) := by decide +kernel
theorem dX6_passes_29 : decode cX6_passes 29 = .ok (.iload_n 3, 1) := by decide +kernel
theorem dX6_passes_30 : decode cX6_passes 30 = .ok (.invokevirtual 101, 3) := by decide +kernel
theorem dX6_passes_33 : decode cX6_passes 33 = .ok (.istore 4, 2) := by decide +kernel
theorem dX6_passes_35 : decode cX6_passes 35 = .ok (.aload_n 0, 1) := by decide +kernel
theorem dX6_passes_36 : decode cX6_passes 36 = .ok (.iload_n 1, 1) := by decide +kernel
theorem dX6_passes_37 : decode cX6_passes 37 = .ok (.iload_n 3, 1) := by decide +kernel
theorem dX6_passes_38 : decode cX6_passes 38 = .ok (.iconst 1, 1) := by decide +kernel
theorem dX6_passes_39 : decode cX6_passes 39 = .ok (.iadd, 1) := by decide +kernel
theorem dX6_passes_40 : decode cX6_passes 40 = .ok (.invokevirtual 101, 3) := by decide +kernel
theorem dX6_passes_43 : decode cX6_passes 43 = .ok (.istore 5, 2) := by decide +kernel
theorem dX6_passes_45 : decode cX6_passes 45 = .ok (.iload 5, 2) := by decide +kernel
theorem dX6_passes_47 : decode cX6_passes 47 = .ok (.aload_n 0, 1) := by decide +kernel
theorem dX6_passes_48 : decode cX6_passes 48 = .ok (.getfield 232, 3) := by decide +kernel
theorem dX6_passes_51 : decode cX6_passes 51 = .ok (.if_icmp .le 8, 3) := by decide +kernel
theorem dX6_passes_54 : decode cX6_passes 54 = .ok (.iload 5, 2) := by decide +kernel
theorem dX6_passes_56 : decode cX6_passes 56 = .ok (.goto 7, 3) := by decide +kernel
theorem dX6_passes_59 : decode cX6_passes 59 = .ok (.aload_n 0, 1) := by decide +kernel
theorem dX6_passes_60 : decode cX6_passes 60 = .ok (.getfield 232, 3) := by decide +kernel
theorem dX6_passes_63 : decode cX6_passes 63 = .ok (.istore 6, 2) := by decide +kernel
theorem dX6_passes_65 : decode cX6_passes 65 = .ok (.iload 6, 2) := by decide +kernel
theorem dX6_passes_67 : decode cX6_passes 67 = .ok (.iload 5, 2) := by decide +kernel
theorem dX6_passes_69 : decode cX6_passes 69 = .ok (.isub, 1) := by decide +kernel
theorem dX6_passes_70 : decode cX6_passes 70 = .ok (.aload_n 0, 1) := by decide +kernel
theorem dX6_passes_71 : decode cX6_passes 71 = .ok (.getfield 33, 3) := by decide +kernel
theorem dX6_passes_74 : decode cX6_passes 74 = .ok (.iload 4, 2) := by decide +kernel
theorem dX6_passes_76 : decode cX6_passes 76 = .ok (.iaload, 1) := by decide +kernel
theorem dX6_passes_77 : decode cX6_passes 77 = .ok (.iconst 3, 1) := by decide +kernel
theorem dX6_passes_78 : decode cX6_passes 78 = .ok (.if_icmp .ne 8, 3) := by decide +kernel
theorem dX6_passes_81 : decode cX6_passes 81 = .ok (.bipush 20, 2) := by decide +kernel
theorem dX6_passes_83 : decode cX6_passes 83 = .ok (.goto 5, 3) := by decide +kernel
theorem dX6_passes_86 : decode cX6_passes 86 = .ok (.bipush 60, 2) := by decide +kernel
theorem dX6_passes_88 : decode cX6_passes 88 = .ok (.if_icmp .le 16, 3) := by decide +kernel
theorem dX6_passes_91 : decode cX6_passes 91 = .ok (.aload_n 0, 1) := by decide +kernel
theorem dX6_passes_92 : decode cX6_passes 92 = .ok (.dup, 1) := by decide +kernel
theorem dX6_passes_93 : decode cX6_passes 93 = .ok (.getfield 226, 3) := by decide +kernel
theorem dX6_passes_96 : decode cX6_passes 96 = .ok (.iconst 1, 1) := by decide +kernel
theorem dX6_passes_97 : decode cX6_passes 97 = .ok (.iadd, 1) := by decide +kernel
theorem dX6_passes_98 : decode cX6_passes 98 = .ok (.putfield 226, 3) := by decide +kernel
theorem dX6_passes_101 : decode cX6_passes 101 = .ok (.goto 38, 3) := by decide +kernel
theorem dX6_passes_104 : decode cX6_passes 104 = .ok (.aload_n 0, 1) := by decide +kernel
theorem dX6_passes_105 : decode cX6_passes 105 = .ok (.iload 6, 2) := by decide +kernel
theorem dX6_passes_107 : decode cX6_passes 107 = .ok (.aload_n 0, 1) := by decide +kernel
theorem dX6_passes_108 : decode cX6_passes 108 = .ok (.iload 4, 2) := by decide +kernel
theorem dX6_passes_110 : decode cX6_passes 110 = .ok (.invokevirtual 160, 3) := by decide +kernel
theorem dX6_passes_113 : decode cX6_passes 113 = .ok (.iadd, 1) := by decide +kernel
theorem dX6_passes_114 : decode cX6_passes 114 = .ok (.putfield 232, 3) := by decide +kernel
theorem dX6_passes_117 : decode cX6_passes 117 = .ok (.aload_n 0, 1) := by decide +kernel
theorem dX6_passes_118 : decode cX6_passes 118 = .ok (.dup, 1) := by decide +kernel
theorem dX6_passes_119 : decode cX6_passes 119 = .ok (.getfield 229, 3) := by decide +kernel
theorem dX6_passes_122 : decode cX6_passes 122 = .ok (.aload_n 0, 1) := by decide +kernel
theorem dX6_passes_123 : decode cX6_passes 123 = .ok (.getfield 232, 3) := by decide +kernel
theorem dX6_passes_126 : decode cX6_passes 126 = .ok (.iload_n 2, 1) := by decide +kernel
theorem dX6_passes_127 : decode cX6_passes 127 = .ok (.if_icmp .gt 7, 3) := by decide +kernel
theorem dX6_passes_130 : decode cX6_passes 130 = .ok (.iconst 1, 1) := by decide +kernel
theorem dX6_passes_131 : decode cX6_passes 131 = .ok (.goto 4, 3) := by decide +kernel
theorem dX6_passes_134 : decode cX6_passes 134 = .ok (.iconst 0, 1) := by decide +kernel
theorem dX6_passes_135 : decode cX6_passes 135 = .ok (.iadd, 1) := by decide +kernel
theorem dX6_passes_136 : decode cX6_passes 136 = .ok (.putfield 229, 3) := by decide +kernel
theorem dX6_passes_139 : decode cX6_passes 139 = .ok (.iinc 3 2, 3) := by decide +kernel
theorem dX6_passes_142 : decode cX6_passes 142 = .ok (.goto (-125), 3) := by decide +kernel
theorem dX6_passes_145 : decode cX6_passes 145 = .ok (.return_, 1) := by decide +kernel
theorem dX6_queue_0 : decode cX6_queue 0 = .ok (.aload_n 0, 1) := by decide +kernel
theorem dX6_queue_1 : decode cX6_queue 1 = .ok (.iload_n 1, 1) := by decide +kernel
theorem dX6_queue_2 : decode cX6_queue 2 = .ok (.iconst 1, 1) := by decide +kernel
theorem dX6_queue_3 : decode cX6_queue 3 = .ok (.invokevirtual 235, 3) := by decide +kernel
theorem dX6_queue_6 : decode cX6_queue 6 = .ok (.istore_n 2, 1) := by decide +kernel
theorem dX6_queue_7 : decode cX6_queue 7 = .ok (.iload_n 2, 1) := by decide +kernel
theorem dX6_queue_8 : decode cX6_queue 8 = .ok (.ifCond .ge 5, 3) := by decide +kernel
theorem dX6_queue_11 : decode cX6_queue 11 = .ok (.iload_n 2, 1) := by decide +kernel
theorem dX6_queue_12 : decode cX6_queue 12 = .ok (.ireturn, 1) := by decide +kernel
theorem dX6_queue_13 : decode cX6_queue 13 = .ok (.aload_n 0, 1) := by decide +kernel
theorem dX6_queue_14 : decode cX6_queue 14 = .ok (.iload_n 1, 1) := by decide +kernel
theorem dX6_queue_15 : decode cX6_queue 15 = .ok (.sipush 9999, 3) := by decide +kernel
theorem dX6_queue_18 : decode cX6_queue 18 = .ok (.invokevirtual 239, 3) := by decide +kernel
theorem dX6_queue_21 : decode cX6_queue 21 = .ok (.aload_n 0, 1) := by decide +kernel
theorem dX6_queue_22 : decode cX6_queue 22 = .ok (.aload_n 0, 1) := by decide +kernel
theorem dX6_queue_23 : decode cX6_queue 23 = .ok (.getfield 232, 3) := by decide +kernel
theorem dX6_queue_26 : decode cX6_queue 26 = .ok (.aload_n 0, 1) := by decide +kernel
theorem dX6_queue_27 : decode cX6_queue 27 = .ok (.getfield 226, 3) := by decide +kernel
theorem dX6_queue_30 : decode cX6_queue 30 = .ok (.invokevirtual 105, 3) := by decide +kernel
theorem dX6_queue_33 : decode cX6_queue 33 = .ok (.ireturn, 1) := by decide +kernel
theorem dX6_by_0 : decode cX6_by 0 = .ok (.aload_n 0, 1) := by decide +kernel
theorem dX6_by_1 : decode cX6_by 1 = .ok (.iload_n 1, 1) := by decide +kernel
theorem dX6_by_2 : decode cX6_by 2 = .ok (.iload_n 2, 1) := by decide +kernel
theorem dX6_by_3 : decode cX6_by 3 = .ok (.iconst 0, 1) := by decide +kernel
theorem dX6_by_4 : decode cX6_by 4 = .ok (.sipush 9999, 3) := by decide +kernel
theorem dX6_by_7 : decode cX6_by 7 = .ok (.invokestatic 83, 3) := by decide +kernel
theorem dX6_by_10 : decode cX6_by 10 = .ok (.invokevirtual 235, 3) := by decide +kernel
theorem dX6_by_13 : decode cX6_by 13 = .ok (.istore_n 3, 1) := by decide +kernel
theorem dX6_by_14 : decode cX6_by 14 = .ok (.iload_n 3, 1) := by decide +kernel
theorem dX6_by_15 : decode cX6_by 15 = .ok (.ifCond .ge 5, 3) := by decide +kernel
theorem dX6_by_18 : decode cX6_by 18 = .ok (.iload_n 3, 1) := by decide +kernel
theorem dX6_by_19 : decode cX6_by 19 = .ok (.ireturn, 1) := by decide +kernel
theorem dX6_by_20 : decode cX6_by 20 = .ok (.aload_n 0, 1) := by decide +kernel
theorem dX6_by_21 : decode cX6_by 21 = .ok (.iload_n 1, 1) := by decide +kernel
theorem dX6_by_22 : decode cX6_by 22 = .ok (.iload_n 2, 1) := by decide +kernel
theorem dX6_by_23 : decode cX6_by 23 = .ok (.invokevirtual 239, 3) := by decide +kernel
theorem dX6_by_26 : decode cX6_by 26 = .ok (.aload_n 0, 1) := by decide +kernel
theorem dX6_by_27 : decode cX6_by 27 = .ok (.getfield 229, 3) := by decide +kernel
theorem dX6_by_30 : decode cX6_by 30 = .ok (.ireturn, 1) := by decide +kernel
theorem dX6_order_0 : decode cX6_order 0 = .ok (.iload_n 1, 1) := by decide +kernel
theorem dX6_order_1 : decode cX6_order 1 = .ok (.invokestatic 93, 3) := by decide +kernel
theorem dX6_order_4 : decode cX6_order 4 = .ok (.ifCond .ne 5, 3) := by decide +kernel
theorem dX6_order_7 : decode cX6_order 7 = .ok (.iconst (-1), 1) := by decide +kernel
theorem dX6_order_8 : decode cX6_order 8 = .ok (.ireturn, 1) := by decide +kernel
theorem dX6_order_9 : decode cX6_order 9 = .ok (.aload_n 0, 1) := by decide +kernel
theorem dX6_order_10 : decode cX6_order 10 = .ok (.getfield 135, 3) := by decide +kernel
theorem dX6_order_13 : decode cX6_order 13 = .ok (.ifCond .ne 6, 3) := by decide +kernel
theorem dX6_order_16 : decode cX6_order 16 = .ok (.bipush (-4), 2) := by decide +kernel
theorem dX6_order_18 : decode cX6_order 18 = .ok (.ireturn, 1) := by decide +kernel
theorem dX6_order_19 : decode cX6_order 19 = .ok (.iconst 0, 1) := by decide +kernel
theorem dX6_order_20 : decode cX6_order 20 = .ok (.istore_n 2, 1) := by decide +kernel
theorem dX6_order_21 : decode cX6_order 21 = .ok (.iconst 1, 1) := by decide +kernel
theorem dX6_order_22 : decode cX6_order 22 = .ok (.istore_n 3, 1) := by decide +kernel
theorem dX6_order_23 : decode cX6_order 23 = .ok (.iload_n 3, 1) := by decide +kernel
theorem dX6_order_24 : decode cX6_order 24 = .ok (.ifCond .lt 57, 3) := by decide +kernel
theorem dX6_order_27 : decode cX6_order 27 = .ok (.iconst 0, 1) := by decide +kernel
theorem dX6_order_28 : decode cX6_order 28 = .ok (.istore 4, 2) := by decide +kernel
theorem dX6_order_30 : decode cX6_order 30 = .ok (.iload 4, 2) := by decide +kernel
theorem dX6_order_32 : decode cX6_order 32 = .ok (.aload_n 0, 1) := by decide +kernel
theorem dX6_order_33 : decode cX6_order 33 = .ok (.getfield 135, 3) := by decide +kernel
theorem dX6_order_36 : decode cX6_order 36 = .ok (.if_icmp .ge 39, 3) := by decide +kernel
theorem dX6_order_39 : decode cX6_order 39 = .ok (.aload_n 0, 1) := by decide +kernel
theorem dX6_order_40 : decode cX6_order 40 = .ok (.iload 4, 2) := by decide +kernel
theorem dX6_order_42 : decode cX6_order 42 = .ok (.invokevirtual 151, 3) := by decide +kernel
theorem dX6_order_45 : decode cX6_order 45 = .ok (.iload_n 3, 1) := by decide +kernel
theorem dX6_order_46 : decode cX6_order 46 = .ok (.iconst 1, 1) := by decide +kernel
theorem dX6_order_47 : decode cX6_order 47 = .ok (.if_icmp .ne 7, 3) := by decide +kernel
theorem dX6_order_50 : decode cX6_order 50 = .ok (.iconst 1, 1) := by decide +kernel
theorem dX6_order_51 : decode cX6_order 51 = .ok (.goto 4, 3) := by decide +kernel
theorem dX6_order_54 : decode cX6_order 54 = .ok (.iconst 0, 1) := by decide +kernel
theorem dX6_order_55 : decode cX6_order 55 = .ok (.if_icmp .ne 14, 3) := by decide +kernel
theorem dX6_order_58 : decode cX6_order 58 = .ok (.aload_n 0, 1) := by decide +kernel
theorem dX6_order_59 : decode cX6_order 59 = .ok (.getfield 76, 3) := by decide +kernel
theorem dX6_order_62 : decode cX6_order 62 = .ok (.iload_n 2, 1) := by decide +kernel
theorem dX6_order_63 : decode cX6_order 63 = .ok (.iload 4, 2) := by decide +kernel
theorem dX6_order_65 : decode cX6_order 65 = .ok (.iastore, 1) := by decide +kernel
theorem dX6_order_66 : decode cX6_order 66 = .ok (.iinc 2 1, 3) := by decide +kernel
theorem dX6_order_69 : decode cX6_order 69 = .ok (.iinc 4 1, 3) := by decide +kernel
theorem dX6_order_72 : decode cX6_order 72 = .ok (.goto (-42), 3) := by decide +kernel
theorem dX6_order_75 : decode cX6_order 75 = .ok (.iinc 3 (-1), 3) := by decide +kernel
theorem dX6_order_78 : decode cX6_order 78 = .ok (.goto (-55), 3) := by decide +kernel
theorem dX6_order_81 : decode cX6_order 81 = .ok (.iconst 0, 1) := by decide +kernel
theorem dX6_order_82 : decode cX6_order 82 = .ok (.istore_n 3, 1) := by decide +kernel
theorem dX6_order_83 : decode cX6_order 83 = .ok (.iconst 0, 1) := by decide +kernel
theorem dX6_order_84 : decode cX6_order 84 = .ok (.istore 4, 2) := by decide +kernel
theorem dX6_order_86 : decode cX6_order 86 = .ok (.iconst 0, 1) := by decide +kernel
theorem dX6_order_87 : decode cX6_order 87 = .ok (.istore 5, 2) := by decide +kernel
theorem dX6_order_89 : decode cX6_order 89 = .ok (.iload 5, 2) := by decide +kernel
theorem dX6_order_91 : decode cX6_order 91 = .ok (.aload_n 0, 1) := by decide +kernel
theorem dX6_order_92 : decode cX6_order 92 = .ok (.getfield 135, 3) := by decide +kernel
theorem dX6_order_95 : decode cX6_order 95 = .ok (.if_icmp .ge 40, 3) := by decide +kernel
theorem dX6_order_98 : decode cX6_order 98 = .ok (.iload_n 3, 1) := by decide +kernel
theorem dX6_order_99 : decode cX6_order 99 = .ok (.iload 4, 2) := by decide +kernel
theorem dX6_order_101 : decode cX6_order 101 = .ok (.iadd, 1) := by decide +kernel
theorem dX6_order_102 : decode cX6_order 102 = .ok (.istore_n 3, 1) := by decide +kernel
theorem dX6_order_103 : decode cX6_order 103 = .ok (.iload 4, 2) := by decide +kernel
theorem dX6_order_105 : decode cX6_order 105 = .ok (.aload_n 0, 1) := by decide +kernel
theorem dX6_order_106 : decode cX6_order 106 = .ok (.aload_n 0, 1) := by decide +kernel
theorem dX6_order_107 : decode cX6_order 107 = .ok (.getfield 76, 3) := by decide +kernel
theorem dX6_order_110 : decode cX6_order 110 = .ok (.iload 5, 2) := by decide +kernel
theorem dX6_order_112 : decode cX6_order 112 = .ok (.iaload, 1) := by decide +kernel
theorem dX6_order_113 : decode cX6_order 113 = .ok (.invokevirtual 151, 3) := by decide +kernel
theorem dX6_order_116 : decode cX6_order 116 = .ok (.ifCond .eq 8, 3) := by decide +kernel
theorem dX6_order_119 : decode cX6_order 119 = .ok (.bipush 9, 2) := by decide +kernel
theorem dX6_order_121 : decode cX6_order 121 = .ok (.goto 5, 3) := by decide +kernel
theorem dX6_order_124 : decode cX6_order 124 = .ok (.bipush 40, 2) := by decide +kernel
theorem dX6_order_126 : decode cX6_order 126 = .ok (.iadd, 1) := by decide +kernel
theorem dX6_order_127 : decode cX6_order 127 = .ok (.istore 4, 2) := by decide +kernel
theorem dX6_order_129 : decode cX6_order 129 = .ok (.iinc 5 1, 3) := by decide +kernel
theorem dX6_order_132 : decode cX6_order 132 = .ok (.goto (-43), 3) := by decide +kernel
theorem dX6_order_135 : decode cX6_order 135 = .ok (.aload_n 0, 1) := by decide +kernel
theorem dX6_order_136 : decode cX6_order 136 = .ok (.iload_n 1, 1) := by decide +kernel
theorem dX6_order_137 : decode cX6_order 137 = .ok (.aload_n 0, 1) := by decide +kernel
theorem dX6_order_138 : decode cX6_order 138 = .ok (.getfield 76, 3) := by decide +kernel
theorem dX6_order_141 : decode cX6_order 141 = .ok (.aload_n 0, 1) := by decide +kernel
theorem dX6_order_142 : decode cX6_order 142 = .ok (.getfield 135, 3) := by decide +kernel
theorem dX6_order_145 : decode cX6_order 145 = .ok (.invokevirtual 243, 3) := by decide +kernel
theorem dX6_order_148 : decode cX6_order 148 = .ok (.iload_n 3, 1) := by decide +kernel
theorem dX6_order_149 : decode cX6_order 149 = .ok (.ireturn, 1) := by decide +kernel
theorem dX6_weekOf_0 : decode cX6_weekOf 0 = .ok (.iconst 0, 1) := by decide +kernel
theorem dX6_weekOf_1 : decode cX6_weekOf 1 = .ok (.istore_n 2, 1) := by decide +kernel
theorem dX6_weekOf_2 : decode cX6_weekOf 2 = .ok (.iconst 0, 1) := by decide +kernel
theorem dX6_weekOf_3 : decode cX6_weekOf 3 = .ok (.istore_n 3, 1) := by decide +kernel
theorem dX6_weekOf_4 : decode cX6_weekOf 4 = .ok (.iload_n 3, 1) := by decide +kernel
theorem dX6_weekOf_5 : decode cX6_weekOf 5 = .ok (.aload_n 0, 1) := by decide +kernel
theorem dX6_weekOf_6 : decode cX6_weekOf 6 = .ok (.getfield 135, 3) := by decide +kernel
theorem dX6_weekOf_9 : decode cX6_weekOf 9 = .ok (.if_icmp .ge 34, 3) := by decide +kernel
theorem dX6_weekOf_12 : decode cX6_weekOf 12 = .ok (.iload_n 2, 1) := by decide +kernel
theorem dX6_weekOf_13 : decode cX6_weekOf 13 = .ok (.aload_n 0, 1) := by decide +kernel
theorem dX6_weekOf_14 : decode cX6_weekOf 14 = .ok (.getfield 48, 3) := by decide +kernel
theorem dX6_weekOf_17 : decode cX6_weekOf 17 = .ok (.iload_n 3, 1) := by decide +kernel
theorem dX6_weekOf_18 : decode cX6_weekOf 18 = .ok (.iaload, 1) := by decide +kernel
theorem dX6_weekOf_19 : decode cX6_weekOf 19 = .ok (.iload_n 1, 1) := by decide +kernel
theorem dX6_weekOf_20 : decode cX6_weekOf 20 = .ok (.iload_n 3, 1) := by decide +kernel
theorem dX6_weekOf_21 : decode cX6_weekOf 21 = .ok (.invokestatic 202, 3) := by decide +kernel
theorem dX6_weekOf_24 : decode cX6_weekOf 24 = .ok (.ifCond .eq 8, 3) := by decide +kernel
theorem dX6_weekOf_27 : decode cX6_weekOf 27 = .ok (.bipush 9, 2) := by decide +kernel
theorem dX6_weekOf_29 : decode cX6_weekOf 29 = .ok (.goto 5, 3) := by decide +kernel
theorem dX6_weekOf_32 : decode cX6_weekOf 32 = .ok (.bipush 40, 2) := by decide +kernel
theorem dX6_weekOf_34 : decode cX6_weekOf 34 = .ok (.imul, 1) := by decide +kernel
theorem dX6_weekOf_35 : decode cX6_weekOf 35 = .ok (.iadd, 1) := by decide +kernel
theorem dX6_weekOf_36 : decode cX6_weekOf 36 = .ok (.istore_n 2, 1) := by decide +kernel
theorem dX6_weekOf_37 : decode cX6_weekOf 37 = .ok (.iinc 3 1, 3) := by decide +kernel
theorem dX6_weekOf_40 : decode cX6_weekOf 40 = .ok (.goto (-36), 3) := by decide +kernel
theorem dX6_weekOf_43 : decode cX6_weekOf 43 = .ok (.iload_n 2, 1) := by decide +kernel
theorem dX6_weekOf_44 : decode cX6_weekOf 44 = .ok (.ireturn, 1) := by decide +kernel
theorem dX6_learn_0 : decode cX6_learn 0 = .ok (.iload_n 1, 1) := by decide +kernel
theorem dX6_learn_1 : decode cX6_learn 1 = .ok (.iconst 0, 1) := by decide +kernel
theorem dX6_learn_2 : decode cX6_learn 2 = .ok (.bipush 6, 2) := by decide +kernel
theorem dX6_learn_4 : decode cX6_learn 4 = .ok (.invokestatic 83, 3) := by decide +kernel
theorem dX6_learn_7 : decode cX6_learn 7 = .ok (.ifCond .ne 5, 3) := by decide +kernel
theorem dX6_learn_10 : decode cX6_learn 10 = .ok (.iconst (-1), 1) := by decide +kernel
theorem dX6_learn_11 : decode cX6_learn 11 = .ok (.ireturn, 1) := by decide +kernel
theorem dX6_learn_12 : decode cX6_learn 12 = .ok (.iload_n 1, 1) := by decide +kernel
theorem dX6_learn_13 : decode cX6_learn 13 = .ok (.aload_n 0, 1) := by decide +kernel
theorem dX6_learn_14 : decode cX6_learn 14 = .ok (.getfield 135, 3) := by decide +kernel
theorem dX6_learn_17 : decode cX6_learn 17 = .ok (.if_icmp .le 6, 3) := by decide +kernel
theorem dX6_learn_20 : decode cX6_learn 20 = .ok (.bipush (-4), 2) := by decide +kernel
theorem dX6_learn_22 : decode cX6_learn 22 = .ok (.ireturn, 1) := by decide +kernel
theorem dX6_learn_23 : decode cX6_learn 23 = .ok (.bipush (-9), 2) := by decide +kernel
theorem dX6_learn_25 : decode cX6_learn 25 = .ok (.istore_n 2, 1) := by decide +kernel
theorem dX6_learn_26 : decode cX6_learn 26 = .ok (.iconst 0, 1) := by decide +kernel
theorem dX6_learn_27 : decode cX6_learn 27 = .ok (.istore_n 3, 1) := by decide +kernel
theorem dX6_learn_28 : decode cX6_learn 28 = .ok (.iload_n 3, 1) := by decide +kernel
theorem dX6_learn_29 : decode cX6_learn 29 = .ok (.iconst 1, 1) := by decide +kernel
theorem dX6_learn_30 : decode cX6_learn 30 = .ok (.aload_n 0, 1) := by decide +kernel
theorem dX6_learn_31 : decode cX6_learn 31 = .ok (.getfield 135, 3) := by decide +kernel
theorem dX6_learn_34 : decode cX6_learn 34 = .ok (.ishl, 1) := by decide +kernel
theorem dX6_learn_35 : decode cX6_learn 35 = .ok (.if_icmp .ge 42, 3) := by decide +kernel
theorem dX6_learn_38 : decode cX6_learn 38 = .ok (.iload_n 3, 1) := by decide +kernel
theorem dX6_learn_39 : decode cX6_learn 39 = .ok (.invokestatic 223, 3) := by decide +kernel
theorem dX6_learn_42 : decode cX6_learn 42 = .ok (.iload_n 1, 1) := by decide +kernel
theorem dX6_learn_43 : decode cX6_learn 43 = .ok (.if_icmp .ne 26, 3) := by decide +kernel
theorem dX6_learn_46 : decode cX6_learn 46 = .ok (.iload_n 2, 1) := by decide +kernel
theorem dX6_learn_47 : decode cX6_learn 47 = .ok (.bipush (-9), 2) := by decide +kernel
theorem dX6_learn_49 : decode cX6_learn 49 = .ok (.if_icmp .eq 16, 3) := by decide +kernel
theorem dX6_learn_52 : decode cX6_learn 52 = .ok (.aload_n 0, 1) := by decide +kernel
theorem dX6_learn_53 : decode cX6_learn 53 = .ok (.iload_n 3, 1) := by decide +kernel
theorem dX6_learn_54 : decode cX6_learn 54 = .ok (.invokevirtual 247, 3) := by decide +kernel
theorem dX6_learn_57 : decode cX6_learn 57 = .ok (.aload_n 0, 1) := by decide +kernel
theorem dX6_learn_58 : decode cX6_learn 58 = .ok (.iload_n 2, 1) := by decide +kernel
theorem dX6_learn_59 : decode cX6_learn 59 = .ok (.invokevirtual 247, 3) := by decide +kernel
theorem dX6_learn_62 : decode cX6_learn 62 = .ok (.if_icmp .ge 7, 3) := by decide +kernel
theorem dX6_learn_65 : decode cX6_learn 65 = .ok (.iload_n 3, 1) := by decide +kernel
theorem dX6_learn_66 : decode cX6_learn 66 = .ok (.goto 4, 3) := by decide +kernel
theorem dX6_learn_69 : decode cX6_learn 69 = .ok (.iload_n 2, 1) := by decide +kernel
theorem dX6_learn_70 : decode cX6_learn 70 = .ok (.istore_n 2, 1) := by decide +kernel
theorem dX6_learn_71 : decode cX6_learn 71 = .ok (.iinc 3 1, 3) := by decide +kernel
theorem dX6_learn_74 : decode cX6_learn 74 = .ok (.goto (-46), 3) := by decide +kernel
theorem dX6_learn_77 : decode cX6_learn 77 = .ok (.aload_n 0, 1) := by decide +kernel
theorem dX6_learn_78 : decode cX6_learn 78 = .ok (.aload_n 0, 1) := by decide +kernel
theorem dX6_learn_79 : decode cX6_learn 79 = .ok (.iload_n 2, 1) := by decide +kernel
theorem dX6_learn_80 : decode cX6_learn 80 = .ok (.invokevirtual 247, 3) := by decide +kernel
theorem dX6_learn_83 : decode cX6_learn 83 = .ok (.iload_n 2, 1) := by decide +kernel
theorem dX6_learn_84 : decode cX6_learn 84 = .ok (.invokevirtual 105, 3) := by decide +kernel
theorem dX6_learn_87 : decode cX6_learn 87 = .ok (.ireturn, 1) := by decide +kernel
theorem dX6_needBook_0 : decode cX6_needBook 0 = .ok (.aload_n 0, 1) := by decide +kernel
theorem dX6_needBook_1 : decode cX6_needBook 1 = .ok (.getfield 17, 3) := by decide +kernel
theorem dX6_needBook_4 : decode cX6_needBook 4 = .ok (.iload_n 1, 1) := by decide +kernel
theorem dX6_needBook_5 : decode cX6_needBook 5 = .ok (.iaload, 1) := by decide +kernel
theorem dX6_needBook_6 : decode cX6_needBook 6 = .ok (.ifCond .ge 9, 3) := by decide +kernel
theorem dX6_needBook_9 : decode cX6_needBook 9 = .ok (.aload_n 0, 1) := by decide +kernel
theorem dX6_needBook_10 : decode cX6_needBook 10 = .ok (.iconst 1, 1) := by decide +kernel
theorem dX6_needBook_11 : decode cX6_needBook 11 = .ok (.invokevirtual 97, 3) := by decide +kernel
theorem dX6_needBook_14 : decode cX6_needBook 14 = .ok (.ireturn, 1) := by decide +kernel
theorem dX6_needBook_15 : decode cX6_needBook 15 = .ok (.aload_n 0, 1) := by decide +kernel
theorem dX6_needBook_16 : decode cX6_needBook 16 = .ok (.getfield 17, 3) := by decide +kernel
theorem dX6_needBook_19 : decode cX6_needBook 19 = .ok (.iload_n 1, 1) := by decide +kernel
theorem dX6_needBook_20 : decode cX6_needBook 20 = .ok (.iaload, 1) := by decide +kernel
theorem dX6_needBook_21 : decode cX6_needBook 21 = .ok (.iconst 2, 1) := by decide +kernel
theorem dX6_needBook_22 : decode cX6_needBook 22 = .ok (.irem, 1) := by decide +kernel
theorem dX6_needBook_23 : decode cX6_needBook 23 = .ok (.ifCond .eq 9, 3) := by decide +kernel
theorem dX6_needBook_26 : decode cX6_needBook 26 = .ok (.aload_n 0, 1) := by decide +kernel
theorem dX6_needBook_27 : decode cX6_needBook 27 = .ok (.iconst 5, 1) := by decide +kernel
theorem dX6_needBook_28 : decode cX6_needBook 28 = .ok (.invokevirtual 97, 3) := by decide +kernel
theorem dX6_needBook_31 : decode cX6_needBook 31 = .ok (.ireturn, 1) := by decide +kernel
theorem dX6_needBook_32 : decode cX6_needBook 32 = .ok (.iconst 1, 1) := by decide +kernel
theorem dX6_needBook_33 : decode cX6_needBook 33 = .ok (.istore_n 2, 1) := by decide +kernel
theorem dX6_needBook_34 : decode cX6_needBook 34 = .ok (.iconst 0, 1) := by decide +kernel
theorem dX6_needBook_35 : decode cX6_needBook 35 = .ok (.istore_n 3, 1) := by decide +kernel
theorem dX6_needBook_36 : decode cX6_needBook 36 = .ok (.iload_n 3, 1) := by decide +kernel
theorem dX6_needBook_37 : decode cX6_needBook 37 = .ok (.aload_n 0, 1) := by decide +kernel
theorem dX6_needBook_38 : decode cX6_needBook 38 = .ok (.getfield 17, 3) := by decide +kernel
theorem dX6_needBook_41 : decode cX6_needBook 41 = .ok (.iload_n 1, 1) := by decide +kernel
theorem dX6_needBook_42 : decode cX6_needBook 42 = .ok (.iaload, 1) := by decide +kernel
theorem dX6_needBook_43 : decode cX6_needBook 43 = .ok (.if_icmp .ge 49, 3) := by decide +kernel
theorem dX6_needBook_46 : decode cX6_needBook 46 = .ok (.iload_n 2, 1) := by decide +kernel
theorem dX6_needBook_47 : decode cX6_needBook 47 = .ok (.ifCond .eq 37, 3) := by decide +kernel
theorem dX6_needBook_50 : decode cX6_needBook 50 = .ok (.aload_n 0, 1) := by decide +kernel
theorem dX6_needBook_51 : decode cX6_needBook 51 = .ok (.iload_n 1, 1) := by decide +kernel
theorem dX6_needBook_52 : decode cX6_needBook 52 = .ok (.iload_n 3, 1) := by decide +kernel
theorem dX6_needBook_53 : decode cX6_needBook 53 = .ok (.invokevirtual 101, 3) := by decide +kernel
theorem dX6_needBook_56 : decode cX6_needBook 56 = .ok (.iconst 0, 1) := by decide +kernel
theorem dX6_needBook_57 : decode cX6_needBook 57 = .ok (.sipush 999, 3) := by decide +kernel
theorem dX6_needBook_60 : decode cX6_needBook 60 = .ok (.invokestatic 83, 3) := by decide +kernel
theorem dX6_needBook_63 : decode cX6_needBook 63 = .ok (.ifCond .eq 21, 3) := by decide +kernel
theorem dX6_needBook_66 : decode cX6_needBook 66 = .ok (.aload_n 0, 1) := by decide +kernel
theorem dX6_needBook_67 : decode cX6_needBook 67 = .ok (.iload_n 1, 1) := by decide +kernel
theorem dX6_needBook_68 : decode cX6_needBook 68 = .ok (.iload_n 3, 1) := by decide +kernel
theorem dX6_needBook_69 : decode cX6_needBook 69 = .ok (.iconst 1, 1) := by decide +kernel
theorem dX6_needBook_70 : decode cX6_needBook 70 = .ok (.iadd, 1) := by decide +kernel
theorem dX6_needBook_71 : decode cX6_needBook 71 = .ok (.invokevirtual 101, 3) := by decide +kernel
theorem dX6_needBook_74 : decode cX6_needBook 74 = .ok (.invokestatic 141, 3) := by decide +kernel
theorem dX6_needBook_77 : decode cX6_needBook 77 = .ok (.ifCond .eq 7, 3) := by decide +kernel
theorem dX6_needBook_80 : decode cX6_needBook 80 = .ok (.iconst 1, 1) := by decide +kernel
theorem dX6_needBook_81 : decode cX6_needBook 81 = .ok (.goto 4, 3) := by decide +kernel
theorem dX6_needBook_84 : decode cX6_needBook 84 = .ok (.iconst 0, 1) := by decide +kernel
theorem dX6_needBook_85 : decode cX6_needBook 85 = .ok (.istore_n 2, 1) := by decide +kernel
theorem dX6_needBook_86 : decode cX6_needBook 86 = .ok (.iinc 3 2, 3) := by decide +kernel
theorem dX6_needBook_89 : decode cX6_needBook 89 = .ok (.goto (-53), 3) := by decide +kernel
theorem dX6_needBook_92 : decode cX6_needBook 92 = .ok (.iload_n 2, 1) := by decide +kernel
theorem dX6_needBook_93 : decode cX6_needBook 93 = .ok (.ifCond .eq 7, 3) := by decide +kernel
theorem dX6_needBook_96 : decode cX6_needBook 96 = .ok (.iconst 0, 1) := by decide +kernel
theorem dX6_needBook_97 : decode cX6_needBook 97 = .ok (.goto 8, 3) := by decide +kernel
theorem dX6_needBook_100 : decode cX6_needBook 100 = .ok (.aload_n 0, 1) := by decide +kernel
theorem dX6_needBook_101 : decode cX6_needBook 101 = .ok (.iconst 3, 1) := by decide +kernel
theorem dX6_needBook_102 : decode cX6_needBook 102 = .ok (.invokevirtual 97, 3) := by decide +kernel
theorem dX6_needBook_105 : decode cX6_needBook 105 = .ok (.ireturn, 1) := by decide +kernel
theorem dX6_liesOf_0 : decode cX6_liesOf 0 = .ok (.iconst 0, 1) := by decide +kernel
theorem dX6_liesOf_1 : decode cX6_liesOf 1 = .ok (.istore 5, 2) := by decide +kernel
theorem dX6_liesOf_3 : decode cX6_liesOf 3 = .ok (.iconst 0, 1) := by decide +kernel
theorem dX6_liesOf_4 : decode cX6_liesOf 4 = .ok (.istore 6, 2) := by decide +kernel
theorem dX6_liesOf_6 : decode cX6_liesOf 6 = .ok (.iload 6, 2) := by decide +kernel
theorem dX6_liesOf_8 : decode cX6_liesOf 8 = .ok (.aload_n 0, 1) := by decide +kernel
theorem dX6_liesOf_9 : decode cX6_liesOf 9 = .ok (.getfield 17, 3) := by decide +kernel
theorem dX6_liesOf_12 : decode cX6_liesOf 12 = .ok (.iload_n 1, 1) := by decide +kernel
theorem dX6_liesOf_13 : decode cX6_liesOf 13 = .ok (.iaload, 1) := by decide +kernel
theorem dX6_liesOf_14 : decode cX6_liesOf 14 = .ok (.if_icmp .ge 51, 3) := by decide +kernel
theorem dX6_liesOf_17 : decode cX6_liesOf 17 = .ok (.iload 5, 2) := by decide +kernel
theorem dX6_liesOf_19 : decode cX6_liesOf 19 = .ok (.iload_n 2, 1) := by decide +kernel
theorem dX6_liesOf_20 : decode cX6_liesOf 20 = .ok (.aload_n 0, 1) := by decide +kernel
theorem dX6_liesOf_21 : decode cX6_liesOf 21 = .ok (.iload_n 1, 1) := by decide +kernel
theorem dX6_liesOf_22 : decode cX6_liesOf 22 = .ok (.iload 6, 2) := by decide +kernel
theorem dX6_liesOf_24 : decode cX6_liesOf 24 = .ok (.invokevirtual 101, 3) := by decide +kernel
theorem dX6_liesOf_27 : decode cX6_liesOf 27 = .ok (.invokestatic 144, 3) := by decide +kernel
theorem dX6_liesOf_30 : decode cX6_liesOf 30 = .ok (.ifCond .eq 8, 3) := by decide +kernel
theorem dX6_liesOf_33 : decode cX6_liesOf 33 = .ok (.iload 4, 2) := by decide +kernel
theorem dX6_liesOf_35 : decode cX6_liesOf 35 = .ok (.goto 4, 3) := by decide +kernel
theorem dX6_liesOf_38 : decode cX6_liesOf 38 = .ok (.iload_n 3, 1) := by decide +kernel
theorem dX6_liesOf_39 : decode cX6_liesOf 39 = .ok (.aload_n 0, 1) := by decide +kernel
theorem dX6_liesOf_40 : decode cX6_liesOf 40 = .ok (.iload_n 1, 1) := by decide +kernel
theorem dX6_liesOf_41 : decode cX6_liesOf 41 = .ok (.iload 6, 2) := by decide +kernel
theorem dX6_liesOf_43 : decode cX6_liesOf 43 = .ok (.iconst 1, 1) := by decide +kernel
theorem dX6_liesOf_44 : decode cX6_liesOf 44 = .ok (.iadd, 1) := by decide +kernel
theorem dX6_liesOf_45 : decode cX6_liesOf 45 = .ok (.invokevirtual 101, 3) := by decide +kernel
theorem dX6_liesOf_48 : decode cX6_liesOf 48 = .ok (.if_icmp .eq 7, 3) := by decide +kernel
theorem dX6_liesOf_51 : decode cX6_liesOf 51 = .ok (.iconst 1, 1) := by decide +kernel
theorem dX6_liesOf_52 : decode cX6_liesOf 52 = .ok (.goto 4, 3) := by decide +kernel
theorem dX6_liesOf_55 : decode cX6_liesOf 55 = .ok (.iconst 0, 1) := by decide +kernel
theorem dX6_liesOf_56 : decode cX6_liesOf 56 = .ok (.iadd, 1) := by decide +kernel
theorem dX6_liesOf_57 : decode cX6_liesOf 57 = .ok (.istore 5, 2) := by decide +kernel
theorem dX6_liesOf_59 : decode cX6_liesOf 59 = .ok (.iinc 6 2, 3) := by decide +kernel
theorem dX6_liesOf_62 : decode cX6_liesOf 62 = .ok (.goto (-56), 3) := by decide +kernel
theorem dX6_liesOf_65 : decode cX6_liesOf 65 = .ok (.iload 5, 2) := by decide +kernel
theorem dX6_liesOf_67 : decode cX6_liesOf 67 = .ok (.ireturn, 1) := by decide +kernel
theorem dX6_liesBy_0 : decode cX6_liesBy 0 = .ok (.aload_n 0, 1) := by decide +kernel
theorem dX6_liesBy_1 : decode cX6_liesBy 1 = .ok (.iload_n 1, 1) := by decide +kernel
theorem dX6_liesBy_2 : decode cX6_liesBy 2 = .ok (.aload_n 0, 1) := by decide +kernel
theorem dX6_liesBy_3 : decode cX6_liesBy 3 = .ok (.getfield 33, 3) := by decide +kernel
theorem dX6_liesBy_6 : decode cX6_liesBy 6 = .ok (.iload_n 2, 1) := by decide +kernel
theorem dX6_liesBy_7 : decode cX6_liesBy 7 = .ok (.iaload, 1) := by decide +kernel
theorem dX6_liesBy_8 : decode cX6_liesBy 8 = .ok (.aload_n 0, 1) := by decide +kernel
theorem dX6_liesBy_9 : decode cX6_liesBy 9 = .ok (.getfield 42, 3) := by decide +kernel
theorem dX6_liesBy_12 : decode cX6_liesBy 12 = .ok (.iload_n 2, 1) := by decide +kernel
theorem dX6_liesBy_13 : decode cX6_liesBy 13 = .ok (.iaload, 1) := by decide +kernel
theorem dX6_liesBy_14 : decode cX6_liesBy 14 = .ok (.aload_n 0, 1) := by decide +kernel
theorem dX6_liesBy_15 : decode cX6_liesBy 15 = .ok (.getfield 45, 3) := by decide +kernel
theorem dX6_liesBy_18 : decode cX6_liesBy 18 = .ok (.iload_n 2, 1) := by decide +kernel
theorem dX6_liesBy_19 : decode cX6_liesBy 19 = .ok (.iaload, 1) := by decide +kernel
theorem dX6_liesBy_20 : decode cX6_liesBy 20 = .ok (.invokevirtual 250, 3) := by decide +kernel
theorem dX6_liesBy_23 : decode cX6_liesBy 23 = .ok (.ireturn, 1) := by decide +kernel
theorem dX6_fits_0 : decode cX6_fits 0 = .ok (.iload_n 1, 1) := by decide +kernel
theorem dX6_fits_1 : decode cX6_fits 1 = .ok (.invokestatic 93, 3) := by decide +kernel
theorem dX6_fits_4 : decode cX6_fits 4 = .ok (.ifCond .ne 5, 3) := by decide +kernel
theorem dX6_fits_7 : decode cX6_fits 7 = .ok (.iconst (-1), 1) := by decide +kernel
theorem dX6_fits_8 : decode cX6_fits 8 = .ok (.ireturn, 1) := by decide +kernel
theorem dX6_fits_9 : decode cX6_fits 9 = .ok (.aload_n 0, 1) := by decide +kernel
theorem dX6_fits_10 : decode cX6_fits 10 = .ok (.iload_n 1, 1) := by decide +kernel
theorem dX6_fits_11 : decode cX6_fits 11 = .ok (.invokevirtual 254, 3) := by decide +kernel
theorem dX6_fits_14 : decode cX6_fits 14 = .ok (.istore_n 2, 1) := by decide +kernel
theorem dX6_fits_15 : decode cX6_fits 15 = .ok (.iload_n 2, 1) := by decide +kernel
theorem dX6_fits_16 : decode cX6_fits 16 = .ok (.ifCond .ge 5, 3) := by decide +kernel
theorem dX6_fits_19 : decode cX6_fits 19 = .ok (.iload_n 2, 1) := by decide +kernel
theorem dX6_fits_20 : decode cX6_fits 20 = .ok (.ireturn, 1) := by decide +kernel
theorem dX6_fits_21 : decode cX6_fits 21 = .ok (.iconst 0, 1) := by decide +kernel
theorem dX6_fits_22 : decode cX6_fits 22 = .ok (.istore_n 3, 1) := by decide +kernel
theorem dX6_fits_23 : decode cX6_fits 23 = .ok (.iconst 0, 1) := by decide +kernel
theorem dX6_fits_24 : decode cX6_fits 24 = .ok (.istore 4, 2) := by decide +kernel
theorem dX6_fits_26 : decode cX6_fits 26 = .ok (.iload 4, 2) := by decide +kernel
theorem dX6_fits_28 : decode cX6_fits 28 = .ok (.aload_n 0, 1) := by decide +kernel
theorem dX6_fits_29 : decode cX6_fits 29 = .ok (.getfield 135, 3) := by decide +kernel
theorem dX6_fits_32 : decode cX6_fits 32 = .ok (.if_icmp .ge 30, 3) := by decide +kernel
theorem dX6_fits_35 : decode cX6_fits 35 = .ok (.iload_n 3, 1) := by decide +kernel
theorem dX6_fits_36 : decode cX6_fits 36 = .ok (.aload_n 0, 1) := by decide +kernel
theorem dX6_fits_37 : decode cX6_fits 37 = .ok (.iload_n 1, 1) := by decide +kernel
theorem dX6_fits_38 : decode cX6_fits 38 = .ok (.iload 4, 2) := by decide +kernel
theorem dX6_fits_40 : decode cX6_fits 40 = .ok (.invokevirtual 257, 3) := by decide +kernel
theorem dX6_fits_43 : decode cX6_fits 43 = .ok (.ifCond .ne 10, 3) := by decide +kernel
theorem dX6_fits_46 : decode cX6_fits 46 = .ok (.iconst 1, 1) := by decide +kernel
theorem dX6_fits_47 : decode cX6_fits 47 = .ok (.iload 4, 2) := by decide +kernel
theorem dX6_fits_49 : decode cX6_fits 49 = .ok (.ishl, 1) := by decide +kernel
theorem dX6_fits_50 : decode cX6_fits 50 = .ok (.goto 4, 3) := by decide +kernel
theorem dX6_fits_53 : decode cX6_fits 53 = .ok (.iconst 0, 1) := by decide +kernel
theorem dX6_fits_54 : decode cX6_fits 54 = .ok (.ior, 1) := by decide +kernel
theorem dX6_fits_55 : decode cX6_fits 55 = .ok (.istore_n 3, 1) := by decide +kernel
theorem dX6_fits_56 : decode cX6_fits 56 = .ok (.iinc 4 1, 3) := by decide +kernel
theorem dX6_fits_59 : decode cX6_fits 59 = .ok (.goto (-33), 3) := by decide +kernel
theorem dX6_fits_62 : decode cX6_fits 62 = .ok (.iload_n 3, 1) := by decide +kernel
theorem dX6_fits_63 : decode cX6_fits 63 = .ok (.ireturn, 1) := by decide +kernel
theorem dX6_kinds_0 : decode cX6_kinds 0 = .ok (.iload_n 1, 1) := by decide +kernel
theorem dX6_kinds_1 : decode cX6_kinds 1 = .ok (.invokestatic 93, 3) := by decide +kernel
theorem dX6_kinds_4 : decode cX6_kinds 4 = .ok (.ifCond .eq 17, 3) := by decide +kernel
theorem dX6_kinds_7 : decode cX6_kinds 7 = .ok (.iload_n 2, 1) := by decide +kernel
theorem dX6_kinds_8 : decode cX6_kinds 8 = .ok (.invokestatic 141, 3) := by decide +kernel
theorem dX6_kinds_11 : decode cX6_kinds 11 = .ok (.ifCond .eq 10, 3) := by decide +kernel
theorem dX6_kinds_14 : decode cX6_kinds 14 = .ok (.iload_n 3, 1) := by decide +kernel
theorem dX6_kinds_15 : decode cX6_kinds 15 = .ok (.invokestatic 141, 3) := by decide +kernel
theorem dX6_kinds_18 : decode cX6_kinds 18 = .ok (.ifCond .ne 5, 3) := by decide +kernel
theorem dX6_kinds_21 : decode cX6_kinds 21 = .ok (.iconst (-1), 1) := by decide +kernel
theorem dX6_kinds_22 : decode cX6_kinds 22 = .ok (.ireturn, 1) := by decide +kernel
theorem dX6_kinds_23 : decode cX6_kinds 23 = .ok (.aload_n 0, 1) := by decide +kernel
theorem dX6_kinds_24 : decode cX6_kinds 24 = .ok (.iload_n 1, 1) := by decide +kernel
theorem dX6_kinds_25 : decode cX6_kinds 25 = .ok (.invokevirtual 254, 3) := by decide +kernel
theorem dX6_kinds_28 : decode cX6_kinds 28 = .ok (.istore 4, 2) := by decide +kernel
theorem dX6_kinds_30 : decode cX6_kinds 30 = .ok (.iload 4, 2) := by decide +kernel
theorem dX6_kinds_32 : decode cX6_kinds 32 = .ok (.ifCond .ge 6, 3) := by decide +kernel
theorem dX6_kinds_35 : decode cX6_kinds 35 = .ok (.iload 4, 2) := by decide +kernel
theorem dX6_kinds_37 : decode cX6_kinds 37 = .ok (.ireturn, 1) := by decide +kernel
theorem dX6_kinds_38 : decode cX6_kinds 38 = .ok (.iconst 0, 1) := by decide +kernel
theorem dX6_kinds_39 : decode cX6_kinds 39 = .ok (.istore 5, 2) := by decide +kernel
theorem dX6_kinds_41 : decode cX6_kinds 41 = .ok (.iconst 0, 1) := by decide +kernel
theorem dX6_kinds_42 : decode cX6_kinds 42 = .ok (.istore 6, 2) := by decide +kernel
theorem dX6_kinds_44 : decode cX6_kinds 44 = .ok (.iload 6, 2) := by decide +kernel
theorem dX6_kinds_46 : decode cX6_kinds 46 = .ok (.bipush 6, 2) := by decide +kernel
theorem dX6_kinds_48 : decode cX6_kinds 48 = .ok (.if_icmp .ge 34, 3) := by decide +kernel
theorem dX6_kinds_51 : decode cX6_kinds 51 = .ok (.iload 5, 2) := by decide +kernel
theorem dX6_kinds_53 : decode cX6_kinds 53 = .ok (.aload_n 0, 1) := by decide +kernel
theorem dX6_kinds_54 : decode cX6_kinds 54 = .ok (.iload_n 1, 1) := by decide +kernel
theorem dX6_kinds_55 : decode cX6_kinds 55 = .ok (.iload 6, 2) := by decide +kernel
theorem dX6_kinds_57 : decode cX6_kinds 57 = .ok (.iload_n 2, 1) := by decide +kernel
theorem dX6_kinds_58 : decode cX6_kinds 58 = .ok (.iload_n 3, 1) := by decide +kernel
theorem dX6_kinds_59 : decode cX6_kinds 59 = .ok (.invokevirtual 250, 3) := by decide +kernel
theorem dX6_kinds_62 : decode cX6_kinds 62 = .ok (.ifCond .ne 10, 3) := by decide +kernel
theorem dX6_kinds_65 : decode cX6_kinds 65 = .ok (.iconst 1, 1) := by decide +kernel
theorem dX6_kinds_66 : decode cX6_kinds 66 = .ok (.iload 6, 2) := by decide +kernel
theorem dX6_kinds_68 : decode cX6_kinds 68 = .ok (.ishl, 1) := by decide +kernel
theorem dX6_kinds_69 : decode cX6_kinds 69 = .ok (.goto 4, 3) := by decide +kernel
theorem dX6_kinds_72 : decode cX6_kinds 72 = .ok (.iconst 0, 1) := by decide +kernel
theorem dX6_kinds_73 : decode cX6_kinds 73 = .ok (.ior, 1) := by decide +kernel
theorem dX6_kinds_74 : decode cX6_kinds 74 = .ok (.istore 5, 2) := by decide +kernel
theorem dX6_kinds_76 : decode cX6_kinds 76 = .ok (.iinc 6 1, 3) := by decide +kernel
theorem dX6_kinds_79 : decode cX6_kinds 79 = .ok (.goto (-35), 3) := by decide +kernel
theorem dX6_kinds_82 : decode cX6_kinds 82 = .ok (.iload 5, 2) := by decide +kernel
theorem dX6_kinds_84 : decode cX6_kinds 84 = .ok (.ireturn, 1) := by decide +kernel
theorem dX6_lies_0 : decode cX6_lies 0 = .ok (.iload_n 1, 1) := by decide +kernel
theorem dX6_lies_1 : decode cX6_lies 1 = .ok (.invokestatic 93, 3) := by decide +kernel
theorem dX6_lies_4 : decode cX6_lies 4 = .ok (.ifCond .ne 5, 3) := by decide +kernel
theorem dX6_lies_7 : decode cX6_lies 7 = .ok (.iconst (-1), 1) := by decide +kernel
theorem dX6_lies_8 : decode cX6_lies 8 = .ok (.ireturn, 1) := by decide +kernel
theorem dX6_lies_9 : decode cX6_lies 9 = .ok (.aload_n 0, 1) := by decide +kernel
theorem dX6_lies_10 : decode cX6_lies 10 = .ok (.getfield 135, 3) := by decide +kernel
theorem dX6_lies_13 : decode cX6_lies 13 = .ok (.ifCond .ne 6, 3) := by decide +kernel
theorem dX6_lies_16 : decode cX6_lies 16 = .ok (.bipush (-4), 2) := by decide +kernel
theorem dX6_lies_18 : decode cX6_lies 18 = .ok (.ireturn, 1) := by decide +kernel
theorem dX6_lies_19 : decode cX6_lies 19 = .ok (.aload_n 0, 1) := by decide +kernel
theorem dX6_lies_20 : decode cX6_lies 20 = .ok (.iload_n 1, 1) := by decide +kernel
theorem dX6_lies_21 : decode cX6_lies 21 = .ok (.invokevirtual 254, 3) := by decide +kernel
theorem dX6_lies_24 : decode cX6_lies 24 = .ok (.istore_n 2, 1) := by decide +kernel
theorem dX6_lies_25 : decode cX6_lies 25 = .ok (.iload_n 2, 1) := by decide +kernel
theorem dX6_lies_26 : decode cX6_lies 26 = .ok (.ifCond .ge 5, 3) := by decide +kernel
theorem dX6_lies_29 : decode cX6_lies 29 = .ok (.iload_n 2, 1) := by decide +kernel
theorem dX6_lies_30 : decode cX6_lies 30 = .ok (.ireturn, 1) := by decide +kernel
theorem dX6_lies_31 : decode cX6_lies 31 = .ok (.iconst 0, 1) := by decide +kernel
theorem dX6_lies_32 : decode cX6_lies 32 = .ok (.istore_n 3, 1) := by decide +kernel
theorem dX6_lies_33 : decode cX6_lies 33 = .ok (.iconst 0, 1) := by decide +kernel
theorem dX6_lies_34 : decode cX6_lies 34 = .ok (.istore 4, 2) := by decide +kernel
theorem dX6_lies_36 : decode cX6_lies 36 = .ok (.iload 4, 2) := by decide +kernel
theorem dX6_lies_38 : decode cX6_lies 38 = .ok (.aload_n 0, 1) := by decide +kernel
theorem dX6_lies_39 : decode cX6_lies 39 = .ok (.getfield 135, 3) := by decide +kernel
theorem dX6_lies_42 : decode cX6_lies 42 = .ok (.if_icmp .ge 32, 3) := by decide +kernel
theorem dX6_lies_45 : decode cX6_lies 45 = .ok (.aload_n 0, 1) := by decide +kernel
theorem dX6_lies_46 : decode cX6_lies 46 = .ok (.iload_n 1, 1) := by decide +kernel
theorem dX6_lies_47 : decode cX6_lies 47 = .ok (.iload 4, 2) := by decide +kernel
theorem dX6_lies_49 : decode cX6_lies 49 = .ok (.invokevirtual 257, 3) := by decide +kernel
theorem dX6_lies_52 : decode cX6_lies 52 = .ok (.aload_n 0, 1) := by decide +kernel
theorem dX6_lies_53 : decode cX6_lies 53 = .ok (.iload_n 1, 1) := by decide +kernel
theorem dX6_lies_54 : decode cX6_lies 54 = .ok (.iload_n 3, 1) := by decide +kernel
theorem dX6_lies_55 : decode cX6_lies 55 = .ok (.invokevirtual 257, 3) := by decide +kernel
theorem dX6_lies_58 : decode cX6_lies 58 = .ok (.if_icmp .ge 8, 3) := by decide +kernel
theorem dX6_lies_61 : decode cX6_lies 61 = .ok (.iload 4, 2) := by decide +kernel
theorem dX6_lies_63 : decode cX6_lies 63 = .ok (.goto 4, 3) := by decide +kernel
theorem dX6_lies_66 : decode cX6_lies 66 = .ok (.iload_n 3, 1) := by decide +kernel
theorem dX6_lies_67 : decode cX6_lies 67 = .ok (.istore_n 3, 1) := by decide +kernel
theorem dX6_lies_68 : decode cX6_lies 68 = .ok (.iinc 4 1, 3) := by decide +kernel
theorem dX6_lies_71 : decode cX6_lies 71 = .ok (.goto (-35), 3) := by decide +kernel
theorem dX6_lies_74 : decode cX6_lies 74 = .ok (.aload_n 0, 1) := by decide +kernel
theorem dX6_lies_75 : decode cX6_lies 75 = .ok (.iload_n 3, 1) := by decide +kernel
theorem dX6_lies_76 : decode cX6_lies 76 = .ok (.aload_n 0, 1) := by decide +kernel
theorem dX6_lies_77 : decode cX6_lies 77 = .ok (.iload_n 1, 1) := by decide +kernel
theorem dX6_lies_78 : decode cX6_lies 78 = .ok (.iload_n 3, 1) := by decide +kernel
theorem dX6_lies_79 : decode cX6_lies 79 = .ok (.invokevirtual 257, 3) := by decide +kernel
theorem dX6_lies_82 : decode cX6_lies 82 = .ok (.invokevirtual 105, 3) := by decide +kernel
theorem dX6_lies_85 : decode cX6_lies 85 = .ok (.ireturn, 1) := by decide +kernel
theorem dX6_apart_0 : decode cX6_apart 0 = .ok (.aload_n 0, 1) := by decide +kernel
theorem dX6_apart_1 : decode cX6_apart 1 = .ok (.iload_n 1, 1) := by decide +kernel
theorem dX6_apart_2 : decode cX6_apart 2 = .ok (.invokevirtual 163, 3) := by decide +kernel
theorem dX6_apart_5 : decode cX6_apart 5 = .ok (.ifCond .eq 39, 3) := by decide +kernel
theorem dX6_apart_8 : decode cX6_apart 8 = .ok (.aload_n 0, 1) := by decide +kernel
theorem dX6_apart_9 : decode cX6_apart 9 = .ok (.iload_n 2, 1) := by decide +kernel
theorem dX6_apart_10 : decode cX6_apart 10 = .ok (.invokevirtual 163, 3) := by decide +kernel
theorem dX6_apart_13 : decode cX6_apart 13 = .ok (.ifCond .eq 31, 3) := by decide +kernel
theorem dX6_apart_16 : decode cX6_apart 16 = .ok (.iload_n 1, 1) := by decide +kernel
theorem dX6_apart_17 : decode cX6_apart 17 = .ok (.iload_n 2, 1) := by decide +kernel
theorem dX6_apart_18 : decode cX6_apart 18 = .ok (.if_icmp .eq 26, 3) := by decide +kernel
theorem dX6_apart_21 : decode cX6_apart 21 = .ok (.iload_n 3, 1) := by decide +kernel
theorem dX6_apart_22 : decode cX6_apart 22 = .ok (.iconst 0, 1) := by decide +kernel
theorem dX6_apart_23 : decode cX6_apart 23 = .ok (.sipush 999, 3) := by decide +kernel
theorem dX6_apart_26 : decode cX6_apart 26 = .ok (.invokestatic 83, 3) := by decide +kernel
theorem dX6_apart_29 : decode cX6_apart 29 = .ok (.ifCond .eq 15, 3) := by decide +kernel
theorem dX6_apart_32 : decode cX6_apart 32 = .ok (.iload 4, 2) := by decide +kernel
theorem dX6_apart_34 : decode cX6_apart 34 = .ok (.iload_n 3, 1) := by decide +kernel
theorem dX6_apart_35 : decode cX6_apart 35 = .ok (.sipush 999, 3) := by decide +kernel
theorem dX6_apart_38 : decode cX6_apart 38 = .ok (.invokestatic 83, 3) := by decide +kernel
theorem dX6_apart_41 : decode cX6_apart 41 = .ok (.ifCond .ne 5, 3) := by decide +kernel
theorem dX6_apart_44 : decode cX6_apart 44 = .ok (.iconst (-1), 1) := by decide +kernel
theorem dX6_apart_45 : decode cX6_apart 45 = .ok (.ireturn, 1) := by decide +kernel
theorem dX6_apart_46 : decode cX6_apart 46 = .ok (.iload_n 3, 1) := by decide +kernel
theorem dX6_apart_47 : decode cX6_apart 47 = .ok (.istore 5, 2) := by decide +kernel
theorem dX6_apart_49 : decode cX6_apart 49 = .ok (.iload 5, 2) := by decide +kernel
theorem dX6_apart_51 : decode cX6_apart 51 = .ok (.iload 4, 2) := by decide +kernel
theorem dX6_apart_53 : decode cX6_apart 53 = .ok (.if_icmp .gt 29, 3) := by decide +kernel
theorem dX6_apart_56 : decode cX6_apart 56 = .ok (.aload_n 0, 1) := by decide +kernel
theorem dX6_apart_57 : decode cX6_apart 57 = .ok (.iload_n 1, 1) := by decide +kernel
theorem dX6_apart_58 : decode cX6_apart 58 = .ok (.iload 5, 2) := by decide +kernel
theorem dX6_apart_60 : decode cX6_apart 60 = .ok (.invokevirtual 148, 3) := by decide +kernel
theorem dX6_apart_63 : decode cX6_apart 63 = .ok (.aload_n 0, 1) := by decide +kernel
theorem dX6_apart_64 : decode cX6_apart 64 = .ok (.iload_n 2, 1) := by decide +kernel
theorem dX6_apart_65 : decode cX6_apart 65 = .ok (.iload 5, 2) := by decide +kernel
theorem dX6_apart_67 : decode cX6_apart 67 = .ok (.invokevirtual 148, 3) := by decide +kernel
theorem dX6_apart_70 : decode cX6_apart 70 = .ok (.if_icmp .eq 6, 3) := by decide +kernel
theorem dX6_apart_73 : decode cX6_apart 73 = .ok (.iload 5, 2) := by decide +kernel
theorem dX6_apart_75 : decode cX6_apart 75 = .ok (.ireturn, 1) := by decide +kernel
theorem dX6_apart_76 : decode cX6_apart 76 = .ok (.iinc 5 1, 3) := by decide +kernel
theorem dX6_apart_79 : decode cX6_apart 79 = .ok (.goto (-30), 3) := by decide +kernel
theorem dX6_apart_82 : decode cX6_apart 82 = .ok (.bipush (-9), 2) := by decide +kernel
theorem dX6_apart_84 : decode cX6_apart 84 = .ok (.ireturn, 1) := by decide +kernel
theorem dX6_everybody_0 : decode cX6_everybody 0 = .ok (.iconst 1, 1) := by decide +kernel
theorem dX6_everybody_1 : decode cX6_everybody 1 = .ok (.aload_n 0, 1) := by decide +kernel
theorem dX6_everybody_2 : decode cX6_everybody 2 = .ok (.getfield 135, 3) := by decide +kernel
theorem dX6_everybody_5 : decode cX6_everybody 5 = .ok (.ishl, 1) := by decide +kernel
theorem dX6_everybody_6 : decode cX6_everybody 6 = .ok (.iconst 1, 1) := by decide +kernel
theorem dX6_everybody_7 : decode cX6_everybody 7 = .ok (.isub, 1) := by decide +kernel
theorem dX6_everybody_8 : decode cX6_everybody 8 = .ok (.ireturn, 1) := by decide +kernel
theorem dX6_sour_0 : decode cX6_sour 0 = .ok (.iload_n 1, 1) := by decide +kernel
theorem dX6_sour_1 : decode cX6_sour 1 = .ok (.invokestatic 141, 3) := by decide +kernel
theorem dX6_sour_4 : decode cX6_sour 4 = .ok (.ifCond .ne 5, 3) := by decide +kernel
theorem dX6_sour_7 : decode cX6_sour 7 = .ok (.iconst (-1), 1) := by decide +kernel
theorem dX6_sour_8 : decode cX6_sour 8 = .ok (.ireturn, 1) := by decide +kernel
theorem dX6_sour_9 : decode cX6_sour 9 = .ok (.aload_n 0, 1) := by decide +kernel
theorem dX6_sour_10 : decode cX6_sour 10 = .ok (.aload_n 0, 1) := by decide +kernel
theorem dX6_sour_11 : decode cX6_sour 11 = .ok (.invokevirtual 260, 3) := by decide +kernel
theorem dX6_sour_14 : decode cX6_sour 14 = .ok (.iload_n 1, 1) := by decide +kernel
theorem dX6_sour_15 : decode cX6_sour 15 = .ok (.invokevirtual 220, 3) := by decide +kernel
theorem dX6_sour_18 : decode cX6_sour 18 = .ok (.istore_n 2, 1) := by decide +kernel
theorem dX6_sour_19 : decode cX6_sour 19 = .ok (.aload_n 0, 1) := by decide +kernel
theorem dX6_sour_20 : decode cX6_sour 20 = .ok (.iload_n 2, 1) := by decide +kernel
theorem dX6_sour_21 : decode cX6_sour 21 = .ok (.iload_n 2, 1) := by decide +kernel
theorem dX6_sour_22 : decode cX6_sour 22 = .ok (.invokestatic 223, 3) := by decide +kernel
theorem dX6_sour_25 : decode cX6_sour 25 = .ok (.invokevirtual 105, 3) := by decide +kernel
theorem dX6_sour_28 : decode cX6_sour 28 = .ok (.ireturn, 1) := by decide +kernel
theorem dX6_power_0 : decode cX6_power 0 = .ok (.iconst 1, 1) := by decide +kernel
theorem dX6_power_1 : decode cX6_power 1 = .ok (.istore_n 2, 1) := by decide +kernel
theorem dX6_power_2 : decode cX6_power 2 = .ok (.iconst 0, 1) := by decide +kernel
theorem dX6_power_3 : decode cX6_power 3 = .ok (.istore_n 3, 1) := by decide +kernel
theorem dX6_power_4 : decode cX6_power 4 = .ok (.iload_n 3, 1) := by decide +kernel
theorem dX6_power_5 : decode cX6_power 5 = .ok (.iload_n 1, 1) := by decide +kernel
theorem dX6_power_6 : decode cX6_power 6 = .ok (.if_icmp .ge 13, 3) := by decide +kernel
theorem dX6_power_9 : decode cX6_power 9 = .ok (.iload_n 2, 1) := by decide +kernel
theorem dX6_power_10 : decode cX6_power 10 = .ok (.iload_n 0, 1) := by decide +kernel
theorem dX6_power_11 : decode cX6_power 11 = .ok (.imul, 1) := by decide +kernel
theorem dX6_power_12 : decode cX6_power 12 = .ok (.istore_n 2, 1) := by decide +kernel
theorem dX6_power_13 : decode cX6_power 13 = .ok (.iinc 3 1, 3) := by decide +kernel
theorem dX6_power_16 : decode cX6_power 16 = .ok (.goto (-12), 3) := by decide +kernel
theorem dX6_power_19 : decode cX6_power 19 = .ok (.iload_n 2, 1) := by decide +kernel
theorem dX6_power_20 : decode cX6_power 20 = .ok (.ireturn, 1) := by decide +kernel
theorem dX6_odds_0 : decode cX6_odds 0 = .ok (.iload_n 1, 1) := by decide +kernel
theorem dX6_odds_1 : decode cX6_odds 1 = .ok (.iconst 1, 1) := by decide +kernel
theorem dX6_odds_2 : decode cX6_odds 2 = .ok (.iconst 3, 1) := by decide +kernel
theorem dX6_odds_3 : decode cX6_odds 3 = .ok (.invokestatic 83, 3) := by decide +kernel
theorem dX6_odds_6 : decode cX6_odds 6 = .ok (.ifCond .ne 5, 3) := by decide +kernel
theorem dX6_odds_9 : decode cX6_odds 9 = .ok (.iconst (-1), 1) := by decide +kernel
theorem dX6_odds_10 : decode cX6_odds 10 = .ok (.ireturn, 1) := by decide +kernel
theorem dX6_odds_11 : decode cX6_odds 11 = .ok (.aload_n 0, 1) := by decide +kernel
theorem dX6_odds_12 : decode cX6_odds 12 = .ok (.getfield 135, 3) := by decide +kernel
theorem dX6_odds_15 : decode cX6_odds 15 = .ok (.ifCond .ne 6, 3) := by decide +kernel
theorem dX6_odds_18 : decode cX6_odds 18 = .ok (.bipush (-4), 2) := by decide +kernel
theorem dX6_odds_20 : decode cX6_odds 20 = .ok (.ireturn, 1) := by decide +kernel
theorem dX6_odds_21 : decode cX6_odds 21 = .ok (.iconst 0, 1) := by decide +kernel
theorem dX6_odds_22 : decode cX6_odds 22 = .ok (.istore_n 2, 1) := by decide +kernel
theorem dX6_odds_23 : decode cX6_odds 23 = .ok (.iconst 0, 1) := by decide +kernel
theorem dX6_odds_24 : decode cX6_odds 24 = .ok (.istore_n 3, 1) := by decide +kernel
theorem dX6_odds_25 : decode cX6_odds 25 = .ok (.iload_n 3, 1) := by decide +kernel
theorem dX6_odds_26 : decode cX6_odds 26 = .ok (.bipush 6, 2) := by decide +kernel
theorem dX6_odds_28 : decode cX6_odds 28 = .ok (.if_icmp .ge 29, 3) := by decide +kernel
theorem dX6_odds_31 : decode cX6_odds 31 = .ok (.iload_n 2, 1) := by decide +kernel
theorem dX6_odds_32 : decode cX6_odds 32 = .ok (.aload_n 0, 1) := by decide +kernel
theorem dX6_odds_33 : decode cX6_odds 33 = .ok (.aload_n 0, 1) := by decide +kernel
theorem dX6_odds_34 : decode cX6_odds 34 = .ok (.aload_n 0, 1) := by decide +kernel
theorem dX6_odds_35 : decode cX6_odds 35 = .ok (.invokevirtual 260, 3) := by decide +kernel
theorem dX6_odds_38 : decode cX6_odds 38 = .ok (.iload_n 3, 1) := by decide +kernel
theorem dX6_odds_39 : decode cX6_odds 39 = .ok (.invokevirtual 205, 3) := by decide +kernel
theorem dX6_odds_42 : decode cX6_odds 42 = .ok (.invokevirtual 208, 3) := by decide +kernel
theorem dX6_odds_45 : decode cX6_odds 45 = .ok (.iload_n 1, 1) := by decide +kernel
theorem dX6_odds_46 : decode cX6_odds 46 = .ok (.invokestatic 264, 3) := by decide +kernel
theorem dX6_odds_49 : decode cX6_odds 49 = .ok (.iadd, 1) := by decide +kernel
theorem dX6_odds_50 : decode cX6_odds 50 = .ok (.istore_n 2, 1) := by decide +kernel
theorem dX6_odds_51 : decode cX6_odds 51 = .ok (.iinc 3 1, 3) := by decide +kernel
theorem dX6_odds_54 : decode cX6_odds 54 = .ok (.goto (-29), 3) := by decide +kernel
theorem dX6_odds_57 : decode cX6_odds 57 = .ok (.aload_n 0, 1) := by decide +kernel
theorem dX6_odds_58 : decode cX6_odds 58 = .ok (.iload_n 2, 1) := by decide +kernel
theorem dX6_odds_59 : decode cX6_odds 59 = .ok (.aload_n 0, 1) := by decide +kernel
theorem dX6_odds_60 : decode cX6_odds 60 = .ok (.aload_n 0, 1) := by decide +kernel
theorem dX6_odds_61 : decode cX6_odds 61 = .ok (.invokevirtual 260, 3) := by decide +kernel
theorem dX6_odds_64 : decode cX6_odds 64 = .ok (.invokevirtual 208, 3) := by decide +kernel
theorem dX6_odds_67 : decode cX6_odds 67 = .ok (.iload_n 1, 1) := by decide +kernel
theorem dX6_odds_68 : decode cX6_odds 68 = .ok (.invokestatic 264, 3) := by decide +kernel
theorem dX6_odds_71 : decode cX6_odds 71 = .ok (.invokevirtual 211, 3) := by decide +kernel
theorem dX6_odds_74 : decode cX6_odds 74 = .ok (.ireturn, 1) := by decide +kernel
theorem dX6_lots_0 : decode cX6_lots 0 = .ok (.iload_n 1, 1) := by decide +kernel
theorem dX6_lots_1 : decode cX6_lots 1 = .ok (.iconst 1, 1) := by decide +kernel
theorem dX6_lots_2 : decode cX6_lots 2 = .ok (.bipush 20, 2) := by decide +kernel
theorem dX6_lots_4 : decode cX6_lots 4 = .ok (.invokestatic 83, 3) := by decide +kernel
theorem dX6_lots_7 : decode cX6_lots 7 = .ok (.ifCond .eq 14, 3) := by decide +kernel
theorem dX6_lots_10 : decode cX6_lots 10 = .ok (.iload_n 2, 1) := by decide +kernel
theorem dX6_lots_11 : decode cX6_lots 11 = .ok (.iconst 1, 1) := by decide +kernel
theorem dX6_lots_12 : decode cX6_lots 12 = .ok (.ldc_w 267, 3) := by decide +kernel
theorem dX6_lots_15 : decode cX6_lots 15 = .ok (.invokestatic 83, 3) := by decide +kernel
theorem dX6_lots_18 : decode cX6_lots 18 = .ok (.ifCond .ne 5, 3) := by decide +kernel
theorem dX6_lots_21 : decode cX6_lots 21 = .ok (.iconst (-1), 1) := by decide +kernel
theorem dX6_lots_22 : decode cX6_lots 22 = .ok (.ireturn, 1) := by decide +kernel
theorem dX6_lots_23 : decode cX6_lots 23 = .ok (.aload_n 0, 1) := by decide +kernel
theorem dX6_lots_24 : decode cX6_lots 24 = .ok (.getfield 135, 3) := by decide +kernel
theorem dX6_lots_27 : decode cX6_lots 27 = .ok (.ifCond .eq 21, 3) := by decide +kernel
theorem dX6_lots_30 : decode cX6_lots 30 = .ok (.aload_n 0, 1) := by decide +kernel
theorem dX6_lots_31 : decode cX6_lots 31 = .ok (.getfield 54, 3) := by decide +kernel
theorem dX6_lots_34 : decode cX6_lots 34 = .ok (.bipush 13, 2) := by decide +kernel
theorem dX6_lots_36 : decode cX6_lots 36 = .ok (.iaload, 1) := by decide +kernel
theorem dX6_lots_37 : decode cX6_lots 37 = .ok (.bipush 70, 2) := by decide +kernel
theorem dX6_lots_39 : decode cX6_lots 39 = .ok (.iload_n 1, 1) := by decide +kernel
theorem dX6_lots_40 : decode cX6_lots 40 = .ok (.imul, 1) := by decide +kernel
theorem dX6_lots_41 : decode cX6_lots 41 = .ok (.iadd, 1) := by decide +kernel
theorem dX6_lots_42 : decode cX6_lots 42 = .ok (.sipush 9999, 3) := by decide +kernel
theorem dX6_lots_45 : decode cX6_lots 45 = .ok (.if_icmp .le 6, 3) := by decide +kernel
theorem dX6_lots_48 : decode cX6_lots 48 = .ok (.bipush (-4), 2) := by decide +kernel
theorem dX6_lots_50 : decode cX6_lots 50 = .ok (.ireturn, 1) := by decide +kernel
theorem dX6_lots_51 : decode cX6_lots 51 = .ok (.aload_n 0, 1) := by decide +kernel
theorem dX6_lots_52 : decode cX6_lots 52 = .ok (.getfield 138, 3) := by decide +kernel
theorem dX6_lots_55 : decode cX6_lots 55 = .ok (.iload_n 1, 1) := by decide +kernel
theorem dX6_lots_56 : decode cX6_lots 56 = .ok (.iadd, 1) := by decide +kernel
theorem dX6_lots_57 : decode cX6_lots 57 = .ok (.bipush 60, 2) := by decide +kernel
theorem dX6_lots_59 : decode cX6_lots 59 = .ok (.if_icmp .le 6, 3) := by decide +kernel
theorem dX6_lots_62 : decode cX6_lots 62 = .ok (.bipush (-2), 2) := by decide +kernel
theorem dX6_lots_64 : decode cX6_lots 64 = .ok (.ireturn, 1) := by decide +kernel
theorem dX6_lots_65 : decode cX6_lots 65 = .ok (.iload_n 2, 1) := by decide +kernel
theorem dX6_lots_66 : decode cX6_lots 66 = .ok (.i2l, 1) := by decide +kernel
theorem dX6_lots_67 : decode cX6_lots 67 = .ok (.lstore_n 3, 1) := by decide +kernel
theorem dX6_lots_68 : decode cX6_lots 68 = .ok (.iconst 0, 1) := by decide +kernel
theorem dX6_lots_69 : decode cX6_lots 69 = .ok (.istore 5, 2) := by decide +kernel
theorem dX6_lots_71 : decode cX6_lots 71 = .ok (.iconst 0, 1) := by decide +kernel
theorem dX6_lots_72 : decode cX6_lots 72 = .ok (.istore 6, 2) := by decide +kernel
theorem dX6_lots_74 : decode cX6_lots 74 = .ok (.iload 6, 2) := by decide +kernel
theorem dX6_lots_76 : decode cX6_lots 76 = .ok (.iload_n 1, 1) := by decide +kernel
theorem dX6_lots_77 : decode cX6_lots 77 = .ok (.if_icmp .ge 62, 3) := by decide +kernel
theorem dX6_lots_80 : decode cX6_lots 80 = .ok (.ldc2_w 268, 3) := by decide +kernel
theorem dX6_lots_83 : decode cX6_lots 83 = .ok (.lload_n 3, 1) := by decide +kernel
theorem dX6_lots_84 : decode cX6_lots 84 = .ok (.lmul, 1) := by decide +kernel
theorem dX6_lots_85 : decode cX6_lots 85 = .ok (.ldc2_w 270, 3) := by decide +kernel
theorem dX6_lots_88 : decode cX6_lots 88 = .ok (.lrem, 1) := by decide +kernel
theorem dX6_lots_89 : decode cX6_lots 89 = .ok (.lstore_n 3, 1) := by decide +kernel
theorem dX6_lots_90 : decode cX6_lots 90 = .ok (.lload_n 3, 1) := by decide +kernel
theorem dX6_lots_91 : decode cX6_lots 91 = .ok (.aload_n 0, 1) := by decide +kernel
theorem dX6_lots_92 : decode cX6_lots 92 = .ok (.getfield 135, 3) := by decide +kernel
theorem dX6_lots_95 : decode cX6_lots 95 = .ok (.i2l, 1) := by decide +kernel
theorem dX6_lots_96 : decode cX6_lots 96 = .ok (.lrem, 1) := by decide +kernel
theorem dX6_lots_97 : decode cX6_lots 97 = .ok (.l2i, 1) := by decide +kernel
theorem dX6_lots_98 : decode cX6_lots 98 = .ok (.istore 7, 2) := by decide +kernel
theorem dX6_lots_100 : decode cX6_lots 100 = .ok (.iload 5, 2) := by decide +kernel
theorem dX6_lots_102 : decode cX6_lots 102 = .ok (.aload_n 0, 1) := by decide +kernel
theorem dX6_lots_103 : decode cX6_lots 103 = .ok (.iload 7, 2) := by decide +kernel
theorem dX6_lots_105 : decode cX6_lots 105 = .ok (.aload_n 0, 1) := by decide +kernel
theorem dX6_lots_106 : decode cX6_lots 106 = .ok (.aload_n 0, 1) := by decide +kernel
theorem dX6_lots_107 : decode cX6_lots 107 = .ok (.aload_n 0, 1) := by decide +kernel
theorem dX6_lots_108 : decode cX6_lots 108 = .ok (.getfield 36, 3) := by decide +kernel
theorem dX6_lots_111 : decode cX6_lots 111 = .ok (.iload 7, 2) := by decide +kernel
theorem dX6_lots_113 : decode cX6_lots 113 = .ok (.iaload, 1) := by decide +kernel
theorem dX6_lots_114 : decode cX6_lots 114 = .ok (.aload_n 0, 1) := by decide +kernel
theorem dX6_lots_115 : decode cX6_lots 115 = .ok (.getfield 39, 3) := by decide +kernel
theorem dX6_lots_118 : decode cX6_lots 118 = .ok (.iload 7, 2) := by decide +kernel
theorem dX6_lots_120 : decode cX6_lots 120 = .ok (.iaload, 1) := by decide +kernel
theorem dX6_lots_121 : decode cX6_lots 121 = .ok (.invokevirtual 199, 3) := by decide +kernel
theorem dX6_lots_124 : decode cX6_lots 124 = .ok (.invokevirtual 217, 3) := by decide +kernel
theorem dX6_lots_127 : decode cX6_lots 127 = .ok (.invokevirtual 193, 3) := by decide +kernel
theorem dX6_lots_130 : decode cX6_lots 130 = .ok (.iadd, 1) := by decide +kernel
theorem dX6_lots_131 : decode cX6_lots 131 = .ok (.istore 5, 2) := by decide +kernel
theorem dX6_lots_133 : decode cX6_lots 133 = .ok (.iinc 6 1, 3) := by decide +kernel
theorem dX6_lots_136 : decode cX6_lots 136 = .ok (.goto (-62), 3) := by decide +kernel
theorem dX6_lots_139 : decode cX6_lots 139 = .ok (.iload 5, 2) := by decide +kernel
theorem dX6_lots_141 : decode cX6_lots 141 = .ok (.ireturn, 1) := by decide +kernel
theorem dX6_counted_0 : decode cX6_counted 0 = .ok (.iconst 0, 1) := by decide +kernel
theorem dX6_counted_1 : decode cX6_counted 1 = .ok (.istore_n 2, 1) := by decide +kernel
theorem dX6_counted_2 : decode cX6_counted 2 = .ok (.iconst 0, 1) := by decide +kernel
theorem dX6_counted_3 : decode cX6_counted 3 = .ok (.istore_n 3, 1) := by decide +kernel
theorem dX6_counted_4 : decode cX6_counted 4 = .ok (.iload_n 3, 1) := by decide +kernel
theorem dX6_counted_5 : decode cX6_counted 5 = .ok (.aload_n 0, 1) := by decide +kernel
theorem dX6_counted_6 : decode cX6_counted 6 = .ok (.getfield 135, 3) := by decide +kernel
theorem dX6_counted_9 : decode cX6_counted 9 = .ok (.if_icmp .ge 61, 3) := by decide +kernel
theorem dX6_counted_12 : decode cX6_counted 12 = .ok (.iload_n 2, 1) := by decide +kernel
theorem dX6_counted_13 : decode cX6_counted 13 = .ok (.iload_n 1, 1) := by decide +kernel
theorem dX6_counted_14 : decode cX6_counted 14 = .ok (.iconst 4, 1) := by decide +kernel
theorem dX6_counted_15 : decode cX6_counted 15 = .ok (.if_icmp .ne 11, 3) := by decide +kernel
theorem dX6_counted_18 : decode cX6_counted 18 = .ok (.aload_n 0, 1) := by decide +kernel
theorem dX6_counted_19 : decode cX6_counted 19 = .ok (.iload_n 3, 1) := by decide +kernel
theorem dX6_counted_20 : decode cX6_counted 20 = .ok (.invokevirtual 151, 3) := by decide +kernel
theorem dX6_counted_23 : decode cX6_counted 23 = .ok (.ifCond .ne 17, 3) := by decide +kernel
theorem dX6_counted_26 : decode cX6_counted 26 = .ok (.iload_n 1, 1) := by decide +kernel
theorem dX6_counted_27 : decode cX6_counted 27 = .ok (.bipush 6, 2) := by decide +kernel
theorem dX6_counted_29 : decode cX6_counted 29 = .ok (.if_icmp .ne 15, 3) := by decide +kernel
theorem dX6_counted_32 : decode cX6_counted 32 = .ok (.aload_n 0, 1) := by decide +kernel
theorem dX6_counted_33 : decode cX6_counted 33 = .ok (.iload_n 3, 1) := by decide +kernel
theorem dX6_counted_34 : decode cX6_counted 34 = .ok (.invokevirtual 154, 3) := by decide +kernel
theorem dX6_counted_37 : decode cX6_counted 37 = .ok (.ifCond .eq 7, 3) := by decide +kernel
theorem dX6_counted_40 : decode cX6_counted 40 = .ok (.iconst 1, 1) := by decide +kernel
theorem dX6_counted_41 : decode cX6_counted 41 = .ok (.goto 21, 3) := by decide +kernel
theorem dX6_counted_44 : decode cX6_counted 44 = .ok (.iload_n 1, 1) := by decide +kernel
theorem dX6_counted_45 : decode cX6_counted 45 = .ok (.iconst 5, 1) := by decide +kernel
theorem dX6_counted_46 : decode cX6_counted 46 = .ok (.if_icmp .ne 15, 3) := by decide +kernel
theorem dX6_counted_49 : decode cX6_counted 49 = .ok (.aload_n 0, 1) := by decide +kernel
theorem dX6_counted_50 : decode cX6_counted 50 = .ok (.getfield 54, 3) := by decide +kernel
theorem dX6_counted_53 : decode cX6_counted 53 = .ok (.bipush 6, 2) := by decide +kernel
theorem dX6_counted_55 : decode cX6_counted 55 = .ok (.iload_n 3, 1) := by decide +kernel
theorem dX6_counted_56 : decode cX6_counted 56 = .ok (.iadd, 1) := by decide +kernel
theorem dX6_counted_57 : decode cX6_counted 57 = .ok (.iaload, 1) := by decide +kernel
theorem dX6_counted_58 : decode cX6_counted 58 = .ok (.goto 4, 3) := by decide +kernel
theorem dX6_counted_61 : decode cX6_counted 61 = .ok (.iconst 0, 1) := by decide +kernel
theorem dX6_counted_62 : decode cX6_counted 62 = .ok (.iadd, 1) := by decide +kernel
theorem dX6_counted_63 : decode cX6_counted 63 = .ok (.istore_n 2, 1) := by decide +kernel
theorem dX6_counted_64 : decode cX6_counted 64 = .ok (.iinc 3 1, 3) := by decide +kernel
theorem dX6_counted_67 : decode cX6_counted 67 = .ok (.goto (-63), 3) := by decide +kernel
theorem dX6_counted_70 : decode cX6_counted 70 = .ok (.iconst 0, 1) := by decide +kernel
theorem dX6_counted_71 : decode cX6_counted 71 = .ok (.istore_n 3, 1) := by decide +kernel
theorem dX6_counted_72 : decode cX6_counted 72 = .ok (.iload_n 3, 1) := by decide +kernel
theorem dX6_counted_73 : decode cX6_counted 73 = .ok (.bipush 6, 2) := by decide +kernel
theorem dX6_counted_75 : decode cX6_counted 75 = .ok (.if_icmp .ge 32, 3) := by decide +kernel
theorem dX6_counted_78 : decode cX6_counted 78 = .ok (.iload_n 2, 1) := by decide +kernel
theorem dX6_counted_79 : decode cX6_counted 79 = .ok (.iload_n 1, 1) := by decide +kernel
theorem dX6_counted_80 : decode cX6_counted 80 = .ok (.bipush 7, 2) := by decide +kernel
theorem dX6_counted_82 : decode cX6_counted 82 = .ok (.if_icmp .ne 16, 3) := by decide +kernel
theorem dX6_counted_85 : decode cX6_counted 85 = .ok (.aload_n 0, 1) := by decide +kernel
theorem dX6_counted_86 : decode cX6_counted 86 = .ok (.getfield 17, 3) := by decide +kernel
theorem dX6_counted_89 : decode cX6_counted 89 = .ok (.iload_n 3, 1) := by decide +kernel
theorem dX6_counted_90 : decode cX6_counted 90 = .ok (.iaload, 1) := by decide +kernel
theorem dX6_counted_91 : decode cX6_counted 91 = .ok (.ifCond .lt 7, 3) := by decide +kernel
theorem dX6_counted_94 : decode cX6_counted 94 = .ok (.iconst 1, 1) := by decide +kernel
theorem dX6_counted_95 : decode cX6_counted 95 = .ok (.goto 4, 3) := by decide +kernel
theorem dX6_counted_98 : decode cX6_counted 98 = .ok (.iconst 0, 1) := by decide +kernel
theorem dX6_counted_99 : decode cX6_counted 99 = .ok (.iadd, 1) := by decide +kernel
theorem dX6_counted_100 : decode cX6_counted 100 = .ok (.istore_n 2, 1) := by decide +kernel
theorem dX6_counted_101 : decode cX6_counted 101 = .ok (.iinc 3 1, 3) := by decide +kernel
theorem dX6_counted_104 : decode cX6_counted 104 = .ok (.goto (-32), 3) := by decide +kernel
theorem dX6_counted_107 : decode cX6_counted 107 = .ok (.iconst 0, 1) := by decide +kernel
theorem dX6_counted_108 : decode cX6_counted 108 = .ok (.istore_n 3, 1) := by decide +kernel
theorem dX6_counted_109 : decode cX6_counted 109 = .ok (.iload_n 3, 1) := by decide +kernel
theorem dX6_counted_110 : decode cX6_counted 110 = .ok (.iconst 4, 1) := by decide +kernel
theorem dX6_counted_111 : decode cX6_counted 111 = .ok (.if_icmp .ge 32, 3) := by decide +kernel
theorem dX6_counted_114 : decode cX6_counted 114 = .ok (.iload_n 2, 1) := by decide +kernel
theorem dX6_counted_115 : decode cX6_counted 115 = .ok (.iload_n 1, 1) := by decide +kernel
theorem dX6_counted_116 : decode cX6_counted 116 = .ok (.bipush 8, 2) := by decide +kernel
theorem dX6_counted_118 : decode cX6_counted 118 = .ok (.if_icmp .ne 16, 3) := by decide +kernel
theorem dX6_counted_121 : decode cX6_counted 121 = .ok (.aload_n 0, 1) := by decide +kernel
theorem dX6_counted_122 : decode cX6_counted 122 = .ok (.getfield 26, 3) := by decide +kernel
theorem dX6_counted_125 : decode cX6_counted 125 = .ok (.iload_n 3, 1) := by decide +kernel
theorem dX6_counted_126 : decode cX6_counted 126 = .ok (.iaload, 1) := by decide +kernel
theorem dX6_counted_127 : decode cX6_counted 127 = .ok (.ifCond .lt 7, 3) := by decide +kernel
theorem dX6_counted_130 : decode cX6_counted 130 = .ok (.iconst 1, 1) := by decide +kernel
theorem dX6_counted_131 : decode cX6_counted 131 = .ok (.goto 4, 3) := by decide +kernel
theorem dX6_counted_134 : decode cX6_counted 134 = .ok (.iconst 0, 1) := by decide +kernel
theorem dX6_counted_135 : decode cX6_counted 135 = .ok (.iadd, 1) := by decide +kernel
theorem dX6_counted_136 : decode cX6_counted 136 = .ok (.istore_n 2, 1) := by decide +kernel
theorem dX6_counted_137 : decode cX6_counted 137 = .ok (.iinc 3 1, 3) := by decide +kernel
theorem dX6_counted_140 : decode cX6_counted 140 = .ok (.goto (-31), 3) := by decide +kernel
theorem dX6_counted_143 : decode cX6_counted 143 = .ok (.iconst 0, 1) := by decide +kernel
theorem dX6_counted_144 : decode cX6_counted 144 = .ok (.istore_n 3, 1) := by decide +kernel
theorem dX6_counted_145 : decode cX6_counted 145 = .ok (.iload_n 3, 1) := by decide +kernel
theorem dX6_counted_146 : decode cX6_counted 146 = .ok (.iconst 3, 1) := by decide +kernel
theorem dX6_counted_147 : decode cX6_counted 147 = .ok (.if_icmp .ge 32, 3) := by decide +kernel
theorem dX6_counted_150 : decode cX6_counted 150 = .ok (.iload_n 2, 1) := by decide +kernel
theorem dX6_counted_151 : decode cX6_counted 151 = .ok (.iload_n 1, 1) := by decide +kernel
theorem dX6_counted_152 : decode cX6_counted 152 = .ok (.bipush 9, 2) := by decide +kernel
theorem dX6_counted_154 : decode cX6_counted 154 = .ok (.if_icmp .ne 16, 3) := by decide +kernel
theorem dX6_counted_157 : decode cX6_counted 157 = .ok (.aload_n 0, 1) := by decide +kernel
theorem dX6_counted_158 : decode cX6_counted 158 = .ok (.getfield 60, 3) := by decide +kernel
theorem dX6_counted_161 : decode cX6_counted 161 = .ok (.iload_n 3, 1) := by decide +kernel
theorem dX6_counted_162 : decode cX6_counted 162 = .ok (.baload, 1) := by decide +kernel
theorem dX6_counted_163 : decode cX6_counted 163 = .ok (.ifCond .eq 7, 3) := by decide +kernel
theorem dX6_counted_166 : decode cX6_counted 166 = .ok (.iconst 1, 1) := by decide +kernel
theorem dX6_counted_167 : decode cX6_counted 167 = .ok (.goto 4, 3) := by decide +kernel
theorem dX6_counted_170 : decode cX6_counted 170 = .ok (.iconst 0, 1) := by decide +kernel
theorem dX6_counted_171 : decode cX6_counted 171 = .ok (.iadd, 1) := by decide +kernel
theorem dX6_counted_172 : decode cX6_counted 172 = .ok (.istore_n 2, 1) := by decide +kernel
theorem dX6_counted_173 : decode cX6_counted 173 = .ok (.iinc 3 1, 3) := by decide +kernel
theorem dX6_counted_176 : decode cX6_counted 176 = .ok (.goto (-31), 3) := by decide +kernel
theorem dX6_counted_179 : decode cX6_counted 179 = .ok (.iload_n 1, 1) := by decide +kernel
theorem dX6_counted_180 : decode cX6_counted 180 = .ok (.tableswitch 58 0 3 #[32, 37, 45, 53], 32) := by decide +kernel
theorem dX6_counted_212 : decode cX6_counted 212 = .ok (.aload_n 0, 1) := by decide +kernel
theorem dX6_counted_213 : decode cX6_counted 213 = .ok (.getfield 135, 3) := by decide +kernel
theorem dX6_counted_216 : decode cX6_counted 216 = .ok (.ireturn, 1) := by decide +kernel
theorem dX6_counted_217 : decode cX6_counted 217 = .ok (.aload_n 0, 1) := by decide +kernel
theorem dX6_counted_218 : decode cX6_counted 218 = .ok (.getfield 54, 3) := by decide +kernel
theorem dX6_counted_221 : decode cX6_counted 221 = .ok (.bipush 12, 2) := by decide +kernel
theorem dX6_counted_223 : decode cX6_counted 223 = .ok (.iaload, 1) := by decide +kernel
theorem dX6_counted_224 : decode cX6_counted 224 = .ok (.ireturn, 1) := by decide +kernel
theorem dX6_counted_225 : decode cX6_counted 225 = .ok (.aload_n 0, 1) := by decide +kernel
theorem dX6_counted_226 : decode cX6_counted 226 = .ok (.getfield 54, 3) := by decide +kernel
theorem dX6_counted_229 : decode cX6_counted 229 = .ok (.bipush 13, 2) := by decide +kernel
theorem dX6_counted_231 : decode cX6_counted 231 = .ok (.iaload, 1) := by decide +kernel
theorem dX6_counted_232 : decode cX6_counted 232 = .ok (.ireturn, 1) := by decide +kernel
theorem dX6_counted_233 : decode cX6_counted 233 = .ok (.aload_n 0, 1) := by decide +kernel
theorem dX6_counted_234 : decode cX6_counted 234 = .ok (.getfield 138, 3) := by decide +kernel
theorem dX6_counted_237 : decode cX6_counted 237 = .ok (.ireturn, 1) := by decide +kernel
theorem dX6_counted_238 : decode cX6_counted 238 = .ok (.iload_n 2, 1) := by decide +kernel
theorem dX6_counted_239 : decode cX6_counted 239 = .ok (.ireturn, 1) := by decide +kernel
theorem dX6_count_0 : decode cX6_count 0 = .ok (.iload_n 1, 1) := by decide +kernel
theorem dX6_count_1 : decode cX6_count 1 = .ok (.iconst 0, 1) := by decide +kernel
theorem dX6_count_2 : decode cX6_count 2 = .ok (.bipush 9, 2) := by decide +kernel
theorem dX6_count_4 : decode cX6_count 4 = .ok (.invokestatic 83, 3) := by decide +kernel
theorem dX6_count_7 : decode cX6_count 7 = .ok (.ifCond .eq 11, 3) := by decide +kernel
theorem dX6_count_10 : decode cX6_count 10 = .ok (.aload_n 0, 1) := by decide +kernel
theorem dX6_count_11 : decode cX6_count 11 = .ok (.iload_n 1, 1) := by decide +kernel
theorem dX6_count_12 : decode cX6_count 12 = .ok (.invokevirtual 272, 3) := by decide +kernel
theorem dX6_count_15 : decode cX6_count 15 = .ok (.goto 4, 3) := by decide +kernel
theorem dX6_count_18 : decode cX6_count 18 = .ok (.iconst (-1), 1) := by decide +kernel
theorem dX6_count_19 : decode cX6_count 19 = .ok (.ireturn, 1) := by decide +kernel
theorem dX6_mix_0 : decode cX6_mix 0 = .ok (.aload_n 0, 1) := by decide +kernel
theorem dX6_mix_1 : decode cX6_mix 1 = .ok (.ldc2_w 275, 3) := by decide +kernel
theorem dX6_mix_4 : decode cX6_mix 4 = .ok (.aload_n 0, 1) := by decide +kernel
theorem dX6_mix_5 : decode cX6_mix 5 = .ok (.getfield 277, 3) := by decide +kernel
theorem dX6_mix_8 : decode cX6_mix 8 = .ok (.lmul, 1) := by decide +kernel
theorem dX6_mix_9 : decode cX6_mix 9 = .ok (.lload_n 1, 1) := by decide +kernel
theorem dX6_mix_10 : decode cX6_mix 10 = .ok (.ladd, 1) := by decide +kernel
theorem dX6_mix_11 : decode cX6_mix 11 = .ok (.putfield 277, 3) := by decide +kernel
theorem dX6_mix_14 : decode cX6_mix 14 = .ok (.return_, 1) := by decide +kernel
theorem dX6_mixShop_0 : decode cX6_mixShop 0 = .ok (.iconst 0, 1) := by decide +kernel
theorem dX6_mixShop_1 : decode cX6_mixShop 1 = .ok (.istore_n 1, 1) := by decide +kernel
theorem dX6_mixShop_2 : decode cX6_mixShop 2 = .ok (.iload_n 1, 1) := by decide +kernel
theorem dX6_mixShop_3 : decode cX6_mixShop 3 = .ok (.aload_n 0, 1) := by decide +kernel
theorem dX6_mixShop_4 : decode cX6_mixShop 4 = .ok (.getfield 135, 3) := by decide +kernel
theorem dX6_mixShop_7 : decode cX6_mixShop 7 = .ok (.if_icmp .ge 34, 3) := by decide +kernel
theorem dX6_mixShop_10 : decode cX6_mixShop 10 = .ok (.iconst 0, 1) := by decide +kernel
theorem dX6_mixShop_11 : decode cX6_mixShop 11 = .ok (.istore_n 2, 1) := by decide +kernel
theorem dX6_mixShop_12 : decode cX6_mixShop 12 = .ok (.iload_n 2, 1) := by decide +kernel
theorem dX6_mixShop_13 : decode cX6_mixShop 13 = .ok (.bipush 9, 2) := by decide +kernel
theorem dX6_mixShop_15 : decode cX6_mixShop 15 = .ok (.if_icmp .ge 20, 3) := by decide +kernel
theorem dX6_mixShop_18 : decode cX6_mixShop 18 = .ok (.aload_n 0, 1) := by decide +kernel
theorem dX6_mixShop_19 : decode cX6_mixShop 19 = .ok (.aload_n 0, 1) := by decide +kernel
theorem dX6_mixShop_20 : decode cX6_mixShop 20 = .ok (.iload_n 1, 1) := by decide +kernel
theorem dX6_mixShop_21 : decode cX6_mixShop 21 = .ok (.iload_n 2, 1) := by decide +kernel
theorem dX6_mixShop_22 : decode cX6_mixShop 22 = .ok (.invokevirtual 166, 3) := by decide +kernel
theorem dX6_mixShop_25 : decode cX6_mixShop 25 = .ok (.i2l, 1) := by decide +kernel
theorem dX6_mixShop_26 : decode cX6_mixShop 26 = .ok (.invokevirtual 280, 3) := by decide +kernel
theorem dX6_mixShop_29 : decode cX6_mixShop 29 = .ok (.iinc 2 1, 3) := by decide +kernel
theorem dX6_mixShop_32 : decode cX6_mixShop 32 = .ok (.goto (-20), 3) := by decide +kernel
theorem dX6_mixShop_35 : decode cX6_mixShop 35 = .ok (.iinc 1 1, 3) := by decide +kernel
theorem dX6_mixShop_38 : decode cX6_mixShop 38 = .ok (.goto (-36), 3) := by decide +kernel
theorem dX6_mixShop_41 : decode cX6_mixShop 41 = .ok (.iconst 0, 1) := by decide +kernel
theorem dX6_mixShop_42 : decode cX6_mixShop 42 = .ok (.istore_n 1, 1) := by decide +kernel
theorem dX6_mixShop_43 : decode cX6_mixShop 43 = .ok (.iload_n 1, 1) := by decide +kernel
theorem dX6_mixShop_44 : decode cX6_mixShop 44 = .ok (.iconst 3, 1) := by decide +kernel
theorem dX6_mixShop_45 : decode cX6_mixShop 45 = .ok (.if_icmp .ge 35, 3) := by decide +kernel
theorem dX6_mixShop_48 : decode cX6_mixShop 48 = .ok (.aload_n 0, 1) := by decide +kernel
theorem dX6_mixShop_49 : decode cX6_mixShop 49 = .ok (.aload_n 0, 1) := by decide +kernel
theorem dX6_mixShop_50 : decode cX6_mixShop 50 = .ok (.getfield 60, 3) := by decide +kernel
theorem dX6_mixShop_53 : decode cX6_mixShop 53 = .ok (.iload_n 1, 1) := by decide +kernel
theorem dX6_mixShop_54 : decode cX6_mixShop 54 = .ok (.baload, 1) := by decide +kernel
theorem dX6_mixShop_55 : decode cX6_mixShop 55 = .ok (.ifCond .eq 13, 3) := by decide +kernel
theorem dX6_mixShop_58 : decode cX6_mixShop 58 = .ok (.aload_n 0, 1) := by decide +kernel
theorem dX6_mixShop_59 : decode cX6_mixShop 59 = .ok (.getfield 64, 3) := by decide +kernel
theorem dX6_mixShop_62 : decode cX6_mixShop 62 = .ok (.iload_n 1, 1) := by decide +kernel
theorem dX6_mixShop_63 : decode cX6_mixShop 63 = .ok (.iaload, 1) := by decide +kernel
theorem dX6_mixShop_64 : decode cX6_mixShop 64 = .ok (.i2l, 1) := by decide +kernel
theorem dX6_mixShop_65 : decode cX6_mixShop 65 = .ok (.goto 6, 3) := by decide +kernel
theorem dX6_mixShop_68 : decode cX6_mixShop 68 = .ok (.ldc2_w 284, 3) := by decide +kernel
theorem dX6_mixShop_71 : decode cX6_mixShop 71 = .ok (.invokevirtual 280, 3) := by decide +kernel
theorem dX6_mixShop_74 : decode cX6_mixShop 74 = .ok (.iinc 1 1, 3) := by decide +kernel
theorem dX6_mixShop_77 : decode cX6_mixShop 77 = .ok (.goto (-34), 3) := by decide +kernel
theorem dX6_mixShop_80 : decode cX6_mixShop 80 = .ok (.return_, 1) := by decide +kernel
theorem dX6_digest_0 : decode cX6_digest 0 = .ok (.aload_n 0, 1) := by decide +kernel
theorem dX6_digest_1 : decode cX6_digest 1 = .ok (.ldc2_w 286, 3) := by decide +kernel
theorem dX6_digest_4 : decode cX6_digest 4 = .ok (.putfield 277, 3) := by decide +kernel
theorem dX6_digest_7 : decode cX6_digest 7 = .ok (.iconst 0, 1) := by decide +kernel
theorem dX6_digest_8 : decode cX6_digest 8 = .ok (.istore_n 1, 1) := by decide +kernel
theorem dX6_digest_9 : decode cX6_digest 9 = .ok (.iload_n 1, 1) := by decide +kernel
theorem dX6_digest_10 : decode cX6_digest 10 = .ok (.bipush 10, 2) := by decide +kernel
theorem dX6_digest_12 : decode cX6_digest 12 = .ok (.if_icmp .ge 19, 3) := by decide +kernel
theorem dX6_digest_15 : decode cX6_digest 15 = .ok (.aload_n 0, 1) := by decide +kernel
theorem dX6_digest_16 : decode cX6_digest 16 = .ok (.aload_n 0, 1) := by decide +kernel
theorem dX6_digest_17 : decode cX6_digest 17 = .ok (.iload_n 1, 1) := by decide +kernel
theorem dX6_digest_18 : decode cX6_digest 18 = .ok (.invokevirtual 272, 3) := by decide +kernel
theorem dX6_digest_21 : decode cX6_digest 21 = .ok (.i2l, 1) := by decide +kernel
theorem dX6_digest_22 : decode cX6_digest 22 = .ok (.invokevirtual 280, 3) := by decide +kernel
theorem dX6_digest_25 : decode cX6_digest 25 = .ok (.iinc 1 1, 3) := by decide +kernel
theorem dX6_digest_28 : decode cX6_digest 28 = .ok (.goto (-19), 3) := by decide +kernel
theorem dX6_digest_31 : decode cX6_digest 31 = .ok (.aload_n 0, 1) := by decide +kernel
theorem dX6_digest_32 : decode cX6_digest 32 = .ok (.invokevirtual 288, 3) := by decide +kernel
theorem dX6_digest_35 : decode cX6_digest 35 = .ok (.iconst 0, 1) := by decide +kernel
theorem dX6_digest_36 : decode cX6_digest 36 = .ok (.istore_n 1, 1) := by decide +kernel
theorem dX6_digest_37 : decode cX6_digest 37 = .ok (.iload_n 1, 1) := by decide +kernel
theorem dX6_digest_38 : decode cX6_digest 38 = .ok (.bipush 6, 2) := by decide +kernel
theorem dX6_digest_40 : decode cX6_digest 40 = .ok (.if_icmp .ge 49, 3) := by decide +kernel
theorem dX6_digest_43 : decode cX6_digest 43 = .ok (.aload_n 0, 1) := by decide +kernel
theorem dX6_digest_44 : decode cX6_digest 44 = .ok (.aload_n 0, 1) := by decide +kernel
theorem dX6_digest_45 : decode cX6_digest 45 = .ok (.getfield 17, 3) := by decide +kernel
theorem dX6_digest_48 : decode cX6_digest 48 = .ok (.iload_n 1, 1) := by decide +kernel
theorem dX6_digest_49 : decode cX6_digest 49 = .ok (.iaload, 1) := by decide +kernel
theorem dX6_digest_50 : decode cX6_digest 50 = .ok (.i2l, 1) := by decide +kernel
theorem dX6_digest_51 : decode cX6_digest 51 = .ok (.invokevirtual 280, 3) := by decide +kernel
theorem dX6_digest_54 : decode cX6_digest 54 = .ok (.iconst 0, 1) := by decide +kernel
theorem dX6_digest_55 : decode cX6_digest 55 = .ok (.istore_n 2, 1) := by decide +kernel
theorem dX6_digest_56 : decode cX6_digest 56 = .ok (.iload_n 2, 1) := by decide +kernel
theorem dX6_digest_57 : decode cX6_digest 57 = .ok (.aload_n 0, 1) := by decide +kernel
theorem dX6_digest_58 : decode cX6_digest 58 = .ok (.getfield 17, 3) := by decide +kernel
theorem dX6_digest_61 : decode cX6_digest 61 = .ok (.iload_n 1, 1) := by decide +kernel
theorem dX6_digest_62 : decode cX6_digest 62 = .ok (.iaload, 1) := by decide +kernel
theorem dX6_digest_63 : decode cX6_digest 63 = .ok (.if_icmp .ge 20, 3) := by decide +kernel
theorem dX6_digest_66 : decode cX6_digest 66 = .ok (.aload_n 0, 1) := by decide +kernel
theorem dX6_digest_67 : decode cX6_digest 67 = .ok (.aload_n 0, 1) := by decide +kernel
theorem dX6_digest_68 : decode cX6_digest 68 = .ok (.iload_n 1, 1) := by decide +kernel
theorem dX6_digest_69 : decode cX6_digest 69 = .ok (.iload_n 2, 1) := by decide +kernel
theorem dX6_digest_70 : decode cX6_digest 70 = .ok (.invokevirtual 101, 3) := by decide +kernel
theorem dX6_digest_73 : decode cX6_digest 73 = .ok (.i2l, 1) := by decide +kernel
theorem dX6_digest_74 : decode cX6_digest 74 = .ok (.invokevirtual 280, 3) := by decide +kernel
theorem dX6_digest_77 : decode cX6_digest 77 = .ok (.iinc 2 1, 3) := by decide +kernel
theorem dX6_digest_80 : decode cX6_digest 80 = .ok (.goto (-24), 3) := by decide +kernel
theorem dX6_digest_83 : decode cX6_digest 83 = .ok (.iinc 1 1, 3) := by decide +kernel
theorem dX6_digest_86 : decode cX6_digest 86 = .ok (.goto (-49), 3) := by decide +kernel
theorem dX6_digest_89 : decode cX6_digest 89 = .ok (.iconst 0, 1) := by decide +kernel
theorem dX6_digest_90 : decode cX6_digest 90 = .ok (.istore_n 1, 1) := by decide +kernel
theorem dX6_digest_91 : decode cX6_digest 91 = .ok (.iload_n 1, 1) := by decide +kernel
theorem dX6_digest_92 : decode cX6_digest 92 = .ok (.iconst 4, 1) := by decide +kernel
theorem dX6_digest_93 : decode cX6_digest 93 = .ok (.if_icmp .ge 49, 3) := by decide +kernel
theorem dX6_digest_96 : decode cX6_digest 96 = .ok (.aload_n 0, 1) := by decide +kernel
theorem dX6_digest_97 : decode cX6_digest 97 = .ok (.aload_n 0, 1) := by decide +kernel
theorem dX6_digest_98 : decode cX6_digest 98 = .ok (.getfield 26, 3) := by decide +kernel
theorem dX6_digest_101 : decode cX6_digest 101 = .ok (.iload_n 1, 1) := by decide +kernel
theorem dX6_digest_102 : decode cX6_digest 102 = .ok (.iaload, 1) := by decide +kernel
theorem dX6_digest_103 : decode cX6_digest 103 = .ok (.i2l, 1) := by decide +kernel
theorem dX6_digest_104 : decode cX6_digest 104 = .ok (.invokevirtual 280, 3) := by decide +kernel
theorem dX6_digest_107 : decode cX6_digest 107 = .ok (.iconst 0, 1) := by decide +kernel
theorem dX6_digest_108 : decode cX6_digest 108 = .ok (.istore_n 2, 1) := by decide +kernel
theorem dX6_digest_109 : decode cX6_digest 109 = .ok (.iload_n 2, 1) := by decide +kernel
theorem dX6_digest_110 : decode cX6_digest 110 = .ok (.aload_n 0, 1) := by decide +kernel
theorem dX6_digest_111 : decode cX6_digest 111 = .ok (.getfield 26, 3) := by decide +kernel
theorem dX6_digest_114 : decode cX6_digest 114 = .ok (.iload_n 1, 1) := by decide +kernel
theorem dX6_digest_115 : decode cX6_digest 115 = .ok (.iaload, 1) := by decide +kernel
theorem dX6_digest_116 : decode cX6_digest 116 = .ok (.if_icmp .ge 20, 3) := by decide +kernel
theorem dX6_digest_119 : decode cX6_digest 119 = .ok (.aload_n 0, 1) := by decide +kernel
theorem dX6_digest_120 : decode cX6_digest 120 = .ok (.aload_n 0, 1) := by decide +kernel
theorem dX6_digest_121 : decode cX6_digest 121 = .ok (.iload_n 1, 1) := by decide +kernel
theorem dX6_digest_122 : decode cX6_digest 122 = .ok (.iload_n 2, 1) := by decide +kernel
theorem dX6_digest_123 : decode cX6_digest 123 = .ok (.invokevirtual 114, 3) := by decide +kernel
theorem dX6_digest_126 : decode cX6_digest 126 = .ok (.i2l, 1) := by decide +kernel
theorem dX6_digest_127 : decode cX6_digest 127 = .ok (.invokevirtual 280, 3) := by decide +kernel
theorem dX6_digest_130 : decode cX6_digest 130 = .ok (.iinc 2 1, 3) := by decide +kernel
theorem dX6_digest_133 : decode cX6_digest 133 = .ok (.goto (-24), 3) := by decide +kernel
theorem dX6_digest_136 : decode cX6_digest 136 = .ok (.iinc 1 1, 3) := by decide +kernel
theorem dX6_digest_139 : decode cX6_digest 139 = .ok (.goto (-48), 3) := by decide +kernel
theorem dX6_digest_142 : decode cX6_digest 142 = .ok (.aload_n 0, 1) := by decide +kernel
theorem dX6_digest_143 : decode cX6_digest 143 = .ok (.getfield 277, 3) := by decide +kernel
theorem dX6_digest_146 : decode cX6_digest 146 = .ok (.lreturn, 1) := by decide +kernel
theorem dJ6_bitCount_0f7a4_0 : decode cJ6_bitCount_0f7a4 0 = .ok (.iload_n 0, 1) := by decide +kernel
theorem dJ6_bitCount_0f7a4_1 : decode cJ6_bitCount_0f7a4 1 = .ok (.iload_n 0, 1) := by decide +kernel
theorem dJ6_bitCount_0f7a4_2 : decode cJ6_bitCount_0f7a4 2 = .ok (.iconst 1, 1) := by decide +kernel
theorem dJ6_bitCount_0f7a4_3 : decode cJ6_bitCount_0f7a4 3 = .ok (.iushr, 1) := by decide +kernel
theorem dJ6_bitCount_0f7a4_4 : decode cJ6_bitCount_0f7a4 4 = .ok (.ldc_w 265, 3) := by decide +kernel
theorem dJ6_bitCount_0f7a4_7 : decode cJ6_bitCount_0f7a4 7 = .ok (.iand, 1) := by decide +kernel
theorem dJ6_bitCount_0f7a4_8 : decode cJ6_bitCount_0f7a4 8 = .ok (.isub, 1) := by decide +kernel
theorem dJ6_bitCount_0f7a4_9 : decode cJ6_bitCount_0f7a4 9 = .ok (.istore_n 0, 1) := by decide +kernel
theorem dJ6_bitCount_0f7a4_10 : decode cJ6_bitCount_0f7a4 10 = .ok (.iload_n 0, 1) := by decide +kernel
theorem dJ6_bitCount_0f7a4_11 : decode cJ6_bitCount_0f7a4 11 = .ok (.ldc_w 266, 3) := by decide +kernel
theorem dJ6_bitCount_0f7a4_14 : decode cJ6_bitCount_0f7a4 14 = .ok (.iand, 1) := by decide +kernel
theorem dJ6_bitCount_0f7a4_15 : decode cJ6_bitCount_0f7a4 15 = .ok (.iload_n 0, 1) := by decide +kernel
theorem dJ6_bitCount_0f7a4_16 : decode cJ6_bitCount_0f7a4 16 = .ok (.iconst 2, 1) := by decide +kernel
theorem dJ6_bitCount_0f7a4_17 : decode cJ6_bitCount_0f7a4 17 = .ok (.iushr, 1) := by decide +kernel
theorem dJ6_bitCount_0f7a4_18 : decode cJ6_bitCount_0f7a4 18 = .ok (.ldc_w 266, 3) := by decide +kernel
theorem dJ6_bitCount_0f7a4_21 : decode cJ6_bitCount_0f7a4 21 = .ok (.iand, 1) := by decide +kernel
theorem dJ6_bitCount_0f7a4_22 : decode cJ6_bitCount_0f7a4 22 = .ok (.iadd, 1) := by decide +kernel
theorem dJ6_bitCount_0f7a4_23 : decode cJ6_bitCount_0f7a4 23 = .ok (.istore_n 0, 1) := by decide +kernel
theorem dJ6_bitCount_0f7a4_24 : decode cJ6_bitCount_0f7a4 24 = .ok (.iload_n 0, 1) := by decide +kernel
theorem dJ6_bitCount_0f7a4_25 : decode cJ6_bitCount_0f7a4 25 = .ok (.iload_n 0, 1) := by decide +kernel
theorem dJ6_bitCount_0f7a4_26 : decode cJ6_bitCount_0f7a4 26 = .ok (.iconst 4, 1) := by decide +kernel
theorem dJ6_bitCount_0f7a4_27 : decode cJ6_bitCount_0f7a4 27 = .ok (.iushr, 1) := by decide +kernel
theorem dJ6_bitCount_0f7a4_28 : decode cJ6_bitCount_0f7a4 28 = .ok (.iadd, 1) := by decide +kernel
theorem dJ6_bitCount_0f7a4_29 : decode cJ6_bitCount_0f7a4 29 = .ok (.ldc_w 267, 3) := by decide +kernel
theorem dJ6_bitCount_0f7a4_32 : decode cJ6_bitCount_0f7a4 32 = .ok (.iand, 1) := by decide +kernel
theorem dJ6_bitCount_0f7a4_33 : decode cJ6_bitCount_0f7a4 33 = .ok (.istore_n 0, 1) := by decide +kernel
theorem dJ6_bitCount_0f7a4_34 : decode cJ6_bitCount_0f7a4 34 = .ok (.iload_n 0, 1) := by decide +kernel
theorem dJ6_bitCount_0f7a4_35 : decode cJ6_bitCount_0f7a4 35 = .ok (.iload_n 0, 1) := by decide +kernel
theorem dJ6_bitCount_0f7a4_36 : decode cJ6_bitCount_0f7a4 36 = .ok (.bipush 8, 2) := by decide +kernel
theorem dJ6_bitCount_0f7a4_38 : decode cJ6_bitCount_0f7a4 38 = .ok (.iushr, 1) := by decide +kernel
theorem dJ6_bitCount_0f7a4_39 : decode cJ6_bitCount_0f7a4 39 = .ok (.iadd, 1) := by decide +kernel
theorem dJ6_bitCount_0f7a4_40 : decode cJ6_bitCount_0f7a4 40 = .ok (.istore_n 0, 1) := by decide +kernel
theorem dJ6_bitCount_0f7a4_41 : decode cJ6_bitCount_0f7a4 41 = .ok (.iload_n 0, 1) := by decide +kernel
theorem dJ6_bitCount_0f7a4_42 : decode cJ6_bitCount_0f7a4 42 = .ok (.iload_n 0, 1) := by decide +kernel
theorem dJ6_bitCount_0f7a4_43 : decode cJ6_bitCount_0f7a4 43 = .ok (.bipush 16, 2) := by decide +kernel
theorem dJ6_bitCount_0f7a4_45 : decode cJ6_bitCount_0f7a4 45 = .ok (.iushr, 1) := by decide +kernel
theorem dJ6_bitCount_0f7a4_46 : decode cJ6_bitCount_0f7a4 46 = .ok (.iadd, 1) := by decide +kernel
theorem dJ6_bitCount_0f7a4_47 : decode cJ6_bitCount_0f7a4 47 = .ok (.istore_n 0, 1) := by decide +kernel
theorem dJ6_bitCount_0f7a4_48 : decode cJ6_bitCount_0f7a4 48 = .ok (.iload_n 0, 1) := by decide +kernel
theorem dJ6_bitCount_0f7a4_49 : decode cJ6_bitCount_0f7a4 49 = .ok (.bipush 63, 2) := by decide +kernel
theorem dJ6_bitCount_0f7a4_51 : decode cJ6_bitCount_0f7a4 51 = .ok (.iand, 1) := by decide +kernel
theorem dJ6_bitCount_0f7a4_52 : decode cJ6_bitCount_0f7a4 52 = .ok (.ireturn, 1) := by decide +kernel
theorem dJ9_max_7cf53_0 : decode cJ9_max_7cf53 0 = .ok (.iload_n 0, 1) := by decide +kernel
theorem dJ9_max_7cf53_1 : decode cJ9_max_7cf53 1 = .ok (.iload_n 1, 1) := by decide +kernel
theorem dJ9_max_7cf53_2 : decode cJ9_max_7cf53 2 = .ok (.if_icmp .lt 7, 3) := by decide +kernel
theorem dJ9_max_7cf53_5 : decode cJ9_max_7cf53 5 = .ok (.iload_n 0, 1) := by decide +kernel
theorem dJ9_max_7cf53_6 : decode cJ9_max_7cf53 6 = .ok (.goto 4, 3) := by decide +kernel
theorem dJ9_max_7cf53_9 : decode cJ9_max_7cf53 9 = .ok (.iload_n 1, 1) := by decide +kernel
theorem dJ9_max_7cf53_10 : decode cJ9_max_7cf53 10 = .ok (.ireturn, 1) := by decide +kernel
theorem dJ9_min_7cf53_0 : decode cJ9_min_7cf53 0 = .ok (.iload_n 0, 1) := by decide +kernel
theorem dJ9_min_7cf53_1 : decode cJ9_min_7cf53 1 = .ok (.iload_n 1, 1) := by decide +kernel
theorem dJ9_min_7cf53_2 : decode cJ9_min_7cf53 2 = .ok (.if_icmp .gt 7, 3) := by decide +kernel
theorem dJ9_min_7cf53_5 : decode cJ9_min_7cf53 5 = .ok (.iload_n 0, 1) := by decide +kernel
theorem dJ9_min_7cf53_6 : decode cJ9_min_7cf53 6 = .ok (.goto 4, 3) := by decide +kernel
theorem dJ9_min_7cf53_9 : decode cJ9_min_7cf53 9 = .ok (.iload_n 1, 1) := by decide +kernel
theorem dJ9_min_7cf53_10 : decode cJ9_min_7cf53 10 = .ok (.ireturn, 1) := by decide +kernel
end
section
/-! THE STATE: ints by cell and place, longs by number; the world: a fixed row of cells at addresses that stay -/
abbrev St : Type := (Nat → Nat → Int32) × (Nat → Int64)
abbrev GG : Type := va_G × (Nat → Nat) × (Nat → ClassId) × (Nat → Nat)
abbrev EE : Type := GG → Nat → (Nat → Int32) → (Nat → Int64) → va_E
abbrev OO : Type := EE × Nat × GG
abbrev oD (o : OO) : va_G := o.2.2.1
abbrev al (o : OO) (k : Nat) : Nat := o.2.2.2.1 k
abbrev cy (o : OO) (k : Nat) : ClassId := o.2.2.2.2.1 k
abbrev tl (o : OO) (k : Nat) : Nat := o.2.2.2.2.2 k
def wd (o : OO) (st : St) : va_W := (List.range o.2.1).map (fun k => (al o k, o.1 o.2.2 k (st.1 k) st.2))
theorem wd_get {o : OO} (st : St) {k : Nat} (h : k < o.2.1) : (wd o st)[k]? = some (al o k, o.1 o.2.2 k (st.1 k) st.2) := by
  unfold wd
  rw [List.getElem?_map, List.getElem?_range h]
  rfl
theorem wd_none {o : OO} (st : St) {k : Nat} (h : ¬ k < o.2.1) : (wd o st)[k]? = none := by
  unfold wd
  rw [List.getElem?_map, List.getElem?_eq_none (by simpa using Nat.not_lt.mp h)]
  rfl
theorem wd_set {o : OO} {st st' : St} {k : Nat} {e : va_E} (h : k < o.2.1) (he : o.1 o.2.2 k (st'.1 k) st'.2 = e) (hr : ∀ i, i ≠ k → o.1 o.2.2 i (st'.1 i) st'.2 = o.1 o.2.2 i (st.1 i) st.2) : (wd o st).set k (al o k, e) = wd o st' := by
  apply List.ext_getElem?
  intro i
  have hl : k < (wd o st).length := (List.getElem?_eq_some_iff.mp (wd_get st h)).1
  by_cases hi : i < o.2.1
  · rw [wd_get st' hi]
    by_cases hk : i = k
    · subst hk
      rw [List.getElem?_set_self hl, he]
    · rw [List.getElem?_set_ne (fun q => hk q.symm), wd_get st hi, hr i hk]
  · rw [wd_none st' hi]
    have hk : ¬ k = i := fun q => hi (q ▸ h)
    rw [List.getElem?_set_ne hk, wd_none st hi]
theorem wd_ad {o : OO} {st : St} (st' : St) {k : Nat} {q : Nat × va_E} (h : (wd o st)[k]? = some q) : ∃ q', (wd o st')[k]? = some q' ∧ q'.1 = q.1 := by
  by_cases hk : k < o.2.1
  · rw [wd_get st hk] at h
    cases h
    exact ⟨_, wd_get st' hk, rfl⟩
  · rw [wd_none st hk] at h
    cases h
theorem wd_D {o : OO} {st st' : St} {A : Nat → Prop} (h : va_D A (wd o st)) : va_D A (wd o st') := by
  refine ⟨fun i j p q hi hj hpq => ?_, fun k q hk => ?_⟩
  · obtain ⟨p', h1, e1⟩ := wd_ad st hi
    obtain ⟨q', h2, e2⟩ := wd_ad st hj
    exact h.1 i j p' q' h1 h2 (by rw [e1, e2]; exact hpq)
  · obtain ⟨q', h2, e2⟩ := wd_ad st hk
    rw [← e2]
    exact h.2 k q' h2
theorem wd_A {o : OO} {st st' : St} {sz q : Nat} (h : va_A (wd o st) sz q) : va_A (wd o st') sz q := by
  rcases h with ⟨k, e, h⟩ | h
  · obtain ⟨q', h2, e2⟩ := wd_ad st' h
    refine Or.inl ⟨k, q'.2, ?_⟩
    rw [h2]
    show some q' = some (q, q'.2)
    cases q'
    cases e2
    rfl
  · exact Or.inr h
/-- cell k gets the row f -/
def sA (st : St) (k : Nat) (f : Nat → Int32) : St := (fun q => if q = k then f else st.1 q, st.2)
def sL (st : St) (j : Nat) (v : Int64) : St := (st.1, vp_updL st.2 j v)
theorem sA_k {st : St} {k : Nat} {f : Nat → Int32} : (sA st k f).1 k = f := if_pos rfl
theorem sA_n {st : St} {k i : Nat} {f : Nat → Int32} (h : i ≠ k) : (sA st k f).1 i = st.1 i := if_neg h
theorem sA_2 {st : St} {k : Nat} {f : Nat → Int32} : (sA st k f).2 = st.2 := rfl
theorem sL_1 {st : St} {j : Nat} {v : Int64} : (sL st j v).1 = st.1 := rfl
theorem sL_2 {st : St} {j : Nat} {v : Int64} : (sL st j v).2 = vp_updL st.2 j v := rfl
/-- an index that is inside -/
def inb (i : Int32) (n : Nat) : Bool := decide (0 ≤ i) && decide (i.toNatClampNeg < n)
theorem inb_in {i : Int32} {n : Nat} (h : inb i n = true) : vp_in i n := by
  unfold inb at h
  simp only [Bool.and_eq_true, decide_eq_true_eq] at h
  rintro (q | q)
  · exact absurd h.1 (Int32.not_le.mpr q)
  · omega
theorem inb_lt {i : Int32} {n : Nat} (h : inb i n = true) : i.toNatClampNeg < n := by
  unfold inb at h
  simp only [Bool.and_eq_true, decide_eq_true_eq] at h
  exact h.2
theorem inb_ge {i : Int32} {n : Nat} (h : inb i n = true) : 0 ≤ i := by
  unfold inb at h
  simp only [Bool.and_eq_true, decide_eq_true_eq] at h
  exact h.1
/-- what must hold, or nothing is said -/
def gd {α : Type} (b : Bool) (x : Option α) : Option α := if b = true then x else none
theorem gd_1 {α : Type} {b : Bool} {x : Option α} {y : α} (h : gd b x = some y) : b = true := by
  unfold gd at h
  by_cases hb : b = true
  · exact hb
  · rw [if_neg hb] at h; cases h
theorem gd_2 {α : Type} {b : Bool} {x : Option α} {y : α} (h : gd b x = some y) : x = some y := by
  have hb := gd_1 h
  unfold gd at h
  rwa [if_pos hb] at h
theorem if_t {α : Type} {c : Prop} {hd : Decidable c} {a b y : α} (hc : c) (h : (if c then a else b) = y) : a = y := by rwa [if_pos hc] at h
theorem if_f {α : Type} {c : Prop} {hd : Decidable c} {a b y : α} (hc : ¬ c) (h : (if c then a else b) = y) : b = y := by rwa [if_neg hc] at h
theorem bd_s {α β : Type} {x : Option α} {f : α → Option β} {y : β} (h : x.bind f = some y) : ∃ q, x = some q ∧ f q = some y := by
  cases x with
  | none => cases h
  | some q => exact ⟨q, rfl, h⟩
/-- a loop: body, at most n times -/
def iter {β γ : Type} (body : β → Option (β ⊕ γ)) : Nat → β → Option γ
  | 0, _ => none
  | n + 1, v => (body v).bind (fun o => match o with
    | .inl v' => iter body n v'
    | .inr g => some g)
theorem iter_rule {β γ : Type} {body : β → Option (β ⊕ γ)} {hd : β → Prop} {ex : γ → Prop} (hb : ∀ v o, body v = some o → Sum.elim hd ex o → hd v) : ∀ (n : Nat) (v : β) (g : γ), iter body n v = some g → ex g → hd v
  | 0, _, _, h, _ => by cases h
  | n + 1, v, g, h, hx => by
    obtain ⟨o, h1, h2⟩ := bd_s h
    cases o with
    | inl v' => exact hb v _ h1 (iter_rule hb n v' g h2 hx)
    | inr g' =>
      cases h2
      exact hb v _ h1 hx
/-- how often a loop may go round -/
def fuel : Nat := 5000
/-! static arrays -/
def tb0 : Nat → Int32 := fun j => if j = 0 then 114 else if j = 1 then 115 else if j = 2 then 99 else if j = 3 then 104 else if j = 4 then 121 else 102
def tb1 : Nat → Int32 := fun j => if j = 5 then 1 else 0
def tb2 : Nat → Int32 := fun j => if j = 0 then 0 else if j = 1 then 3 else if j = 2 then 3 else if j = 3 then 5 else if j = 4 then 5 else 9
def sx (o : OO) (A : Nat → Prop) (U : State) (H : Heap) : Prop :=
  va_Z "TheUsual" "LETTERS" "[I" (.ref (tl o 0)) A U H ∧ va_T .int (tl o 0) 6 (fun j => .int (tb0 j)) A U H ∧ va_Z "TheUsual" "LEAST_FIGURES" "[I" (.ref (tl o 1)) A U H ∧ va_T .int (tl o 1) 6 (fun j => .int (tb1 j)) A U H ∧ va_Z "TheUsual" "GREATEST_FIGURES" "[I" (.ref (tl o 2)) A U H ∧ va_T .int (tl o 2) 6 (fun j => .int (tb2 j)) A U H
theorem sx_moved {o : OO} {A : Nat → Prop} {u U : State} {H : Heap} (hvm : u.vm.Alike U.vm) (h : sx o A u H) : sx o A U H := ⟨h.1.moved hvm, h.2.1.moved hvm, h.2.2.1.moved hvm, h.2.2.2.1.moved hvm, h.2.2.2.2.1.moved hvm, h.2.2.2.2.2.moved hvm⟩
theorem sx_kept {o : OO} {A : Nat → Prop} {U : State} {H H1 : Heap} (h : sx o A U H) (hq : ∀ a : Nat, a < H.size → ¬ A a → H1[a]? = H[a]?) : sx o A U H1 := ⟨h.1.kept hq, h.2.1.kept hq, h.2.2.1.kept hq, h.2.2.2.1.kept hq, h.2.2.2.2.1.kept hq, h.2.2.2.2.2.kept hq⟩
theorem sx_narrow {o : OO} {A B : Nat → Prop} {U : State} {H : Heap} (h : sx o A U H) (hAB : ∀ q, B q → A q) : sx o B U H := ⟨h.1.narrow hAB, h.2.1.narrow hAB, h.2.2.1.narrow hAB, h.2.2.2.1.narrow hAB, h.2.2.2.2.1.narrow hAB, h.2.2.2.2.2.narrow hAB⟩
def tyG (o : OO) : List (ClassId × FieldType) := [(cy o 0, .int), (cy o 1, .byte), (cy o 2, .boolean), (cy o 3, .object "TheUsual$Regular"), (cy o 4, .object "TheUsual$Kept"), (cy o 5, .array .int), (cy o 6, .array .byte)]
/-! the words that every contract has; the entries of nest mates' private methods come with the start -/
def gtb : List Cond := lw_tbl.filter goodWord
theorem g_mem {w : Cond} (i : Nat) (h : lw_tbl[i]? = some w) (hg : goodWord w = true) : w ∈ gtb := List.mem_filter.mpr ⟨List.mem_of_getElem? h, hg⟩
def nx (U : State) : Prop := va_Nw (.methodLinkNest RX2 9 yX5_kindOf "TheUsual") U ∧ va_Nw (.methodLinkNest RX2 37 yX5_wantsOther "TheUsual") U
theorem nx_same {u U : State} (h : u.vm = U.vm) (q : nx u) : nx U := ⟨q.1.same rfl h, q.2.same rfl h⟩
theorem nx_warm {s U : State} (hW : s.WarmedH U.vm) (q : nx s) : nx U := ⟨q.1.warmM hW, q.2.warmM hW⟩
/-! THE JUDGEMENT -/
abbrev Cx : Type := Program × Launch × Env × Room × State × MethodId × Array Value × List Frame × Method × Code × Nat × Nat × (State → Prop) × (Nat → Prop)
abbrev xp (X : Cx) : Program := X.1
abbrev xl (X : Cx) : Launch := X.2.1
abbrev xe (X : Cx) : Env := X.2.2.1
abbrev xR (X : Cx) : Room := X.2.2.2.1
abbrev xS (X : Cx) : State := X.2.2.2.2.1
abbrev xm (X : Cx) : MethodId := X.2.2.2.2.2.1
abbrev xa (X : Cx) : Array Value := X.2.2.2.2.2.2.1
abbrev xb (X : Cx) : List Frame := X.2.2.2.2.2.2.2.1
abbrev xM (X : Cx) : Method := X.2.2.2.2.2.2.2.2.1
abbrev xc (X : Cx) : Code := X.2.2.2.2.2.2.2.2.2.1
abbrev xC (X : Cx) : Nat := X.2.2.2.2.2.2.2.2.2.2.1
abbrev xs (X : Cx) : Nat := X.2.2.2.2.2.2.2.2.2.2.2.1
abbrev xQ (X : Cx) : State → Prop := X.2.2.2.2.2.2.2.2.2.2.2.2.1
abbrev xA (X : Cx) : Nat → Prop := X.2.2.2.2.2.2.2.2.2.2.2.2.2
def Wk (X : Cx) (o : OO) (nL : Nat) (st : St) (pc : Nat) (lv : List (Nat × Value)) (stk : List Value) : Prop :=
  ∀ (H : Heap) (locs : List Loc) (ls : Array Slot), va_P (oD o) vwCl (wd o st) H → va_S (xA X) (xS X).heap H locs → lv_has ls nL lv →
    W (xp X) (xl X) (xe X) (xR X) (xS X) (xm X) (xa X) (xb X) (xM X) (xc X) H locs (xC X) (xs X) (xQ X) (F0 (xm X) pc ls stk)
def Ok (X : Cx) (o : OO) (cc : ByteArray) (own : String) (nL : Nat) (R : Room) : Prop :=
  (xp X).tables.exec = Jvm.exec ∧ (xc X).code = cc ∧ (xc X).maxLocals = nL ∧ (xS X).vm.findClass own = some (xm X).cls ∧ (∀ w ∈ gtb, w.before (xa X) (xS X) = true) ∧
  va_K (oD o) vwCl (tyG o) (xS X) ∧ (∀ st, va_D (xA X) (wd o st)) ∧ (∀ q, (xS X).heap.size ≤ q → xA X q) ∧ sx o (xA X) (xS X) (xS X).heap ∧ xR X = R ∧ xC X ≤ R.cells ∧ xs X ≤ R.slots ∧ nx (xS X)
def Rt (X : Cx) (o : OO) (P : Option Value → St → Prop) (ret : Option FieldType) : Prop :=
  (xM X).sig.returnType = ret ∧ (xM X).locks = false ∧ ∃ (Qc : Array Value → State → Outcome → State → Prop) (free : Addr → Prop), xQ X = MQ (xb X) Qc (xa X) (xS X) (xC X) (xs X) free ∧ (∀ q, xA X q → free q) ∧
    ∀ (H : Heap) (locs : List Loc) (v : Option Value) (st : St), va_P (oD o) vwCl (wd o st) H → va_S (xA X) (xS X).heap H locs → P v st → ∀ t : State, t.heap = H → (xS X).WarmedH t.vm → Qc (xa X) (xS X) (.returned v) t
/-! cells by kind -/
def isArr (o : OO) (k ty n : Nat) : Prop := k < o.2.1 ∧ ∀ g t, o.1 o.2.2 k g t = .inl (cy o ty, n, .inl g)
def isRef (o : OO) (k ty n a0 : Nat) : Prop := k < o.2.1 ∧ ∀ g t, o.1 o.2.2 k g t = .inl (cy o ty, n, .inr (.inr (.inr (.inr (fun j => some (al o (a0 + j)))))))
def isObj (o : OO) (k ci : Nat) (F : (Nat → Int32) → (Nat → Int64) → List Value) : Prop := k < o.2.1 ∧ ∀ g t, o.1 o.2.2 k g t = .inr (ci, F g t)
/-- only cell 0 reads the longs -/
def noL (o : OO) : Prop := ∀ i g t t', i ≠ 0 → o.1 o.2.2 i g t = o.1 o.2.2 i g t'
/-- a field by its entry -/
def FL (own : String) (idx ci j : Nat) : Prop := ∃ (C : String) (T : u_T) (N : Nat), vwCl[ci]? = some (C, T, N) ∧ (∀ w ∈ u_ws C T N, w ∈ gtb) ∧ j < N ∧ Cond.fieldLink own idx (T j).1 (T j).2.1 (T j).2.2.1 ∈ gtb
def FP (own : String) (idx ci j : Nat) (ty : FieldType) : Prop := ∃ (C : String) (T : u_T) (N : Nat) (ty0 : Nat → FieldType), vwCl[ci]? = some (C, T, N) ∧ (∀ w ∈ u_ws C T N, w ∈ gtb) ∧ j < N ∧ Cond.fieldLink own idx (T j).1 (T j).2.1 (T j).2.2.1 ∈ gtb ∧ (∀ k, k < N → parseFieldDescriptor (T k).2.2.1 = some (ty0 k)) ∧ (∀ a, a < N → ∀ b, b < N → a ≠ b → (T a).2.1 ≠ (T b).2.1) ∧ (T j).2.2.2 = false ∧ parseFieldDescriptor (T j).2.2.1 = some ty
end
section
section KR
variable {X : Cx} {o : OO} {cc : ByteArray} {own : String} {nL : Nat} {R : Room} {st : St} {pc pc' : Nat} {lv lv' : List (Nat × Value)} {stk : List Value}
theorem k_sub (ks : List Nat) (hl : lv_pick lv ks = lv') (kk : Wk X o nL st pc lv' stk) : Wk X o nL st pc lv stk := fun H locs ls hP hS h => kk H locs ls hP hS (lv_sub h ks hl)
theorem k_iconst (h : Ok X o cc own nL R) {n : Int} {v : Int32} (hd : decode cc pc = .ok (.iconst n, 1)) (hn : pc + 1 = pc') (hv : Int32.ofInt n = v) (kk : Wk X o nL st pc' lv (.int v :: stk)) : Wk X o nL st pc lv (stk) := by
  subst hn
  intro H locs ls hP hS hl
  exact lv_iconst h.1 h.2.1 hd hv (kk H locs ls hP hS hl)
theorem k_bipush (h : Ok X o cc own nL R) {n : Int} {v : Int32} (hd : decode cc pc = .ok (.bipush n, 2)) (hn : pc + 2 = pc') (hv : (Int8.ofInt n).toInt32 = v) (kk : Wk X o nL st pc' lv (.int v :: stk)) : Wk X o nL st pc lv (stk) := by
  subst hn
  intro H locs ls hP hS hl
  exact lv_bipush h.1 h.2.1 hd hv (kk H locs ls hP hS hl)
theorem k_sipush (h : Ok X o cc own nL R) {n : Int} {v : Int32} (hd : decode cc pc = .ok (.sipush n, 3)) (hn : pc + 3 = pc') (hv : (Int16.ofInt n).toInt32 = v) (kk : Wk X o nL st pc' lv (.int v :: stk)) : Wk X o nL st pc lv (stk) := by
  subst hn
  intro H locs ls hP hS hl
  exact lv_sipush h.1 h.2.1 hd hv (kk H locs ls hP hS hl)
theorem k_lconst (h : Ok X o cc own nL R) {n : Fin 2} {v : Int64} (hd : decode cc pc = .ok (.lconst n, 1)) (hn : pc + 1 = pc') (hv : Int64.ofNat (n : Nat) = v) (kk : Wk X o nL st pc' lv (.long v :: stk)) : Wk X o nL st pc lv (stk) := by
  subst hn
  intro H locs ls hP hS hl
  exact lv_lconst h.1 h.2.1 hd hv (kk H locs ls hP hS hl)
theorem k_iload_n (h : Ok X o cc own nL R) {k : Fin 4} {i : Nat} {x : Int32} (hd : decode cc pc = .ok (.iload_n k, 1)) (hn : pc + 1 = pc') (hi : (k : Nat) = i) (j : Nat) (hj : lv[j]? = some (i, .int x)) (kk : Wk X o nL st pc' lv (.int x :: stk)) : Wk X o nL st pc lv (stk) := by
  subst hn
  intro H locs ls hP hS hl
  exact lv_iload_n h.1 h.2.1 hd hi (lv_at hl j hj) (kk H locs ls hP hS hl)
theorem k_iload (h : Ok X o cc own nL R) {i : Nat} {x : Int32} (hd : decode cc pc = .ok (.iload i, 2)) (hn : pc + 2 = pc') (j : Nat) (hj : lv[j]? = some (i, .int x)) (kk : Wk X o nL st pc' lv (.int x :: stk)) : Wk X o nL st pc lv (stk) := by
  subst hn
  intro H locs ls hP hS hl
  exact lv_iload h.1 h.2.1 hd (lv_at hl j hj) (kk H locs ls hP hS hl)
theorem k_istore_n (h : Ok X o cc own nL R) {k : Fin 4} {i : Nat} {x : Int32} (hd : decode cc pc = .ok (.istore_n k, 1)) (hn : pc + 1 = pc') (hi : (k : Nat) = i) (hL : i < nL) (ks : List Nat) (hs : lv_pick ((i, Value.int x) :: lv.filter (fun q => !(q.1 == i) && !(q.1 + 1 == i && q.2.category == 2))) ks = lv') (kk : Wk X o nL st pc' lv' stk) : Wk X o nL st pc lv (.int x :: stk) := by
  subst hn
  intro H locs ls hP hS hl
  exact lv_istore_n h.1 h.2.1 hd hi hl hL rfl (fun ls2 hl2 => kk H locs ls2 hP hS (lv_sub hl2 ks hs))
theorem k_istore (h : Ok X o cc own nL R) {i : Nat} {x : Int32} (hd : decode cc pc = .ok (.istore i, 2)) (hn : pc + 2 = pc') (hL : i < nL) (ks : List Nat) (hs : lv_pick ((i, Value.int x) :: lv.filter (fun q => !(q.1 == i) && !(q.1 + 1 == i && q.2.category == 2))) ks = lv') (kk : Wk X o nL st pc' lv' stk) : Wk X o nL st pc lv (.int x :: stk) := by
  subst hn
  intro H locs ls hP hS hl
  exact lv_istore h.1 h.2.1 hd hl hL rfl (fun ls2 hl2 => kk H locs ls2 hP hS (lv_sub hl2 ks hs))
theorem k_aload_n (h : Ok X o cc own nL R) {k : Fin 4} {i : Nat} {x : Nat} (hd : decode cc pc = .ok (.aload_n k, 1)) (hn : pc + 1 = pc') (hi : (k : Nat) = i) (j : Nat) (hj : lv[j]? = some (i, .ref x)) (kk : Wk X o nL st pc' lv (.ref x :: stk)) : Wk X o nL st pc lv (stk) := by
  subst hn
  intro H locs ls hP hS hl
  exact lv_aload_n h.1 h.2.1 hd hi (lv_at hl j hj) (kk H locs ls hP hS hl)
theorem k_aload (h : Ok X o cc own nL R) {i : Nat} {x : Nat} (hd : decode cc pc = .ok (.aload i, 2)) (hn : pc + 2 = pc') (j : Nat) (hj : lv[j]? = some (i, .ref x)) (kk : Wk X o nL st pc' lv (.ref x :: stk)) : Wk X o nL st pc lv (stk) := by
  subst hn
  intro H locs ls hP hS hl
  exact lv_aload h.1 h.2.1 hd (lv_at hl j hj) (kk H locs ls hP hS hl)
theorem k_astore_n (h : Ok X o cc own nL R) {k : Fin 4} {i : Nat} {x : Nat} (hd : decode cc pc = .ok (.astore_n k, 1)) (hn : pc + 1 = pc') (hi : (k : Nat) = i) (hL : i < nL) (ks : List Nat) (hs : lv_pick ((i, Value.ref x) :: lv.filter (fun q => !(q.1 == i) && !(q.1 + 1 == i && q.2.category == 2))) ks = lv') (kk : Wk X o nL st pc' lv' stk) : Wk X o nL st pc lv (.ref x :: stk) := by
  subst hn
  intro H locs ls hP hS hl
  exact lv_astore_n h.1 h.2.1 hd hi hl hL rfl (fun ls2 hl2 => kk H locs ls2 hP hS (lv_sub hl2 ks hs))
theorem k_astore (h : Ok X o cc own nL R) {i : Nat} {x : Nat} (hd : decode cc pc = .ok (.astore i, 2)) (hn : pc + 2 = pc') (hL : i < nL) (ks : List Nat) (hs : lv_pick ((i, Value.ref x) :: lv.filter (fun q => !(q.1 == i) && !(q.1 + 1 == i && q.2.category == 2))) ks = lv') (kk : Wk X o nL st pc' lv' stk) : Wk X o nL st pc lv (.ref x :: stk) := by
  subst hn
  intro H locs ls hP hS hl
  exact lv_astore h.1 h.2.1 hd hl hL rfl (fun ls2 hl2 => kk H locs ls2 hP hS (lv_sub hl2 ks hs))
theorem k_lload_n (h : Ok X o cc own nL R) {k : Fin 4} {i : Nat} {x : Int64} (hd : decode cc pc = .ok (.lload_n k, 1)) (hn : pc + 1 = pc') (hi : (k : Nat) = i) (j : Nat) (hj : lv[j]? = some (i, .long x)) (kk : Wk X o nL st pc' lv (.long x :: stk)) : Wk X o nL st pc lv (stk) := by
  subst hn
  intro H locs ls hP hS hl
  exact lv_lload_n h.1 h.2.1 hd hi (lv_at hl j hj) (kk H locs ls hP hS hl)
theorem k_lload (h : Ok X o cc own nL R) {i : Nat} {x : Int64} (hd : decode cc pc = .ok (.lload i, 2)) (hn : pc + 2 = pc') (j : Nat) (hj : lv[j]? = some (i, .long x)) (kk : Wk X o nL st pc' lv (.long x :: stk)) : Wk X o nL st pc lv (stk) := by
  subst hn
  intro H locs ls hP hS hl
  exact lv_lload h.1 h.2.1 hd (lv_at hl j hj) (kk H locs ls hP hS hl)
theorem k_lstore_n (h : Ok X o cc own nL R) {k : Fin 4} {i : Nat} {x : Int64} (hd : decode cc pc = .ok (.lstore_n k, 1)) (hn : pc + 1 = pc') (hi : (k : Nat) = i) (hL : i + 1 < nL) (ks : List Nat) (hs : lv_pick ((i, Value.long x) :: lv.filter (fun q => !(q.1 == i) && (!(q.1 == i + 1) && !(q.1 + 1 == i && q.2.category == 2)))) ks = lv') (kk : Wk X o nL st pc' lv' stk) : Wk X o nL st pc lv (.long x :: stk) := by
  subst hn
  intro H locs ls hP hS hl
  exact lv_lstore_n h.1 h.2.1 hd hi hl hL rfl (fun ls2 hl2 => kk H locs ls2 hP hS (lv_sub hl2 ks hs))
theorem k_lstore (h : Ok X o cc own nL R) {i : Nat} {x : Int64} (hd : decode cc pc = .ok (.lstore i, 2)) (hn : pc + 2 = pc') (hL : i + 1 < nL) (ks : List Nat) (hs : lv_pick ((i, Value.long x) :: lv.filter (fun q => !(q.1 == i) && (!(q.1 == i + 1) && !(q.1 + 1 == i && q.2.category == 2)))) ks = lv') (kk : Wk X o nL st pc' lv' stk) : Wk X o nL st pc lv (.long x :: stk) := by
  subst hn
  intro H locs ls hP hS hl
  exact lv_lstore h.1 h.2.1 hd hl hL rfl (fun ls2 hl2 => kk H locs ls2 hP hS (lv_sub hl2 ks hs))
theorem k_iinc (h : Ok X o cc own nL R) {i : Nat} {n : Int} {x v : Int32} (hd : decode cc pc = .ok (.iinc i n, 3)) (hn : pc + 3 = pc') (j : Nat) (hj : lv[j]? = some (i, .int x)) (hv : x + Int32.ofInt n = v) (hL : i < nL) (ks : List Nat) (hs : lv_pick ((i, Value.int v) :: lv.filter (fun q => !(q.1 == i) && !(q.1 + 1 == i && q.2.category == 2))) ks = lv') (kk : Wk X o nL st pc' lv' stk) : Wk X o nL st pc lv stk := by
  subst hn
  intro H locs ls hP hS hl
  exact lv_iinc h.1 h.2.1 hd hl hj hv hL rfl (fun ls2 hl2 => kk H locs ls2 hP hS (lv_sub hl2 ks hs))
theorem k_iadd (h : Ok X o cc own nL R) {x y : Int32} (hd : decode cc pc = .ok (.iadd, 1)) (hn : pc + 1 = pc')  (kk : Wk X o nL st pc' lv (.int (x + y) :: stk)) : Wk X o nL st pc lv (.int y :: .int x :: stk) := by
  subst hn
  intro H locs ls hP hS hl
  exact lv_iadd h.1 h.2.1 hd (kk H locs ls hP hS hl)
theorem k_isub (h : Ok X o cc own nL R) {x y : Int32} (hd : decode cc pc = .ok (.isub, 1)) (hn : pc + 1 = pc')  (kk : Wk X o nL st pc' lv (.int (x - y) :: stk)) : Wk X o nL st pc lv (.int y :: .int x :: stk) := by
  subst hn
  intro H locs ls hP hS hl
  exact lv_isub h.1 h.2.1 hd (kk H locs ls hP hS hl)
theorem k_imul (h : Ok X o cc own nL R) {x y : Int32} (hd : decode cc pc = .ok (.imul, 1)) (hn : pc + 1 = pc')  (kk : Wk X o nL st pc' lv (.int (x * y) :: stk)) : Wk X o nL st pc lv (.int y :: .int x :: stk) := by
  subst hn
  intro H locs ls hP hS hl
  exact lv_imul h.1 h.2.1 hd (kk H locs ls hP hS hl)
theorem k_iand (h : Ok X o cc own nL R) {x y : Int32} (hd : decode cc pc = .ok (.iand, 1)) (hn : pc + 1 = pc')  (kk : Wk X o nL st pc' lv (.int (x &&& y) :: stk)) : Wk X o nL st pc lv (.int y :: .int x :: stk) := by
  subst hn
  intro H locs ls hP hS hl
  exact lv_iand h.1 h.2.1 hd (kk H locs ls hP hS hl)
theorem k_ior (h : Ok X o cc own nL R) {x y : Int32} (hd : decode cc pc = .ok (.ior, 1)) (hn : pc + 1 = pc')  (kk : Wk X o nL st pc' lv (.int (x ||| y) :: stk)) : Wk X o nL st pc lv (.int y :: .int x :: stk) := by
  subst hn
  intro H locs ls hP hS hl
  exact lv_ior h.1 h.2.1 hd (kk H locs ls hP hS hl)
theorem k_ishl (h : Ok X o cc own nL R) {x y : Int32} (hd : decode cc pc = .ok (.ishl, 1)) (hn : pc + 1 = pc')  (kk : Wk X o nL st pc' lv (.int (x <<< (y &&& 31)) :: stk)) : Wk X o nL st pc lv (.int y :: .int x :: stk) := by
  subst hn
  intro H locs ls hP hS hl
  exact lv_ishl h.1 h.2.1 hd (kk H locs ls hP hS hl)
theorem k_ishr (h : Ok X o cc own nL R) {x y : Int32} (hd : decode cc pc = .ok (.ishr, 1)) (hn : pc + 1 = pc')  (kk : Wk X o nL st pc' lv (.int (x >>> (y &&& 31)) :: stk)) : Wk X o nL st pc lv (.int y :: .int x :: stk) := by
  subst hn
  intro H locs ls hP hS hl
  exact lv_ishr h.1 h.2.1 hd (kk H locs ls hP hS hl)
theorem k_iushr (h : Ok X o cc own nL R) {x y : Int32} (hd : decode cc pc = .ok (.iushr, 1)) (hn : pc + 1 = pc')  (kk : Wk X o nL st pc' lv (.int ((x.toUInt32 >>> (y.toUInt32 &&& Int32.toUInt32 31)).toInt32) :: stk)) : Wk X o nL st pc lv (.int y :: .int x :: stk) := by
  subst hn
  intro H locs ls hP hS hl
  exact lv_iushr h.1 h.2.1 hd rfl (kk H locs ls hP hS hl)
theorem k_idiv (h : Ok X o cc own nL R) {x y : Int32} (hd : decode cc pc = .ok (.idiv, 1)) (hn : pc + 1 = pc') (hz : ¬ y = 0) (kk : Wk X o nL st pc' lv (.int (x / y) :: stk)) : Wk X o nL st pc lv (.int y :: .int x :: stk) := by
  subst hn
  intro H locs ls hP hS hl
  exact lv_idiv h.1 h.2.1 hd hz (kk H locs ls hP hS hl)
theorem k_irem (h : Ok X o cc own nL R) {x y : Int32} (hd : decode cc pc = .ok (.irem, 1)) (hn : pc + 1 = pc') (hz : ¬ y = 0) (kk : Wk X o nL st pc' lv (.int (x - x / y * y) :: stk)) : Wk X o nL st pc lv (.int y :: .int x :: stk) := by
  subst hn
  intro H locs ls hP hS hl
  exact lv_irem h.1 h.2.1 hd hz (kk H locs ls hP hS hl)
theorem k_ladd (h : Ok X o cc own nL R) {x y : Int64} (hd : decode cc pc = .ok (.ladd, 1)) (hn : pc + 1 = pc')  (kk : Wk X o nL st pc' lv (.long (x + y) :: stk)) : Wk X o nL st pc lv (.long y :: .long x :: stk) := by
  subst hn
  intro H locs ls hP hS hl
  exact lv_ladd h.1 h.2.1 hd (kk H locs ls hP hS hl)
theorem k_lmul (h : Ok X o cc own nL R) {x y : Int64} (hd : decode cc pc = .ok (.lmul, 1)) (hn : pc + 1 = pc')  (kk : Wk X o nL st pc' lv (.long (x * y) :: stk)) : Wk X o nL st pc lv (.long y :: .long x :: stk) := by
  subst hn
  intro H locs ls hP hS hl
  exact lv_lmul h.1 h.2.1 hd (kk H locs ls hP hS hl)
theorem k_ldiv (h : Ok X o cc own nL R) {x y : Int64} (hd : decode cc pc = .ok (.ldiv, 1)) (hn : pc + 1 = pc') (hz : ¬ y = 0) (kk : Wk X o nL st pc' lv (.long (x / y) :: stk)) : Wk X o nL st pc lv (.long y :: .long x :: stk) := by
  subst hn
  intro H locs ls hP hS hl
  exact lv_ldiv h.1 h.2.1 hd hz (kk H locs ls hP hS hl)
theorem k_lrem (h : Ok X o cc own nL R) {x y : Int64} (hd : decode cc pc = .ok (.lrem, 1)) (hn : pc + 1 = pc') (hz : ¬ y = 0) (kk : Wk X o nL st pc' lv (.long (x - x / y * y) :: stk)) : Wk X o nL st pc lv (.long y :: .long x :: stk) := by
  subst hn
  intro H locs ls hP hS hl
  exact lv_lrem h.1 h.2.1 hd hz (kk H locs ls hP hS hl)
theorem k_lcmp (h : Ok X o cc own nL R) {x y : Int64} (hd : decode cc pc = .ok (.lcmp, 1)) (hn : pc + 1 = pc')  (kk : Wk X o nL st pc' lv (.int (lg_cmp x y) :: stk)) : Wk X o nL st pc lv (.long y :: .long x :: stk) := by
  subst hn
  intro H locs ls hP hS hl
  exact W.lcmp h.1 h.2.1 hd (kk H locs ls hP hS hl)
theorem k_i2l (h : Ok X o cc own nL R) {x : Int32} (hd : decode cc pc = .ok (.i2l, 1)) (hn : pc + 1 = pc')  (kk : Wk X o nL st pc' lv (.long x.toInt64 :: stk)) : Wk X o nL st pc lv (.int x :: stk) := by
  subst hn
  intro H locs ls hP hS hl
  exact lv_i2l h.1 h.2.1 hd rfl (kk H locs ls hP hS hl)
theorem k_l2i (h : Ok X o cc own nL R) {x : Int64} (hd : decode cc pc = .ok (.l2i, 1)) (hn : pc + 1 = pc')  (kk : Wk X o nL st pc' lv (.int x.toInt32 :: stk)) : Wk X o nL st pc lv (.long x :: stk) := by
  subst hn
  intro H locs ls hP hS hl
  exact lv_l2i h.1 h.2.1 hd rfl (kk H locs ls hP hS hl)
theorem k_i2b (h : Ok X o cc own nL R) {x : Int32} (hd : decode cc pc = .ok (.i2b, 1)) (hn : pc + 1 = pc')  (kk : Wk X o nL st pc' lv (.int x.toInt8.toInt32 :: stk)) : Wk X o nL st pc lv (.int x :: stk) := by
  subst hn
  intro H locs ls hP hS hl
  exact lv_i2b h.1 h.2.1 hd rfl (kk H locs ls hP hS hl)
theorem k_dup (h : Ok X o cc own nL R) {va : Value} (hd : decode cc pc = .ok (.dup, 1)) (hn : pc + 1 = pc') (hc : va.category = 1) (kk : Wk X o nL st pc' lv (va :: va :: stk)) : Wk X o nL st pc lv (va :: stk) := by
  subst hn
  intro H locs ls hP hS hl
  exact lv_dup h.1 h.2.1 hd hc (kk H locs ls hP hS hl)
theorem k_pop (h : Ok X o cc own nL R) {va : Value} (hd : decode cc pc = .ok (.pop, 1)) (hn : pc + 1 = pc') (hc : va.category = 1) (kk : Wk X o nL st pc' lv (stk)) : Wk X o nL st pc lv (va :: stk) := by
  subst hn
  intro H locs ls hP hS hl
  exact lv_pop h.1 h.2.1 hd hc (kk H locs ls hP hS hl)
theorem k_dup2 (h : Ok X o cc own nL R) {va vb : Value} (hd : decode cc pc = .ok (.dup2, 1)) (hn : pc + 1 = pc') (hc : va.category = 1) (hc2 : vb.category = 1) (kk : Wk X o nL st pc' lv (va :: vb :: va :: vb :: stk)) : Wk X o nL st pc lv (va :: vb :: stk) := by
  subst hn
  intro H locs ls hP hS hl
  exact lv_dup2_11 h.1 h.2.1 hd hc hc2 (kk H locs ls hP hS hl)
theorem k_ldcw (h : Ok X o cc own nL R) {idx : Nat} {v : Int32} (hd : decode cc pc = .ok (.ldc_w idx, 3)) (hn : pc + 3 = pc') (hw : Cond.constant own idx v ∈ gtb) (kk : Wk X o nL st pc' lv (.int v :: stk)) : Wk X o nL st pc lv (stk) := by
  subst hn
  intro H locs ls hP hS hl
  exact lv_ldcw h.1 h.2.1 h.2.2.2.1 (h.2.2.2.2.1 _ hw) hd (kk H locs ls hP hS hl)
theorem k_ldc (h : Ok X o cc own nL R) {idx : Nat} {v : Int32} (hd : decode cc pc = .ok (.ldc idx, 2)) (hn : pc + 2 = pc') (hw : Cond.constant own idx v ∈ gtb) (kk : Wk X o nL st pc' lv (.int v :: stk)) : Wk X o nL st pc lv (stk) := by
  subst hn
  intro H locs ls hP hS hl
  exact lv_ldc h.1 h.2.1 h.2.2.2.1 (h.2.2.2.2.1 _ hw) hd (kk H locs ls hP hS hl)
theorem k_ldc2 (h : Ok X o cc own nL R) {idx : Nat} {v : Int64} (hd : decode cc pc = .ok (.ldc2_w idx, 3)) (hn : pc + 3 = pc') (hw : Cond.constantLong own idx v ∈ gtb) (kk : Wk X o nL st pc' lv (.long v :: stk)) : Wk X o nL st pc lv (stk) := by
  subst hn
  intro H locs ls hP hS hl
  exact lv_ldc2 h.1 h.2.1 h.2.2.2.1 (h.2.2.2.2.1 _ hw) hd (kk H locs ls hP hS hl)
theorem k_goto (h : Ok X o cc own nL R) {off : Int} {tgt : Nat} (hd : decode cc pc = .ok (.goto off, 3)) (ht : (pc : Int) + off = (tgt : Int)) (kk : Wk X o nL st tgt lv stk) : Wk X o nL st pc lv stk := fun H locs ls hP hS hl => lv_goto h.1 h.2.1 hd ht (kk H locs ls hP hS hl)
theorem k_if_eq (h : Ok X o cc own nL R) {x : Int32} {off : Int} {tgt : Nat} (hd : decode cc pc = .ok (.ifCond .eq off, 3)) (hn : pc + 3 = pc') (ht : (pc : Int) + off = (tgt : Int)) (kt : x = 0 → Wk X o nL st tgt lv stk) (kf : ¬ x = 0 → Wk X o nL st pc' lv stk) : Wk X o nL st pc lv (.int x :: stk) := by
  subst hn
  intro H locs ls hP hS hl
  exact lv_if_eq h.1 h.2.1 hd ht (fun q => kt q H locs ls hP hS hl) (fun q => kf q H locs ls hP hS hl)
theorem k_if_ne (h : Ok X o cc own nL R) {x : Int32} {off : Int} {tgt : Nat} (hd : decode cc pc = .ok (.ifCond .ne off, 3)) (hn : pc + 3 = pc') (ht : (pc : Int) + off = (tgt : Int)) (kt : ¬ x = 0 → Wk X o nL st tgt lv stk) (kf : x = 0 → Wk X o nL st pc' lv stk) : Wk X o nL st pc lv (.int x :: stk) := by
  subst hn
  intro H locs ls hP hS hl
  exact lv_if_ne h.1 h.2.1 hd ht (fun q => kt q H locs ls hP hS hl) (fun q => kf q H locs ls hP hS hl)
theorem k_if_lt (h : Ok X o cc own nL R) {x : Int32} {off : Int} {tgt : Nat} (hd : decode cc pc = .ok (.ifCond .lt off, 3)) (hn : pc + 3 = pc') (ht : (pc : Int) + off = (tgt : Int)) (kt : x < 0 → Wk X o nL st tgt lv stk) (kf : ¬ x < 0 → Wk X o nL st pc' lv stk) : Wk X o nL st pc lv (.int x :: stk) := by
  subst hn
  intro H locs ls hP hS hl
  exact lv_if_lt h.1 h.2.1 hd ht (fun q => kt q H locs ls hP hS hl) (fun q => kf q H locs ls hP hS hl)
theorem k_if_ge (h : Ok X o cc own nL R) {x : Int32} {off : Int} {tgt : Nat} (hd : decode cc pc = .ok (.ifCond .ge off, 3)) (hn : pc + 3 = pc') (ht : (pc : Int) + off = (tgt : Int)) (kt : 0 ≤ x → Wk X o nL st tgt lv stk) (kf : ¬ 0 ≤ x → Wk X o nL st pc' lv stk) : Wk X o nL st pc lv (.int x :: stk) := by
  subst hn
  intro H locs ls hP hS hl
  exact lv_if_ge h.1 h.2.1 hd ht (fun q => kt q H locs ls hP hS hl) (fun q => kf q H locs ls hP hS hl)
theorem k_if_gt (h : Ok X o cc own nL R) {x : Int32} {off : Int} {tgt : Nat} (hd : decode cc pc = .ok (.ifCond .gt off, 3)) (hn : pc + 3 = pc') (ht : (pc : Int) + off = (tgt : Int)) (kt : 0 < x → Wk X o nL st tgt lv stk) (kf : ¬ 0 < x → Wk X o nL st pc' lv stk) : Wk X o nL st pc lv (.int x :: stk) := by
  subst hn
  intro H locs ls hP hS hl
  exact lv_if_gt h.1 h.2.1 hd ht (fun q => kt q H locs ls hP hS hl) (fun q => kf q H locs ls hP hS hl)
theorem k_if_le (h : Ok X o cc own nL R) {x : Int32} {off : Int} {tgt : Nat} (hd : decode cc pc = .ok (.ifCond .le off, 3)) (hn : pc + 3 = pc') (ht : (pc : Int) + off = (tgt : Int)) (kt : x ≤ 0 → Wk X o nL st tgt lv stk) (kf : ¬ x ≤ 0 → Wk X o nL st pc' lv stk) : Wk X o nL st pc lv (.int x :: stk) := by
  subst hn
  intro H locs ls hP hS hl
  exact lv_if_le h.1 h.2.1 hd ht (fun q => kt q H locs ls hP hS hl) (fun q => kf q H locs ls hP hS hl)
theorem k_icmp_eq (h : Ok X o cc own nL R) {x y : Int32} {off : Int} {tgt : Nat} (hd : decode cc pc = .ok (.if_icmp .eq off, 3)) (hn : pc + 3 = pc') (ht : (pc : Int) + off = (tgt : Int)) (kt : x = y → Wk X o nL st tgt lv stk) (kf : ¬ x = y → Wk X o nL st pc' lv stk) : Wk X o nL st pc lv (.int y :: .int x :: stk) := by
  subst hn
  intro H locs ls hP hS hl
  exact lv_icmp_eq h.1 h.2.1 hd ht (fun q => kt q H locs ls hP hS hl) (fun q => kf q H locs ls hP hS hl)
theorem k_icmp_ne (h : Ok X o cc own nL R) {x y : Int32} {off : Int} {tgt : Nat} (hd : decode cc pc = .ok (.if_icmp .ne off, 3)) (hn : pc + 3 = pc') (ht : (pc : Int) + off = (tgt : Int)) (kt : ¬ x = y → Wk X o nL st tgt lv stk) (kf : x = y → Wk X o nL st pc' lv stk) : Wk X o nL st pc lv (.int y :: .int x :: stk) := by
  subst hn
  intro H locs ls hP hS hl
  exact lv_icmp_ne h.1 h.2.1 hd ht (fun q => kt q H locs ls hP hS hl) (fun q => kf q H locs ls hP hS hl)
theorem k_icmp_lt (h : Ok X o cc own nL R) {x y : Int32} {off : Int} {tgt : Nat} (hd : decode cc pc = .ok (.if_icmp .lt off, 3)) (hn : pc + 3 = pc') (ht : (pc : Int) + off = (tgt : Int)) (kt : x < y → Wk X o nL st tgt lv stk) (kf : ¬ x < y → Wk X o nL st pc' lv stk) : Wk X o nL st pc lv (.int y :: .int x :: stk) := by
  subst hn
  intro H locs ls hP hS hl
  exact lv_icmp_lt h.1 h.2.1 hd ht (fun q => kt q H locs ls hP hS hl) (fun q => kf q H locs ls hP hS hl)
theorem k_icmp_ge (h : Ok X o cc own nL R) {x y : Int32} {off : Int} {tgt : Nat} (hd : decode cc pc = .ok (.if_icmp .ge off, 3)) (hn : pc + 3 = pc') (ht : (pc : Int) + off = (tgt : Int)) (kt : y ≤ x → Wk X o nL st tgt lv stk) (kf : ¬ y ≤ x → Wk X o nL st pc' lv stk) : Wk X o nL st pc lv (.int y :: .int x :: stk) := by
  subst hn
  intro H locs ls hP hS hl
  exact lv_icmp_ge h.1 h.2.1 hd ht (fun q => kt q H locs ls hP hS hl) (fun q => kf q H locs ls hP hS hl)
theorem k_icmp_gt (h : Ok X o cc own nL R) {x y : Int32} {off : Int} {tgt : Nat} (hd : decode cc pc = .ok (.if_icmp .gt off, 3)) (hn : pc + 3 = pc') (ht : (pc : Int) + off = (tgt : Int)) (kt : y < x → Wk X o nL st tgt lv stk) (kf : ¬ y < x → Wk X o nL st pc' lv stk) : Wk X o nL st pc lv (.int y :: .int x :: stk) := by
  subst hn
  intro H locs ls hP hS hl
  exact lv_icmp_gt h.1 h.2.1 hd ht (fun q => kt q H locs ls hP hS hl) (fun q => kf q H locs ls hP hS hl)
theorem k_icmp_le (h : Ok X o cc own nL R) {x y : Int32} {off : Int} {tgt : Nat} (hd : decode cc pc = .ok (.if_icmp .le off, 3)) (hn : pc + 3 = pc') (ht : (pc : Int) + off = (tgt : Int)) (kt : x ≤ y → Wk X o nL st tgt lv stk) (kf : ¬ x ≤ y → Wk X o nL st pc' lv stk) : Wk X o nL st pc lv (.int y :: .int x :: stk) := by
  subst hn
  intro H locs ls hP hS hl
  exact lv_icmp_le h.1 h.2.1 hd ht (fun q => kt q H locs ls hP hS hl) (fun q => kf q H locs ls hP hS hl)
theorem k_tout (h : Ok X o cc own nL R) {dflt lo hi : Int} {offs : Array Int} {len : Nat} {x : Int32} {tgt : Nat} (hd : decode cc pc = .ok (.tableswitch dflt lo hi offs, len)) (hx : x.toInt < lo ∨ hi < x.toInt) (ht : (pc : Int) + dflt = (tgt : Int)) (kk : Wk X o nL st tgt lv stk) : Wk X o nL st pc lv (.int x :: stk) := fun H locs ls hP hS hl => lv_tableOut h.1 h.2.1 hd hx ht (kk H locs ls hP hS hl)
theorem k_tin (h : Ok X o cc own nL R) {dflt lo hi : Int} {offs : Array Int} {len : Nat} {x : Int32} (z : Int) {off : Int} {tgt : Nat} (hd : decode cc pc = .ok (.tableswitch dflt lo hi offs, len)) (hx : x.toInt = z) (h1 : lo ≤ z) (h2 : z ≤ hi) (ho : offs[(z - lo).toNat]? = some off) (ht : (pc : Int) + off = (tgt : Int)) (kk : Wk X o nL st tgt lv stk) : Wk X o nL st pc lv (.int x :: stk) := fun H locs ls hP hS hl => lv_tableIn h.1 h.2.1 hd (by rw [hx]; omega) (by rw [hx]; omega) (by rw [hx]; exact ho) ht (kk H locs ls hP hS hl)
theorem k_lsw (h : Ok X o cc own nL R) {dflt : Int} {ps : Array (Int × Int)} {len : Nat} {x : Int32} {off : Int} {tgt : Nat} (hd : decode cc pc = .ok (.lookupswitch dflt ps, len)) (hp : (ps.toList.zip (ps.toList.drop 1)).all (fun (a, next) => a.1 < next.1) = true) (ho : Op.lookupswitch.offset ps.toList dflt x.toInt = off) (ht : (pc : Int) + off = (tgt : Int)) (kk : Wk X o nL st tgt lv stk) : Wk X o nL st pc lv (.int x :: stk) := fun H locs ls hP hS hl => lv_lookup h.1 h.2.1 hd hp ho ht (kk H locs ls hP hS hl)
/-! the heap -/
theorem k_iald (h : Ok X o cc own nL R) {k n : Nat} {i : Int32} (hd : decode cc pc = .ok (.iaload, 1)) (hn : pc + 1 = pc') (ha : isArr o k 0 n) (hi : inb i n = true) (kk : Wk X o nL st pc' lv (.int (st.1 k i.toNatClampNeg) :: stk)) : Wk X o nL st pc lv (.int i :: .ref (al o k) :: stk) := by
  subst hn
  intro H locs ls hP hS hl
  exact va_iald h.1 h.2.1 h.2.2.2.2.2.1 hP k 0 ((wd_get st ha.1).trans (by rw [ha.2])) rfl (inb_in hi) hd (kk H locs ls hP hS hl)
theorem k_bald (h : Ok X o cc own nL R) {k n : Nat} {i : Int32} (hd : decode cc pc = .ok (.baload, 1)) (hn : pc + 1 = pc') (ha : isArr o k 1 n) (hi : inb i n = true) (kk : Wk X o nL st pc' lv (.int (st.1 k i.toNatClampNeg) :: stk)) : Wk X o nL st pc lv (.int i :: .ref (al o k) :: stk) := by
  subst hn
  intro H locs ls hP hS hl
  exact va_bald h.1 h.2.1 h.2.2.2.2.2.1 hP k 1 ((wd_get st ha.1).trans (by rw [ha.2])) rfl (inb_in hi) hd (kk H locs ls hP hS hl)
theorem k_zald (h : Ok X o cc own nL R) {k n : Nat} {i : Int32} (hd : decode cc pc = .ok (.baload, 1)) (hn : pc + 1 = pc') (ha : isArr o k 2 n) (hi : inb i n = true) (kk : Wk X o nL st pc' lv (.int (st.1 k i.toNatClampNeg) :: stk)) : Wk X o nL st pc lv (.int i :: .ref (al o k) :: stk) := by
  subst hn
  intro H locs ls hP hS hl
  exact va_zald h.1 h.2.1 h.2.2.2.2.2.1 hP k 2 ((wd_get st ha.1).trans (by rw [ha.2])) rfl (inb_in hi) hd (kk H locs ls hP hS hl)
theorem k_aald (h : Ok X o cc own nL R) {k ty n a0 : Nat} {i : Int32} {tt : FieldType} (hd : decode cc pc = .ok (.aaload, 1)) (hn : pc + 1 = pc') (ha : isRef o k ty n a0) (ht : (tyG o)[ty]? = some (cy o ty, tt)) (hr : tt.isReference = true) (hi : inb i n = true) (kk : Wk X o nL st pc' lv (.ref (al o (a0 + i.toNatClampNeg)) :: stk)) : Wk X o nL st pc lv (.int i :: .ref (al o k) :: stk) := by
  subst hn
  intro H locs ls hP hS hl
  have hc := hP k _ ((wd_get st ha.1).trans (by rw [ha.2]))
  exact W.aald (v := .ref (al o (a0 + i.toNatClampNeg))) (ty := tt) h.1 h.2.1 hc ((h.2.2.2.2.2.1.2 ty _ ht).1 n (fun j => va_rf (some (al o (a0 + j))))) hr (fun q => by cases q) (by show ¬ (i < 0 ∨ (arrV _ _ _).slots.size ≤ _); rw [arrV_size]; exact inb_in hi) (by show (arrV _ _ _).slots[_]? = _; rw [arrV_read _ _ (inb_lt hi)]; rfl) rfl rfl hd (kk H locs ls hP hS hl)
theorem k_alen (h : Ok X o cc own nL R) {k ty n : Nat} {v : Int32} {tt : FieldType} (hd : decode cc pc = .ok (.arraylength, 1)) (hn : pc + 1 = pc') (ha : isArr o k ty n) (ht : (tyG o)[ty]? = some (cy o ty, tt)) (hv : Int32.ofNat n = v) (kk : Wk X o nL st pc' lv (.int v :: stk)) : Wk X o nL st pc lv (.ref (al o k) :: stk) := by
  subst hn
  intro H locs ls hP hS hl
  exact va_alen h.1 h.2.1 h.2.2.2.2.2.1 hP k ty ((wd_get st ha.1).trans (by rw [ha.2])) ht hv hd (kk H locs ls hP hS hl)
theorem k_seta {k ty n : Nat} {f : Nat → Int32} (ha : isArr o k ty n) : (wd o st).set k (al o k, .inl (cy o ty, n, .inl f)) = wd o (sA st k f) :=
  wd_set ha.1 (by rw [sA_k, ha.2]) (fun i hi => by rw [sA_n hi, sA_2])
theorem k_iast (h : Ok X o cc own nL R) {k n : Nat} {i x : Int32} (hd : decode cc pc = .ok (.iastore, 1)) (hn : pc + 1 = pc') (ha : isArr o k 0 n) (hi : inb i n = true) (kk : Wk X o nL (sA st k (upd (st.1 k) i.toNatClampNeg x)) pc' lv stk) : Wk X o nL st pc lv (.int x :: .int i :: .ref (al o k) :: stk) := by
  subst hn
  intro H locs ls hP hS hl
  exact va_iast h.1 h.2.1 h.2.2.2.2.2.1 hP (h.2.2.2.2.2.2.1 st) hS k 0 ((wd_get st ha.1).trans (by rw [ha.2])) rfl (inb_in hi) hd (fun H1 locs1 hP1 _ hS1 => kk H1 locs1 ls (by rw [← k_seta ha]; exact hP1) hS1 hl)
theorem k_bast (h : Ok X o cc own nL R) {k n : Nat} {i x : Int32} (hd : decode cc pc = .ok (.bastore, 1)) (hn : pc + 1 = pc') (ha : isArr o k 1 n) (hi : inb i n = true) (kk : Wk X o nL (sA st k (upd (st.1 k) i.toNatClampNeg (x.toInt8.toInt32))) pc' lv stk) : Wk X o nL st pc lv (.int x :: .int i :: .ref (al o k) :: stk) := by
  subst hn
  intro H locs ls hP hS hl
  exact va_bast h.1 h.2.1 h.2.2.2.2.2.1 hP (h.2.2.2.2.2.2.1 st) hS k 1 ((wd_get st ha.1).trans (by rw [ha.2])) rfl (inb_in hi) hd (fun H1 locs1 hP1 _ hS1 => kk H1 locs1 ls (by rw [← k_seta ha]; exact hP1) hS1 hl)
theorem k_zast (h : Ok X o cc own nL R) {k n : Nat} {i x : Int32} (hd : decode cc pc = .ok (.bastore, 1)) (hn : pc + 1 = pc') (ha : isArr o k 2 n) (hi : inb i n = true) (hb : vp_nar .boolean x = x) (kk : Wk X o nL (sA st k (upd (st.1 k) i.toNatClampNeg x)) pc' lv stk) : Wk X o nL st pc lv (.int x :: .int i :: .ref (al o k) :: stk) := by
  subst hn
  intro H locs ls hP hS hl
  exact va_zast h.1 h.2.1 h.2.2.2.2.2.1 hP (h.2.2.2.2.2.2.1 st) hS k 2 ((wd_get st ha.1).trans (by rw [ha.2])) rfl (inb_in hi) hd (fun H1 locs1 hP1 _ hS1 => kk H1 locs1 ls (by rw [← k_seta ha, ← hb]; exact hP1) hS1 hl)
theorem k_get (h : Ok X o cc own nL R) {k ci j idx : Nat} {F : (Nat → Int32) → (Nat → Int64) → List Value} {v : Value} (hd : decode cc pc = .ok (.getfield idx, 3)) (hn : pc + 3 = pc') (ho : isObj o k ci F) (hf : FL own idx ci j) (hv : (F (st.1 k) st.2)[j]? = some v) (kk : Wk X o nL st pc' lv (v :: stk)) : Wk X o nL st pc lv (.ref (al o k) :: stk) := by
  subst hn
  intro H locs ls hP hS hl
  obtain ⟨C, T, N, h1, h2, h3, h4⟩ := hf
  exact va_get h.1 h.2.1 h.2.2.2.2.1 h2 h.2.2.2.1 h.2.2.2.2.2.1 hP k ((wd_get st ho.1).trans (by rw [ho.2])) h1 j h3 (h.2.2.2.2.1 _ h4) (fun _ q => q) hv hd (kk H locs ls hP hS hl)
theorem k_seto {k ci j : Nat} {F : (Nat → Int32) → (Nat → Int64) → List Value} {v : Int32} (ho : isObj o k ci F) (hs : ∀ g t v, F (upd g j v) t = (F g t).set j (.int v)) : (wd o st).set k (al o k, .inr (ci, (F (st.1 k) st.2).set j (.int v))) = wd o (sA st k (upd (st.1 k) j v)) :=
  wd_set ho.1 (by rw [sA_k, sA_2, ho.2, hs]) (fun i hi => by rw [sA_n hi, sA_2])
theorem k_put (h : Ok X o cc own nL R) {k ci j idx : Nat} {F : (Nat → Int32) → (Nat → Int64) → List Value} {v : Int32} (hd : decode cc pc = .ok (.putfield idx, 3)) (hn : pc + 3 = pc') (ho : isObj o k ci F) (hf : FP own idx ci j .int) (hs : ∀ g t v, F (upd g j v) t = (F g t).set j (.int v)) (hj : ∀ g t, j < (F g t).length) (kk : Wk X o nL (sA st k (upd (st.1 k) j v)) pc' lv stk) : Wk X o nL st pc lv (.int v :: .ref (al o k) :: stk) := by
  subst hn
  intro H locs ls hP hS hl
  obtain ⟨C, T, N, ty0, h1, h2, h3, h4, h5, h6, h7, h8⟩ := hf
  exact va_put (v := .int v) h.1 h.2.1 h.2.2.2.2.1 h2 ty0 h5 h6 h.2.2.2.1 h.2.2.2.2.2.1 hP (h.2.2.2.2.2.2.1 st) hS k ((wd_get st ho.1).trans (by rw [ho.2])) h1 j h3 (h.2.2.2.2.1 _ h4) (fun _ q => q) h7 h8 rfl rfl (hj _ _) hd (fun H1 locs1 hP1 _ hS1 => kk H1 locs1 ls (by rw [← k_seto ho hs]; exact hP1) hS1 hl)
theorem k_putz (h : Ok X o cc own nL R) {k ci j idx : Nat} {F : (Nat → Int32) → (Nat → Int64) → List Value} {v : Int32} (hd : decode cc pc = .ok (.putfield idx, 3)) (hn : pc + 3 = pc') (ho : isObj o k ci F) (hf : FP own idx ci j .boolean) (hb : v = 0 ∨ v = 1) (hs : ∀ g t v, F (upd g j v) t = (F g t).set j (.int v)) (hj : ∀ g t, j < (F g t).length) (kk : Wk X o nL (sA st k (upd (st.1 k) j v)) pc' lv stk) : Wk X o nL st pc lv (.int v :: .ref (al o k) :: stk) := by
  subst hn
  intro H locs ls hP hS hl
  obtain ⟨C, T, N, ty0, h1, h2, h3, h4, h5, h6, h7, h8⟩ := hf
  exact va_put (v := .int v) h.1 h.2.1 h.2.2.2.2.1 h2 ty0 h5 h6 h.2.2.2.1 h.2.2.2.2.2.1 hP (h.2.2.2.2.2.2.1 st) hS k ((wd_get st ho.1).trans (by rw [ho.2])) h1 j h3 (h.2.2.2.2.1 _ h4) (fun _ q => q) h7 h8 (by rcases hb with rfl | rfl <;> rfl) (by rcases hb with rfl | rfl <;> rfl) (hj _ _) hd (fun H1 locs1 hP1 _ hS1 => kk H1 locs1 ls (by rw [← k_seto ho hs]; exact hP1) hS1 hl)
theorem k_setl {ci j i : Nat} {F : (Nat → Int32) → (Nat → Int64) → List Value} {v : Int64} (ho : isObj o 0 ci F) (hN : noL o) (hs : ∀ g t v, F g (vp_updL t i v) = (F g t).set j (.long v)) : (wd o st).set 0 (al o 0, .inr (ci, (F (st.1 0) st.2).set j (.long v))) = wd o (sL st i v) :=
  wd_set ho.1 (by rw [sL_1, sL_2, ho.2, hs]) (fun q hq => by rw [sL_1]; exact hN q _ _ _ hq)
theorem k_putl (h : Ok X o cc own nL R) {ci j i idx : Nat} {F : (Nat → Int32) → (Nat → Int64) → List Value} {v : Int64} (hd : decode cc pc = .ok (.putfield idx, 3)) (hn : pc + 3 = pc') (ho : isObj o 0 ci F) (hN : noL o) (hf : FP own idx ci j .long) (hs : ∀ g t v, F g (vp_updL t i v) = (F g t).set j (.long v)) (hj : ∀ g t, j < (F g t).length) (kk : Wk X o nL (sL st i v) pc' lv stk) : Wk X o nL st pc lv (.long v :: .ref (al o 0) :: stk) := by
  subst hn
  intro H locs ls hP hS hl
  obtain ⟨C, T, N, ty0, h1, h2, h3, h4, h5, h6, h7, h8⟩ := hf
  exact va_put (v := .long v) h.1 h.2.1 h.2.2.2.2.1 h2 ty0 h5 h6 h.2.2.2.1 h.2.2.2.2.2.1 hP (h.2.2.2.2.2.2.1 st) hS 0 ((wd_get st ho.1).trans (by rw [ho.2])) h1 j h3 (h.2.2.2.2.1 _ h4) (fun _ q => q) h7 h8 rfl rfl (hj _ _) hd (fun H1 locs1 hP1 _ hS1 => kk H1 locs1 ls (by rw [← k_setl ho hN hs]; exact hP1) hS1 hl)
/-! static arrays -/
theorem k_gets0 (h : Ok X o cc own nL R) {idx : Nat} (hd : decode cc pc = .ok (.getstatic idx, 3)) (hn : pc + 3 = pc') (hw : Cond.fieldLink own idx "TheUsual" "LETTERS" "[I" ∈ gtb) (kk : Wk X o nL st pc' lv (.ref (tl o 0) :: stk)) : Wk X o nL st pc lv stk := by
  subst hn
  intro H locs ls hP hS hl
  exact va_gets h.1 h.2.1 h.2.2.2.2.2.2.2.2.1.1 hS h.2.2.2.1 (h.2.2.2.2.1 _ hw) (fun _ q => q) hd (kk H locs ls hP hS hl)
theorem k_gets1 (h : Ok X o cc own nL R) {idx : Nat} (hd : decode cc pc = .ok (.getstatic idx, 3)) (hn : pc + 3 = pc') (hw : Cond.fieldLink own idx "TheUsual" "LEAST_FIGURES" "[I" ∈ gtb) (kk : Wk X o nL st pc' lv (.ref (tl o 1) :: stk)) : Wk X o nL st pc lv stk := by
  subst hn
  intro H locs ls hP hS hl
  exact va_gets h.1 h.2.1 h.2.2.2.2.2.2.2.2.1.2.2.1 hS h.2.2.2.1 (h.2.2.2.2.1 _ hw) (fun _ q => q) hd (kk H locs ls hP hS hl)
theorem k_gets2 (h : Ok X o cc own nL R) {idx : Nat} (hd : decode cc pc = .ok (.getstatic idx, 3)) (hn : pc + 3 = pc') (hw : Cond.fieldLink own idx "TheUsual" "GREATEST_FIGURES" "[I" ∈ gtb) (kk : Wk X o nL st pc' lv (.ref (tl o 2) :: stk)) : Wk X o nL st pc lv stk := by
  subst hn
  intro H locs ls hP hS hl
  exact va_gets h.1 h.2.1 h.2.2.2.2.2.2.2.2.1.2.2.2.2.1 hS h.2.2.2.1 (h.2.2.2.2.1 _ hw) (fun _ q => q) hd (kk H locs ls hP hS hl)
theorem k_tld0 (h : Ok X o cc own nL R) {i : Int32} (hd : decode cc pc = .ok (.iaload, 1)) (hn : pc + 1 = pc') (hi : inb i 6 = true) (kk : Wk X o nL st pc' lv (.int (tb0 i.toNatClampNeg) :: stk)) : Wk X o nL st pc lv (.int i :: .ref (tl o 0) :: stk) := by
  subst hn
  intro H locs ls hP hS hl
  exact va_ti h.1 h.2.1 h.2.2.2.2.2.2.2.2.1.2.1 hS (inb_in hi) rfl hd (kk H locs ls hP hS hl)
theorem k_tld1 (h : Ok X o cc own nL R) {i : Int32} (hd : decode cc pc = .ok (.iaload, 1)) (hn : pc + 1 = pc') (hi : inb i 6 = true) (kk : Wk X o nL st pc' lv (.int (tb1 i.toNatClampNeg) :: stk)) : Wk X o nL st pc lv (.int i :: .ref (tl o 1) :: stk) := by
  subst hn
  intro H locs ls hP hS hl
  exact va_ti h.1 h.2.1 h.2.2.2.2.2.2.2.2.1.2.2.2.1 hS (inb_in hi) rfl hd (kk H locs ls hP hS hl)
theorem k_tld2 (h : Ok X o cc own nL R) {i : Int32} (hd : decode cc pc = .ok (.iaload, 1)) (hn : pc + 1 = pc') (hi : inb i 6 = true) (kk : Wk X o nL st pc' lv (.int (tb2 i.toNatClampNeg) :: stk)) : Wk X o nL st pc lv (.int i :: .ref (tl o 2) :: stk) := by
  subst hn
  intro H locs ls hP hS hl
  exact va_ti h.1 h.2.1 h.2.2.2.2.2.2.2.2.1.2.2.2.2.2 hS (inb_in hi) rfl hd (kk H locs ls hP hS hl)
/-! returns -/
theorem k_iret (h : Ok X o cc own nL R) {P : Option Value → St → Prop} {x : Int32} (r : Rt X o P (some .int)) (hd : decode cc pc = .ok (.ireturn, 1)) (hp : P (some (.int x)) st) : Wk X o nL st pc lv [.int x] := by
  intro H locs ls hP hS hl
  obtain ⟨h1, h2, Qc, free, h3, h4, h5⟩ := r
  rw [h3]
  exact W.iret h.1 h.2.1 h1 (h5 H locs _ st hP hS hp) (fun q hq => h4 _ (hS.2.2 q hq)) hd h2
theorem k_zret (h : Ok X o cc own nL R) {P : Option Value → St → Prop} {x : Int32} (r : Rt X o P (some .boolean)) (hd : decode cc pc = .ok (.ireturn, 1)) (hb : x = 0 ∨ x = 1) (hp : P (some (.int x)) st) : Wk X o nL st pc lv [.int x] := by
  intro H locs ls hP hS hl
  obtain ⟨h1, h2, Qc, free, h3, h4, h5⟩ := r
  rw [h3]
  exact W.zret h.1 h.2.1 h1 (by rcases hb with rfl | rfl <;> rfl) (h5 H locs _ st hP hS hp) (fun q hq => h4 _ (hS.2.2 q hq)) hd h2
theorem k_lret (h : Ok X o cc own nL R) {P : Option Value → St → Prop} {x : Int64} (r : Rt X o P (some .long)) (hd : decode cc pc = .ok (.lreturn, 1)) (hp : P (some (.long x)) st) : Wk X o nL st pc lv [.long x] := by
  intro H locs ls hP hS hl
  obtain ⟨h1, h2, Qc, free, h3, h4, h5⟩ := r
  rw [h3]
  exact W.lret h.1 h.2.1 h1 (h5 H locs _ st hP hS hp) (fun q hq => h4 _ (hS.2.2 q hq)) hd h2
theorem k_vret (h : Ok X o cc own nL R) {P : Option Value → St → Prop} (r : Rt X o P none) (hd : decode cc pc = .ok (.return_, 1)) (hp : P none st) : Wk X o nL st pc lv [] := by
  intro H locs ls hP hS hl
  obtain ⟨h1, h2, Qc, free, h3, h4, h5⟩ := r
  rw [h3]
  exact W.vret h.1 h.2.1 h1 (h5 H locs _ st hP hS hp) (fun q hq => h4 _ (hS.2.2 q hq)) hd h2
end KR
end
section
/-! CONTRACTS AND CALLS -/
theorem tb_in : ∀ w ∈ gtb, (w.onTables && w.keeps) = true ∨ ∃ ty, w = .arrayClass ty := fun w h => good_of_word (List.mem_filter.mp h).2
theorem tb_G {w : Cond} (h : w ∈ gtb) : GoodIn gtb (w :: gtb) := fun v hv => by
  rcases List.mem_cons.mp hv with q | q
  · subst q; exact ⟨h, tb_in _ h⟩
  · exact ⟨q, tb_in _ q⟩
def RM (h : Nat) : Room := { frames := h, cells := 0, slots := 0, locals := 30 * h }
def Pr (o : OO) (st : St) (avs : List Value) (sz : Nat) : Array Value → State → Prop := va_Pc avs (fun U => U.heap.size = sz ∧ va_P (oD o) vwCl (wd o st) U.heap ∧ va_K (oD o) vwCl (tyG o) U ∧ va_D (fun _ => True) (wd o st) ∧ sx o (va_A (wd o st) sz) U U.heap ∧ nx U)
def Po (o : OO) (st st' : St) (rv : Option Value) (sz : Nat) : Array Value → State → Outcome → State → Prop := fun _ s0 oc t => (oc = .returned rv ∧ va_P (oD o) vwCl (wd o st') t.heap) ∧ va_F (va_A (wd o st) sz) s0 t
def MM (l : Launch) (y : MethodName) (bytes : ByteArray) (maxL : Nat) (ret : Option FieldType) (hh : Nat) (o : OO) (avs : List Value) (st : St) (rv : Option Value) (st' : St) : Prop := ∀ sz, Met l y (Cond.code y bytes maxL ret :: gtb) (RM hh) (Pr o st avs sz) (Po o st st' rv sz) 0 0 (va_A (wd o st) sz)
theorem mk_MM {l : Launch} {y : MethodName} {bytes : ByteArray} {maxL : Nat} {ret : Option FieldType} {hh : Nat} {o : OO} {avs : List Value} {st : St} {rv : Option Value} {st' : St} (hy : plainName y.cls = true) (hlen : (lg_sl avs).length ≤ maxL)
    (body : ∀ X : Cx, Ok X o bytes y.cls maxL (RM hh) → Rt X o (fun v s' => v = rv ∧ s' = st') ret → Wk X o maxL st 0 (lv_args 0 avs) []) : MM l y bytes maxL ret hh o avs st rv st' := by
  intro sz
  refine Met.ofW (cc := bytes) (maxL := maxL) (ret := ret) hy rfl ?_
  intro p e s m args below meth c s₁ B hml hv
  obtain ⟨rfl, hsz, hP, hK, hD, hsx, hnx⟩ := hv
  subst hsz
  rw [lg_entry_eq]
  have hl := lv_entry avs (n := maxL) hlen
  exact body (p, l, e, RM hh, s, m, avs.toArray, below, meth, c, 0, 0, MQ below (Po o st st' rv s.heap.size) avs.toArray s 0 0 (va_A (wd o st) s.heap.size), va_A (wd o st) s.heap.size)
    ⟨B.exec, B.bytes, hml, findClass_of_methodNamed B.named, fun w hw => atoms_spec B.pre w (List.mem_cons_of_mem _ hw), hK, fun st2 => wd_D (hD.self (sz := s.heap.size)), fun q h => Or.inr h, hsx, rfl, Nat.le_refl _, Nat.le_refl _, hnx⟩
    ⟨B.returns, B.notSynchronized, Po o st st' rv s.heap.size, va_A (wd o st) s.heap.size, rfl, fun q h => h, fun H locs v st2 hP2 hS2 hp t ht hW => ⟨⟨by rw [hp.1], by rw [ht, ← hp.2]; exact hP2⟩, hS2.F ht⟩⟩
    s.heap [] _ hP va_S.rf hl
/-! a call by its entry -/
def WC (y : MethodName) (bytes : ByteArray) (maxL : Nat) (ret : Option FieldType) (n : Nat) : Prop := Cond.initialized y.cls ∈ gtb ∧ Cond.code y bytes maxL ret ∈ gtb ∧ (y.cls ≠ "java/lang/invoke/MethodHandle" ∧ y.cls ≠ "java/lang/invoke/VarHandle" ∧ (parseMethodDescriptor y.desc).map (fun d => d.parameters.length) = some n)
def WI (y : MethodName) : Prop := Cond.instanceMethod y ∈ gtb ∧ Cond.selects y.cls y y ∈ gtb
section KC
variable {X : Cx} {o : OO} {cc : ByteArray} {own : String} {nL : Nat} {R : Room} {st st' : St} {pc pc' : Nat} {lv lv' : List (Nat × Value)} {stk rest As : List Value} {y : MethodName} {bytes : ByteArray} {maxL n hh idx : Nat} {ret : Option FieldType} {rv : Option Value}
theorem c_blind {sz : Nat} {avs : List Value} : FrameBlind (Pr o st avs sz) := fun a U g mk q => by
  obtain ⟨q0, q1, q2, q3, q4, q5, q6⟩ := q
  exact ⟨q0, q1, q2, va_K.moved (u := U) (U := U.calling g mk a) (Vm.Alike.refl U.vm) q3, q4, sx_moved (u := U) (U := U.calling g mk a) (Vm.Alike.refl U.vm) q5, nx_same (u := U) (U := U.calling g mk a) rfl q6⟩
theorem c_sub (h : Ok X o cc own nL R) {H : Heap} {locs : List Loc} (hS : va_S (xA X) (xS X).heap H locs) : ∀ q, va_A (wd o st) H.size q → xA X q := by
  intro q hq
  rcases hq with ⟨k, e, hk⟩ | hq
  · exact (h.2.2.2.2.2.2.1 st).2 k (q, e) hk
  · exact h.2.2.2.2.2.2.2.1 q (Nat.le_trans hS.1 hq)
theorem c_pre (h : Ok X o cc own nL R) {H : Heap} {locs : List Loc} (hP : va_P (oD o) vwCl (wd o st) H) (hS : va_S (xA X) (xS X).heap H locs) {avs : List Value} : ∀ U : State, U.heap = H → (xS X).WarmedH U.vm → Pr o st avs H.size avs.toArray U := by
  intro U hU hW
  refine ⟨rfl, by rw [hU], by rw [hU]; exact hP, va_K.moved hW.alike h.2.2.2.2.2.1, (h.2.2.2.2.2.2.1 st).weaken (fun _ _ _ _ => trivial), ?_, nx_warm hW h.2.2.2.2.2.2.2.2.2.2.2.2⟩
  rw [hU]
  exact sx_narrow (sx_moved hW.alike (sx_kept h.2.2.2.2.2.2.2.2.1 hS.2.1)) (c_sub h hS)
theorem c_run (h : Ok X o cc own nL R) {H : Heap} {locs : List Loc} {ls : Array Slot} (hS : va_S (xA X) (xS X).heap H locs) (hl : lv_has ls nL lv) {a : Array Value}
    (hr : va_Run (xp X) (xl X) (xe X) (xR X) (xS X) (xm X) (xa X) (xb X) (xM X) (xc X) H locs (xC X) (xs X) 0 0 (F0 (xm X) pc ls stk) rest (Po o st st' rv H.size a) (va_A (wd o st) H.size))
    (kk : Wk X o nL st' (pc + 3) lv (rv.toList ++ rest)) : W (xp X) (xl X) (xe X) (xR X) (xS X) (xm X) (xa X) (xb X) (xM X) (xc X) H locs (xC X) (xs X) (xQ X) (F0 (xm X) pc ls stk) := by
  intro T hT X0
  obtain ⟨v, st₀, t, T', L, h0, X', hL, e1, e2, ⟨⟨hv, hP1⟩, hz, hk⟩, stp⟩ := hr T hT X0
  cases hv
  rw [h0] at hz hk
  have hS' : va_S (xA X) (xS X).heap T'.heap (locs ++ L) := ⟨Nat.le_trans hS.1 (by rw [e1]; exact hz), fun q h1 h2 => by rw [e1, hk q (Nat.lt_of_lt_of_le h1 hS.1) (fun z => h2 (c_sub h hS q z))]; exact hS.2.1 q h1 h2, fun q hq => by
      rcases List.mem_append.mp hq with h9 | h9
      · exact hS.2.2 q h9
      · exact c_sub h hS _ (hL q h9)⟩
  obtain ⟨t2, a1, b1⟩ := kk T'.heap (locs ++ L) ls (by rw [e1]; exact hP1) hS' hl T' rfl X'
  exact ⟨t2, stp t2 a1, b1⟩
theorem c_B (h : Ok X o cc own nL R) (hm : Cond.methodLink own idx y ∈ gtb) (hw : WC y bytes maxL ret n) (hR : hh + 1 ≤ R.frames ∧ 8 + (maxL + 11) + 30 * hh ≤ R.locals) : CallB (xR X) (xS X) (xa X) own idx y bytes maxL ret (Cond.code y bytes maxL ret :: gtb) (RM hh) 0 0 n :=
  callB_of (Ts := gtb) n h.2.2.2.2.1 (tb_G hw.2.1) rfl rfl rfl (h.2.2.2.2.1 _ hw.1) (h.2.2.2.2.1 _ hm) hw.2.2 (by rw [h.2.2.2.2.2.2.2.2.2.1]; exact hR)
theorem c_room (h : Ok X o cc own nL R) : xC X + 0 ≤ (xR X).cells ∧ xs X + 0 ≤ (xR X).slots := by
  rw [h.2.2.2.2.2.2.2.2.2.1]
  exact ⟨h.2.2.2.2.2.2.2.2.2.2.1, h.2.2.2.2.2.2.2.2.2.2.2.1⟩
theorem k_callV (h : Ok X o cc own nL R) {k ci : Nat} {q : vw_C} {F : (Nat → Int32) → (Nat → Int64) → List Value} (hd : decode cc pc = .ok (.invokevirtual idx, 3)) (hn : pc + 3 = pc') (hm : Cond.methodLink own idx y ∈ gtb) (hw : WC y bytes maxL ret n) (hi : WI y) (hR : hh + 1 ≤ R.frames ∧ 8 + (maxL + 11) + 30 * hh ≤ R.locals) (ho : isObj o k ci F) (hc : vwCl[ci]? = some q) (hq : q.1 = y.cls) (hA : As.length = n) (hst : stk = As.reverse ++ .ref (al o k) :: rest) (hcat : (rest.map fun v => v.category).sum ≤ 8) (hM : ∀ l, MM l y bytes maxL ret hh o (.ref (al o k) :: As) st rv st') {stk' : List Value} (hs' : rv.toList ++ rest = stk') (kk : Wk X o nL st' pc' lv stk') : Wk X o nL st pc lv stk := by
  subst hn
  subst hs'
  intro H locs ls hP hS hl
  have hrec := va_recv (q0 := k) h.2.2.2.2.2.1 hP hc ((wd_get st ho.1).trans (by rw [ho.2]))
  rw [hq] at hrec
  exact c_run h hS hl (va_runV (As := As) (rest := rest) (b := al o k) ⟨h.1, h.2.1, h.2.2.1, h.2.2.2.1, h.2.2.2.2.1⟩ (hM (xl X) H.size) ⟨c_B h hm hw hR, h.2.2.2.2.1 _ hi.1, h.2.2.2.2.1 _ hi.2⟩ ⟨c_blind, hrec, c_pre h hP hS⟩ rfl hA hl.1 hst (lv_room hcat) hd (c_room h)) kk
theorem k_callS (h : Ok X o cc own nL R) (hd : decode cc pc = .ok (.invokestatic idx, 3)) (hn : pc + 3 = pc') (hm : Cond.methodLink own idx y ∈ gtb) (hw : WC y bytes maxL ret n) (hi : Cond.static y ∈ gtb) (hR : hh + 1 ≤ R.frames ∧ 8 + (maxL + 11) + 30 * hh ≤ R.locals) (hA : As.length = n) (hst : stk = As.reverse ++ rest) (hcat : (rest.map fun v => v.category).sum ≤ 8) (hM : ∀ l, MM l y bytes maxL ret hh o As st rv st') {stk' : List Value} (hs' : rv.toList ++ rest = stk') (kk : Wk X o nL st' pc' lv stk') : Wk X o nL st pc lv stk := by
  subst hn
  subst hs'
  intro H locs ls hP hS hl
  exact c_run h hS hl (va_runS (As := As) (rest := rest) ⟨h.1, h.2.1, h.2.2.1, h.2.2.2.1, h.2.2.2.2.1⟩ (hM (xl X) H.size) ⟨c_B h hm hw hR, h.2.2.2.2.1 _ hi⟩ ⟨c_blind, c_pre h hP hS⟩ rfl hA hl.1 hst (lv_room hcat) hd (c_room h)) kk
theorem k_callSN (h : Ok X o cc own nL R) {host : String} (hd : decode cc pc = .ok (.invokestatic idx, 3)) (hn : pc + 3 = pc') (hm : nx (xS X) → va_Nw (.methodLinkNest own idx y host) (xS X)) (hw : WC y bytes maxL ret n) (hi : Cond.static y ∈ gtb) (hR : hh + 1 ≤ R.frames ∧ 8 + (maxL + 11) + 30 * hh ≤ R.locals) (hA : As.length = n) (hst : stk = As.reverse ++ rest) (hcat : (rest.map fun v => v.category).sum ≤ 8) (hM : ∀ l, MM l y bytes maxL ret hh o As st rv st') {stk' : List Value} (hs' : rv.toList ++ rest = stk') (kk : Wk X o nL st' pc' lv stk') : Wk X o nL st pc lv stk := by
  subst hn
  subst hs'
  intro H locs ls hP hS hl
  exact c_run h hS hl (va_runSN (As := As) (rest := rest) (Ts := gtb) ⟨h.1, h.2.1, h.2.2.1, h.2.2.2.1, h.2.2.2.2.1⟩ (hM (xl X) H.size) ⟨va_cnB (Ts := gtb) n h.2.2.2.2.1 (tb_G hw.2.1) rfl rfl rfl (hm h.2.2.2.2.2.2.2.2.2.2.2.2) (h.2.2.2.2.1 _ hw.1) hw.2.2 (by rw [h.2.2.2.2.2.2.2.2.2.1]; exact hR), h.2.2.2.2.1 _ hi, trivial⟩ ⟨c_blind, c_pre h hP hS⟩ rfl hA hl.1 hst (lv_room hcat) hd (c_room h)) kk
theorem k_cpy (h : Ok X o cc own nL R) {k0 k1 n0 n1 : Nat} {sp dp nn : Int32} (hd : decode cc pc = .ok (.invokestatic idx, 3)) (hn : pc + 3 = pc') (hm : Cond.methodLink own idx arraycopyName ∈ gtb) (hw : Cond.native arraycopyName ∈ gtb ∧ Cond.static arraycopyName ∈ gtb ∧ Cond.initialized "java/lang/System" ∈ gtb) (ha0 : isArr o k0 0 n0) (ha1 : isArr o k1 0 n1) (h1 : 0 ≤ sp) (h2 : 0 ≤ dp) (h3 : 0 ≤ nn) (h4 : sp.toNatClampNeg + nn.toNatClampNeg ≤ n0) (h5 : dp.toNatClampNeg + nn.toNatClampNeg ≤ n1)
    (hR : 1 ≤ R.frames ∧ (rest.map fun v => v.category).sum + (nativeFrameWords "java/lang/System" "arraycopy" 5 + 11) ≤ R.locals) (kk : Wk X o nL (sA st k1 (va_cpy (st.1 k0) (st.1 k1) sp.toNatClampNeg dp.toNatClampNeg nn.toNatClampNeg)) pc' lv rest) : Wk X o nL st pc lv (.int nn :: .int dp :: .ref (al o k1) :: .int sp :: .ref (al o k0) :: rest) := by
  subst hn
  intro H locs ls hP hS hl
  have hr := h.2.2.2.2.2.2.2.2.2.1
  exact va_copyi h.1 h.2.1 (h.2.2.1.trans hl.1.symm) h.2.2.2.1 (h.2.2.2.2.1 _ hm) (h.2.2.2.2.1 _ hw.1) (h.2.2.2.2.1 _ hw.2.1) (h.2.2.2.2.1 _ hw.2.2) h.2.2.2.2.2.1 hP (h.2.2.2.2.2.2.1 st) hS k0 k1 0 0 ((wd_get st ha0.1).trans (by rw [ha0.2])) ((wd_get st ha1.1).trans (by rw [ha1.2])) rfl rfl rfl (Int32.not_lt.mpr h1) (Int32.not_lt.mpr h2) (Int32.not_lt.mpr h3) h4 h5 (fun _ _ => rfl) (by rw [hr]; exact hR.1) (by rw [hr]; exact hR.2) hd (fun H1 locs1 hP1 _ hS1 => kk H1 locs1 ls (by rw [← k_seta ha1]; exact hP1) hS1 hl)
end KC
/-! the ends of a walk -/
theorem lf_i {a r : Int32} {b s' : St} (h : (some (a, b) : Option (Int32 × St)) = some (r, s')) : (some (Value.int a) : Option Value) = some (.int r) ∧ b = s' := by cases h; exact ⟨rfl, rfl⟩
theorem lf_l {a r : Int64} {b s' : St} (h : (some (a, b) : Option (Int64 × St)) = some (r, s')) : (some (Value.long a) : Option Value) = some (.long r) ∧ b = s' := by cases h; exact ⟨rfl, rfl⟩
theorem lf_v {b s' : St} (h : (some b : Option St) = some s') : (none : Option Value) = none ∧ b = s' := by cases h; exact ⟨rfl, rfl⟩
def isB (x : Int32) : Bool := decide (x = 0 ∨ x = 1)
theorem isB_or {x : Int32} (h : isB x = true) : x = 0 ∨ x = 1 := of_decide_eq_true h
def nz (x : Int32) : Bool := decide (¬ x = 0)
theorem nz_n {x : Int32} (h : nz x = true) : ¬ x = 0 := of_decide_eq_true h
def nzl (x : Int64) : Bool := decide (¬ x = 0)
theorem nzl_n {x : Int64} (h : nzl x = true) : ¬ x = 0 := of_decide_eq_true h
/-- arraycopy's guard -/
def cpg (sp dp n : Int32) (n0 n1 : Nat) : Bool := decide (0 ≤ sp) && decide (0 ≤ dp) && decide (0 ≤ n) && decide (sp.toNatClampNeg + n.toNatClampNeg ≤ n0) && decide (dp.toNatClampNeg + n.toNatClampNeg ≤ n1)
theorem cpg_all {sp dp n : Int32} {n0 n1 : Nat} (h : cpg sp dp n n0 n1 = true) : 0 ≤ sp ∧ 0 ≤ dp ∧ 0 ≤ n ∧ sp.toNatClampNeg + n.toNatClampNeg ≤ n0 ∧ dp.toNatClampNeg + n.toNatClampNeg ≤ n1 := by
  unfold cpg at h
  simp only [Bool.and_eq_true, decide_eq_true_eq] at h
  exact ⟨h.1.1.1.1, h.1.1.1.2, h.1.1.2, h.1.2, h.2⟩
/-- switch's default -/
theorem sw_ne {x k : Int32} {a : Int} (h : ¬ x = k) (hk : k.toInt = a) : x.toInt ≠ a := lv_neT h hk
end
section
/-! THE CLASS'S WORLD: 44 cells -/
def eC : EE := fun G k g t =>
  if k < 1 then .inr (5, [.ref (G.2.1 1), .ref (G.2.1 8), .ref (G.2.1 9), .ref (G.2.1 14), .ref (G.2.1 15), .ref (G.2.1 23), .ref (G.2.1 42), .ref (G.2.1 43), .int (g 8), .int (g 9), .long (t 0), .long (t 1)]) else
  if k < 2 then .inl (G.2.2.1 5, 6, .inr (.inr (.inr (.inr (fun j => some (G.2.1 (2 + j))))))) else
  if k < 8 then .inl (G.2.2.1 0, 40, .inl g) else
  if k < 9 then .inl (G.2.2.1 0, 6, .inl g) else
  if k < 10 then .inl (G.2.2.1 6, 4, .inr (.inr (.inr (.inr (fun j => some (G.2.1 (10 + j))))))) else
  if k < 14 then .inl (G.2.2.1 1, 60, .inl g) else
  if k < 15 then .inl (G.2.2.1 0, 4, .inl g) else
  if k < 16 then .inr (3, [.ref (G.2.1 16), .ref (G.2.1 33), .int (g 2), .int (g 3), .int (g 4)]) else
  if k < 17 then .inl (G.2.2.1 3, 6, .inr (.inr (.inr (.inr (fun j => some (G.2.1 (17 + j))))))) else
  if k < 23 then .inr (2, [.int (g 0), .int (g 1), .int (g 2), .int (g 3), .int (g 4), .int (g 5), .int (g 6), .int (g 7)]) else
  if k < 24 then .inl (G.2.2.1 4, 3, .inr (.inr (.inr (.inr (fun j => some (G.2.1 (24 + j))))))) else
  if k < 27 then .inr (0, [.ref (G.2.1 (k + 3)), .ref (G.2.1 (k + 6)), .int (g 2)]) else
  if k < 30 then .inl (G.2.2.1 0, 6, .inl g) else
  if k < 34 then .inr (4, [.ref (G.2.1 (k + 4)), .ref (G.2.1 (k + 8)), .int (g 2)]) else
  if k < 42 then .inl (G.2.2.1 0, 60, .inl g) else
  if k < 43 then .inr (1, [.int (g 0), .int (g 1), .int (g 2)]) else
  .inl (G.2.2.1 0, 6, .inl g)
def oC (G : GG) : OO := (eC, 44, G)
def fUs (o : OO) (g : Nat → Int32) (t : Nat → Int64) : List Value := [.ref (al o 1), .ref (al o 8), .ref (al o 9), .ref (al o 14), .ref (al o 15), .ref (al o 23), .ref (al o 42), .ref (al o 43), .int (g 8), .int (g 9), .long (t 0), .long (t 1)]
def fSh (o : OO) (g : Nat → Int32) (_ : Nat → Int64) : List Value := [.ref (al o 16), .ref (al o 33), .int (g 2), .int (g 3), .int (g 4)]
def fRe (g : Nat → Int32) (_ : Nat → Int64) : List Value := [.int (g 0), .int (g 1), .int (g 2), .int (g 3), .int (g 4), .int (g 5), .int (g 6), .int (g 7)]
def fKe (o : OO) (k : Nat) (g : Nat → Int32) (_ : Nat → Int64) : List Value := [.ref (al o (k + 3)), .ref (al o (k + 6)), .int (g 2)]
def fTu (o : OO) (k : Nat) (g : Nat → Int32) (_ : Nat → Int64) : List Value := [.ref (al o (k + 4)), .ref (al o (k + 8)), .int (g 2)]
def fLi (g : Nat → Int32) (_ : Nat → Int64) : List Value := [.int (g 0), .int (g 1), .int (g 2)]
theorem bC_us {G : GG} : isObj (oC G) 0 5 (fUs (oC G)) := ⟨Nat.le_of_ble_eq_true rfl, fun _ _ => rfl⟩
theorem rC_rows {G : GG} : isRef (oC G) 1 5 6 2 := ⟨Nat.le_of_ble_eq_true rfl, fun _ _ => rfl⟩
theorem aC_row {G : GG} {k : Nat} (h1 : 2 ≤ k) (h2 : k < 8) : isArr (oC G) k 0 40 := ⟨by show k < 44; omega, fun g t => by
  show eC G k g t = _
  unfold eC
  rw [if_neg (by omega : ¬ k < 1), if_neg (by omega : ¬ k < 2), if_pos h2]
  rfl⟩
theorem aC_rs {G : GG} : isArr (oC G) 8 0 6 := ⟨Nat.le_of_ble_eq_true rfl, fun _ _ => rfl⟩
theorem rC_texts {G : GG} : isRef (oC G) 9 6 4 10 := ⟨Nat.le_of_ble_eq_true rfl, fun _ _ => rfl⟩
theorem aC_text {G : GG} {k : Nat} (h1 : 10 ≤ k) (h2 : k < 14) : isArr (oC G) k 1 60 := ⟨by show k < 44; omega, fun g t => by
  show eC G k g t = _
  unfold eC
  rw [if_neg (by omega : ¬ k < 1), if_neg (by omega : ¬ k < 2), if_neg (by omega : ¬ k < 8), if_neg (by omega : ¬ k < 9), if_neg (by omega : ¬ k < 10), if_pos h2]
  rfl⟩
theorem aC_ts {G : GG} : isArr (oC G) 14 0 4 := ⟨Nat.le_of_ble_eq_true rfl, fun _ _ => rfl⟩
theorem bC_sh {G : GG} : isObj (oC G) 15 3 (fSh (oC G)) := ⟨Nat.le_of_ble_eq_true rfl, fun _ _ => rfl⟩
theorem rC_regs {G : GG} : isRef (oC G) 16 3 6 17 := ⟨Nat.le_of_ble_eq_true rfl, fun _ _ => rfl⟩
theorem bC_re {G : GG} {k : Nat} (h1 : 17 ≤ k) (h2 : k < 23) : isObj (oC G) k 2 fRe := ⟨by show k < 44; omega, fun g t => by
  show eC G k g t = _
  unfold eC
  rw [if_neg (by omega : ¬ k < 1), if_neg (by omega : ¬ k < 2), if_neg (by omega : ¬ k < 8), if_neg (by omega : ¬ k < 9), if_neg (by omega : ¬ k < 10), if_neg (by omega : ¬ k < 14), if_neg (by omega : ¬ k < 15), if_neg (by omega : ¬ k < 16), if_neg (by omega : ¬ k < 17), if_pos h2]
  rfl⟩
theorem rC_plc {G : GG} : isRef (oC G) 23 4 3 24 := ⟨Nat.le_of_ble_eq_true rfl, fun _ _ => rfl⟩
theorem bC_ke {G : GG} {k : Nat} (h1 : 24 ≤ k) (h2 : k < 27) : isObj (oC G) k 0 (fKe (oC G) k) := ⟨by show k < 44; omega, fun g t => by
  show eC G k g t = _
  unfold eC
  rw [if_neg (by omega : ¬ k < 1), if_neg (by omega : ¬ k < 2), if_neg (by omega : ¬ k < 8), if_neg (by omega : ¬ k < 9), if_neg (by omega : ¬ k < 10), if_neg (by omega : ¬ k < 14), if_neg (by omega : ¬ k < 15), if_neg (by omega : ¬ k < 16), if_neg (by omega : ¬ k < 17), if_neg (by omega : ¬ k < 23), if_neg (by omega : ¬ k < 24), if_pos h2]
  rfl⟩
theorem aC_oth {G : GG} {k : Nat} (h1 : 27 ≤ k) (h2 : k < 30) : isArr (oC G) k 0 6 := ⟨by show k < 44; omega, fun g t => by
  show eC G k g t = _
  unfold eC
  rw [if_neg (by omega : ¬ k < 1), if_neg (by omega : ¬ k < 2), if_neg (by omega : ¬ k < 8), if_neg (by omega : ¬ k < 9), if_neg (by omega : ¬ k < 10), if_neg (by omega : ¬ k < 14), if_neg (by omega : ¬ k < 15), if_neg (by omega : ¬ k < 16), if_neg (by omega : ¬ k < 17), if_neg (by omega : ¬ k < 23), if_neg (by omega : ¬ k < 24), if_neg (by omega : ¬ k < 27), if_pos h2]
  rfl⟩
theorem bC_tu {G : GG} {k : Nat} (h1 : 30 ≤ k) (h2 : k < 34) : isObj (oC G) k 4 (fTu (oC G) k) := ⟨by show k < 44; omega, fun g t => by
  show eC G k g t = _
  unfold eC
  rw [if_neg (by omega : ¬ k < 1), if_neg (by omega : ¬ k < 2), if_neg (by omega : ¬ k < 8), if_neg (by omega : ¬ k < 9), if_neg (by omega : ¬ k < 10), if_neg (by omega : ¬ k < 14), if_neg (by omega : ¬ k < 15), if_neg (by omega : ¬ k < 16), if_neg (by omega : ¬ k < 17), if_neg (by omega : ¬ k < 23), if_neg (by omega : ¬ k < 24), if_neg (by omega : ¬ k < 27), if_neg (by omega : ¬ k < 30), if_pos h2]
  rfl⟩
theorem aC_wl {G : GG} {k : Nat} (h1 : 34 ≤ k) (h2 : k < 42) : isArr (oC G) k 0 60 := ⟨by show k < 44; omega, fun g t => by
  show eC G k g t = _
  unfold eC
  rw [if_neg (by omega : ¬ k < 1), if_neg (by omega : ¬ k < 2), if_neg (by omega : ¬ k < 8), if_neg (by omega : ¬ k < 9), if_neg (by omega : ¬ k < 10), if_neg (by omega : ¬ k < 14), if_neg (by omega : ¬ k < 15), if_neg (by omega : ¬ k < 16), if_neg (by omega : ¬ k < 17), if_neg (by omega : ¬ k < 23), if_neg (by omega : ¬ k < 24), if_neg (by omega : ¬ k < 27), if_neg (by omega : ¬ k < 30), if_neg (by omega : ¬ k < 34), if_pos h2]
  rfl⟩
theorem bC_li {G : GG} : isObj (oC G) 42 1 fLi := ⟨Nat.le_of_ble_eq_true rfl, fun _ _ => rfl⟩
theorem aC_fc {G : GG} : isArr (oC G) 43 0 6 := ⟨Nat.le_of_ble_eq_true rfl, fun _ _ => rfl⟩
theorem nC {G : GG} : noL (oC G) := by
  intro i g t t' hi
  show eC G i g t = eC G i g t'
  unfold eC
  rw [if_neg (by omega : ¬ i < 1), if_neg (by omega : ¬ i < 1)]
/-! THE REFERENCE'S WORLD: 22 cells -/
def eM : EE := fun G k g t =>
  if k < 1 then .inr (6, [.int (g 0), .ref (G.2.1 1), .int (g 2), .long (t 0), .long (t 1), .ref (G.2.1 2), .ref (G.2.1 3), .ref (G.2.1 4), .ref (G.2.1 5), .ref (G.2.1 6), .int (g 10), .ref (G.2.1 7), .ref (G.2.1 8), .ref (G.2.1 9), .ref (G.2.1 10), .ref (G.2.1 11), .ref (G.2.1 12), .int (g 17), .int (g 18), .ref (G.2.1 13), .ref (G.2.1 14), .int (g 21), .ref (G.2.1 15), .ref (G.2.1 16), .ref (G.2.1 17), .ref (G.2.1 18), .ref (G.2.1 19), .ref (G.2.1 20), .int (g 28), .int (g 29), .int (g 30), .ref (G.2.1 21), .long (t 2)]) else
  if k < 2 then .inl (G.2.2.1 0, 6, .inl g) else
  if k < 3 then .inl (G.2.2.1 0, 6, .inl g) else
  if k < 4 then .inl (G.2.2.1 0, 240, .inl g) else
  if k < 5 then .inl (G.2.2.1 0, 40, .inl g) else
  if k < 6 then .inl (G.2.2.1 0, 4, .inl g) else
  if k < 7 then .inl (G.2.2.1 1, 240, .inl g) else
  if k < 8 then .inl (G.2.2.1 0, 6, .inl g) else
  if k < 9 then .inl (G.2.2.1 0, 6, .inl g) else
  if k < 10 then .inl (G.2.2.1 0, 6, .inl g) else
  if k < 11 then .inl (G.2.2.1 0, 6, .inl g) else
  if k < 12 then .inl (G.2.2.1 0, 6, .inl g) else
  if k < 13 then .inl (G.2.2.1 0, 6, .inl g) else
  if k < 14 then .inl (G.2.2.1 0, 36, .inl g) else
  if k < 15 then .inl (G.2.2.1 0, 14, .inl g) else
  if k < 16 then .inl (G.2.2.1 0, 840, .inl g) else
  if k < 17 then .inl (G.2.2.1 2, 3, .inl g) else
  if k < 18 then .inl (G.2.2.1 0, 3, .inl g) else
  if k < 19 then .inl (G.2.2.1 0, 18, .inl g) else
  if k < 20 then .inl (G.2.2.1 0, 42, .inl g) else
  if k < 21 then .inl (G.2.2.1 0, 2520, .inl g) else
  .inl (G.2.2.1 0, 6, .inl g)
def oM (G : GG) : OO := (eM, 22, G)
def fMo (o : OO) (g : Nat → Int32) (t : Nat → Int64) : List Value := [.int (g 0), .ref (al o 1), .int (g 2), .long (t 0), .long (t 1), .ref (al o 2), .ref (al o 3), .ref (al o 4), .ref (al o 5), .ref (al o 6), .int (g 10), .ref (al o 7), .ref (al o 8), .ref (al o 9), .ref (al o 10), .ref (al o 11), .ref (al o 12), .int (g 17), .int (g 18), .ref (al o 13), .ref (al o 14), .int (g 21), .ref (al o 15), .ref (al o 16), .ref (al o 17), .ref (al o 18), .ref (al o 19), .ref (al o 20), .int (g 28), .int (g 29), .int (g 30), .ref (al o 21), .long (t 2)]
theorem bM_mo {G : GG} : isObj (oM G) 0 6 (fMo (oM G)) := ⟨Nat.le_of_ble_eq_true rfl, fun _ _ => rfl⟩
theorem aM_1 {G : GG} : isArr (oM G) 1 0 6 := ⟨Nat.le_of_ble_eq_true rfl, fun _ _ => rfl⟩
theorem aM_2 {G : GG} : isArr (oM G) 2 0 6 := ⟨Nat.le_of_ble_eq_true rfl, fun _ _ => rfl⟩
theorem aM_3 {G : GG} : isArr (oM G) 3 0 240 := ⟨Nat.le_of_ble_eq_true rfl, fun _ _ => rfl⟩
theorem aM_4 {G : GG} : isArr (oM G) 4 0 40 := ⟨Nat.le_of_ble_eq_true rfl, fun _ _ => rfl⟩
theorem aM_5 {G : GG} : isArr (oM G) 5 0 4 := ⟨Nat.le_of_ble_eq_true rfl, fun _ _ => rfl⟩
theorem aM_6 {G : GG} : isArr (oM G) 6 1 240 := ⟨Nat.le_of_ble_eq_true rfl, fun _ _ => rfl⟩
theorem aM_7 {G : GG} : isArr (oM G) 7 0 6 := ⟨Nat.le_of_ble_eq_true rfl, fun _ _ => rfl⟩
theorem aM_8 {G : GG} : isArr (oM G) 8 0 6 := ⟨Nat.le_of_ble_eq_true rfl, fun _ _ => rfl⟩
theorem aM_9 {G : GG} : isArr (oM G) 9 0 6 := ⟨Nat.le_of_ble_eq_true rfl, fun _ _ => rfl⟩
theorem aM_10 {G : GG} : isArr (oM G) 10 0 6 := ⟨Nat.le_of_ble_eq_true rfl, fun _ _ => rfl⟩
theorem aM_11 {G : GG} : isArr (oM G) 11 0 6 := ⟨Nat.le_of_ble_eq_true rfl, fun _ _ => rfl⟩
theorem aM_12 {G : GG} : isArr (oM G) 12 0 6 := ⟨Nat.le_of_ble_eq_true rfl, fun _ _ => rfl⟩
theorem aM_13 {G : GG} : isArr (oM G) 13 0 36 := ⟨Nat.le_of_ble_eq_true rfl, fun _ _ => rfl⟩
theorem aM_14 {G : GG} : isArr (oM G) 14 0 14 := ⟨Nat.le_of_ble_eq_true rfl, fun _ _ => rfl⟩
theorem aM_15 {G : GG} : isArr (oM G) 15 0 840 := ⟨Nat.le_of_ble_eq_true rfl, fun _ _ => rfl⟩
theorem aM_16 {G : GG} : isArr (oM G) 16 2 3 := ⟨Nat.le_of_ble_eq_true rfl, fun _ _ => rfl⟩
theorem aM_17 {G : GG} : isArr (oM G) 17 0 3 := ⟨Nat.le_of_ble_eq_true rfl, fun _ _ => rfl⟩
theorem aM_18 {G : GG} : isArr (oM G) 18 0 18 := ⟨Nat.le_of_ble_eq_true rfl, fun _ _ => rfl⟩
theorem aM_19 {G : GG} : isArr (oM G) 19 0 42 := ⟨Nat.le_of_ble_eq_true rfl, fun _ _ => rfl⟩
theorem aM_20 {G : GG} : isArr (oM G) 20 0 2520 := ⟨Nat.le_of_ble_eq_true rfl, fun _ _ => rfl⟩
theorem aM_21 {G : GG} : isArr (oM G) 21 0 6 := ⟨Nat.le_of_ble_eq_true rfl, fun _ _ => rfl⟩
theorem nM {G : GG} : noL (oM G) := by
  intro i g t t' hi
  show eM G i g t = eM G i g t'
  unfold eM
  rw [if_neg (by omega : ¬ i < 1), if_neg (by omega : ¬ i < 1)]
theorem sf_us_8 {o : OO} : ∀ g t v, fUs o (upd g 8 v) t = (fUs o g t).set 8 (.int v) := fun _ _ _ => rfl
theorem sj_us_8 {o : OO} : ∀ g t, 8 < (fUs o g t).length := fun _ _ => Nat.le_of_ble_eq_true rfl
theorem sf_us_9 {o : OO} : ∀ g t v, fUs o (upd g 9 v) t = (fUs o g t).set 9 (.int v) := fun _ _ _ => rfl
theorem sj_us_9 {o : OO} : ∀ g t, 9 < (fUs o g t).length := fun _ _ => Nat.le_of_ble_eq_true rfl
theorem sl_us_10 {o : OO} : ∀ g t v, fUs o g (vp_updL t 0 v) = (fUs o g t).set 10 (.long v) := fun _ _ _ => rfl
theorem sj_us_10 {o : OO} : ∀ g t, 10 < (fUs o g t).length := fun _ _ => Nat.le_of_ble_eq_true rfl
theorem sl_us_11 {o : OO} : ∀ g t v, fUs o g (vp_updL t 1 v) = (fUs o g t).set 11 (.long v) := fun _ _ _ => rfl
theorem sj_us_11 {o : OO} : ∀ g t, 11 < (fUs o g t).length := fun _ _ => Nat.le_of_ble_eq_true rfl
theorem sf_sh_2 {o : OO} : ∀ g t v, fSh o (upd g 2 v) t = (fSh o g t).set 2 (.int v) := fun _ _ _ => rfl
theorem sj_sh_2 {o : OO} : ∀ g t, 2 < (fSh o g t).length := fun _ _ => Nat.le_of_ble_eq_true rfl
theorem sf_sh_3 {o : OO} : ∀ g t v, fSh o (upd g 3 v) t = (fSh o g t).set 3 (.int v) := fun _ _ _ => rfl
theorem sj_sh_3 {o : OO} : ∀ g t, 3 < (fSh o g t).length := fun _ _ => Nat.le_of_ble_eq_true rfl
theorem sf_sh_4 {o : OO} : ∀ g t v, fSh o (upd g 4 v) t = (fSh o g t).set 4 (.int v) := fun _ _ _ => rfl
theorem sj_sh_4 {o : OO} : ∀ g t, 4 < (fSh o g t).length := fun _ _ => Nat.le_of_ble_eq_true rfl
theorem sf_re_0  : ∀ g t v, fRe (upd g 0 v) t = (fRe g t).set 0 (.int v) := fun _ _ _ => rfl
theorem sj_re_0  : ∀ g t, 0 < (fRe g t).length := fun _ _ => Nat.le_of_ble_eq_true rfl
theorem sf_re_1  : ∀ g t v, fRe (upd g 1 v) t = (fRe g t).set 1 (.int v) := fun _ _ _ => rfl
theorem sj_re_1  : ∀ g t, 1 < (fRe g t).length := fun _ _ => Nat.le_of_ble_eq_true rfl
theorem sf_re_2  : ∀ g t v, fRe (upd g 2 v) t = (fRe g t).set 2 (.int v) := fun _ _ _ => rfl
theorem sj_re_2  : ∀ g t, 2 < (fRe g t).length := fun _ _ => Nat.le_of_ble_eq_true rfl
theorem sf_re_3  : ∀ g t v, fRe (upd g 3 v) t = (fRe g t).set 3 (.int v) := fun _ _ _ => rfl
theorem sj_re_3  : ∀ g t, 3 < (fRe g t).length := fun _ _ => Nat.le_of_ble_eq_true rfl
theorem sf_re_4  : ∀ g t v, fRe (upd g 4 v) t = (fRe g t).set 4 (.int v) := fun _ _ _ => rfl
theorem sj_re_4  : ∀ g t, 4 < (fRe g t).length := fun _ _ => Nat.le_of_ble_eq_true rfl
theorem sf_re_5  : ∀ g t v, fRe (upd g 5 v) t = (fRe g t).set 5 (.int v) := fun _ _ _ => rfl
theorem sj_re_5  : ∀ g t, 5 < (fRe g t).length := fun _ _ => Nat.le_of_ble_eq_true rfl
theorem sf_re_6  : ∀ g t v, fRe (upd g 6 v) t = (fRe g t).set 6 (.int v) := fun _ _ _ => rfl
theorem sj_re_6  : ∀ g t, 6 < (fRe g t).length := fun _ _ => Nat.le_of_ble_eq_true rfl
theorem sf_re_7  : ∀ g t v, fRe (upd g 7 v) t = (fRe g t).set 7 (.int v) := fun _ _ _ => rfl
theorem sj_re_7  : ∀ g t, 7 < (fRe g t).length := fun _ _ => Nat.le_of_ble_eq_true rfl
theorem sf_ke_2 {o : OO} {k : Nat} : ∀ g t v, fKe o k (upd g 2 v) t = (fKe o k g t).set 2 (.int v) := fun _ _ _ => rfl
theorem sj_ke_2 {o : OO} {k : Nat} : ∀ g t, 2 < (fKe o k g t).length := fun _ _ => Nat.le_of_ble_eq_true rfl
theorem sf_tu_2 {o : OO} {k : Nat} : ∀ g t v, fTu o k (upd g 2 v) t = (fTu o k g t).set 2 (.int v) := fun _ _ _ => rfl
theorem sj_tu_2 {o : OO} {k : Nat} : ∀ g t, 2 < (fTu o k g t).length := fun _ _ => Nat.le_of_ble_eq_true rfl
theorem sf_li_0  : ∀ g t v, fLi (upd g 0 v) t = (fLi g t).set 0 (.int v) := fun _ _ _ => rfl
theorem sj_li_0  : ∀ g t, 0 < (fLi g t).length := fun _ _ => Nat.le_of_ble_eq_true rfl
theorem sf_li_1  : ∀ g t v, fLi (upd g 1 v) t = (fLi g t).set 1 (.int v) := fun _ _ _ => rfl
theorem sj_li_1  : ∀ g t, 1 < (fLi g t).length := fun _ _ => Nat.le_of_ble_eq_true rfl
theorem sf_li_2  : ∀ g t v, fLi (upd g 2 v) t = (fLi g t).set 2 (.int v) := fun _ _ _ => rfl
theorem sj_li_2  : ∀ g t, 2 < (fLi g t).length := fun _ _ => Nat.le_of_ble_eq_true rfl
theorem sf_mo_0 {o : OO} : ∀ g t v, fMo o (upd g 0 v) t = (fMo o g t).set 0 (.int v) := fun _ _ _ => rfl
theorem sj_mo_0 {o : OO} : ∀ g t, 0 < (fMo o g t).length := fun _ _ => Nat.le_of_ble_eq_true rfl
theorem sf_mo_2 {o : OO} : ∀ g t v, fMo o (upd g 2 v) t = (fMo o g t).set 2 (.int v) := fun _ _ _ => rfl
theorem sj_mo_2 {o : OO} : ∀ g t, 2 < (fMo o g t).length := fun _ _ => Nat.le_of_ble_eq_true rfl
theorem sf_mo_10 {o : OO} : ∀ g t v, fMo o (upd g 10 v) t = (fMo o g t).set 10 (.int v) := fun _ _ _ => rfl
theorem sj_mo_10 {o : OO} : ∀ g t, 10 < (fMo o g t).length := fun _ _ => Nat.le_of_ble_eq_true rfl
theorem sf_mo_17 {o : OO} : ∀ g t v, fMo o (upd g 17 v) t = (fMo o g t).set 17 (.int v) := fun _ _ _ => rfl
theorem sj_mo_17 {o : OO} : ∀ g t, 17 < (fMo o g t).length := fun _ _ => Nat.le_of_ble_eq_true rfl
theorem sf_mo_18 {o : OO} : ∀ g t v, fMo o (upd g 18 v) t = (fMo o g t).set 18 (.int v) := fun _ _ _ => rfl
theorem sj_mo_18 {o : OO} : ∀ g t, 18 < (fMo o g t).length := fun _ _ => Nat.le_of_ble_eq_true rfl
theorem sf_mo_21 {o : OO} : ∀ g t v, fMo o (upd g 21 v) t = (fMo o g t).set 21 (.int v) := fun _ _ _ => rfl
theorem sj_mo_21 {o : OO} : ∀ g t, 21 < (fMo o g t).length := fun _ _ => Nat.le_of_ble_eq_true rfl
theorem sf_mo_28 {o : OO} : ∀ g t v, fMo o (upd g 28 v) t = (fMo o g t).set 28 (.int v) := fun _ _ _ => rfl
theorem sj_mo_28 {o : OO} : ∀ g t, 28 < (fMo o g t).length := fun _ _ => Nat.le_of_ble_eq_true rfl
theorem sf_mo_29 {o : OO} : ∀ g t v, fMo o (upd g 29 v) t = (fMo o g t).set 29 (.int v) := fun _ _ _ => rfl
theorem sj_mo_29 {o : OO} : ∀ g t, 29 < (fMo o g t).length := fun _ _ => Nat.le_of_ble_eq_true rfl
theorem sf_mo_30 {o : OO} : ∀ g t v, fMo o (upd g 30 v) t = (fMo o g t).set 30 (.int v) := fun _ _ _ => rfl
theorem sj_mo_30 {o : OO} : ∀ g t, 30 < (fMo o g t).length := fun _ _ => Nat.le_of_ble_eq_true rfl
theorem sl_mo_3 {o : OO} : ∀ g t v, fMo o g (vp_updL t 0 v) = (fMo o g t).set 3 (.long v) := fun _ _ _ => rfl
theorem sj_mo_3 {o : OO} : ∀ g t, 3 < (fMo o g t).length := fun _ _ => Nat.le_of_ble_eq_true rfl
theorem sl_mo_4 {o : OO} : ∀ g t v, fMo o g (vp_updL t 1 v) = (fMo o g t).set 4 (.long v) := fun _ _ _ => rfl
theorem sj_mo_4 {o : OO} : ∀ g t, 4 < (fMo o g t).length := fun _ _ => Nat.le_of_ble_eq_true rfl
theorem sl_mo_32 {o : OO} : ∀ g t v, fMo o g (vp_updL t 2 v) = (fMo o g t).set 32 (.long v) := fun _ _ _ => rfl
theorem sj_mo_32 {o : OO} : ∀ g t, 32 < (fMo o g t).length := fun _ _ => Nat.le_of_ble_eq_true rfl
end
