section
-- ===== PART A: goes FIRST, ahead of the names: the tables' words, and 'selects' of the private methods out of them =====
/-- a private method of a class that the tables say can be made, by its rows of tables_1 -/
def lw_okq (q : MethodName × Nat) : Prop := (q.1.cls ≠ "java/lang/invoke/MethodHandle" ∧ q.1.cls ≠ "java/lang/invoke/VarHandle") ∧ Cond.instantiable q.1.cls q.2 ∈ tables_1 ∧ Cond.privateMethod q.1 ∈ tables_1 ∧ Cond.instanceMethod q.1 ∈ tables_1
theorem lw_p0 : lw_okq (⟨"BanksDealt$Tape", "readWordOrNumber", "()V"⟩, 12) := ⟨⟨by decide +kernel, by decide +kernel⟩, List.mem_of_getElem? (i := 34) (by decide +kernel), List.mem_of_getElem? (i := 613) (by decide +kernel), List.mem_of_getElem? (i := 614) (by decide +kernel)⟩
theorem lw_p1 : lw_okq (⟨"BanksDealt$PlainReader", "readLine", "(LBanksDealt$Tape;LBanksDealt$Plain;)Z"⟩, 4) := ⟨⟨by decide +kernel, by decide +kernel⟩, List.mem_of_getElem? (i := 307) (by decide +kernel), List.mem_of_getElem? (i := 623) (by decide +kernel), List.mem_of_getElem? (i := 624) (by decide +kernel)⟩
theorem lw_p2 : lw_okq (⟨"BanksDealt$PlainReader", "readSize", "(LBanksDealt$Tape;LBanksDealt$Plain;)Z"⟩, 4) := ⟨⟨by decide +kernel, by decide +kernel⟩, List.mem_of_getElem? (i := 307) (by decide +kernel), List.mem_of_getElem? (i := 627) (by decide +kernel), List.mem_of_getElem? (i := 628) (by decide +kernel)⟩
theorem lw_p3 : lw_okq (⟨"BanksDealt$PlainReader", "isFirst", "(I)Z"⟩, 4) := ⟨⟨by decide +kernel, by decide +kernel⟩, List.mem_of_getElem? (i := 307) (by decide +kernel), List.mem_of_getElem? (i := 631) (by decide +kernel), List.mem_of_getElem? (i := 632) (by decide +kernel)⟩
theorem lw_p4 : lw_okq (⟨"BanksDealt$PlainReader", "readLand", "(LBanksDealt$Tape;LBanksDealt$Plain;)Z"⟩, 4) := ⟨⟨by decide +kernel, by decide +kernel⟩, List.mem_of_getElem? (i := 307) (by decide +kernel), List.mem_of_getElem? (i := 644) (by decide +kernel), List.mem_of_getElem? (i := 645) (by decide +kernel)⟩
theorem lw_p5 : lw_okq (⟨"BanksDealt$PlainReader", "readCell", "(LBanksDealt$Tape;LBanksDealt$Plain;)I"⟩, 4) := ⟨⟨by decide +kernel, by decide +kernel⟩, List.mem_of_getElem? (i := 307) (by decide +kernel), List.mem_of_getElem? (i := 648) (by decide +kernel), List.mem_of_getElem? (i := 649) (by decide +kernel)⟩
theorem lw_p6 : lw_okq (⟨"BanksDealt$PlainReader", "readSource", "(LBanksDealt$Tape;LBanksDealt$Plain;)Z"⟩, 4) := ⟨⟨by decide +kernel, by decide +kernel⟩, List.mem_of_getElem? (i := 307) (by decide +kernel), List.mem_of_getElem? (i := 656) (by decide +kernel), List.mem_of_getElem? (i := 657) (by decide +kernel)⟩
theorem lw_p7 : lw_okq (⟨"BanksDealt$PlainReader", "readField", "(LBanksDealt$Tape;LBanksDealt$Plain;)Z"⟩, 4) := ⟨⟨by decide +kernel, by decide +kernel⟩, List.mem_of_getElem? (i := 307) (by decide +kernel), List.mem_of_getElem? (i := 660) (by decide +kernel), List.mem_of_getElem? (i := 661) (by decide +kernel)⟩
theorem lw_p8 : lw_okq (⟨"BanksDealt$PlainReader", "readNewName", "(LBanksDealt$Tape;LBanksDealt$Plain;)Z"⟩, 4) := ⟨⟨by decide +kernel, by decide +kernel⟩, List.mem_of_getElem? (i := 307) (by decide +kernel), List.mem_of_getElem? (i := 664) (by decide +kernel), List.mem_of_getElem? (i := 665) (by decide +kernel)⟩
theorem lw_p9 : lw_okq (⟨"BanksDealt$PlainReader", "readMill", "(LBanksDealt$Tape;LBanksDealt$Plain;)Z"⟩, 4) := ⟨⟨by decide +kernel, by decide +kernel⟩, List.mem_of_getElem? (i := 307) (by decide +kernel), List.mem_of_getElem? (i := 677) (by decide +kernel), List.mem_of_getElem? (i := 678) (by decide +kernel)⟩
theorem lw_p10 : lw_okq (⟨"BanksDealt$PlainReader", "readPurse", "(LBanksDealt$Tape;LBanksDealt$Plain;)Z"⟩, 4) := ⟨⟨by decide +kernel, by decide +kernel⟩, List.mem_of_getElem? (i := 307) (by decide +kernel), List.mem_of_getElem? (i := 681) (by decide +kernel), List.mem_of_getElem? (i := 682) (by decide +kernel)⟩
theorem lw_p11 : lw_okq (⟨"BanksDealt$PlainReader", "readIce", "(LBanksDealt$Tape;LBanksDealt$Plain;)Z"⟩, 4) := ⟨⟨by decide +kernel, by decide +kernel⟩, List.mem_of_getElem? (i := 307) (by decide +kernel), List.mem_of_getElem? (i := 689) (by decide +kernel), List.mem_of_getElem? (i := 690) (by decide +kernel)⟩
theorem lw_p12 : lw_okq (⟨"BanksDealt", "emptyTape", "()V"⟩, 17) := ⟨⟨by decide +kernel, by decide +kernel⟩, List.mem_of_getElem? (i := 26) (by decide +kernel), List.mem_of_getElem? (i := 697) (by decide +kernel), List.mem_of_getElem? (i := 698) (by decide +kernel)⟩
theorem lw_p13 : lw_okq (⟨"BanksDealt$River", "leastBelow", "(LBanksDealt$Plain;I)I"⟩, 6) := ⟨⟨by decide +kernel, by decide +kernel⟩, List.mem_of_getElem? (i := 276) (by decide +kernel), List.mem_of_getElem? (i := 726) (by decide +kernel), List.mem_of_getElem? (i := 727) (by decide +kernel)⟩
theorem lw_p14 : lw_okq (⟨"BanksDealt", "isRow", "(I)Z"⟩, 17) := ⟨⟨by decide +kernel, by decide +kernel⟩, List.mem_of_getElem? (i := 26) (by decide +kernel), List.mem_of_getElem? (i := 762) (by decide +kernel), List.mem_of_getElem? (i := 763) (by decide +kernel)⟩
theorem lw_p15 : lw_okq (⟨"BanksDealt", "workBy", "(IIII)I"⟩, 17) := ⟨⟨by decide +kernel, by decide +kernel⟩, List.mem_of_getElem? (i := 26) (by decide +kernel), List.mem_of_getElem? (i := 802) (by decide +kernel), List.mem_of_getElem? (i := 803) (by decide +kernel)⟩
def lw_privs_1 : List (MethodName × Nat) := [(⟨"BanksDealt$Tape", "readWordOrNumber", "()V"⟩, 12), (⟨"BanksDealt$PlainReader", "readLine", "(LBanksDealt$Tape;LBanksDealt$Plain;)Z"⟩, 4), (⟨"BanksDealt$PlainReader", "readSize", "(LBanksDealt$Tape;LBanksDealt$Plain;)Z"⟩, 4), (⟨"BanksDealt$PlainReader", "isFirst", "(I)Z"⟩, 4), (⟨"BanksDealt$PlainReader", "readLand", "(LBanksDealt$Tape;LBanksDealt$Plain;)Z"⟩, 4), (⟨"BanksDealt$PlainReader", "readCell", "(LBanksDealt$Tape;LBanksDealt$Plain;)I"⟩, 4), (⟨"BanksDealt$PlainReader", "readSource", "(LBanksDealt$Tape;LBanksDealt$Plain;)Z"⟩, 4), (⟨"BanksDealt$PlainReader", "readField", "(LBanksDealt$Tape;LBanksDealt$Plain;)Z"⟩, 4), (⟨"BanksDealt$PlainReader", "readNewName", "(LBanksDealt$Tape;LBanksDealt$Plain;)Z"⟩, 4), (⟨"BanksDealt$PlainReader", "readMill", "(LBanksDealt$Tape;LBanksDealt$Plain;)Z"⟩, 4), (⟨"BanksDealt$PlainReader", "readPurse", "(LBanksDealt$Tape;LBanksDealt$Plain;)Z"⟩, 4), (⟨"BanksDealt$PlainReader", "readIce", "(LBanksDealt$Tape;LBanksDealt$Plain;)Z"⟩, 4), (⟨"BanksDealt", "emptyTape", "()V"⟩, 17), (⟨"BanksDealt$River", "leastBelow", "(LBanksDealt$Plain;I)I"⟩, 6), (⟨"BanksDealt", "isRow", "(I)Z"⟩, 17), (⟨"BanksDealt", "workBy", "(IIII)I"⟩, 17)]
theorem lw_r1 : ∀ q ∈ lw_privs_1, lw_okq q := List.forall_mem_cons.mpr ⟨lw_p0, List.forall_mem_cons.mpr ⟨lw_p1, List.forall_mem_cons.mpr ⟨lw_p2, List.forall_mem_cons.mpr ⟨lw_p3, List.forall_mem_cons.mpr ⟨lw_p4, List.forall_mem_cons.mpr ⟨lw_p5, List.forall_mem_cons.mpr ⟨lw_p6, List.forall_mem_cons.mpr ⟨lw_p7, List.forall_mem_cons.mpr ⟨lw_p8, List.forall_mem_cons.mpr ⟨lw_p9, List.forall_mem_cons.mpr ⟨lw_p10, List.forall_mem_cons.mpr ⟨lw_p11, List.forall_mem_cons.mpr ⟨lw_p12, List.forall_mem_cons.mpr ⟨lw_p13, List.forall_mem_cons.mpr ⟨lw_p14, List.forall_mem_cons.mpr ⟨lw_p15, fun _ h => absurd h List.not_mem_nil⟩⟩⟩⟩⟩⟩⟩⟩⟩⟩⟩⟩⟩⟩⟩⟩
theorem lw_p16 : lw_okq (⟨"BanksDealt$River", "draw", "(I)I"⟩, 6) := ⟨⟨by decide +kernel, by decide +kernel⟩, List.mem_of_getElem? (i := 276) (by decide +kernel), List.mem_of_getElem? (i := 851) (by decide +kernel), List.mem_of_getElem? (i := 852) (by decide +kernel)⟩
theorem lw_p17 : lw_okq (⟨"BanksDealt", "isField", "(I)Z"⟩, 17) := ⟨⟨by decide +kernel, by decide +kernel⟩, List.mem_of_getElem? (i := 26) (by decide +kernel), List.mem_of_getElem? (i := 900) (by decide +kernel), List.mem_of_getElem? (i := 901) (by decide +kernel)⟩
theorem lw_p18 : lw_okq (⟨"BanksDealt$Plans", "listWorks", "(LBanksDealt$Plain;III)V"⟩, 14) := ⟨⟨by decide +kernel, by decide +kernel⟩, List.mem_of_getElem? (i := 379) (by decide +kernel), List.mem_of_getElem? (i := 909) (by decide +kernel), List.mem_of_getElem? (i := 910) (by decide +kernel)⟩
theorem lw_p19 : lw_okq (⟨"BanksDealt$Plans", "may", "(LBanksDealt$Plain;II)Z"⟩, 14) := ⟨⟨by decide +kernel, by decide +kernel⟩, List.mem_of_getElem? (i := 379) (by decide +kernel), List.mem_of_getElem? (i := 913) (by decide +kernel), List.mem_of_getElem? (i := 914) (by decide +kernel)⟩
theorem lw_p20 : lw_okq (⟨"BanksDealt$Plans", "tempts", "(LBanksDealt$Plain;III)Z"⟩, 14) := ⟨⟨by decide +kernel, by decide +kernel⟩, List.mem_of_getElem? (i := 379) (by decide +kernel), List.mem_of_getElem? (i := 919) (by decide +kernel), List.mem_of_getElem? (i := 920) (by decide +kernel)⟩
theorem lw_p21 : lw_okq (⟨"BanksDealt$Plans", "apply", "(I)V"⟩, 14) := ⟨⟨by decide +kernel, by decide +kernel⟩, List.mem_of_getElem? (i := 379) (by decide +kernel), List.mem_of_getElem? (i := 924) (by decide +kernel), List.mem_of_getElem? (i := 925) (by decide +kernel)⟩
theorem lw_p22 : lw_okq (⟨"BanksDealt$Plans", "takeBack", "(I)V"⟩, 14) := ⟨⟨by decide +kernel, by decide +kernel⟩, List.mem_of_getElem? (i := 379) (by decide +kernel), List.mem_of_getElem? (i := 928) (by decide +kernel), List.mem_of_getElem? (i := 929) (by decide +kernel)⟩
theorem lw_p23 : lw_okq (⟨"BanksDealt$Plans", "weigh", "(LBanksDealt$Plain;III)V"⟩, 14) := ⟨⟨by decide +kernel, by decide +kernel⟩, List.mem_of_getElem? (i := 379) (by decide +kernel), List.mem_of_getElem? (i := 949) (by decide +kernel), List.mem_of_getElem? (i := 950) (by decide +kernel)⟩
theorem lw_p24 : lw_okq (⟨"BanksDealt$Bygone", "readPairs", "(LBanksDealt$Tape;LBanksDealt$Plain;)Z"⟩, 7) := ⟨⟨by decide +kernel, by decide +kernel⟩, List.mem_of_getElem? (i := 436) (by decide +kernel), List.mem_of_getElem? (i := 977) (by decide +kernel), List.mem_of_getElem? (i := 978) (by decide +kernel)⟩
theorem lw_p25 : lw_okq (⟨"BanksDealt$Bygone", "countBeds", "(LBanksDealt$Plain;)I"⟩, 7) := ⟨⟨by decide +kernel, by decide +kernel⟩, List.mem_of_getElem? (i := 436) (by decide +kernel), List.mem_of_getElem? (i := 983) (by decide +kernel), List.mem_of_getElem? (i := 984) (by decide +kernel)⟩
theorem lw_p26 : lw_okq (⟨"BanksDealt$Bygone", "waysOn", "(LBanksDealt$Plain;II)I"⟩, 7) := ⟨⟨by decide +kernel, by decide +kernel⟩, List.mem_of_getElem? (i := 436) (by decide +kernel), List.mem_of_getElem? (i := 987) (by decide +kernel), List.mem_of_getElem? (i := 988) (by decide +kernel)⟩
theorem lw_p27 : lw_okq (⟨"BanksDealt$Bygone", "keepFirst", "(LBanksDealt$Plain;)V"⟩, 7) := ⟨⟨by decide +kernel, by decide +kernel⟩, List.mem_of_getElem? (i := 436) (by decide +kernel), List.mem_of_getElem? (i := 991) (by decide +kernel), List.mem_of_getElem? (i := 992) (by decide +kernel)⟩
theorem lw_p28 : lw_okq (⟨"BanksDealt$Bygone", "keepSure", "(LBanksDealt$Plain;)V"⟩, 7) := ⟨⟨by decide +kernel, by decide +kernel⟩, List.mem_of_getElem? (i := 436) (by decide +kernel), List.mem_of_getElem? (i := 995) (by decide +kernel), List.mem_of_getElem? (i := 996) (by decide +kernel)⟩
theorem lw_p29 : lw_okq (⟨"BanksDealt$Bygone", "isReached", "(LBanksDealt$Plain;II)Z"⟩, 7) := ⟨⟨by decide +kernel, by decide +kernel⟩, List.mem_of_getElem? (i := 436) (by decide +kernel), List.mem_of_getElem? (i := 999) (by decide +kernel), List.mem_of_getElem? (i := 1000) (by decide +kernel)⟩
theorem lw_p30 : lw_okq (⟨"BanksDealt$Deed", "putName", "(J)V"⟩, 2) := ⟨⟨by decide +kernel, by decide +kernel⟩, List.mem_of_getElem? (i := 468) (by decide +kernel), List.mem_of_getElem? (i := 1028) (by decide +kernel), List.mem_of_getElem? (i := 1029) (by decide +kernel)⟩
theorem lw_p31 : lw_okq (⟨"BanksDealt$Deed", "put", "(I)V"⟩, 2) := ⟨⟨by decide +kernel, by decide +kernel⟩, List.mem_of_getElem? (i := 468) (by decide +kernel), List.mem_of_getElem? (i := 1033) (by decide +kernel), List.mem_of_getElem? (i := 1034) (by decide +kernel)⟩
def lw_privs_2 : List (MethodName × Nat) := [(⟨"BanksDealt$River", "draw", "(I)I"⟩, 6), (⟨"BanksDealt", "isField", "(I)Z"⟩, 17), (⟨"BanksDealt$Plans", "listWorks", "(LBanksDealt$Plain;III)V"⟩, 14), (⟨"BanksDealt$Plans", "may", "(LBanksDealt$Plain;II)Z"⟩, 14), (⟨"BanksDealt$Plans", "tempts", "(LBanksDealt$Plain;III)Z"⟩, 14), (⟨"BanksDealt$Plans", "apply", "(I)V"⟩, 14), (⟨"BanksDealt$Plans", "takeBack", "(I)V"⟩, 14), (⟨"BanksDealt$Plans", "weigh", "(LBanksDealt$Plain;III)V"⟩, 14), (⟨"BanksDealt$Bygone", "readPairs", "(LBanksDealt$Tape;LBanksDealt$Plain;)Z"⟩, 7), (⟨"BanksDealt$Bygone", "countBeds", "(LBanksDealt$Plain;)I"⟩, 7), (⟨"BanksDealt$Bygone", "waysOn", "(LBanksDealt$Plain;II)I"⟩, 7), (⟨"BanksDealt$Bygone", "keepFirst", "(LBanksDealt$Plain;)V"⟩, 7), (⟨"BanksDealt$Bygone", "keepSure", "(LBanksDealt$Plain;)V"⟩, 7), (⟨"BanksDealt$Bygone", "isReached", "(LBanksDealt$Plain;II)Z"⟩, 7), (⟨"BanksDealt$Deed", "putName", "(J)V"⟩, 2), (⟨"BanksDealt$Deed", "put", "(I)V"⟩, 2)]
theorem lw_r2 : ∀ q ∈ lw_privs_2, lw_okq q := List.forall_mem_cons.mpr ⟨lw_p16, List.forall_mem_cons.mpr ⟨lw_p17, List.forall_mem_cons.mpr ⟨lw_p18, List.forall_mem_cons.mpr ⟨lw_p19, List.forall_mem_cons.mpr ⟨lw_p20, List.forall_mem_cons.mpr ⟨lw_p21, List.forall_mem_cons.mpr ⟨lw_p22, List.forall_mem_cons.mpr ⟨lw_p23, List.forall_mem_cons.mpr ⟨lw_p24, List.forall_mem_cons.mpr ⟨lw_p25, List.forall_mem_cons.mpr ⟨lw_p26, List.forall_mem_cons.mpr ⟨lw_p27, List.forall_mem_cons.mpr ⟨lw_p28, List.forall_mem_cons.mpr ⟨lw_p29, List.forall_mem_cons.mpr ⟨lw_p30, List.forall_mem_cons.mpr ⟨lw_p31, fun _ h => absurd h List.not_mem_nil⟩⟩⟩⟩⟩⟩⟩⟩⟩⟩⟩⟩⟩⟩⟩⟩
theorem lw_p32 : lw_okq (⟨"BanksDealt$Deed", "putText", "(Ljava/lang/String;)V"⟩, 2) := ⟨⟨by decide +kernel, by decide +kernel⟩, List.mem_of_getElem? (i := 468) (by decide +kernel), List.mem_of_getElem? (i := 1040) (by decide +kernel), List.mem_of_getElem? (i := 1041) (by decide +kernel)⟩
theorem lw_p33 : lw_okq (⟨"BanksDealt$Book", "readLine", "(LBanksDealt$Tape;LBanksDealt$Plain;)Z"⟩, 6) := ⟨⟨by decide +kernel, by decide +kernel⟩, List.mem_of_getElem? (i := 326) (by decide +kernel), List.mem_of_getElem? (i := 1060) (by decide +kernel), List.mem_of_getElem? (i := 1061) (by decide +kernel)⟩
theorem lw_p34 : lw_okq (⟨"BanksDealt$Book", "readOne", "(LBanksDealt$Tape;II)Z"⟩, 6) := ⟨⟨by decide +kernel, by decide +kernel⟩, List.mem_of_getElem? (i := 326) (by decide +kernel), List.mem_of_getElem? (i := 1071) (by decide +kernel), List.mem_of_getElem? (i := 1072) (by decide +kernel)⟩
theorem lw_p35 : lw_okq (⟨"BanksDealt$Book", "readPlace", "(LBanksDealt$Tape;)Z"⟩, 6) := ⟨⟨by decide +kernel, by decide +kernel⟩, List.mem_of_getElem? (i := 326) (by decide +kernel), List.mem_of_getElem? (i := 1077) (by decide +kernel), List.mem_of_getElem? (i := 1078) (by decide +kernel)⟩
theorem lw_p36 : lw_okq (⟨"BanksDealt$Book", "liveLine", "(LBanksDealt$Plain;LBanksDealt$River;I)I"⟩, 6) := ⟨⟨by decide +kernel, by decide +kernel⟩, List.mem_of_getElem? (i := 326) (by decide +kernel), List.mem_of_getElem? (i := 1086) (by decide +kernel), List.mem_of_getElem? (i := 1087) (by decide +kernel)⟩
theorem lw_p37 : lw_okq (⟨"BanksDealt$Book", "liveWork", "(LBanksDealt$Plain;III)I"⟩, 6) := ⟨⟨by decide +kernel, by decide +kernel⟩, List.mem_of_getElem? (i := 326) (by decide +kernel), List.mem_of_getElem? (i := 1090) (by decide +kernel), List.mem_of_getElem? (i := 1091) (by decide +kernel)⟩
theorem lw_p38 : lw_okq (⟨"BanksDealt$Book", "liveRoll", "(LBanksDealt$Plain;I)I"⟩, 6) := ⟨⟨by decide +kernel, by decide +kernel⟩, List.mem_of_getElem? (i := 326) (by decide +kernel), List.mem_of_getElem? (i := 1097) (by decide +kernel), List.mem_of_getElem? (i := 1098) (by decide +kernel)⟩
theorem lw_p39 : lw_okq (⟨"BanksDealt$Book", "liveSprings", "(LBanksDealt$Plain;LBanksDealt$River;I)I"⟩, 6) := ⟨⟨by decide +kernel, by decide +kernel⟩, List.mem_of_getElem? (i := 326) (by decide +kernel), List.mem_of_getElem? (i := 1103) (by decide +kernel), List.mem_of_getElem? (i := 1104) (by decide +kernel)⟩
theorem lw_p40 : lw_okq (⟨"BanksDealt$Sentence", "readCond", "(LBanksDealt$Tape;LBanksDealt$Plain;I)Z"⟩, 6) := ⟨⟨by decide +kernel, by decide +kernel⟩, List.mem_of_getElem? (i := 352) (by decide +kernel), List.mem_of_getElem? (i := 1122) (by decide +kernel), List.mem_of_getElem? (i := 1123) (by decide +kernel)⟩
theorem lw_p41 : lw_okq (⟨"BanksDealt$Sentence", "readAll", "(LBanksDealt$Tape;LBanksDealt$Plain;I)Z"⟩, 6) := ⟨⟨by decide +kernel, by decide +kernel⟩, List.mem_of_getElem? (i := 352) (by decide +kernel), List.mem_of_getElem? (i := 1126) (by decide +kernel), List.mem_of_getElem? (i := 1127) (by decide +kernel)⟩
theorem lw_p42 : lw_okq (⟨"BanksDealt$Sentence", "readOne", "(LBanksDealt$Tape;LBanksDealt$Plain;I)Z"⟩, 6) := ⟨⟨by decide +kernel, by decide +kernel⟩, List.mem_of_getElem? (i := 352) (by decide +kernel), List.mem_of_getElem? (i := 1130) (by decide +kernel), List.mem_of_getElem? (i := 1131) (by decide +kernel)⟩
theorem lw_p43 : lw_okq (⟨"BanksDealt$Sentence", "put", "(III)Z"⟩, 6) := ⟨⟨by decide +kernel, by decide +kernel⟩, List.mem_of_getElem? (i := 352) (by decide +kernel), List.mem_of_getElem? (i := 1139) (by decide +kernel), List.mem_of_getElem? (i := 1140) (by decide +kernel)⟩
theorem lw_p44 : lw_okq (⟨"BanksDealt$Sentence", "readPlainOne", "(LBanksDealt$Tape;LBanksDealt$Plain;)Z"⟩, 6) := ⟨⟨by decide +kernel, by decide +kernel⟩, List.mem_of_getElem? (i := 352) (by decide +kernel), List.mem_of_getElem? (i := 1143) (by decide +kernel), List.mem_of_getElem? (i := 1144) (by decide +kernel)⟩
theorem lw_p45 : lw_okq (⟨"BanksDealt$Sentence", "fieldsOfOne", "(LBanksDealt$Plain;I)I"⟩, 6) := ⟨⟨by decide +kernel, by decide +kernel⟩, List.mem_of_getElem? (i := 352) (by decide +kernel), List.mem_of_getElem? (i := 1158) (by decide +kernel), List.mem_of_getElem? (i := 1159) (by decide +kernel)⟩
theorem lw_p46 : lw_okq (⟨"BanksDealt$Sentence", "isSo", "(LBanksDealt$Plain;II)Z"⟩, 6) := ⟨⟨by decide +kernel, by decide +kernel⟩, List.mem_of_getElem? (i := 352) (by decide +kernel), List.mem_of_getElem? (i := 1162) (by decide +kernel), List.mem_of_getElem? (i := 1163) (by decide +kernel)⟩
theorem lw_p47 : lw_okq (⟨"BanksDealt$Sentence", "compares", "(II)Z"⟩, 6) := ⟨⟨by decide +kernel, by decide +kernel⟩, List.mem_of_getElem? (i := 352) (by decide +kernel), List.mem_of_getElem? (i := 1168) (by decide +kernel), List.mem_of_getElem? (i := 1169) (by decide +kernel)⟩
def lw_privs_3 : List (MethodName × Nat) := [(⟨"BanksDealt$Deed", "putText", "(Ljava/lang/String;)V"⟩, 2), (⟨"BanksDealt$Book", "readLine", "(LBanksDealt$Tape;LBanksDealt$Plain;)Z"⟩, 6), (⟨"BanksDealt$Book", "readOne", "(LBanksDealt$Tape;II)Z"⟩, 6), (⟨"BanksDealt$Book", "readPlace", "(LBanksDealt$Tape;)Z"⟩, 6), (⟨"BanksDealt$Book", "liveLine", "(LBanksDealt$Plain;LBanksDealt$River;I)I"⟩, 6), (⟨"BanksDealt$Book", "liveWork", "(LBanksDealt$Plain;III)I"⟩, 6), (⟨"BanksDealt$Book", "liveRoll", "(LBanksDealt$Plain;I)I"⟩, 6), (⟨"BanksDealt$Book", "liveSprings", "(LBanksDealt$Plain;LBanksDealt$River;I)I"⟩, 6), (⟨"BanksDealt$Sentence", "readCond", "(LBanksDealt$Tape;LBanksDealt$Plain;I)Z"⟩, 6), (⟨"BanksDealt$Sentence", "readAll", "(LBanksDealt$Tape;LBanksDealt$Plain;I)Z"⟩, 6), (⟨"BanksDealt$Sentence", "readOne", "(LBanksDealt$Tape;LBanksDealt$Plain;I)Z"⟩, 6), (⟨"BanksDealt$Sentence", "put", "(III)Z"⟩, 6), (⟨"BanksDealt$Sentence", "readPlainOne", "(LBanksDealt$Tape;LBanksDealt$Plain;)Z"⟩, 6), (⟨"BanksDealt$Sentence", "fieldsOfOne", "(LBanksDealt$Plain;I)I"⟩, 6), (⟨"BanksDealt$Sentence", "isSo", "(LBanksDealt$Plain;II)Z"⟩, 6), (⟨"BanksDealt$Sentence", "compares", "(II)Z"⟩, 6)]
theorem lw_r3 : ∀ q ∈ lw_privs_3, lw_okq q := List.forall_mem_cons.mpr ⟨lw_p32, List.forall_mem_cons.mpr ⟨lw_p33, List.forall_mem_cons.mpr ⟨lw_p34, List.forall_mem_cons.mpr ⟨lw_p35, List.forall_mem_cons.mpr ⟨lw_p36, List.forall_mem_cons.mpr ⟨lw_p37, List.forall_mem_cons.mpr ⟨lw_p38, List.forall_mem_cons.mpr ⟨lw_p39, List.forall_mem_cons.mpr ⟨lw_p40, List.forall_mem_cons.mpr ⟨lw_p41, List.forall_mem_cons.mpr ⟨lw_p42, List.forall_mem_cons.mpr ⟨lw_p43, List.forall_mem_cons.mpr ⟨lw_p44, List.forall_mem_cons.mpr ⟨lw_p45, List.forall_mem_cons.mpr ⟨lw_p46, List.forall_mem_cons.mpr ⟨lw_p47, fun _ h => absurd h List.not_mem_nil⟩⟩⟩⟩⟩⟩⟩⟩⟩⟩⟩⟩⟩⟩⟩⟩
theorem lw_p48 : lw_okq (⟨"java/lang/Throwable", "fillInStackTrace", "(I)Ljava/lang/Throwable;"⟩, 6) := ⟨⟨by decide +kernel, by decide +kernel⟩, List.mem_of_getElem? (i := 1239) (by decide +kernel), List.mem_of_getElem? (i := 1237) (by decide +kernel), List.mem_of_getElem? (i := 1238) (by decide +kernel)⟩
theorem lw_p49 : lw_okq (⟨"BanksDealt$Plans", "answered", "(LBanksDealt$Plain;II)I"⟩, 14) := ⟨⟨by decide +kernel, by decide +kernel⟩, List.mem_of_getElem? (i := 379) (by decide +kernel), List.mem_of_getElem? (i := 1275) (by decide +kernel), List.mem_of_getElem? (i := 1276) (by decide +kernel)⟩
theorem lw_p50 : lw_okq (⟨"BanksDealt$Plans", "lead", "(LBanksDealt$Plain;I)I"⟩, 14) := ⟨⟨by decide +kernel, by decide +kernel⟩, List.mem_of_getElem? (i := 379) (by decide +kernel), List.mem_of_getElem? (i := 1279) (by decide +kernel), List.mem_of_getElem? (i := 1280) (by decide +kernel)⟩
theorem lw_p51 : lw_okq (⟨"BanksDealtModel", "come", "(I)V"⟩, 59) := ⟨⟨by decide +kernel, by decide +kernel⟩, List.mem_of_getElem? (i := 1293) (by decide +kernel), List.mem_of_getElem? (i := 1291) (by decide +kernel), List.mem_of_getElem? (i := 1292) (by decide +kernel)⟩
theorem lw_p52 : lw_okq (⟨"BanksDealtModel", "startRead", "()V"⟩, 59) := ⟨⟨by decide +kernel, by decide +kernel⟩, List.mem_of_getElem? (i := 1293) (by decide +kernel), List.mem_of_getElem? (i := 1305) (by decide +kernel), List.mem_of_getElem? (i := 1306) (by decide +kernel)⟩
theorem lw_p53 : lw_okq (⟨"BanksDealtModel", "startSo", "()V"⟩, 59) := ⟨⟨by decide +kernel, by decide +kernel⟩, List.mem_of_getElem? (i := 1293) (by decide +kernel), List.mem_of_getElem? (i := 1309) (by decide +kernel), List.mem_of_getElem? (i := 1310) (by decide +kernel)⟩
theorem lw_p54 : lw_okq (⟨"BanksDealtModel", "melt", "()V"⟩, 59) := ⟨⟨by decide +kernel, by decide +kernel⟩, List.mem_of_getElem? (i := 1293) (by decide +kernel), List.mem_of_getElem? (i := 1313) (by decide +kernel), List.mem_of_getElem? (i := 1314) (by decide +kernel)⟩
theorem lw_p55 : lw_okq (⟨"BanksDealtModel", "layBest", "()I"⟩, 59) := ⟨⟨by decide +kernel, by decide +kernel⟩, List.mem_of_getElem? (i := 1293) (by decide +kernel), List.mem_of_getElem? (i := 1317) (by decide +kernel), List.mem_of_getElem? (i := 1318) (by decide +kernel)⟩
theorem lw_p56 : lw_okq (⟨"BanksDealtModel", "leastNext", "(II)I"⟩, 59) := ⟨⟨by decide +kernel, by decide +kernel⟩, List.mem_of_getElem? (i := 1293) (by decide +kernel), List.mem_of_getElem? (i := 1321) (by decide +kernel), List.mem_of_getElem? (i := 1322) (by decide +kernel)⟩
theorem lw_p57 : lw_okq (⟨"BanksDealtModel", "costAt", "(II)I"⟩, 59) := ⟨⟨by decide +kernel, by decide +kernel⟩, List.mem_of_getElem? (i := 1293) (by decide +kernel), List.mem_of_getElem? (i := 1325) (by decide +kernel), List.mem_of_getElem? (i := 1326) (by decide +kernel)⟩
theorem lw_p58 : lw_okq (⟨"BanksDealtModel", "isCell", "(II)Z"⟩, 59) := ⟨⟨by decide +kernel, by decide +kernel⟩, List.mem_of_getElem? (i := 1293) (by decide +kernel), List.mem_of_getElem? (i := 1329) (by decide +kernel), List.mem_of_getElem? (i := 1330) (by decide +kernel)⟩
theorem lw_p59 : lw_okq (⟨"BanksDealtModel", "begin", "(I)V"⟩, 59) := ⟨⟨by decide +kernel, by decide +kernel⟩, List.mem_of_getElem? (i := 1293) (by decide +kernel), List.mem_of_getElem? (i := 1522) (by decide +kernel), List.mem_of_getElem? (i := 1523) (by decide +kernel)⟩
theorem lw_p60 : lw_okq (⟨"BanksDealtModel", "take", "()I"⟩, 59) := ⟨⟨by decide +kernel, by decide +kernel⟩, List.mem_of_getElem? (i := 1293) (by decide +kernel), List.mem_of_getElem? (i := 1526) (by decide +kernel), List.mem_of_getElem? (i := 1527) (by decide +kernel)⟩
theorem lw_p61 : lw_okq (⟨"BanksDealtModel", "go", "()V"⟩, 59) := ⟨⟨by decide +kernel, by decide +kernel⟩, List.mem_of_getElem? (i := 1293) (by decide +kernel), List.mem_of_getElem? (i := 1530) (by decide +kernel), List.mem_of_getElem? (i := 1531) (by decide +kernel)⟩
theorem lw_p62 : lw_okq (⟨"BanksDealtModel", "tapeAt", "(I)I"⟩, 59) := ⟨⟨by decide +kernel, by decide +kernel⟩, List.mem_of_getElem? (i := 1293) (by decide +kernel), List.mem_of_getElem? (i := 1540) (by decide +kernel), List.mem_of_getElem? (i := 1541) (by decide +kernel)⟩
theorem lw_p63 : lw_okq (⟨"BanksDealtModel", "readLine", "()Z"⟩, 59) := ⟨⟨by decide +kernel, by decide +kernel⟩, List.mem_of_getElem? (i := 1293) (by decide +kernel), List.mem_of_getElem? (i := 1546) (by decide +kernel), List.mem_of_getElem? (i := 1547) (by decide +kernel)⟩
def lw_privs_4 : List (MethodName × Nat) := [(⟨"java/lang/Throwable", "fillInStackTrace", "(I)Ljava/lang/Throwable;"⟩, 6), (⟨"BanksDealt$Plans", "answered", "(LBanksDealt$Plain;II)I"⟩, 14), (⟨"BanksDealt$Plans", "lead", "(LBanksDealt$Plain;I)I"⟩, 14), (⟨"BanksDealtModel", "come", "(I)V"⟩, 59), (⟨"BanksDealtModel", "startRead", "()V"⟩, 59), (⟨"BanksDealtModel", "startSo", "()V"⟩, 59), (⟨"BanksDealtModel", "melt", "()V"⟩, 59), (⟨"BanksDealtModel", "layBest", "()I"⟩, 59), (⟨"BanksDealtModel", "leastNext", "(II)I"⟩, 59), (⟨"BanksDealtModel", "costAt", "(II)I"⟩, 59), (⟨"BanksDealtModel", "isCell", "(II)Z"⟩, 59), (⟨"BanksDealtModel", "begin", "(I)V"⟩, 59), (⟨"BanksDealtModel", "take", "()I"⟩, 59), (⟨"BanksDealtModel", "go", "()V"⟩, 59), (⟨"BanksDealtModel", "tapeAt", "(I)I"⟩, 59), (⟨"BanksDealtModel", "readLine", "()Z"⟩, 59)]
theorem lw_r4 : ∀ q ∈ lw_privs_4, lw_okq q := List.forall_mem_cons.mpr ⟨lw_p48, List.forall_mem_cons.mpr ⟨lw_p49, List.forall_mem_cons.mpr ⟨lw_p50, List.forall_mem_cons.mpr ⟨lw_p51, List.forall_mem_cons.mpr ⟨lw_p52, List.forall_mem_cons.mpr ⟨lw_p53, List.forall_mem_cons.mpr ⟨lw_p54, List.forall_mem_cons.mpr ⟨lw_p55, List.forall_mem_cons.mpr ⟨lw_p56, List.forall_mem_cons.mpr ⟨lw_p57, List.forall_mem_cons.mpr ⟨lw_p58, List.forall_mem_cons.mpr ⟨lw_p59, List.forall_mem_cons.mpr ⟨lw_p60, List.forall_mem_cons.mpr ⟨lw_p61, List.forall_mem_cons.mpr ⟨lw_p62, List.forall_mem_cons.mpr ⟨lw_p63, fun _ h => absurd h List.not_mem_nil⟩⟩⟩⟩⟩⟩⟩⟩⟩⟩⟩⟩⟩⟩⟩⟩
theorem lw_p64 : lw_okq (⟨"BanksDealtModel", "isWord", "(I)Z"⟩, 59) := ⟨⟨by decide +kernel, by decide +kernel⟩, List.mem_of_getElem? (i := 1293) (by decide +kernel), List.mem_of_getElem? (i := 1550) (by decide +kernel), List.mem_of_getElem? (i := 1551) (by decide +kernel)⟩
theorem lw_p65 : lw_okq (⟨"BanksDealtModel", "readPlain", "()Z"⟩, 59) := ⟨⟨by decide +kernel, by decide +kernel⟩, List.mem_of_getElem? (i := 1293) (by decide +kernel), List.mem_of_getElem? (i := 1560) (by decide +kernel), List.mem_of_getElem? (i := 1561) (by decide +kernel)⟩
theorem lw_p66 : lw_okq (⟨"BanksDealtModel", "bad", "(I)Z"⟩, 59) := ⟨⟨by decide +kernel, by decide +kernel⟩, List.mem_of_getElem? (i := 1293) (by decide +kernel), List.mem_of_getElem? (i := 1564) (by decide +kernel), List.mem_of_getElem? (i := 1565) (by decide +kernel)⟩
theorem lw_p67 : lw_okq (⟨"BanksDealtModel", "isFresh", "(I)Z"⟩, 59) := ⟨⟨by decide +kernel, by decide +kernel⟩, List.mem_of_getElem? (i := 1293) (by decide +kernel), List.mem_of_getElem? (i := 1568) (by decide +kernel), List.mem_of_getElem? (i := 1569) (by decide +kernel)⟩
theorem lw_p68 : lw_okq (⟨"BanksDealtModel", "readBetween", "(II)Z"⟩, 59) := ⟨⟨by decide +kernel, by decide +kernel⟩, List.mem_of_getElem? (i := 1293) (by decide +kernel), List.mem_of_getElem? (i := 1572) (by decide +kernel), List.mem_of_getElem? (i := 1573) (by decide +kernel)⟩
theorem lw_p69 : lw_okq (⟨"BanksDealtModel", "readNumber", "(II)Z"⟩, 59) := ⟨⟨by decide +kernel, by decide +kernel⟩, List.mem_of_getElem? (i := 1293) (by decide +kernel), List.mem_of_getElem? (i := 1576) (by decide +kernel), List.mem_of_getElem? (i := 1577) (by decide +kernel)⟩
theorem lw_p70 : lw_okq (⟨"BanksDealtModel", "put", "(IZ)Z"⟩, 59) := ⟨⟨by decide +kernel, by decide +kernel⟩, List.mem_of_getElem? (i := 1293) (by decide +kernel), List.mem_of_getElem? (i := 1580) (by decide +kernel), List.mem_of_getElem? (i := 1581) (by decide +kernel)⟩
theorem lw_p71 : lw_okq (⟨"BanksDealtModel", "readLand", "()Z"⟩, 59) := ⟨⟨by decide +kernel, by decide +kernel⟩, List.mem_of_getElem? (i := 1293) (by decide +kernel), List.mem_of_getElem? (i := 1584) (by decide +kernel), List.mem_of_getElem? (i := 1585) (by decide +kernel)⟩
theorem lw_p72 : lw_okq (⟨"BanksDealtModel", "readX", "()Z"⟩, 59) := ⟨⟨by decide +kernel, by decide +kernel⟩, List.mem_of_getElem? (i := 1293) (by decide +kernel), List.mem_of_getElem? (i := 1588) (by decide +kernel), List.mem_of_getElem? (i := 1589) (by decide +kernel)⟩
theorem lw_p73 : lw_okq (⟨"BanksDealtModel", "isBelow", "(I)Z"⟩, 59) := ⟨⟨by decide +kernel, by decide +kernel⟩, List.mem_of_getElem? (i := 1293) (by decide +kernel), List.mem_of_getElem? (i := 1592) (by decide +kernel), List.mem_of_getElem? (i := 1593) (by decide +kernel)⟩
theorem lw_p74 : lw_okq (⟨"BanksDealtModel", "readField", "()Z"⟩, 59) := ⟨⟨by decide +kernel, by decide +kernel⟩, List.mem_of_getElem? (i := 1293) (by decide +kernel), List.mem_of_getElem? (i := 1596) (by decide +kernel), List.mem_of_getElem? (i := 1597) (by decide +kernel)⟩
theorem lw_p75 : lw_okq (⟨"BanksDealtModel", "readFirst", "(II)Z"⟩, 59) := ⟨⟨by decide +kernel, by decide +kernel⟩, List.mem_of_getElem? (i := 1293) (by decide +kernel), List.mem_of_getElem? (i := 1600) (by decide +kernel), List.mem_of_getElem? (i := 1601) (by decide +kernel)⟩
theorem lw_p76 : lw_okq (⟨"BanksDealtModel", "readNew", "(I)Z"⟩, 59) := ⟨⟨by decide +kernel, by decide +kernel⟩, List.mem_of_getElem? (i := 1293) (by decide +kernel), List.mem_of_getElem? (i := 1604) (by decide +kernel), List.mem_of_getElem? (i := 1605) (by decide +kernel)⟩
theorem lw_p77 : lw_okq (⟨"BanksDealtModel", "isName", "()Z"⟩, 59) := ⟨⟨by decide +kernel, by decide +kernel⟩, List.mem_of_getElem? (i := 1293) (by decide +kernel), List.mem_of_getElem? (i := 1608) (by decide +kernel), List.mem_of_getElem? (i := 1609) (by decide +kernel)⟩
theorem lw_p78 : lw_okq (⟨"BanksDealtModel", "isField", "(II)Z"⟩, 59) := ⟨⟨by decide +kernel, by decide +kernel⟩, List.mem_of_getElem? (i := 1293) (by decide +kernel), List.mem_of_getElem? (i := 1615) (by decide +kernel), List.mem_of_getElem? (i := 1616) (by decide +kernel)⟩
theorem lw_p79 : lw_okq (⟨"BanksDealtModel", "readMill", "()Z"⟩, 59) := ⟨⟨by decide +kernel, by decide +kernel⟩, List.mem_of_getElem? (i := 1293) (by decide +kernel), List.mem_of_getElem? (i := 1619) (by decide +kernel), List.mem_of_getElem? (i := 1620) (by decide +kernel)⟩
def lw_privs_5 : List (MethodName × Nat) := [(⟨"BanksDealtModel", "isWord", "(I)Z"⟩, 59), (⟨"BanksDealtModel", "readPlain", "()Z"⟩, 59), (⟨"BanksDealtModel", "bad", "(I)Z"⟩, 59), (⟨"BanksDealtModel", "isFresh", "(I)Z"⟩, 59), (⟨"BanksDealtModel", "readBetween", "(II)Z"⟩, 59), (⟨"BanksDealtModel", "readNumber", "(II)Z"⟩, 59), (⟨"BanksDealtModel", "put", "(IZ)Z"⟩, 59), (⟨"BanksDealtModel", "readLand", "()Z"⟩, 59), (⟨"BanksDealtModel", "readX", "()Z"⟩, 59), (⟨"BanksDealtModel", "isBelow", "(I)Z"⟩, 59), (⟨"BanksDealtModel", "readField", "()Z"⟩, 59), (⟨"BanksDealtModel", "readFirst", "(II)Z"⟩, 59), (⟨"BanksDealtModel", "readNew", "(I)Z"⟩, 59), (⟨"BanksDealtModel", "isName", "()Z"⟩, 59), (⟨"BanksDealtModel", "isField", "(II)Z"⟩, 59), (⟨"BanksDealtModel", "readMill", "()Z"⟩, 59)]
theorem lw_r5 : ∀ q ∈ lw_privs_5, lw_okq q := List.forall_mem_cons.mpr ⟨lw_p64, List.forall_mem_cons.mpr ⟨lw_p65, List.forall_mem_cons.mpr ⟨lw_p66, List.forall_mem_cons.mpr ⟨lw_p67, List.forall_mem_cons.mpr ⟨lw_p68, List.forall_mem_cons.mpr ⟨lw_p69, List.forall_mem_cons.mpr ⟨lw_p70, List.forall_mem_cons.mpr ⟨lw_p71, List.forall_mem_cons.mpr ⟨lw_p72, List.forall_mem_cons.mpr ⟨lw_p73, List.forall_mem_cons.mpr ⟨lw_p74, List.forall_mem_cons.mpr ⟨lw_p75, List.forall_mem_cons.mpr ⟨lw_p76, List.forall_mem_cons.mpr ⟨lw_p77, List.forall_mem_cons.mpr ⟨lw_p78, List.forall_mem_cons.mpr ⟨lw_p79, fun _ h => absurd h List.not_mem_nil⟩⟩⟩⟩⟩⟩⟩⟩⟩⟩⟩⟩⟩⟩⟩⟩
theorem lw_p80 : lw_okq (⟨"BanksDealtModel", "readPurse", "()Z"⟩, 59) := ⟨⟨by decide +kernel, by decide +kernel⟩, List.mem_of_getElem? (i := 1293) (by decide +kernel), List.mem_of_getElem? (i := 1623) (by decide +kernel), List.mem_of_getElem? (i := 1624) (by decide +kernel)⟩
theorem lw_p81 : lw_okq (⟨"BanksDealtModel", "isSideHere", "()Z"⟩, 59) := ⟨⟨by decide +kernel, by decide +kernel⟩, List.mem_of_getElem? (i := 1293) (by decide +kernel), List.mem_of_getElem? (i := 1627) (by decide +kernel), List.mem_of_getElem? (i := 1628) (by decide +kernel)⟩
theorem lw_p82 : lw_okq (⟨"BanksDealtModel", "readEnd", "()Z"⟩, 59) := ⟨⟨by decide +kernel, by decide +kernel⟩, List.mem_of_getElem? (i := 1293) (by decide +kernel), List.mem_of_getElem? (i := 1631) (by decide +kernel), List.mem_of_getElem? (i := 1632) (by decide +kernel)⟩
theorem lw_p83 : lw_okq (⟨"BanksDealtModel", "isSign", "(I)Z"⟩, 59) := ⟨⟨by decide +kernel, by decide +kernel⟩, List.mem_of_getElem? (i := 1293) (by decide +kernel), List.mem_of_getElem? (i := 1635) (by decide +kernel), List.mem_of_getElem? (i := 1636) (by decide +kernel)⟩
theorem lw_p84 : lw_okq (⟨"BanksDealtModel", "isFieldAt", "(I)Z"⟩, 59) := ⟨⟨by decide +kernel, by decide +kernel⟩, List.mem_of_getElem? (i := 1293) (by decide +kernel), List.mem_of_getElem? (i := 1647) (by decide +kernel), List.mem_of_getElem? (i := 1648) (by decide +kernel)⟩
theorem lw_p85 : lw_okq (⟨"BanksDealtModel", "refuse", "()I"⟩, 59) := ⟨⟨by decide +kernel, by decide +kernel⟩, List.mem_of_getElem? (i := 1293) (by decide +kernel), List.mem_of_getElem? (i := 1651) (by decide +kernel), List.mem_of_getElem? (i := 1652) (by decide +kernel)⟩
theorem lw_p86 : lw_okq (⟨"BanksDealtModel", "whose", "(I)I"⟩, 59) := ⟨⟨by decide +kernel, by decide +kernel⟩, List.mem_of_getElem? (i := 1293) (by decide +kernel), List.mem_of_getElem? (i := 1655) (by decide +kernel), List.mem_of_getElem? (i := 1656) (by decide +kernel)⟩
theorem lw_p87 : lw_okq (⟨"BanksDealtModel", "bankOf", "(II)I"⟩, 59) := ⟨⟨by decide +kernel, by decide +kernel⟩, List.mem_of_getElem? (i := 1293) (by decide +kernel), List.mem_of_getElem? (i := 1659) (by decide +kernel), List.mem_of_getElem? (i := 1660) (by decide +kernel)⟩
theorem lw_p88 : lw_okq (⟨"BanksDealtModel", "isMill", "(I)Z"⟩, 59) := ⟨⟨by decide +kernel, by decide +kernel⟩, List.mem_of_getElem? (i := 1293) (by decide +kernel), List.mem_of_getElem? (i := 1670) (by decide +kernel), List.mem_of_getElem? (i := 1671) (by decide +kernel)⟩
theorem lw_p89 : lw_okq (⟨"BanksDealtModel", "isRow", "(I)Z"⟩, 59) := ⟨⟨by decide +kernel, by decide +kernel⟩, List.mem_of_getElem? (i := 1293) (by decide +kernel), List.mem_of_getElem? (i := 1686) (by decide +kernel), List.mem_of_getElem? (i := 1687) (by decide +kernel)⟩
theorem lw_p90 : lw_okq (⟨"BanksDealtModel", "fieldsOf", "(I)I"⟩, 59) := ⟨⟨by decide +kernel, by decide +kernel⟩, List.mem_of_getElem? (i := 1293) (by decide +kernel), List.mem_of_getElem? (i := 1694) (by decide +kernel), List.mem_of_getElem? (i := 1695) (by decide +kernel)⟩
theorem lw_p91 : lw_okq (⟨"BanksDealtModel", "worthOf", "(I)I"⟩, 59) := ⟨⟨by decide +kernel, by decide +kernel⟩, List.mem_of_getElem? (i := 1293) (by decide +kernel), List.mem_of_getElem? (i := 1698) (by decide +kernel), List.mem_of_getElem? (i := 1699) (by decide +kernel)⟩
theorem lw_p92 : lw_okq (⟨"BanksDealtModel", "act", "(IIII)I"⟩, 59) := ⟨⟨by decide +kernel, by decide +kernel⟩, List.mem_of_getElem? (i := 1293) (by decide +kernel), List.mem_of_getElem? (i := 1713) (by decide +kernel), List.mem_of_getElem? (i := 1714) (by decide +kernel)⟩
theorem lw_p93 : lw_okq (⟨"BanksDealtModel", "why", "(IIII)I"⟩, 59) := ⟨⟨by decide +kernel, by decide +kernel⟩, List.mem_of_getElem? (i := 1293) (by decide +kernel), List.mem_of_getElem? (i := 1717) (by decide +kernel), List.mem_of_getElem? (i := 1718) (by decide +kernel)⟩
theorem lw_p94 : lw_okq (⟨"BanksDealtModel", "mayWork", "(IIII)Z"⟩, 59) := ⟨⟨by decide +kernel, by decide +kernel⟩, List.mem_of_getElem? (i := 1293) (by decide +kernel), List.mem_of_getElem? (i := 1724) (by decide +kernel), List.mem_of_getElem? (i := 1725) (by decide +kernel)⟩
theorem lw_p95 : lw_okq (⟨"BanksDealtModel", "snap", "()V"⟩, 59) := ⟨⟨by decide +kernel, by decide +kernel⟩, List.mem_of_getElem? (i := 1293) (by decide +kernel), List.mem_of_getElem? (i := 1728) (by decide +kernel), List.mem_of_getElem? (i := 1729) (by decide +kernel)⟩
def lw_privs_6 : List (MethodName × Nat) := [(⟨"BanksDealtModel", "readPurse", "()Z"⟩, 59), (⟨"BanksDealtModel", "isSideHere", "()Z"⟩, 59), (⟨"BanksDealtModel", "readEnd", "()Z"⟩, 59), (⟨"BanksDealtModel", "isSign", "(I)Z"⟩, 59), (⟨"BanksDealtModel", "isFieldAt", "(I)Z"⟩, 59), (⟨"BanksDealtModel", "refuse", "()I"⟩, 59), (⟨"BanksDealtModel", "whose", "(I)I"⟩, 59), (⟨"BanksDealtModel", "bankOf", "(II)I"⟩, 59), (⟨"BanksDealtModel", "isMill", "(I)Z"⟩, 59), (⟨"BanksDealtModel", "isRow", "(I)Z"⟩, 59), (⟨"BanksDealtModel", "fieldsOf", "(I)I"⟩, 59), (⟨"BanksDealtModel", "worthOf", "(I)I"⟩, 59), (⟨"BanksDealtModel", "act", "(IIII)I"⟩, 59), (⟨"BanksDealtModel", "why", "(IIII)I"⟩, 59), (⟨"BanksDealtModel", "mayWork", "(IIII)Z"⟩, 59), (⟨"BanksDealtModel", "snap", "()V"⟩, 59)]
theorem lw_r6 : ∀ q ∈ lw_privs_6, lw_okq q := List.forall_mem_cons.mpr ⟨lw_p80, List.forall_mem_cons.mpr ⟨lw_p81, List.forall_mem_cons.mpr ⟨lw_p82, List.forall_mem_cons.mpr ⟨lw_p83, List.forall_mem_cons.mpr ⟨lw_p84, List.forall_mem_cons.mpr ⟨lw_p85, List.forall_mem_cons.mpr ⟨lw_p86, List.forall_mem_cons.mpr ⟨lw_p87, List.forall_mem_cons.mpr ⟨lw_p88, List.forall_mem_cons.mpr ⟨lw_p89, List.forall_mem_cons.mpr ⟨lw_p90, List.forall_mem_cons.mpr ⟨lw_p91, List.forall_mem_cons.mpr ⟨lw_p92, List.forall_mem_cons.mpr ⟨lw_p93, List.forall_mem_cons.mpr ⟨lw_p94, List.forall_mem_cons.mpr ⟨lw_p95, fun _ h => absurd h List.not_mem_nil⟩⟩⟩⟩⟩⟩⟩⟩⟩⟩⟩⟩⟩⟩⟩⟩
theorem lw_p96 : lw_okq (⟨"BanksDealtModel", "live", "(IIII)V"⟩, 59) := ⟨⟨by decide +kernel, by decide +kernel⟩, List.mem_of_getElem? (i := 1293) (by decide +kernel), List.mem_of_getElem? (i := 1732) (by decide +kernel), List.mem_of_getElem? (i := 1733) (by decide +kernel)⟩
theorem lw_p97 : lw_okq (⟨"BanksDealtModel", "oneSpring", "()I"⟩, 59) := ⟨⟨by decide +kernel, by decide +kernel⟩, List.mem_of_getElem? (i := 1293) (by decide +kernel), List.mem_of_getElem? (i := 1752) (by decide +kernel), List.mem_of_getElem? (i := 1753) (by decide +kernel)⟩
theorem lw_p98 : lw_okq (⟨"BanksDealtModel", "draw", "(I)I"⟩, 59) := ⟨⟨by decide +kernel, by decide +kernel⟩, List.mem_of_getElem? (i := 1293) (by decide +kernel), List.mem_of_getElem? (i := 1756) (by decide +kernel), List.mem_of_getElem? (i := 1757) (by decide +kernel)⟩
theorem lw_p99 : lw_okq (⟨"BanksDealtModel", "keepPast", "()V"⟩, 59) := ⟨⟨by decide +kernel, by decide +kernel⟩, List.mem_of_getElem? (i := 1293) (by decide +kernel), List.mem_of_getElem? (i := 1761) (by decide +kernel), List.mem_of_getElem? (i := 1762) (by decide +kernel)⟩
theorem lw_p100 : lw_okq (⟨"BanksDealtModel", "whoseByBest", "(I)I"⟩, 59) := ⟨⟨by decide +kernel, by decide +kernel⟩, List.mem_of_getElem? (i := 1293) (by decide +kernel), List.mem_of_getElem? (i := 1765) (by decide +kernel), List.mem_of_getElem? (i := 1766) (by decide +kernel)⟩
theorem lw_p101 : lw_okq (⟨"BanksDealtModel", "earns", "(I)V"⟩, 59) := ⟨⟨by decide +kernel, by decide +kernel⟩, List.mem_of_getElem? (i := 1293) (by decide +kernel), List.mem_of_getElem? (i := 1769) (by decide +kernel), List.mem_of_getElem? (i := 1770) (by decide +kernel)⟩
theorem lw_p102 : lw_okq (⟨"BanksDealtModel", "passYears", "(II)I"⟩, 59) := ⟨⟨by decide +kernel, by decide +kernel⟩, List.mem_of_getElem? (i := 1293) (by decide +kernel), List.mem_of_getElem? (i := 1777) (by decide +kernel), List.mem_of_getElem? (i := 1778) (by decide +kernel)⟩
theorem lw_p103 : lw_okq (⟨"BanksDealtModel", "fieldsByBest", "(I)I"⟩, 59) := ⟨⟨by decide +kernel, by decide +kernel⟩, List.mem_of_getElem? (i := 1293) (by decide +kernel), List.mem_of_getElem? (i := 1797) (by decide +kernel), List.mem_of_getElem? (i := 1798) (by decide +kernel)⟩
theorem lw_p104 : lw_okq (⟨"BanksDealtModel", "tempts", "(IIIIII)Z"⟩, 59) := ⟨⟨by decide +kernel, by decide +kernel⟩, List.mem_of_getElem? (i := 1293) (by decide +kernel), List.mem_of_getElem? (i := 1805) (by decide +kernel), List.mem_of_getElem? (i := 1806) (by decide +kernel)⟩
theorem lw_p105 : lw_okq (⟨"BanksDealtModel", "answered", "(I)I"⟩, 59) := ⟨⟨by decide +kernel, by decide +kernel⟩, List.mem_of_getElem? (i := 1293) (by decide +kernel), List.mem_of_getElem? (i := 1817) (by decide +kernel), List.mem_of_getElem? (i := 1818) (by decide +kernel)⟩
theorem lw_p106 : lw_okq (⟨"BanksDealtModel", "edge", "(I)I"⟩, 59) := ⟨⟨by decide +kernel, by decide +kernel⟩, List.mem_of_getElem? (i := 1293) (by decide +kernel), List.mem_of_getElem? (i := 1821) (by decide +kernel), List.mem_of_getElem? (i := 1822) (by decide +kernel)⟩
theorem lw_p107 : lw_okq (⟨"BanksDealtModel", "mayCode", "(II)Z"⟩, 59) := ⟨⟨by decide +kernel, by decide +kernel⟩, List.mem_of_getElem? (i := 1293) (by decide +kernel), List.mem_of_getElem? (i := 1825) (by decide +kernel), List.mem_of_getElem? (i := 1826) (by decide +kernel)⟩
theorem lw_p108 : lw_okq (⟨"BanksDealtModel", "pushFrom", "(IIII)V"⟩, 59) := ⟨⟨by decide +kernel, by decide +kernel⟩, List.mem_of_getElem? (i := 1293) (by decide +kernel), List.mem_of_getElem? (i := 1840) (by decide +kernel), List.mem_of_getElem? (i := 1841) (by decide +kernel)⟩
theorem lw_p109 : lw_okq (⟨"BanksDealtModel", "layAside", "()V"⟩, 59) := ⟨⟨by decide +kernel, by decide +kernel⟩, List.mem_of_getElem? (i := 1293) (by decide +kernel), List.mem_of_getElem? (i := 1852) (by decide +kernel), List.mem_of_getElem? (i := 1853) (by decide +kernel)⟩
theorem lw_p110 : lw_okq (⟨"BanksDealtModel", "takeBack", "()V"⟩, 59) := ⟨⟨by decide +kernel, by decide +kernel⟩, List.mem_of_getElem? (i := 1293) (by decide +kernel), List.mem_of_getElem? (i := 1856) (by decide +kernel), List.mem_of_getElem? (i := 1857) (by decide +kernel)⟩
theorem lw_p111 : lw_okq (⟨"BanksDealtModel", "runFrom", "(II)V"⟩, 59) := ⟨⟨by decide +kernel, by decide +kernel⟩, List.mem_of_getElem? (i := 1293) (by decide +kernel), List.mem_of_getElem? (i := 1868) (by decide +kernel), List.mem_of_getElem? (i := 1869) (by decide +kernel)⟩
def lw_privs_7 : List (MethodName × Nat) := [(⟨"BanksDealtModel", "live", "(IIII)V"⟩, 59), (⟨"BanksDealtModel", "oneSpring", "()I"⟩, 59), (⟨"BanksDealtModel", "draw", "(I)I"⟩, 59), (⟨"BanksDealtModel", "keepPast", "()V"⟩, 59), (⟨"BanksDealtModel", "whoseByBest", "(I)I"⟩, 59), (⟨"BanksDealtModel", "earns", "(I)V"⟩, 59), (⟨"BanksDealtModel", "passYears", "(II)I"⟩, 59), (⟨"BanksDealtModel", "fieldsByBest", "(I)I"⟩, 59), (⟨"BanksDealtModel", "tempts", "(IIIIII)Z"⟩, 59), (⟨"BanksDealtModel", "answered", "(I)I"⟩, 59), (⟨"BanksDealtModel", "edge", "(I)I"⟩, 59), (⟨"BanksDealtModel", "mayCode", "(II)Z"⟩, 59), (⟨"BanksDealtModel", "pushFrom", "(IIII)V"⟩, 59), (⟨"BanksDealtModel", "layAside", "()V"⟩, 59), (⟨"BanksDealtModel", "takeBack", "()V"⟩, 59), (⟨"BanksDealtModel", "runFrom", "(II)V"⟩, 59)]
theorem lw_r7 : ∀ q ∈ lw_privs_7, lw_okq q := List.forall_mem_cons.mpr ⟨lw_p96, List.forall_mem_cons.mpr ⟨lw_p97, List.forall_mem_cons.mpr ⟨lw_p98, List.forall_mem_cons.mpr ⟨lw_p99, List.forall_mem_cons.mpr ⟨lw_p100, List.forall_mem_cons.mpr ⟨lw_p101, List.forall_mem_cons.mpr ⟨lw_p102, List.forall_mem_cons.mpr ⟨lw_p103, List.forall_mem_cons.mpr ⟨lw_p104, List.forall_mem_cons.mpr ⟨lw_p105, List.forall_mem_cons.mpr ⟨lw_p106, List.forall_mem_cons.mpr ⟨lw_p107, List.forall_mem_cons.mpr ⟨lw_p108, List.forall_mem_cons.mpr ⟨lw_p109, List.forall_mem_cons.mpr ⟨lw_p110, List.forall_mem_cons.mpr ⟨lw_p111, fun _ h => absurd h List.not_mem_nil⟩⟩⟩⟩⟩⟩⟩⟩⟩⟩⟩⟩⟩⟩⟩⟩
theorem lw_p112 : lw_okq (⟨"BanksDealtModel", "rowFits", "(III)Z"⟩, 59) := ⟨⟨by decide +kernel, by decide +kernel⟩, List.mem_of_getElem? (i := 1293) (by decide +kernel), List.mem_of_getElem? (i := 1872) (by decide +kernel), List.mem_of_getElem? (i := 1873) (by decide +kernel)⟩
theorem lw_p113 : lw_okq (⟨"BanksDealtModel", "writeWord", "(J)V"⟩, 59) := ⟨⟨by decide +kernel, by decide +kernel⟩, List.mem_of_getElem? (i := 1293) (by decide +kernel), List.mem_of_getElem? (i := 1892) (by decide +kernel), List.mem_of_getElem? (i := 1893) (by decide +kernel)⟩
theorem lw_p114 : lw_okq (⟨"BanksDealtModel", "write", "(I)V"⟩, 59) := ⟨⟨by decide +kernel, by decide +kernel⟩, List.mem_of_getElem? (i := 1293) (by decide +kernel), List.mem_of_getElem? (i := 1896) (by decide +kernel), List.mem_of_getElem? (i := 1897) (by decide +kernel)⟩
theorem lw_p115 : lw_okq (⟨"BanksDealtModel", "writeNext", "(J)V"⟩, 59) := ⟨⟨by decide +kernel, by decide +kernel⟩, List.mem_of_getElem? (i := 1293) (by decide +kernel), List.mem_of_getElem? (i := 1900) (by decide +kernel), List.mem_of_getElem? (i := 1901) (by decide +kernel)⟩
theorem lw_p116 : lw_okq (⟨"BanksDealtModel", "readBookLine", "()Z"⟩, 59) := ⟨⟨by decide +kernel, by decide +kernel⟩, List.mem_of_getElem? (i := 1293) (by decide +kernel), List.mem_of_getElem? (i := 1912) (by decide +kernel), List.mem_of_getElem? (i := 1913) (by decide +kernel)⟩
theorem lw_p117 : lw_okq (⟨"BanksDealtModel", "readSide", "(I)Z"⟩, 59) := ⟨⟨by decide +kernel, by decide +kernel⟩, List.mem_of_getElem? (i := 1293) (by decide +kernel), List.mem_of_getElem? (i := 1916) (by decide +kernel), List.mem_of_getElem? (i := 1917) (by decide +kernel)⟩
theorem lw_p118 : lw_okq (⟨"BanksDealtModel", "readCell", "(I)Z"⟩, 59) := ⟨⟨by decide +kernel, by decide +kernel⟩, List.mem_of_getElem? (i := 1293) (by decide +kernel), List.mem_of_getElem? (i := 1920) (by decide +kernel), List.mem_of_getElem? (i := 1921) (by decide +kernel)⟩
theorem lw_p119 : lw_okq (⟨"BanksDealtModel", "keep", "(IZ)Z"⟩, 59) := ⟨⟨by decide +kernel, by decide +kernel⟩, List.mem_of_getElem? (i := 1293) (by decide +kernel), List.mem_of_getElem? (i := 1924) (by decide +kernel), List.mem_of_getElem? (i := 1925) (by decide +kernel)⟩
theorem lw_p120 : lw_okq (⟨"BanksDealtModel", "readSprings", "(I)Z"⟩, 59) := ⟨⟨by decide +kernel, by decide +kernel⟩, List.mem_of_getElem? (i := 1293) (by decide +kernel), List.mem_of_getElem? (i := 1928) (by decide +kernel), List.mem_of_getElem? (i := 1929) (by decide +kernel)⟩
theorem lw_p121 : lw_okq (⟨"BanksDealtModel", "readMillRolls", "(I)Z"⟩, 59) := ⟨⟨by decide +kernel, by decide +kernel⟩, List.mem_of_getElem? (i := 1293) (by decide +kernel), List.mem_of_getElem? (i := 1932) (by decide +kernel), List.mem_of_getElem? (i := 1933) (by decide +kernel)⟩
theorem lw_p122 : lw_okq (⟨"BanksDealtModel", "goBy", "(I)I"⟩, 59) := ⟨⟨by decide +kernel, by decide +kernel⟩, List.mem_of_getElem? (i := 1293) (by decide +kernel), List.mem_of_getElem? (i := 1936) (by decide +kernel), List.mem_of_getElem? (i := 1937) (by decide +kernel)⟩
theorem lw_p123 : lw_okq (⟨"BanksDealtModel", "stay", "(Z)V"⟩, 59) := ⟨⟨by decide +kernel, by decide +kernel⟩, List.mem_of_getElem? (i := 1293) (by decide +kernel), List.mem_of_getElem? (i := 1940) (by decide +kernel), List.mem_of_getElem? (i := 1941) (by decide +kernel)⟩
theorem lw_p124 : lw_okq (⟨"BanksDealtModel", "readOr", "()Z"⟩, 59) := ⟨⟨by decide +kernel, by decide +kernel⟩, List.mem_of_getElem? (i := 1293) (by decide +kernel), List.mem_of_getElem? (i := 1952) (by decide +kernel), List.mem_of_getElem? (i := 1953) (by decide +kernel)⟩
theorem lw_p125 : lw_okq (⟨"BanksDealtModel", "readAnd", "()Z"⟩, 59) := ⟨⟨by decide +kernel, by decide +kernel⟩, List.mem_of_getElem? (i := 1293) (by decide +kernel), List.mem_of_getElem? (i := 1956) (by decide +kernel), List.mem_of_getElem? (i := 1957) (by decide +kernel)⟩
theorem lw_p126 : lw_okq (⟨"BanksDealtModel", "readSaid", "()Z"⟩, 59) := ⟨⟨by decide +kernel, by decide +kernel⟩, List.mem_of_getElem? (i := 1293) (by decide +kernel), List.mem_of_getElem? (i := 1960) (by decide +kernel), List.mem_of_getElem? (i := 1961) (by decide +kernel)⟩
theorem lw_p127 : lw_okq (⟨"BanksDealtModel", "readBracket", "()Z"⟩, 59) := ⟨⟨by decide +kernel, by decide +kernel⟩, List.mem_of_getElem? (i := 1293) (by decide +kernel), List.mem_of_getElem? (i := 1964) (by decide +kernel), List.mem_of_getElem? (i := 1965) (by decide +kernel)⟩
def lw_privs_8 : List (MethodName × Nat) := [(⟨"BanksDealtModel", "rowFits", "(III)Z"⟩, 59), (⟨"BanksDealtModel", "writeWord", "(J)V"⟩, 59), (⟨"BanksDealtModel", "write", "(I)V"⟩, 59), (⟨"BanksDealtModel", "writeNext", "(J)V"⟩, 59), (⟨"BanksDealtModel", "readBookLine", "()Z"⟩, 59), (⟨"BanksDealtModel", "readSide", "(I)Z"⟩, 59), (⟨"BanksDealtModel", "readCell", "(I)Z"⟩, 59), (⟨"BanksDealtModel", "keep", "(IZ)Z"⟩, 59), (⟨"BanksDealtModel", "readSprings", "(I)Z"⟩, 59), (⟨"BanksDealtModel", "readMillRolls", "(I)Z"⟩, 59), (⟨"BanksDealtModel", "goBy", "(I)I"⟩, 59), (⟨"BanksDealtModel", "stay", "(Z)V"⟩, 59), (⟨"BanksDealtModel", "readOr", "()Z"⟩, 59), (⟨"BanksDealtModel", "readAnd", "()Z"⟩, 59), (⟨"BanksDealtModel", "readSaid", "()Z"⟩, 59), (⟨"BanksDealtModel", "readBracket", "()Z"⟩, 59)]
theorem lw_r8 : ∀ q ∈ lw_privs_8, lw_okq q := List.forall_mem_cons.mpr ⟨lw_p112, List.forall_mem_cons.mpr ⟨lw_p113, List.forall_mem_cons.mpr ⟨lw_p114, List.forall_mem_cons.mpr ⟨lw_p115, List.forall_mem_cons.mpr ⟨lw_p116, List.forall_mem_cons.mpr ⟨lw_p117, List.forall_mem_cons.mpr ⟨lw_p118, List.forall_mem_cons.mpr ⟨lw_p119, List.forall_mem_cons.mpr ⟨lw_p120, List.forall_mem_cons.mpr ⟨lw_p121, List.forall_mem_cons.mpr ⟨lw_p122, List.forall_mem_cons.mpr ⟨lw_p123, List.forall_mem_cons.mpr ⟨lw_p124, List.forall_mem_cons.mpr ⟨lw_p125, List.forall_mem_cons.mpr ⟨lw_p126, List.forall_mem_cons.mpr ⟨lw_p127, fun _ h => absurd h List.not_mem_nil⟩⟩⟩⟩⟩⟩⟩⟩⟩⟩⟩⟩⟩⟩⟩⟩
theorem lw_p128 : lw_okq (⟨"BanksDealtModel", "readNot", "()Z"⟩, 59) := ⟨⟨by decide +kernel, by decide +kernel⟩, List.mem_of_getElem? (i := 1293) (by decide +kernel), List.mem_of_getElem? (i := 1968) (by decide +kernel), List.mem_of_getElem? (i := 1969) (by decide +kernel)⟩
theorem lw_p129 : lw_okq (⟨"BanksDealtModel", "saysOne", "(IIII)I"⟩, 59) := ⟨⟨by decide +kernel, by decide +kernel⟩, List.mem_of_getElem? (i := 1293) (by decide +kernel), List.mem_of_getElem? (i := 1972) (by decide +kernel), List.mem_of_getElem? (i := 1973) (by decide +kernel)⟩
theorem lw_p130 : lw_okq (⟨"BanksDealtModel", "readOf", "(I)Z"⟩, 59) := ⟨⟨by decide +kernel, by decide +kernel⟩, List.mem_of_getElem? (i := 1293) (by decide +kernel), List.mem_of_getElem? (i := 1976) (by decide +kernel), List.mem_of_getElem? (i := 1977) (by decide +kernel)⟩
theorem lw_p131 : lw_okq (⟨"BanksDealtModel", "readFieldName", "()Z"⟩, 59) := ⟨⟨by decide +kernel, by decide +kernel⟩, List.mem_of_getElem? (i := 1293) (by decide +kernel), List.mem_of_getElem? (i := 1980) (by decide +kernel), List.mem_of_getElem? (i := 1981) (by decide +kernel)⟩
theorem lw_p132 : lw_okq (⟨"BanksDealtModel", "readCompare", "(I)Z"⟩, 59) := ⟨⟨by decide +kernel, by decide +kernel⟩, List.mem_of_getElem? (i := 1293) (by decide +kernel), List.mem_of_getElem? (i := 1984) (by decide +kernel), List.mem_of_getElem? (i := 1985) (by decide +kernel)⟩
theorem lw_p133 : lw_okq (⟨"BanksDealtModel", "holds", "(II)Z"⟩, 59) := ⟨⟨by decide +kernel, by decide +kernel⟩, List.mem_of_getElem? (i := 1293) (by decide +kernel), List.mem_of_getElem? (i := 1992) (by decide +kernel), List.mem_of_getElem? (i := 1993) (by decide +kernel)⟩
theorem lw_p134 : lw_okq (⟨"BanksDealtModel", "isNear", "(I)Z"⟩, 59) := ⟨⟨by decide +kernel, by decide +kernel⟩, List.mem_of_getElem? (i := 1293) (by decide +kernel), List.mem_of_getElem? (i := 1996) (by decide +kernel), List.mem_of_getElem? (i := 1997) (by decide +kernel)⟩
def lw_privs_9 : List (MethodName × Nat) := [(⟨"BanksDealtModel", "readNot", "()Z"⟩, 59), (⟨"BanksDealtModel", "saysOne", "(IIII)I"⟩, 59), (⟨"BanksDealtModel", "readOf", "(I)Z"⟩, 59), (⟨"BanksDealtModel", "readFieldName", "()Z"⟩, 59), (⟨"BanksDealtModel", "readCompare", "(I)Z"⟩, 59), (⟨"BanksDealtModel", "holds", "(II)Z"⟩, 59), (⟨"BanksDealtModel", "isNear", "(I)Z"⟩, 59)]
theorem lw_r9 : ∀ q ∈ lw_privs_9, lw_okq q := List.forall_mem_cons.mpr ⟨lw_p128, List.forall_mem_cons.mpr ⟨lw_p129, List.forall_mem_cons.mpr ⟨lw_p130, List.forall_mem_cons.mpr ⟨lw_p131, List.forall_mem_cons.mpr ⟨lw_p132, List.forall_mem_cons.mpr ⟨lw_p133, List.forall_mem_cons.mpr ⟨lw_p134, fun _ h => absurd h List.not_mem_nil⟩⟩⟩⟩⟩⟩⟩
def lw_privs : List (MethodName × Nat) := lw_privs_1 ++ (lw_privs_2 ++ (lw_privs_3 ++ (lw_privs_4 ++ (lw_privs_5 ++ (lw_privs_6 ++ (lw_privs_7 ++ (lw_privs_8 ++ (lw_privs_9))))))))
def lw_tbl : List Cond := k2_sels lw_privs ++ tables_1
theorem lw_privs_ok : ∀ q ∈ lw_privs, lw_okq q := by
  show ∀ q ∈ lw_privs_1 ++ (lw_privs_2 ++ (lw_privs_3 ++ (lw_privs_4 ++ (lw_privs_5 ++ (lw_privs_6 ++ (lw_privs_7 ++ (lw_privs_8 ++ (lw_privs_9)))))))), lw_okq q
  exact List.forall_mem_append.mpr ⟨lw_r1, List.forall_mem_append.mpr ⟨lw_r2, List.forall_mem_append.mpr ⟨lw_r3, List.forall_mem_append.mpr ⟨lw_r4, List.forall_mem_append.mpr ⟨lw_r5, List.forall_mem_append.mpr ⟨lw_r6, List.forall_mem_append.mpr ⟨lw_r7, List.forall_mem_append.mpr ⟨lw_r8, lw_r9⟩⟩⟩⟩⟩⟩⟩⟩
-- ===== end of PART A; then your names; then what follows =====
end
section
/-! ===== BEGIN words of one list among another's, by their places ===== -/
theorem goodIn_r {big : List Cond} (ws : List Cond) (ps : List Nat) (hp : ws = ps.filterMap (fun i => big[i]?)) (h : ws.all goodWord = true) : GoodIn big ws := by
  intro w hw
  have h1 := List.all_eq_true.mp h w hw
  rw [hp] at hw
  obtain ⟨i, -, hi⟩ := List.mem_filterMap.mp hw
  have hm : w ∈ big := by first | exact List.mem_of_getElem? hi | exact List.getElem?_mem hi
  exact ⟨hm, good_of_word h1⟩
theorem goodIn_app {big a b : List Cond} (ha : GoodIn big a) (hb : GoodIn big b) : GoodIn big (a ++ b) := fun w h => (List.mem_append.mp h).elim (ha w) (hb w)
theorem goodIn_ca {big a b : List Cond} {c : Cond} (ha : GoodIn big (c :: a)) (hb : GoodIn big b) : GoodIn big (c :: (a ++ b)) := fun w h => (List.mem_cons.mp h).elim (fun e => ha w (List.mem_cons.mpr (Or.inl e))) (fun h => (List.mem_append.mp h).elim (fun h => ha w (List.mem_cons.mpr (Or.inr h))) (hb w))
theorem goodIn_sub {big ws : List Cond} (hm : ∀ w ∈ ws, w ∈ big) (h : ws.all goodWord = true) : GoodIn big ws := fun w hw => ⟨hm w hw, good_of_word (List.all_eq_true.mp h w hw)⟩
/-! ===== END ===== -/

/-! ===== BEGIN exceptions that leave a method, and their catching by the caller (launches without stack traces) ===== -/
section VXA
/-! The laws vx_back, vx_callV, vx_callS, vx_callSW, vx_throw0, vx_throwS follow proofs of the library, with one case more: JvmDerived/Free/Laws.lean (Back.of_free), Shelf42/LK1.lean (callV, callS), Shelf/KitTraced.lean (throwNew0V, throwNewS). -/
/-- where a method has thrown q: the class by its name, the cell, what was written, the world -/
def vx_T (XC : String → State → State → Prop) (st : State) (q : Addr) (t : State) (mc ms : Nat) (free : Addr → Prop) : Prop :=
  ∃ (E : String) (ce : Cell) (L : List Loc), XC E st t ∧ t.heap[q]? = some ce ∧ ce.vm = .none ∧ st.vm.findClass E = some ce.cls ∧ st.WarmedH t.vm ∧ st.sameButNew ({ t with vm := st.vm } : State) L mc ms ∧ ∀ z ∈ L, free z.base
def vx_Q (Qc : Array Value → State → Outcome → State → Prop) (XC : String → State → State → Prop) (mc ms : Nat) (free : Addr → Prop) : Array Value → State → Outcome → State → Prop := fun a st o t =>
  (Qc a st o t ∧ ∃ L, FrameEnd st o t L mc ms ∧ ∀ q ∈ L, free q.base) ∨ ∃ q, o = .threw q ∧ vx_T XC st q t mc ms free
/-- a callee that returns or throws -/
def vx_Met (l : Launch) (y : MethodName) (ws : List Cond) (rm : Room) (Pc : Array Value → State → Prop) (Qc : Array Value → State → Outcome → State → Prop) (XC : String → State → State → Prop) (mc ms : Nat) (free : Addr → Prop) : Prop :=
  MetFree l y (headSpec ws rm) Pc (fun _ _ _ _ _ => True) (vx_Q Qc XC mc ms free)
def vx_Post (XC : String → State → State → Prop) (mc ms : Nat) (free : Addr → Prop) : Pt → Array Value → Addr → Pt → Prop := fun A a q B =>
  ∃ (g : JFrame) (mk : MethodId) (t : State) (L : List Loc) (E : String) (ce : Cell), B.U.heap = t.heap ∧ B.U.vm = t.vm ∧ XC E (A.U.calling g mk a) t ∧ t.heap[q]? = some ce ∧ ce.vm = .none ∧ A.U.vm.findClass E = some ce.cls ∧ B.locs = A.locs ++ L ∧ (∀ z ∈ L, free z.base) ∧ B.cells = A.cells + mc ∧ B.slots = A.slots + ms
def vx_Back (l : Launch) (R : Room) (p : Program) (e : Env) (below : List Frame) (s : State) (sargs : Array Value) (y : MethodName) (len W9 : Nat)
    (Pre : Pt → Array Value → Prop) (Post : Pt → Array Value → Option Value → Pt → Prop) (PostX : Pt → Array Value → Addr → Pt → Prop) : Prop :=
  ∀ (m : MethodId) (meth : Method) (c : Code) (A : Pt) (g : JFrame) (ig : Instr) (mk : MethodId) (a : Array Value),
    Stand p l e R s m sargs below meth c A.U A.locs A.cells A.slots → g.method = m → g.locals.size = c.maxLocals → decode c.code g.pc = .ok (ig, len) →
    2 * g.monitorRoom + (g.stack.map fun v => v.category).sum ≤ W9 → A.U.methodNamed? y = some mk → Pre A a →
    (∃ (v : Option Value) (B : Pt), Stand p l e R s m sargs below meth c B.U B.locs B.cells B.slots ∧ Post A a v B ∧
      Steps p.tables e below (doInvoke e (A.U.setTop g) [] mk a).1 (B.U.setTop { g with pc := g.pc + len, stack := v.toList ++ g.stack })) ∨
    (∃ (q : Addr) (B : Pt), Stand p l e R s m sargs below meth c B.U B.locs B.cells B.slots ∧ PostX A a q B ∧
      Steps p.tables e below (doInvoke e (A.U.setTop g) [] mk a).1 ((B.U.setTop g).pushFrame (.throwing q)))
section Payer
variable {l : Launch} {R : Room} {p : Program} {e : Env} {below : List Frame} {s : State} {sargs : Array Value} {y : MethodName} {len W9 : Nat}
theorem vx_back {ws : List Cond} {rm : Room} {Pc : Array Value → State → Prop} {Qc : Array Value → State → Outcome → State → Prop} {XC : String → State → State → Prop} {mc ms : Nat} {free : Addr → Prop} {bytes : ByteArray} {maxL : Nat} {ret : Option FieldType}
    (hM : vx_Met l y ws rm Pc Qc XC mc ms free) (hblind : FrameBlind Pc) (hrc : rm.cells = mc) (hrs : rm.slots = ms)
    (hframes : rm.frames + 1 ≤ R.frames) (hlocals : W9 + (maxL + 11) + rm.locals ≤ R.locals)
    (hws : ∀ w ∈ ws, ∀ a' U, s.WarmedH U.vm → w.before a' U = true) (hcode : Cond.code y bytes maxL ret ∈ ws) (hinit : ∀ a' U, s.WarmedH U.vm → (Cond.initialized y.cls).before a' U = true) :
    vx_Back l R p e below s sargs y len W9 (PreOf R mc ms Pc) (PostOf Qc mc ms free) (vx_Post XC mc ms free) := by
  intro m meth c A g ig mk a X hg hsize hdg hW hn hp
  have h1 : (headSpec ws rm).pre.before a A.U = true := atoms_intro fun w hw => hws w hw _ _ X.warmed
  have h2 : (Cond.code y bytes maxL ret).before a A.U = true := hws _ hcode _ _ X.warmed
  have h3 : (Cond.initialized y.cls).before a A.U = true := hinit _ _ X.warmed
  have h4 : A.cells + (headSpec ws rm).room.cells ≤ R.cells := by rw [show (headSpec ws rm).room.cells = mc from hrc]; exact hp.1
  have h5 : A.slots + (headSpec ws rm).room.slots ≤ R.slots := by rw [show (headSpec ws rm).room.slots = ms from hrs]; exact hp.2.1
  have hPc : Pc a (A.U.calling g mk a) := hblind _ _ _ _ hp.2.2
  obtain ⟨U, Ls, c0, s0⟩ := A
  dsimp only [Pt.U, Pt.locs, Pt.cells, Pt.slots] at h1 h2 h3 h4 h5 X hn hPc ⊢
  obtain ⟨methY, cY, hmY, hcY, -, hlY, -, -, -, -⟩ := Cond.code_spec hn h2
  obtain ⟨kY, hkY, -⟩ := className_of_methodNamed hn
  have hinitY : kY.init = .initialized := Cond.initialized_spec (findClass_of_methodNamed hn) hkY h3
  have h : At U g.method c below := by rw [hg]; exact X.here
  have hlocals9 : W9 + (maxL + 11) + (headSpec ws rm).room.locals ≤ R.locals := hlocals
  have happ : (headSpec ws rm).appliesLoose y e.platform (U.calling g mk a) = true :=
    Spec.appliesLoose_calling (g := g) h hdg hn hkY hinitY
      (X.room_calling (g := g) (R' := (headSpec ws rm).room) hsize hmY hcY hframes (by rw [hlY]; omega) h4 h5) h1
  obtain ⟨mid, hmid⟩ := h.above
  have hfr : (U.setTop g).frames = (.java g :: mid) ++ below := by rw [State.frames_setTop' g h.top, hmid]; rfl
  obtain ⟨o, s₂, hsteps, -, hend, hq⟩ := Steps.callFree hM p X.admits X.cas X.clock (acts := []) hfr happ hPc trivial
  have hq' : vx_Q Qc XC mc ms free a (U.calling g mk a) o s₂ := hq
  rw [State.frames_setTop' g h.top] at hend
  obtain ⟨g₀, hg0⟩ := Option.isSome_iff_exists.mp h.top
  obtain ⟨r, hr⟩ := State.topJava?_eq_some.mp hg0
  have hr' : (({ U with heap := s₂.heap, slotsUsed := s₂.slotsUsed } : State).setVm s₂.vm).frames = .java g₀ :: r := hr
  rcases hq' with ⟨hqc, L, hfe, hL⟩ | ⟨q, rfl, E, ce, L, hx, hce, hcv, hcl, hW₂, hsm, hL⟩
  · obtain ⟨⟨v, rfl⟩, hW₂, e2, q2, q3, q4, q5, q6⟩ := id hfe
    have e3 : s₂ = ({ (U.calling g mk a).setFrames s₂.frames with heap := s₂.heap, slotsUsed := s₂.slotsUsed } : State).setVm s₂.vm := by
      have : s₂ = ({ s₂ with vm := (U.calling g mk a).vm } : State).setVm s₂.vm := rfl
      rw [e2] at this
      exact this
    obtain ⟨c₂, i₂, len₂, hc₂, hd₂, hf₂⟩ := hend
    have hW' : U.WarmedH s₂.vm := hW₂
    have hcc : c₂ = c := by
      have h1 : s₂.code? g.method = U.code? g.method := by
        rw [State.code?_eq, State.code?_eq, hW'.alike.method?]
      exact Option.some.inj (hc₂.symm.trans (h1.trans h.code))
    subst hcc
    have hlen : len₂ = len := by rw [hdg] at hd₂; cases hd₂; rfl
    subst hlen
    have hs₂ : s₂ = (({ U with heap := s₂.heap, slotsUsed := s₂.slotsUsed } : State).setVm s₂.vm).setTop { g with pc := g.pc + len₂, stack := v.toList ++ g.stack } := by
      refine e3.trans ?_
      rw [hf₂, State.calling_eq h.top, State.setFrames_setFrames, State.setTop_of_frames _ hr', hr]
      rfl
    have hsame : U.sameButNew ({ U with heap := s₂.heap, slotsUsed := s₂.slotsUsed } : State) L mc ms := by
      refine ⟨?_, q2, q3, q4, q5, q6⟩
      obtain ⟨t, ht, -⟩ := State.frames_cons hr
      show ({ U with heap := s₂.heap, slotsUsed := s₂.slotsUsed } : State) = { U.setFrames U.frames with heap := s₂.heap, slotsUsed := s₂.slotsUsed }
      rw [State.setFrames_self ht]
    subst hg
    refine Or.inl ⟨v, ⟨(({ U with heap := s₂.heap, slotsUsed := s₂.slotsUsed } : State).setVm s₂.vm), Ls ++ L, c0 + mc, s0 + ms⟩,
      ⟨X.admits, X.cas, X.clock, X.frames, X.room, X.hears, X.method, X.code, (X.here.setHeapUsed s₂.heap s₂.slotsUsed).setVm hW'.alike, X.tail, State.WarmedH.trans X.warmed hW', X.limits, X.bytes, X.same.trans (hsame.setVm s.vm)⟩,
      ⟨g, mk, s₂, L, rfl, rfl, hqc, rfl, hL, rfl, rfl⟩, ?_⟩
    show Steps p.tables e below _ ((({ U with heap := s₂.heap, slotsUsed := s₂.slotsUsed } : State).setVm s₂.vm).setTop { g with pc := g.pc + len₂, stack := v.toList ++ g.stack })
    rw [← hs₂]
    exact hsteps
  · obtain ⟨e2, q2, q3, q4, q5, q6⟩ := id hsm
    have e3 : s₂ = ({ (U.calling g mk a).setFrames s₂.frames with heap := s₂.heap, slotsUsed := s₂.slotsUsed } : State).setVm s₂.vm := by
      have : s₂ = ({ s₂ with vm := (U.calling g mk a).vm } : State).setVm s₂.vm := rfl
      rw [e2] at this
      exact this
    have hf₂ : s₂.frames = .throwing q :: .java g :: U.frames.tail := hend
    have hW' : U.WarmedH s₂.vm := hW₂
    have hs₂ : s₂ = ((({ U with heap := s₂.heap, slotsUsed := s₂.slotsUsed } : State).setVm s₂.vm).setTop g).pushFrame (.throwing q) := by
      refine e3.trans ?_
      rw [hf₂, State.calling_eq h.top, State.setFrames_setFrames, State.pushFrame, State.frames_setTop _ hr', State.setTop_of_frames _ hr', State.setFrames_setFrames, hr]
      rfl
    have hsame : U.sameButNew ({ U with heap := s₂.heap, slotsUsed := s₂.slotsUsed } : State) L mc ms := by
      refine ⟨?_, q2, q3, q4, q5, q6⟩
      obtain ⟨t, ht, -⟩ := State.frames_cons hr
      show ({ U with heap := s₂.heap, slotsUsed := s₂.slotsUsed } : State) = { U.setFrames U.frames with heap := s₂.heap, slotsUsed := s₂.slotsUsed }
      rw [State.setFrames_self ht]
    subst hg
    refine Or.inr ⟨q, ⟨(({ U with heap := s₂.heap, slotsUsed := s₂.slotsUsed } : State).setVm s₂.vm), Ls ++ L, c0 + mc, s0 + ms⟩,
      ⟨X.admits, X.cas, X.clock, X.frames, X.room, X.hears, X.method, X.code, (X.here.setHeapUsed s₂.heap s₂.slotsUsed).setVm hW'.alike, X.tail, State.WarmedH.trans X.warmed hW', X.limits, X.bytes, X.same.trans (hsame.setVm s.vm)⟩,
      ⟨g, mk, s₂, L, E, ce, rfl, rfl, hx, hce, hcv, hcl, rfl, hL, rfl, rfl⟩, ?_⟩
    show Steps p.tables e below _ (((({ U with heap := s₂.heap, slotsUsed := s₂.slotsUsed } : State).setVm s₂.vm).setTop g).pushFrame (.throwing q))
    rw [← hs₂]
    exact hsteps
end Payer
section Calls
variable {p : Program} {l : Launch} {e : Env} {R : Room} {s : State} {m : MethodId} {args : Array Value} {below : List Frame} {meth : Method} {c : Code} {T : State} {locs : List Loc} {cells slots : Nat}
theorem vx_callV (X : Stand p l e R s m args below meth c T locs cells slots) (hexec : p.tables.exec = Jvm.exec) {own C : String} {index : Nat} {y : MethodName} {bytes : ByteArray} {maxL : Nat} {ret : Option FieldType}
    (hown : s.vm.findClass own = some m.cls) (hlink : (Cond.methodLink own index y).before args s = true) (hinst : (Cond.instanceMethod y).before args s = true) (hsel : (Cond.selects C y y).before args s = true)
    (hcode : (Cond.code y bytes maxL ret).before args s = true) (hy : y.cls ≠ "java/lang/invoke/MethodHandle" ∧ y.cls ≠ "java/lang/invoke/VarHandle")
    {W9 : Nat} {Pre : Pt → Array Value → Prop} {Post : Pt → Array Value → Option Value → Pt → Prop} {PostX : Pt → Array Value → Addr → Pt → Prop} (hK : vx_Back l R p e below s args y 3 W9 Pre Post PostX)
    {b : Addr} {cellB : Cell} (hcell : T.heap[b]? = some cellB) (hobj : cellB.vm.isStatics = false) (hcls : s.vm.findClass C = some cellB.cls)
    {g : JFrame} (hg : g.method = m) (hsize : g.locals.size = c.maxLocals) {argsL rest : List Value} (hlen : ∀ sig, parseMethodDescriptor y.desc = some sig → argsL.length = sig.parameters.length)
    (hstack : g.stack = argsL.reverse ++ .ref b :: rest) (hW : 2 * g.monitorRoom + (rest.map fun v => v.category).sum ≤ W9) (hdg : decode c.code g.pc = .ok (.invokevirtual index, 3))
    (hpre : ∀ vm₁, s.WarmedH vm₁ → Pre ⟨T.setVm vm₁, locs, cells, slots⟩ (Value.ref b :: argsL).toArray) :
    (∃ (v : Option Value) (vm₁ : Vm) (B : Pt), s.WarmedH vm₁ ∧ Stand p l e R s m args below meth c B.U B.locs B.cells B.slots ∧ Post ⟨T.setVm vm₁, locs, cells, slots⟩ (Value.ref b :: argsL).toArray v B ∧
      ∀ target, Steps p.tables e below (B.U.setTop { g with pc := g.pc + 3, stack := v.toList ++ rest }) target → Steps p.tables e below (T.setTop g) target) ∨
    (∃ (q : Addr) (vm₁ : Vm) (B : Pt), s.WarmedH vm₁ ∧ Stand p l e R s m args below meth c B.U B.locs B.cells B.slots ∧ PostX ⟨T.setVm vm₁, locs, cells, slots⟩ (Value.ref b :: argsL).toArray q B ∧
      Steps p.tables e below (T.setTop g) ((B.U.setTop { g with stack := rest }).pushFrame (.throwing q))) := by
  obtain ⟨mk, methM, hnamed, hmethM, hstM, habM⟩ := Cond.instanceMethod_spec hinst
  obtain ⟨methM', cM, hmethM', -, -, -, -, -, -, hsigM⟩ := Cond.code_spec hnamed hcode
  cases hmethM.symm.trans hmethM'
  obtain ⟨c2, r2, m2, q1, q2, q3, q4, kP, hkP, hkPi⟩ := Cond.selects_spec hsel
  cases hcls.symm.trans q1
  cases (State.methodFound?_of_named hnamed hy).symm.trans q2
  cases hnamed.symm.trans q3
  have hselP : selectMethod e.platform s.vm cellB.cls mk = .method mk := by rw [Launch.admits_selectMethod X.admits]; exact q4
  obtain ⟨vm₁, X₁, hstep₁⟩ := X.invokevirtual hexec hown hlink hnamed hmethM hstM hkP hkPi hy (a := b) (cell := cellB) hcell
    (fun z h => by rw [h] at hobj; cases hobj) hselP hmethM habM hkP hkPi (g := g) hg (argsL := argsL) (rest := rest) (hlen _ hsigM) hstack hdg
  rcases hK m meth c ⟨T.setVm vm₁, locs, cells, slots⟩ { g with stack := rest } (.invokevirtual index) mk (Value.ref b :: argsL).toArray X₁ hg hsize hdg hW (X₁.named hnamed) (hpre vm₁ X₁.warmed) with ⟨v, B, X', hpost, hsteps⟩ | ⟨q, B, X', hpost, hsteps⟩
  · exact Or.inl ⟨v, vm₁, B, X₁.warmed, X', hpost, fun target h => hstep₁ _ fun acts => by rw [doInvoke_state]; exact hsteps.trans h⟩
  · exact Or.inr ⟨q, vm₁, B, X₁.warmed, X', hpost, hstep₁ _ fun acts => by rw [doInvoke_state]; exact hsteps⟩
theorem vx_callS (X : Stand p l e R s m args below meth c T locs cells slots) (hexec : p.tables.exec = Jvm.exec) {own : String} {index : Nat} {y : MethodName} {bytes : ByteArray} {maxL : Nat} {ret : Option FieldType}
    (hown : s.vm.findClass own = some m.cls) (hlink : (Cond.methodLink own index y).before args s = true) (hstat : (Cond.static y).before args s = true) (hinit : (Cond.initialized y.cls).before args s = true)
    (hcode : (Cond.code y bytes maxL ret).before args s = true) (hy : y.cls ≠ "java/lang/invoke/MethodHandle" ∧ y.cls ≠ "java/lang/invoke/VarHandle")
    {W9 : Nat} {Pre : Pt → Array Value → Prop} {Post : Pt → Array Value → Option Value → Pt → Prop} {PostX : Pt → Array Value → Addr → Pt → Prop} (hK : vx_Back l R p e below s args y 3 W9 Pre Post PostX)
    {g : JFrame} (hg : g.method = m) (hsize : g.locals.size = c.maxLocals) {argsL rest : List Value} (hlen : ∀ sig, parseMethodDescriptor y.desc = some sig → argsL.length = sig.parameters.length)
    (hstack : g.stack = argsL.reverse ++ rest) (hW : 2 * g.monitorRoom + (rest.map fun v => v.category).sum ≤ W9) (hdg : decode c.code g.pc = .ok (.invokestatic index, 3))
    (hpre : ∀ vm₁, s.WarmedH vm₁ → Pre ⟨T.setVm vm₁, locs, cells, slots⟩ argsL.toArray) :
    (∃ (v : Option Value) (vm₁ : Vm) (B : Pt), s.WarmedH vm₁ ∧ Stand p l e R s m args below meth c B.U B.locs B.cells B.slots ∧ Post ⟨T.setVm vm₁, locs, cells, slots⟩ argsL.toArray v B ∧
      ∀ target, Steps p.tables e below (B.U.setTop { g with pc := g.pc + 3, stack := v.toList ++ rest }) target → Steps p.tables e below (T.setTop g) target) ∨
    (∃ (q : Addr) (vm₁ : Vm) (B : Pt), s.WarmedH vm₁ ∧ Stand p l e R s m args below meth c B.U B.locs B.cells B.slots ∧ PostX ⟨T.setVm vm₁, locs, cells, slots⟩ argsL.toArray q B ∧
      Steps p.tables e below (T.setTop g) ((B.U.setTop { g with stack := rest }).pushFrame (.throwing q))) := by
  obtain ⟨mk, hnamed⟩ := Cond.code_named hcode
  obtain ⟨methM, cM, hmethM, -, -, -, -, -, -, hsigM⟩ := Cond.code_spec hnamed hcode
  have hstatic : methM.isStatic = true := Cond.static_spec hnamed hmethM hstat
  obtain ⟨kP, hkP, -⟩ := className_of_methodNamed hnamed
  have hinitP : kP.init = .initialized := Cond.initialized_spec (findClass_of_methodNamed hnamed) hkP hinit
  obtain ⟨vm₁, X₁, hstep₁⟩ := X.invokestatic hexec hown hlink hnamed hmethM hstatic hkP hinitP hy (g := g) hg (argsL := argsL) (rest := rest) (hlen _ hsigM) hstack hdg
  rcases hK m meth c ⟨T.setVm vm₁, locs, cells, slots⟩ { g with stack := rest } (.invokestatic index) mk argsL.toArray X₁ hg hsize hdg hW (X₁.named hnamed) (hpre vm₁ X₁.warmed) with ⟨v, B, X', hpost, hsteps⟩ | ⟨q, B, X', hpost, hsteps⟩
  · exact Or.inl ⟨v, vm₁, B, X₁.warmed, X', hpost, fun target h => hstep₁ _ fun acts => by rw [doInvoke_state]; exact hsteps.trans h⟩
  · exact Or.inr ⟨q, vm₁, B, X₁.warmed, X', hpost, hstep₁ _ fun acts => by rw [doInvoke_state]; exact hsteps⟩
end Calls
theorem vx_cls {s : State} {T : State} {vm₁ : Vm} {E : String} {k : ClassId} (hW : s.WarmedH vm₁) (h : (T.setVm vm₁).vm.findClass E = some k) : s.vm.findClass E = some k := by
  have h1 : vm₁.findClass E = some k := h
  rw [hW.alike.findClass] at h1
  exact h1
/-- the method's frame g, with q thrown over it -/
def vx_W (p : Program) (l : Launch) (e : Env) (R : Room) (s : State) (m : MethodId) (args : Array Value) (below : List Frame) (meth : Method) (c : Code) (H : Heap) (locs : List Loc) (cells slots : Nat) (Q : State → Prop) (g : JFrame) (q : Addr) : Prop :=
  ∀ T : State, T.heap = H → Stand p l e R s m args below meth c T locs cells slots → ∃ t, Steps p.tables e below ((T.setTop g).pushFrame (.throwing q)) t ∧ Q t
def vx_Run (p : Program) (l : Launch) (e : Env) (R : Room) (s : State) (m : MethodId) (args : Array Value) (below : List Frame) (meth : Method) (c : Code) (H : Heap) (locs : List Loc) (cells slots mc ms : Nat) (g : JFrame) (rest : List Value) (Qa : State → Outcome → State → Prop) (XC : String → State → State → Prop) (free : Addr → Prop) : Prop :=
  ∀ T : State, T.heap = H → Stand p l e R s m args below meth c T locs cells slots →
    (∃ (v : Option Value) (st₀ t T' : State) (L : List Loc), st₀.heap = H ∧ Stand p l e R s m args below meth c T' (locs ++ L) (cells + mc) (slots + ms) ∧ (∀ q ∈ L, free q.base) ∧ T'.heap = t.heap ∧ T'.vm = t.vm ∧ Qa st₀ (.returned v) t ∧
      Goes p e below T g T' { g with pc := g.pc + 3, stack := v.toList ++ rest }) ∨
    (∃ (q : Addr) (st₀ t T' : State) (L : List Loc) (E : String) (ce : Cell), st₀.heap = H ∧ Stand p l e R s m args below meth c T' (locs ++ L) (cells + mc) (slots + ms) ∧ (∀ z ∈ L, free z.base) ∧ T'.heap = t.heap ∧ T'.vm = t.vm ∧ XC E st₀ t ∧ t.heap[q]? = some ce ∧ ce.vm = .none ∧ s.vm.findClass E = some ce.cls ∧
      Steps p.tables e below (T.setTop g) ((T'.setTop { g with stack := rest }).pushFrame (.throwing q)))
def vx_X {S : Type} (px : S → Prop) (B : String → S → State → Prop) (A : Nat → Prop) : String → State → State → Prop := fun E st t => ∃ u : S, px u ∧ B E u t ∧ va_F A st t
section Runs
variable {p : Program} {l : Launch} {e : Env} {R : Room} {s : State} {m : MethodId} {args : Array Value} {below : List Frame} {meth : Method} {c : Code} {H : Heap} {locs : List Loc} {cells slots : Nat}
variable {y : MethodName} {bytes cc : ByteArray} {maxL nL mc ms n index : Nat} {ret : Option FieldType} {ws : List Cond} {rm : Room} {Pc : Array Value → State → Prop} {Qc : Array Value → State → Outcome → State → Prop} {XC : String → State → State → Prop} {free : Addr → Prop} {Ts : List Cond} {own C : String} {b : Addr} {As rest : List Value} {g : JFrame}
theorem vx_callBack (cb : CallB R s args own index y bytes maxL ret ws rm mc ms n) (hM : vx_Met l y ws rm Pc Qc XC mc ms free) (hbl : FrameBlind Pc) : vx_Back l R p e below s args y 3 8 (PreOf R mc ms Pc) (PostOf Qc mc ms free) (vx_Post XC mc ms free) := by
  obtain ⟨hrc, hrs, hfr, hlo, hws, hcw, -, hini, -⟩ := cb
  exact vx_back (bytes := bytes) (maxL := maxL) (ret := ret) hM hbl hrc hrs hfr hlo hws hcw (fun a' U hW => word_at hW (Or.inl (by first | rfl | simp [Cond.onTables, Cond.keeps, Cond.steady])) hini)
theorem vx_runV (S : CallFix p m c cc nL s args Ts own) (hM : vx_Met l y ws rm Pc Qc XC mc ms free) (cw : CallW R s args own C index y bytes maxL ret ws rm mc ms n) (hp : PreV s H C b Pc As)
    (hg : g.method = m) (hn : As.length = n) (hsize : g.locals.size = nL) (hstack : g.stack = As.reverse ++ .ref b :: rest) (hW : 2 * g.monitorRoom + (rest.map fun v => v.category).sum ≤ 8) (hdg : decode cc g.pc = .ok (.invokevirtual index, 3)) (hf : cells + mc ≤ R.cells ∧ slots + ms ≤ R.slots) :
    vx_Run p l e R s m args below meth c H locs cells slots mc ms g rest (Qc (Value.ref b :: As).toArray) XC free := by
  have hK : vx_Back l R p e below s args y 3 8 (PreOf R mc ms Pc) (PostOf Qc mc ms free) (vx_Post XC mc ms free) := vx_callBack cw.1 hM hp.1
  obtain ⟨⟨-, -, -, -, -, -, hcode, -, hy, hlen, hl⟩, hin, hse⟩ := cw
  obtain ⟨hx, hb, hml, ho, -⟩ := S
  obtain ⟨-, ⟨cellB, hcB, hoB, hclB⟩, hPc⟩ := hp
  intro T hT X
  rcases vx_callV X hx (C := C) (bytes := bytes) (maxL := maxL) (ret := ret) ho hl hin hse hcode hy hK (by rw [hT]; exact hcB) hoB hclB hg (hsize.trans hml.symm) (argsL := As) (rest := rest) (fun sig h => hn.trans (hlen sig h)) hstack hW (by rw [hb]; exact hdg)
    (fun vm₁ hW₁ => ⟨hf.1, hf.2, hPc (T.setVm vm₁) hT hW₁⟩) with ⟨v, vm₁, ⟨U', l2, c2, s2⟩, hW₁, X', ⟨g', mk, t, L, e1, e2, hq, h1, hL, h2, h3⟩, st⟩ | ⟨q, vm₁, ⟨U', l2, c2, s2⟩, hW₁, X', ⟨g', mk, t, L, E, ce, e1, e2, hq, hce, hcv, hcl, h1, hL, h2, h3⟩, st⟩
  · dsimp only [Pt.U, Pt.locs, Pt.cells, Pt.slots] at X' e1 e2 h1 h2 h3 st
    subst h1; subst h2; subst h3
    exact Or.inl ⟨v, (T.setVm vm₁).calling g' mk (Value.ref b :: As).toArray, t, U', L, hT, X', hL, e1, e2, hq, st⟩
  · dsimp only [Pt.U, Pt.locs, Pt.cells, Pt.slots] at X' e1 e2 h1 h2 h3 st hcl
    subst h1; subst h2; subst h3
    exact Or.inr ⟨q, (T.setVm vm₁).calling g' mk (Value.ref b :: As).toArray, t, U', L, E, ce, hT, X', hL, e1, e2, hq, hce, hcv, vx_cls hW₁ hcl, st⟩
theorem vx_runS (S : CallFix p m c cc nL s args Ts own) (hM : vx_Met l y ws rm Pc Qc XC mc ms free) (cw : CallB R s args own index y bytes maxL ret ws rm mc ms n ∧ (Cond.static y).before args s = true) (hp : PreS s H Pc As)
    (hg : g.method = m) (hn : As.length = n) (hsize : g.locals.size = nL) (hstack : g.stack = As.reverse ++ rest) (hW : 2 * g.monitorRoom + (rest.map fun v => v.category).sum ≤ 8) (hdg : decode cc g.pc = .ok (.invokestatic index, 3)) (hf : cells + mc ≤ R.cells ∧ slots + ms ≤ R.slots) :
    vx_Run p l e R s m args below meth c H locs cells slots mc ms g rest (Qc As.toArray) XC free := by
  have hK : vx_Back l R p e below s args y 3 8 (PreOf R mc ms Pc) (PostOf Qc mc ms free) (vx_Post XC mc ms free) := vx_callBack cw.1 hM hp.1
  obtain ⟨⟨-, -, -, -, -, -, hcode, hini, hy, hlen, hl⟩, hstt⟩ := cw
  obtain ⟨hx, hb, hml, ho, -⟩ := S
  intro T hT X
  rcases vx_callS X hx (bytes := bytes) (maxL := maxL) (ret := ret) ho hl hstt hini hcode hy hK hg (hsize.trans hml.symm) (argsL := As) (rest := rest) (fun sig h => hn.trans (hlen sig h)) hstack hW (by rw [hb]; exact hdg)
    (fun vm₁ hW₁ => ⟨hf.1, hf.2, hp.2 (T.setVm vm₁) hT hW₁⟩) with ⟨v, vm₁, ⟨U', l2, c2, s2⟩, hW₁, X', ⟨g', mk, t, L, e1, e2, hq, h1, hL, h2, h3⟩, st⟩ | ⟨q, vm₁, ⟨U', l2, c2, s2⟩, hW₁, X', ⟨g', mk, t, L, E, ce, e1, e2, hq, hce, hcv, hcl, h1, hL, h2, h3⟩, st⟩
  · dsimp only [Pt.U, Pt.locs, Pt.cells, Pt.slots] at X' e1 e2 h1 h2 h3 st
    subst h1; subst h2; subst h3
    exact Or.inl ⟨v, (T.setVm vm₁).calling g' mk As.toArray, t, U', L, hT, X', hL, e1, e2, hq, st⟩
  · dsimp only [Pt.U, Pt.locs, Pt.cells, Pt.slots] at X' e1 e2 h1 h2 h3 st hcl
    subst h1; subst h2; subst h3
    exact Or.inr ⟨q, (T.setVm vm₁).calling g' mk As.toArray, t, U', L, E, ce, hT, X', hL, e1, e2, hq, hce, hcv, vx_cls hW₁ hcl, st⟩
end Runs
section Rows
variable {p : Program} {l : Launch} {e : Env} {R : Room} {s : State} {m : MethodId} {args : Array Value} {below : List Frame} {meth : Method} {c : Code} {H : Heap} {locs : List Loc} {cells slots : Nat} {Q : State → Prop}
variable {mc ms : Nat} {free : Addr → Prop} {A0 A1 : Nat → Prop} {H0 : Heap} {a : Array Value} {pc : Nat} {ls : Array Slot} {st0 rest : List Value}
theorem vx_keep {st₀ t T' : State} {L : List Loc} (h0 : st₀.heap = H) (e1 : T'.heap = t.heap) (hS : va_S A0 H0 H locs) (hA : ∀ q, q < H.size → A1 q → A0 q) (hf : ∀ q, free q → A0 q) (hL : ∀ q ∈ L, free q.base) (hF : va_F A1 st₀ t) :
    H.size ≤ T'.heap.size ∧ (∀ q : Nat, q < H.size → ¬ A1 q → T'.heap[q]? = H[q]?) ∧ va_S A0 H0 T'.heap (locs ++ L) := by
  obtain ⟨hz, hk⟩ := hF
  rw [h0] at hz hk
  exact ⟨by rw [e1]; exact hz, fun q h1 h2 => by rw [e1]; exact hk q h1 h2,
    ⟨Nat.le_trans hS.1 (by rw [e1]; exact hz), fun q h1 h2 => by rw [e1, hk q (Nat.lt_of_lt_of_le h1 hS.1) (fun z => h2 (hA q (Nat.lt_of_lt_of_le h1 hS.1) z))]; exact hS.2.1 q h1 h2, fun q hq => by
      rcases List.mem_append.mp hq with h | h
      · exact hS.2.2 q h
      · exact hf _ (hL q h)⟩⟩
theorem vx_calli {S SX : Type} {post : Int32 → S → Prop} {px : SX → Prop} {B : S → State → Prop} {BX : String → SX → State → Prop} {AX : Nat → Prop} (hr : vx_Run p l e R s m args below meth c H locs cells slots mc ms (F0 m pc ls st0) rest (va_Qi post B A1 a) (vx_X px BX AX) free) (hS : va_S A0 H0 H locs) (hA : ∀ q, q < H.size → A1 q → A0 q) (hf : ∀ q, free q → A0 q) (hAX : ∀ q, q < H.size → AX q → A0 q)
    (kx : ∀ (E : String) (ce : Cell) (q9 : Addr) (u : SX) (t : State) (H1 : Heap) (locs1 : List Loc), t.heap = H1 → s.vm.Alike t.vm → px u → BX E u t → H.size ≤ H1.size → (∀ q : Nat, q < H.size → ¬ AX q → H1[q]? = H[q]?) → va_S A0 H0 H1 locs1 → H1[q9]? = some ce → ce.vm = .none → s.vm.findClass E = some ce.cls → vx_W p l e R s m args below meth c H1 locs1 (cells + mc) (slots + ms) Q (F0 m pc ls rest) q9)
    (kk : ∀ (r : Int32) (u : S) (t : State) (H1 : Heap) (locs1 : List Loc), t.heap = H1 → s.vm.Alike t.vm → post r u → B u t → H.size ≤ H1.size → (∀ q : Nat, q < H.size → ¬ A1 q → H1[q]? = H[q]?) → va_S A0 H0 H1 locs1 → W p l e R s m args below meth c H1 locs1 (cells + mc) (slots + ms) Q (F0 m (pc + 3) ls (.int r :: rest))) : W p l e R s m args below meth c H locs cells slots Q (F0 m pc ls st0) := by
  intro T hT X
  rcases hr T hT X with ⟨v, st₀, t, T', L, h0, X', hL, e1, e2, ⟨⟨r, u, hv, hp, hb⟩, hF⟩, st⟩ | ⟨q, st₀, t, T', L, E, ce, h0, X', hL, e1, e2, ⟨u, hp, hb, hF⟩, hce, hcv, hcl, st⟩
  · cases hv
    obtain ⟨k1, k2, k3⟩ := vx_keep h0 e1 hS hA hf hL hF
    obtain ⟨t2, a1, b1⟩ := kk r u t T'.heap (locs ++ L) e1.symm (by rw [← e2]; exact X'.warmed.alike) hp hb k1 k2 k3 T' rfl X'
    exact ⟨t2, st t2 a1, b1⟩
  · obtain ⟨k1, k2, k3⟩ := vx_keep h0 e1 hS hAX hf hL hF
    obtain ⟨t2, a1, b1⟩ := kx E ce q u t T'.heap (locs ++ L) e1.symm (by rw [← e2]; exact X'.warmed.alike) hp hb k1 k2 k3 (by rw [e1]; exact hce) hcv hcl T' rfl X'
    exact ⟨t2, st.trans a1, b1⟩
theorem vx_calll {S SX : Type} {post : Int64 → S → Prop} {px : SX → Prop} {B : S → State → Prop} {BX : String → SX → State → Prop} {AX : Nat → Prop} (hr : vx_Run p l e R s m args below meth c H locs cells slots mc ms (F0 m pc ls st0) rest (va_Ql post B A1 a) (vx_X px BX AX) free) (hS : va_S A0 H0 H locs) (hA : ∀ q, q < H.size → A1 q → A0 q) (hf : ∀ q, free q → A0 q) (hAX : ∀ q, q < H.size → AX q → A0 q)
    (kx : ∀ (E : String) (ce : Cell) (q9 : Addr) (u : SX) (t : State) (H1 : Heap) (locs1 : List Loc), t.heap = H1 → s.vm.Alike t.vm → px u → BX E u t → H.size ≤ H1.size → (∀ q : Nat, q < H.size → ¬ AX q → H1[q]? = H[q]?) → va_S A0 H0 H1 locs1 → H1[q9]? = some ce → ce.vm = .none → s.vm.findClass E = some ce.cls → vx_W p l e R s m args below meth c H1 locs1 (cells + mc) (slots + ms) Q (F0 m pc ls rest) q9)
    (kk : ∀ (r : Int64) (u : S) (t : State) (H1 : Heap) (locs1 : List Loc), t.heap = H1 → s.vm.Alike t.vm → post r u → B u t → H.size ≤ H1.size → (∀ q : Nat, q < H.size → ¬ A1 q → H1[q]? = H[q]?) → va_S A0 H0 H1 locs1 → W p l e R s m args below meth c H1 locs1 (cells + mc) (slots + ms) Q (F0 m (pc + 3) ls (.long r :: rest))) : W p l e R s m args below meth c H locs cells slots Q (F0 m pc ls st0) := by
  intro T hT X
  rcases hr T hT X with ⟨v, st₀, t, T', L, h0, X', hL, e1, e2, ⟨⟨r, u, hv, hp, hb⟩, hF⟩, st⟩ | ⟨q, st₀, t, T', L, E, ce, h0, X', hL, e1, e2, ⟨u, hp, hb, hF⟩, hce, hcv, hcl, st⟩
  · cases hv
    obtain ⟨k1, k2, k3⟩ := vx_keep h0 e1 hS hA hf hL hF
    obtain ⟨t2, a1, b1⟩ := kk r u t T'.heap (locs ++ L) e1.symm (by rw [← e2]; exact X'.warmed.alike) hp hb k1 k2 k3 T' rfl X'
    exact ⟨t2, st t2 a1, b1⟩
  · obtain ⟨k1, k2, k3⟩ := vx_keep h0 e1 hS hAX hf hL hF
    obtain ⟨t2, a1, b1⟩ := kx E ce q u t T'.heap (locs ++ L) e1.symm (by rw [← e2]; exact X'.warmed.alike) hp hb k1 k2 k3 (by rw [e1]; exact hce) hcv hcl T' rfl X'
    exact ⟨t2, st.trans a1, b1⟩
theorem vx_callf {S SX : Type} {post : UInt32 → S → Prop} {px : SX → Prop} {B : S → State → Prop} {BX : String → SX → State → Prop} {AX : Nat → Prop} (hr : vx_Run p l e R s m args below meth c H locs cells slots mc ms (F0 m pc ls st0) rest (va_Qf post B A1 a) (vx_X px BX AX) free) (hS : va_S A0 H0 H locs) (hA : ∀ q, q < H.size → A1 q → A0 q) (hf : ∀ q, free q → A0 q) (hAX : ∀ q, q < H.size → AX q → A0 q)
    (kx : ∀ (E : String) (ce : Cell) (q9 : Addr) (u : SX) (t : State) (H1 : Heap) (locs1 : List Loc), t.heap = H1 → s.vm.Alike t.vm → px u → BX E u t → H.size ≤ H1.size → (∀ q : Nat, q < H.size → ¬ AX q → H1[q]? = H[q]?) → va_S A0 H0 H1 locs1 → H1[q9]? = some ce → ce.vm = .none → s.vm.findClass E = some ce.cls → vx_W p l e R s m args below meth c H1 locs1 (cells + mc) (slots + ms) Q (F0 m pc ls rest) q9)
    (kk : ∀ (r : UInt32) (u : S) (t : State) (H1 : Heap) (locs1 : List Loc), t.heap = H1 → s.vm.Alike t.vm → post r u → B u t → H.size ≤ H1.size → (∀ q : Nat, q < H.size → ¬ A1 q → H1[q]? = H[q]?) → va_S A0 H0 H1 locs1 → W p l e R s m args below meth c H1 locs1 (cells + mc) (slots + ms) Q (F0 m (pc + 3) ls (.float r :: rest))) : W p l e R s m args below meth c H locs cells slots Q (F0 m pc ls st0) := by
  intro T hT X
  rcases hr T hT X with ⟨v, st₀, t, T', L, h0, X', hL, e1, e2, ⟨⟨r, u, hv, hp, hb⟩, hF⟩, st⟩ | ⟨q, st₀, t, T', L, E, ce, h0, X', hL, e1, e2, ⟨u, hp, hb, hF⟩, hce, hcv, hcl, st⟩
  · cases hv
    obtain ⟨k1, k2, k3⟩ := vx_keep h0 e1 hS hA hf hL hF
    obtain ⟨t2, a1, b1⟩ := kk r u t T'.heap (locs ++ L) e1.symm (by rw [← e2]; exact X'.warmed.alike) hp hb k1 k2 k3 T' rfl X'
    exact ⟨t2, st t2 a1, b1⟩
  · obtain ⟨k1, k2, k3⟩ := vx_keep h0 e1 hS hAX hf hL hF
    obtain ⟨t2, a1, b1⟩ := kx E ce q u t T'.heap (locs ++ L) e1.symm (by rw [← e2]; exact X'.warmed.alike) hp hb k1 k2 k3 (by rw [e1]; exact hce) hcv hcl T' rfl X'
    exact ⟨t2, st.trans a1, b1⟩
theorem vx_calld {S SX : Type} {post : UInt64 → S → Prop} {px : SX → Prop} {B : S → State → Prop} {BX : String → SX → State → Prop} {AX : Nat → Prop} (hr : vx_Run p l e R s m args below meth c H locs cells slots mc ms (F0 m pc ls st0) rest (va_Qd post B A1 a) (vx_X px BX AX) free) (hS : va_S A0 H0 H locs) (hA : ∀ q, q < H.size → A1 q → A0 q) (hf : ∀ q, free q → A0 q) (hAX : ∀ q, q < H.size → AX q → A0 q)
    (kx : ∀ (E : String) (ce : Cell) (q9 : Addr) (u : SX) (t : State) (H1 : Heap) (locs1 : List Loc), t.heap = H1 → s.vm.Alike t.vm → px u → BX E u t → H.size ≤ H1.size → (∀ q : Nat, q < H.size → ¬ AX q → H1[q]? = H[q]?) → va_S A0 H0 H1 locs1 → H1[q9]? = some ce → ce.vm = .none → s.vm.findClass E = some ce.cls → vx_W p l e R s m args below meth c H1 locs1 (cells + mc) (slots + ms) Q (F0 m pc ls rest) q9)
    (kk : ∀ (r : UInt64) (u : S) (t : State) (H1 : Heap) (locs1 : List Loc), t.heap = H1 → s.vm.Alike t.vm → post r u → B u t → H.size ≤ H1.size → (∀ q : Nat, q < H.size → ¬ A1 q → H1[q]? = H[q]?) → va_S A0 H0 H1 locs1 → W p l e R s m args below meth c H1 locs1 (cells + mc) (slots + ms) Q (F0 m (pc + 3) ls (.double r :: rest))) : W p l e R s m args below meth c H locs cells slots Q (F0 m pc ls st0) := by
  intro T hT X
  rcases hr T hT X with ⟨v, st₀, t, T', L, h0, X', hL, e1, e2, ⟨⟨r, u, hv, hp, hb⟩, hF⟩, st⟩ | ⟨q, st₀, t, T', L, E, ce, h0, X', hL, e1, e2, ⟨u, hp, hb, hF⟩, hce, hcv, hcl, st⟩
  · cases hv
    obtain ⟨k1, k2, k3⟩ := vx_keep h0 e1 hS hA hf hL hF
    obtain ⟨t2, a1, b1⟩ := kk r u t T'.heap (locs ++ L) e1.symm (by rw [← e2]; exact X'.warmed.alike) hp hb k1 k2 k3 T' rfl X'
    exact ⟨t2, st t2 a1, b1⟩
  · obtain ⟨k1, k2, k3⟩ := vx_keep h0 e1 hS hAX hf hL hF
    obtain ⟨t2, a1, b1⟩ := kx E ce q u t T'.heap (locs ++ L) e1.symm (by rw [← e2]; exact X'.warmed.alike) hp hb k1 k2 k3 (by rw [e1]; exact hce) hcv hcl T' rfl X'
    exact ⟨t2, st.trans a1, b1⟩
theorem vx_callv {S SX : Type} {post : S → Prop} {px : SX → Prop} {B : S → State → Prop} {BX : String → SX → State → Prop} {AX : Nat → Prop} (hr : vx_Run p l e R s m args below meth c H locs cells slots mc ms (F0 m pc ls st0) rest (va_Qv post B A1 a) (vx_X px BX AX) free) (hS : va_S A0 H0 H locs) (hA : ∀ q, q < H.size → A1 q → A0 q) (hf : ∀ q, free q → A0 q) (hAX : ∀ q, q < H.size → AX q → A0 q)
    (kx : ∀ (E : String) (ce : Cell) (q9 : Addr) (u : SX) (t : State) (H1 : Heap) (locs1 : List Loc), t.heap = H1 → s.vm.Alike t.vm → px u → BX E u t → H.size ≤ H1.size → (∀ q : Nat, q < H.size → ¬ AX q → H1[q]? = H[q]?) → va_S A0 H0 H1 locs1 → H1[q9]? = some ce → ce.vm = .none → s.vm.findClass E = some ce.cls → vx_W p l e R s m args below meth c H1 locs1 (cells + mc) (slots + ms) Q (F0 m pc ls rest) q9)
    (kk : ∀ (u : S) (t : State) (H1 : Heap) (locs1 : List Loc), t.heap = H1 → s.vm.Alike t.vm → post u → B u t → H.size ≤ H1.size → (∀ q : Nat, q < H.size → ¬ A1 q → H1[q]? = H[q]?) → va_S A0 H0 H1 locs1 → W p l e R s m args below meth c H1 locs1 (cells + mc) (slots + ms) Q (F0 m (pc + 3) ls (rest))) : W p l e R s m args below meth c H locs cells slots Q (F0 m pc ls st0) := by
  intro T hT X
  rcases hr T hT X with ⟨v, st₀, t, T', L, h0, X', hL, e1, e2, ⟨⟨u, hv, hp, hb⟩, hF⟩, st⟩ | ⟨q, st₀, t, T', L, E, ce, h0, X', hL, e1, e2, ⟨u, hp, hb, hF⟩, hce, hcv, hcl, st⟩
  · cases hv
    obtain ⟨k1, k2, k3⟩ := vx_keep h0 e1 hS hA hf hL hF
    obtain ⟨t2, a1, b1⟩ := kk u t T'.heap (locs ++ L) e1.symm (by rw [← e2]; exact X'.warmed.alike) hp hb k1 k2 k3 T' rfl X'
    exact ⟨t2, st t2 a1, b1⟩
  · obtain ⟨k1, k2, k3⟩ := vx_keep h0 e1 hS hAX hf hL hF
    obtain ⟨t2, a1, b1⟩ := kx E ce q u t T'.heap (locs ++ L) e1.symm (by rw [← e2]; exact X'.warmed.alike) hp hb k1 k2 k3 (by rw [e1]; exact hce) hcv hcl T' rfl X'
    exact ⟨t2, st.trans a1, b1⟩
/-- caught by the row x of this method's table; the rows ahead don't take it -/
theorem vx_catch {own name : String} {E : String} {ce : Cell} {q : Addr} (hown : s.vm.findClass own = some m.cls) (pre : List ExceptionTableEntry) (x : ExceptionTableEntry) (suf : List ExceptionTableEntry) (hsplit : c.exceptionTable.toList = pre ++ x :: suf)
    (hpass : ∀ z ∈ pre, covers z pc = false ∨ (z.catchType ≠ 0 ∧ ∃ nm : String, (Cond.classLink own z.catchType nm).before args s = true ∧ va_Nc E nm s)) (hx : covers x pc = true) (h0 : x.catchType ≠ 0)
    (hlink : (Cond.classLink own x.catchType name).before args s = true) (hcast : (Cond.castable E name).before args s = true) (hcell : H[q]? = some ce) (hv : ce.vm = .none) (hcl : s.vm.findClass E = some ce.cls)
    (kk : W p l e R s m args below meth c H locs cells slots Q (F0 m x.handlerPc ls [.ref q])) : vx_W p l e R s m args below meth c H locs cells slots Q (F0 m pc ls rest) q := by
  intro T hT X
  have hpl : e.platform.magicAccessors = ({} : Platform).magicAccessors := by rw [X.admits.platform]
  obtain ⟨c3, c4, hc3, hc4, hasg⟩ := Cond.castable_spec hcast
  cases Option.some.inj (hc3.symm.trans hcl)
  obtain ⟨c5, hc5, hcl5⟩ := Cond.classLink_spec hown hlink e.platform hpl
  cases Option.some.inj (hc4.symm.trans hc5)
  obtain ⟨vm', X', st⟩ := X.thenCaughtThrough q (g := F0 m pc ls rest) rfl (Steps.refl _) (by rw [hT]; exact hcell) (by rw [hv]; rfl) (by obtain ⟨k9, h9, -⟩ := Vm.findClass_spec hcl; exact ⟨k9, h9⟩) pre x suf hsplit
    (fun z hz => by
      rcases hpass z hz with h | ⟨hz0, nm, hl1, hn1⟩
      · exact Or.inl h
      · obtain ⟨c6, hc6, hcl6⟩ := Cond.classLink_spec hown hl1 e.platform hpl
        obtain ⟨a8, b8, h1, h2, h3⟩ := hn1
        cases Option.some.inj (h1.symm.trans hcl)
        cases Option.some.inj (h2.symm.trans hc6)
        exact Or.inr ⟨hz0, _, hcl6, h3⟩) hx (Or.inr ⟨h0, c4, hcl5, hasg⟩)
  obtain ⟨t, a1, b1⟩ := kk (T.setVm vm') hT X'
  exact ⟨t, st.trans a1, b1⟩
end Rows
section Ends
variable {p : Program} {l : Launch} {e : Env} {R : Room} {s : State} {m : MethodId} {args : Array Value} {below : List Frame} {meth : Method} {c : Code} {H : Heap} {locs : List Loc} {cells slots : Nat} {Q : State → Prop}
variable {mc ms : Nat} {free : Addr → Prop} {A0 A1 : Nat → Prop} {H0 : Heap} {a : Array Value} {ls : Array Slot} {st0 rest : List Value}
variable {Qc : Array Value → State → Outcome → State → Prop} {XC : String → State → State → Prop}
/-- what a body that may throw owes at its end -/
def vx_MQ (below : List Frame) (Qc : Array Value → State → Outcome → State → Prop) (XC : String → State → State → Prop) (a : Array Value) (s : State) (mc ms : Nat) (free : Addr → Prop) : State → Prop := fun t =>
  ∃ o, t.status = .running ∧ Ended t below o ∧ vx_Q Qc XC mc ms free a s o t
theorem vx_ret {g : JFrame} {mc ms : Nat} (k : W p l e R s m args below meth c H locs cells slots (MQ below Qc args s mc ms free) g) : W p l e R s m args below meth c H locs cells slots (vx_MQ below Qc XC args s mc ms free) g := by
  intro T hT X
  obtain ⟨t, a1, o, b1, b2, b3, b4⟩ := k T hT X
  exact ⟨t, a1, o, b1, b2, Or.inl ⟨b3, b4⟩⟩
/-- not caught here: it goes on to the caller -/
theorem vx_widen {g : JFrame} {q : Addr} {k n : Nat} (h1 : cells ≤ k) (h2 : slots ≤ n) (kk : vx_W p l e R s m args below meth c H locs k n Q g q) : vx_W p l e R s m args below meth c H locs cells slots Q g q := fun T hT X => kk T hT (stand_widen X h1 h2)
theorem vx_out {pc : Nat} {E : String} {ce : Cell} {q : Addr} {mc ms : Nat} (hout : ∀ x ∈ c.exceptionTable.toList, covers x pc = false) (hlocks : meth.locks = false) (hcell : H[q]? = some ce) (hv : ce.vm = .none) (hcl : s.vm.findClass E = some ce.cls)
    (hx : ∀ t : State, t.heap = H → s.vm.Alike t.vm → XC E s t) (hf : ∀ z ∈ locs, free z.base) (hc : cells ≤ mc) (hs : slots ≤ ms) :
    vx_W p l e R s m args below meth c H locs cells slots (vx_MQ below Qc XC args s mc ms free) (F0 m pc ls rest) q := by
  intro T hT X
  obtain ⟨st1, hrun, hend, hW, hsm⟩ := X.leaveThrown q (g := F0 m pc ls rest) rfl rfl rfl hout hlocks
  have hcell9 : (T.setFrames (.throwing q :: below)).heap[q]? = some ce := by
    show T.heap[q]? = some ce
    rw [hT]; exact hcell
  exact ⟨_, st1, .threw q, hrun, hend, Or.inr ⟨q, rfl, E, ce, locs, hx _ hT hW.alike, hcell9, hv, hcl, hW, hsm.mono hc hs, hf⟩⟩
theorem vx_frame {U : State} {k n : Nat} (h : s.sameButNew ({ U with vm := s.vm } : State) locs k n) : s.heap.size ≤ U.heap.size ∧ ∀ q : Nat, q < s.heap.size → (∀ z ∈ locs, z.base ≠ q) → U.heap[q]? = s.heap[q]? := by
  obtain ⟨-, h2, -, -, -, h6⟩ := h
  refine ⟨h2, fun q hq hz => ?_⟩
  obtain ⟨c9, e1, e2, e3, e4⟩ := h6 q _ (Array.getElem?_eq_getElem hq)
  have hs : c9.slots = (s.heap[q]).slots := Array.ext_getElem? fun i => e4 i fun hm => hz _ hm rfl
  have h9 : c9 = s.heap[q] := by
    rw [hs] at e2
    exact e2
  have e5 : U.heap[q]? = some c9 := e1
  rw [e5, h9, Array.getElem?_eq_getElem hq]
/-- the words of a throw but the four that speak of the heap -/
def vx_no (w : Cond) : Bool := decide (w ≠ .isRef (.static Bundle.tN "UNASSIGNED_STACK" Bundle.steD)) && decide (w ≠ .isRef (.static Bundle.tN "SUPPRESSED_SENTINEL" Bundle.listD)) && decide (w ≠ .laysStatic Bundle.tN "UNASSIGNED_STACK" Bundle.steD) && decide (w ≠ .laysStatic Bundle.tN "SUPPRESSED_SENTINEL" Bundle.listD)
def vx_at0 (own : String) (ic : Nat) (X : String) (names : List String) : List Cond := (Bundle.ownAtoms0 own ic X names).filter vx_no
def vx_atS (own : String) (ic : Nat) (X : String) (names : List String) : List Cond := (Bundle.ownAtoms own ic X names).filter vx_no
/-- a word that the tables alone decide, or a good one -/
def vx_ot (w : Cond) : Bool := w.onTables || goodWord w
theorem vx_ot_at {args a' : Array Value} {s U : State} {w : Cond} (hW : s.WarmedH U.vm) (hvm : s.vm = U.vm) (hg : vx_ot w = true) (h : w.before args s = true) : w.before a' U = true := by
  simp only [vx_ot, Bool.or_eq_true] at hg
  rcases hg with hg | hg
  · exact va_tabs hg hvm h
  · exact word_at hW (good_of_word hg) h
/-- a list's words: the good ones out of the method's own list, the others by premises of their own -/
theorem vx_hat {args : Array Value} {s : State} {L B : List Cond} (h1 : ∀ w ∈ L.filter goodWord, w.before args s = true) (h2 : ∀ w ∈ L.filter (fun w => !goodWord w), w ∈ B) (h3 : ∀ w ∈ B, w.before args s = true) : ∀ w ∈ L, w.before args s = true := by
  intro w hw
  by_cases g : goodWord w = true
  · exact h1 w (List.mem_filter.mpr ⟨hw, g⟩)
  · refine h3 w (h2 w (List.mem_filter.mpr ⟨hw, ?_⟩))
    show (!goodWord w) = true
    cases hgw : goodWord w
    · rfl
    · exact absurd hgw g
theorem vx_c {args : Array Value} {s : State} {w : Cond} {B : List Cond} (h : w.before args s = true) (t : ∀ w ∈ B, w.before args s = true) : ∀ w' ∈ w :: B, w'.before args s = true := fun w' h' => (List.mem_cons.mp h').elim (fun e => by rw [e]; exact h) (t w')
theorem vx_n {args : Array Value} {s : State} : ∀ w ∈ ([] : List Cond), w.before args s = true := fun _ h => nomatch h
theorem vx_own {args : Array Value} {s : State} {L : List Cond} (h1 : ∀ w ∈ L.filter vx_no, w.before args s = true)
    (hU : (Cond.isRef (.static Bundle.tN "UNASSIGNED_STACK" Bundle.steD)).before args s = true) (hN : (Cond.isRef (.static Bundle.tN "SUPPRESSED_SENTINEL" Bundle.listD)).before args s = true)
    (lU : (Cond.laysStatic Bundle.tN "UNASSIGNED_STACK" Bundle.steD).before args s = true) (lN : (Cond.laysStatic Bundle.tN "SUPPRESSED_SENTINEL" Bundle.listD).before args s = true) : ∀ w ∈ L, w.before args s = true := by
  intro w hw
  by_cases e1 : w = .isRef (.static Bundle.tN "UNASSIGNED_STACK" Bundle.steD)
  · rw [e1]; exact hU
  · by_cases e2 : w = .isRef (.static Bundle.tN "SUPPRESSED_SENTINEL" Bundle.listD)
    · rw [e2]; exact hN
    · by_cases e3 : w = .laysStatic Bundle.tN "UNASSIGNED_STACK" Bundle.steD
      · rw [e3]; exact lU
      · by_cases e4 : w = .laysStatic Bundle.tN "SUPPRESSED_SENTINEL" Bundle.listD
        · rw [e4]; exact lN
        · exact h1 w (List.mem_filter.mpr ⟨hw, by unfold vx_no; rw [decide_eq_true e1, decide_eq_true e2, decide_eq_true e3, decide_eq_true e4]; rfl⟩)
/-- where a static field lies, its class's statics cell in H -/
def vx_L (C n d : String) (A : Nat → Prop) (U : State) (H : Heap) : Prop := ∃ (c : ClassId) (k : Class) (i : Nat) (f : Field) (a : Nat) (cell : Cell), U.vm.findClass C = some c ∧ U.fieldFound? C n d = some (c, k, i, f) ∧ f.isStatic = true ∧ k.statics = some a ∧ H[a]? = some cell ∧ cell.vm.isStatics = true ∧ cell.cls = c ∧ f.slot < cell.slots.size ∧ k.staticTypes[f.slot]? = some f.type ∧ ¬ A a
theorem vx_L.moved {C n d : String} {A : Nat → Prop} {u U : State} {H : Heap} (hvm : u.vm.Alike U.vm) (h : vx_L C n d A u H) : vx_L C n d A U H := by
  obtain ⟨c, k, i, f, a, cell, h1, h2, h3, h4, h5, h6, h7, h8, h9, h10⟩ := h
  obtain ⟨k', hi', he⟩ := State.fieldFound?_setVm hvm h2
  exact ⟨c, k', i, f, a, cell, by rw [hvm.findClass]; exact h1, hi', h3, by rw [he]; exact h4, h5, h6, h7, h8, by rw [he]; exact h9, h10⟩
theorem vx_L.kept {C n d : String} {A : Nat → Prop} {U : State} {H H1 : Heap} (h : vx_L C n d A U H) (hq : ∀ a : Nat, a < H.size → ¬ A a → H1[a]? = H[a]?) : vx_L C n d A U H1 := by
  obtain ⟨c, k, i, f, a, cell, h1, h2, h3, h4, h5, h6, h7, h8, h9, h10⟩ := h
  exact ⟨c, k, i, f, a, cell, h1, h2, h3, h4, by rw [hq a (Array.getElem?_eq_some_iff.mp h5).1 h10]; exact h5, h6, h7, h8, h9, h10⟩
theorem vx_L.narrow {C n d : String} {A B : Nat → Prop} {U : State} {H : Heap} (h : vx_L C n d A U H) (hAB : ∀ q, B q → A q) : vx_L C n d B U H := by
  obtain ⟨c, k, i, f, a, cell, h1, h2, h3, h4, h5, h6, h7, h8, h9, h10⟩ := h
  exact ⟨c, k, i, f, a, cell, h1, h2, h3, h4, h5, h6, h7, h8, h9, fun z => h10 (hAB _ z)⟩
theorem vx_L.word {C n d : String} {A : Nat → Prop} {s : State} {args : Array Value} (h : vx_L C n d A s s.heap) : (Cond.laysStatic C n d).before args s = true := by
  obtain ⟨c, k, i, f, a, cell, h1, h2, h3, h4, h5, h6, h7, h8, h9, -⟩ := h
  show (Cond.laysStatic C n d).holds args s none s [] = true
  exact Cond.laysStatic_of h1 h2 h3 h4 h5 h6 h7 h8 h9
/-- .. and what it holds: null or some reference -/
def vx_Zq (C n d : String) (A : Nat → Prop) (U : State) (H : Heap) : Prop := va_Zq C n d A U H ∧ vx_L C n d A U H
theorem vx_Zq.moved {C n d : String} {A : Nat → Prop} {u U : State} {H : Heap} (hvm : u.vm.Alike U.vm) (h : vx_Zq C n d A u H) : vx_Zq C n d A U H := ⟨va_Zq.moved hvm h.1, vx_L.moved hvm h.2⟩
theorem vx_Zq.kept {C n d : String} {A : Nat → Prop} {U : State} {H H1 : Heap} (h : vx_Zq C n d A U H) (hq : ∀ a : Nat, a < H.size → ¬ A a → H1[a]? = H[a]?) : vx_Zq C n d A U H1 := ⟨va_Zq.kept h.1 hq, vx_L.kept h.2 hq⟩
theorem vx_Zq.narrow {C n d : String} {A B : Nat → Prop} {U : State} {H : Heap} (h : vx_Zq C n d A U H) (hAB : ∀ q, B q → A q) : vx_Zq C n d B U H := ⟨va_Zq.narrow h.1 hAB, vx_L.narrow h.2 hAB⟩
theorem vx_Zqof {args : Array Value} {s : State} {C n d : String} {A : Nat → Prop} (hl : (Cond.laysStatic C n d).before args s = true) (hini : (Cond.initialized C).before args s = true) (h : (Cond.isRef (.static C n d)).before args s = true) (hA : ∀ a : Nat, a < s.heap.size → ¬ A a) : vx_Zq C n d A s s.heap := by
  refine ⟨va_Zqof hl hini h hA, ?_⟩
  obtain ⟨c, k, i, f, a, cell, h1, h2, h3, h4, h5, h6, h7, h8, h9⟩ := Cond.laysStatic_spec hl
  exact ⟨c, k, i, f, a, cell, h1, h2, h3, h4, h5, h6, h7, h8, h9, hA a (Array.getElem?_eq_some_iff.mp h5).1⟩
theorem vx_isRef {C n d : String} {v : Value} {A : Nat → Prop} {s : State} {args : Array Value} (h : va_Z C n d v A s s.heap) (hv : v.isRef = true) : (Cond.isRef (.static C n d)).before args s = true := by
  obtain ⟨cf, kf, fi, f, a, cell, h1, h2, h3, h4, h5, h6, h7, -⟩ := h
  have he : (Term.static C n d).eval args s none [] s = some v := by
    simp [Term.eval, State.fieldNamed?, h1, h2, h4, h5, h6, h7]
  simp only [Cond.before, Cond.holds, Cond.value, he]
  cases v <;> simp_all [Value.isRef]
theorem vx_isRefq {C n d : String} {A : Nat → Prop} {s : State} {args : Array Value} (h : va_Zq C n d A s s.heap) : (Cond.isRef (.static C n d)).before args s = true := by
  rcases h with h | ⟨t, h⟩
  · exact vx_isRef h rfl
  · exact vx_isRef h rfl
/-- the same frame, seen from here: as if the method were called anew in this heap -/
theorem vx_rebase {T : State} (X : Stand p l e R s m args below meth c T locs cells slots) {R' : Room} (hf : R'.frames ≤ R.frames) (hl : R'.locals ≤ R.locals) (hc : cells + R'.cells ≤ R.cells) (hs : slots + R'.slots ≤ R.slots) :
    Stand p l e R' ((T.setVm s.vm).setFrames (.invoking m args :: below)) m args below meth c T [] 0 0 := by
  have htop : (T.setVm s.vm).topJava?.isSome := X.here.top
  have hF : ((T.setVm s.vm).setFrames (.invoking m args :: below)).frames = .invoking m args :: below := State.frames_setFrames _ (State.cur_lt_of_top htop)
  obtain ⟨g₀, hg0⟩ := Option.isSome_iff_exists.mp htop
  obtain ⟨r, hr⟩ := State.topJava?_eq_some.mp hg0
  have hl9 : e.platform.stackLimits (T.setVm s.vm).me = e.platform.stackLimits s.me := X.limits
  have hb9 : (T.setVm s.vm).me.stackBytes = s.me.stackBytes := X.bytes
  refine ⟨X.admits, X.cas, X.clock, hF, ?_, X.hears, X.method, X.code, X.here, X.tail, X.warmed, ?_, ?_, ?_⟩
  · have h := X.room
    have hU : ((T.setVm s.vm).setFrames (.invoking m args :: below)).localsInUse = s.localsInUse := by
      rw [State.localsInUse_invoking hF (meth := meth) (c := c) X.method X.code, State.localsInUse_invoking X.frames X.method X.code]
    simp only [State.hasRoom, Bool.and_eq_true, decide_eq_true_eq] at h ⊢
    obtain ⟨⟨⟨⟨h1, h2, h3, h4, h5, h6⟩, h7⟩, h8⟩, h9⟩ := h
    rw [X.frames, List.length_cons] at h2 h3
    have q1 := X.heapSize
    have q2 := X.used
    simp only [hF, hU, List.length_cons, State.stackLimits_setFrames, State.stackBytes_setFrames, hl9, hb9]
    refine ⟨⟨⟨⟨by omega, by omega, by omega, by omega, by omega, h6⟩, ?_⟩, ?_⟩, X.book⟩
    · show T.heap.size + R'.cells ≤ e.platform.maxCells
      omega
    · show T.slotsUsed + R'.slots ≤ e.platform.maxSlots
      omega
  · rw [State.stackLimits_setFrames]; rfl
  · rw [State.stackBytes_setFrames]; rfl
  · refine ⟨?_, Nat.le_refl _, Nat.le_refl _, ?_, ?_, fun a c9 h9 => ⟨c9, h9, rfl, rfl, fun _ _ => rfl⟩⟩
    · obtain ⟨t, ht, -⟩ := State.frames_cons hr
      show T.setVm s.vm = { ((T.setVm s.vm).setFrames (.invoking m args :: below)).setFrames (T.setVm s.vm).frames with heap := T.heap, slotsUsed := T.slotsUsed }
      rw [State.setFrames_setFrames, State.setFrames_self ht]
      rfl
    · show T.slotsUsed = T.slotsUsed + ((T.heap.toList.drop T.heap.size).map (·.slots.size)).sum
      rw [List.drop_eq_nil_of_le (Nat.le_of_eq Array.length_toList)]
      rfl
    · show ((T.heap.toList.drop T.heap.size).map (·.slots.size)).sum ≤ 0
      rw [List.drop_eq_nil_of_le (Nat.le_of_eq Array.length_toList)]
      exact Nat.le_refl _
/-- 'throw new E()': new; dup; invokespecial; athrow -/
theorem vx_throw0 {cc : ByteArray} {pc : Nat} (hexec : p.tables.exec = Jvm.exec) (hb : c.code = cc) (hl : l.stackTraces = false) {own cls : String} {names : List String} {ik ic mc ms : Nat} {A : Nat → Prop}
    (hown : s.vm.findClass own = some m.cls) (hcls : Bundle.fit cls = true) (hnames : ∀ n ∈ names, Bundle.fit n = true)
    (hk : (Cond.classLink own ik cls).before args s = true) (hini : (Cond.initialized cls).before args s = true) (hat : ∀ w ∈ vx_at0 own ic cls names, w.before args s = true)
    (hgood : ∀ w ∈ Cond.classLink own ik cls :: Cond.initialized cls :: vx_at0 own ic cls names, vx_ot w = true)
    (hU : vx_Zq Bundle.tN "UNASSIGNED_STACK" Bundle.steD A s s.heap) (hN : vx_Zq Bundle.tN "SUPPRESSED_SENTINEL" Bundle.listD A s s.heap) (hS : va_S A s.heap H locs) (hsize : ls.size = c.maxLocals)
    (d0 : decode cc pc = .ok (.new ik, 3)) (d3 : decode cc (pc + 3) = .ok (.dup, 1)) (d4 : decode cc (pc + 4) = .ok (.invokespecial ic, 3)) (d7 : decode cc (pc + 7) = .ok (.athrow, 1))
    (hout : ∀ x ∈ c.exceptionTable.toList, covers x (pc + 7) = false)
    (hRframes : names.length + 3 < R.frames) (hRlocals : (rest.map fun v => v.category).sum + (13 * (names.length + 1) + 42) ≤ R.locals) (hRcells : cells + 1 ≤ R.cells) (hRslots : slots + 6 ≤ R.slots) (hlocks : meth.locks = false)
    (hx : ∀ t : State, s.vm.Alike t.vm → H.size ≤ t.heap.size → (∀ q : Nat, q < H.size → t.heap[q]? = H[q]?) → XC cls s t)
    (hf : ∀ z ∈ locs, free z.base) (hc : cells + 1 ≤ mc) (hs : slots + 6 ≤ ms) :
    W p l e R s m args below meth c H locs cells slots (vx_MQ below Qc XC args s mc ms free) (F0 m pc ls rest) := by
  intro T hT X
  have htr : e.platform.stackTraces = false := (show e.platform.stackTraces = l.stackTraces by rw [X.admits.platform]).trans hl
  have Y := vx_rebase X (R' := { frames := R.frames, locals := R.locals, cells := 1, slots := 6 }) (Nat.le_refl _) (Nat.le_refl _) hRcells hRslots
  obtain ⟨s', hA⟩ : ∃ z, z = (T.setVm s.vm).setFrames (.invoking m args :: below) := ⟨_, rfl⟩
  rw [← hA] at Y
  have hvm : s'.vm = s.vm := by rw [hA]; rfl
  have hhp : s'.heap = H := by rw [hA]; exact hT
  have hW0 : s.WarmedH s'.vm := by rw [hvm]; exact State.WarmedH.refl s
  have hat' : ∀ w ∈ vx_at0 own ic cls names, w.before args s' = true := fun w hw => vx_ot_at hW0 hvm.symm (hgood w (List.mem_cons_of_mem _ (List.mem_cons_of_mem _ hw))) (hat w hw)
  have hk' : (Cond.classLink own ik cls).before args s' = true := vx_ot_at hW0 hvm.symm (hgood _ List.mem_cons_self) hk
  have hini' : (Cond.initialized cls).before args s' = true := vx_ot_at hW0 hvm.symm (hgood _ (List.mem_cons_of_mem _ List.mem_cons_self)) hini
  have hU' : vx_Zq Bundle.tN "UNASSIGNED_STACK" Bundle.steD A s' s'.heap := by rw [hhp]; exact vx_Zq.moved hW0.alike (hU.kept hS.2.1)
  have hN' : vx_Zq Bundle.tN "SUPPRESSED_SENTINEL" Bundle.listD A s' s'.heap := by rw [hhp]; exact vx_Zq.moved hW0.alike (hN.kept hS.2.1)
  have h : ∀ w ∈ Bundle.ownAtoms0 own ic cls names, w.before args s' = true := vx_own hat' (vx_isRefq hU'.1) (vx_isRefq hN'.1) hU'.2.word hN'.2.word
  have hown' : s'.vm.findClass own = some m.cls := by rw [hvm]; exact hown
  have hins : (Cond.instantiable cls 6).before args s' = true := h _ (by simp [Bundle.ownAtoms0])
  obtain ⟨vm₁, cX, kX, hfX, hkX, -, -, X₁, st1⟩ := Y.newCold hexec (own := own) (C := cls) (index := ik) (n := 6) hown' hk' hins hini'
    (g := F0 m pc ls rest) rfl (by rw [hb]; exact d0) (Nat.le_refl _) (Nat.le_refl _)
  generalize hT1 : (T.setVm vm₁).pushCell { cls := cX, slots := kX.instanceTypes.map defaultValue, vm := .none } = T1 at X₁ st1
  have hcat : (Value.ref T.heap.size).category = 1 := rfl
  have hcellA : T1.heap[T.heap.size]? = some (freshCell cX kX) := by rw [← hT1]; exact State.heap_pushCell_size _ _
  have d3' : decode c.code (pc + 3) = .ok (.dup, 1) := by rw [hb]; exact d3
  obtain ⟨U, hsteps, hrun, hend, hW, hsame, ce, hce, hO⟩ := X₁.ctorThrow0 hexec htr (own := own) (cls := cls) (names := names) (ic := ic) hown' hcls hnames h (fun x hx => nomatch hx) hfX hkX hcellA (by rw [hhp, hT]; exact Nat.le_refl _)
    (g := { method := m, pc := pc + 4, locals := ls, stack := .ref T.heap.size :: .ref T.heap.size :: rest, locked := none }) rfl hsize rfl rfl (rest := rest) rfl
    (by rw [hb]; exact d4) (by rw [hb]; exact d7) hout hRframes (by simp only [List.map_cons, List.sum_cons, hcat]; omega) hlocks
  obtain ⟨f1, f2⟩ := vx_frame hsame
  rw [hhp] at f1 f2
  have hWs : s.WarmedH U.vm := State.WarmedH.trans hW0 hW
  have hcl : s.vm.findClass cls = some ce.cls := by
    have h9 := hO.cls
    rw [hvm] at h9
    exact h9
  have hall : s.sameButNew ({ U with vm := s.vm } : State) locs mc ms := by
    subst hA
    obtain ⟨e1, e2⟩ := hsame
    rw [State.setFrames_setFrames] at e1
    have h2 : (T.setVm s.vm).sameButNew ({ U with vm := s.vm } : State) [] (0 + 1) (0 + 6) := ⟨e1, e2⟩
    have h3 := X.same.trans h2
    rw [List.append_nil] at h3
    exact h3.mono hc hs
  refine ⟨U, ?_, .threw T.heap.size, hrun, hend, Or.inr ⟨T.heap.size, rfl, cls, ce, locs, hx U hWs.alike f1 (fun q hq => f2 q hq (fun z hz => nomatch hz)), hce, hO.vm, hcl, hWs, hall, hf⟩⟩
  refine st1 _ ?_
  show Steps p.tables e below (T1.setTop { method := m, pc := pc + 3, locals := ls, stack := .ref T.heap.size :: rest, locked := none }) _
  jvm_step X₁.here [X₁.here.top, hexec, d3', Value.category]
  exact hsteps
/-- 'throw new E("text")': new; dup; ldc; invokespecial; athrow -/
theorem vx_throwS {cc : ByteArray} {pc : Nat} (hexec : p.tables.exec = Jvm.exec) (hb : c.code = cc) (hl : l.stackTraces = false) {own cls text : String} {names : List String} {ik is ic mc ms sa : Nat} {A : Nat → Prop}
    (hown : s.vm.findClass own = some m.cls) (hcls : Bundle.fit cls = true) (hnames : ∀ n ∈ names, Bundle.fit n = true)
    (hk : (Cond.classLink own ik cls).before args s = true) (hini : (Cond.initialized cls).before args s = true) (hstr : vk_R own is text sa s) (hat : ∀ w ∈ vx_atS own ic cls names, w.before args s = true)
    (hgood : ∀ w ∈ Cond.classLink own ik cls :: Cond.initialized cls :: vx_atS own ic cls names, vx_ot w = true)
    (hU : vx_Zq Bundle.tN "UNASSIGNED_STACK" Bundle.steD A s s.heap) (hN : vx_Zq Bundle.tN "SUPPRESSED_SENTINEL" Bundle.listD A s s.heap) (hS : va_S A s.heap H locs) (hsize : ls.size = c.maxLocals)
    (d0 : decode cc pc = .ok (.new ik, 3)) (d3 : decode cc (pc + 3) = .ok (.dup, 1)) (d4 : decode cc (pc + 4) = .ok (.ldc is, 2)) (d6 : decode cc (pc + 6) = .ok (.invokespecial ic, 3)) (d9 : decode cc (pc + 9) = .ok (.athrow, 1))
    (hout : ∀ x ∈ c.exceptionTable.toList, covers x (pc + 9) = false)
    (hRframes : names.length + 3 < R.frames) (hRlocals : (rest.map fun v => v.category).sum + (13 * (names.length + 1) + 43) ≤ R.locals) (hRcells : cells + 1 ≤ R.cells) (hRslots : slots + 6 ≤ R.slots) (hlocks : meth.locks = false)
    (hx : ∀ t : State, s.vm.Alike t.vm → H.size ≤ t.heap.size → (∀ q : Nat, q < H.size → t.heap[q]? = H[q]?) → XC cls s t)
    (hf : ∀ z ∈ locs, free z.base) (hc : cells + 1 ≤ mc) (hs : slots + 6 ≤ ms) :
    W p l e R s m args below meth c H locs cells slots (vx_MQ below Qc XC args s mc ms free) (F0 m pc ls rest) := by
  intro T hT X
  have htr : e.platform.stackTraces = false := (show e.platform.stackTraces = l.stackTraces by rw [X.admits.platform]).trans hl
  have Y := vx_rebase X (R' := { frames := R.frames, locals := R.locals, cells := 1, slots := 6 }) (Nat.le_refl _) (Nat.le_refl _) hRcells hRslots
  obtain ⟨s', hA⟩ : ∃ z, z = (T.setVm s.vm).setFrames (.invoking m args :: below) := ⟨_, rfl⟩
  rw [← hA] at Y
  have hvm : s'.vm = s.vm := by rw [hA]; rfl
  have hhp : s'.heap = H := by rw [hA]; exact hT
  have hW0 : s.WarmedH s'.vm := by rw [hvm]; exact State.WarmedH.refl s
  have hat' : ∀ w ∈ vx_atS own ic cls names, w.before args s' = true := fun w hw => vx_ot_at hW0 hvm.symm (hgood w (List.mem_cons_of_mem _ (List.mem_cons_of_mem _ hw))) (hat w hw)
  have hk' : (Cond.classLink own ik cls).before args s' = true := vx_ot_at hW0 hvm.symm (hgood _ List.mem_cons_self) hk
  have hini' : (Cond.initialized cls).before args s' = true := vx_ot_at hW0 hvm.symm (hgood _ (List.mem_cons_of_mem _ List.mem_cons_self)) hini
  have hU' : vx_Zq Bundle.tN "UNASSIGNED_STACK" Bundle.steD A s' s'.heap := by rw [hhp]; exact vx_Zq.moved hW0.alike (hU.kept hS.2.1)
  have hN' : vx_Zq Bundle.tN "SUPPRESSED_SENTINEL" Bundle.listD A s' s'.heap := by rw [hhp]; exact vx_Zq.moved hW0.alike (hN.kept hS.2.1)
  have h : ∀ w ∈ Bundle.ownAtoms own ic cls names, w.before args s' = true := vx_own hat' (vx_isRefq hU'.1) (vx_isRefq hN'.1) hU'.2.word hN'.2.word
  have hown' : s'.vm.findClass own = some m.cls := by rw [hvm]; exact hown
  have hins : (Cond.instantiable cls 6).before args s' = true := h _ (by simp [Bundle.ownAtoms])
  obtain ⟨vm₁, cX, kX, hfX, hkX, -, -, X₁, st1⟩ := Y.newCold hexec (own := own) (C := cls) (index := ik) (n := 6) hown' hk' hins hini'
    (g := F0 m pc ls rest) rfl (by rw [hb]; exact d0) (Nat.le_refl _) (Nat.le_refl _)
  generalize hT1 : (T.setVm vm₁).pushCell { cls := cX, slots := kX.instanceTypes.map defaultValue, vm := .none } = T1 at X₁ st1
  have hcat : (Value.ref T.heap.size).category = 1 := rfl
  have hcellA : T1.heap[T.heap.size]? = some (freshCell cX kX) := by rw [← hT1]; exact State.heap_pushCell_size _ _
  have d3' : decode c.code (pc + 3) = .ok (.dup, 1) := by rw [hb]; exact d3
  have d4' : decode c.code (pc + 4) = .ok (.ldc is, 2) := by rw [hb]; exact d4
  have hstr' : vk_R own is text sa s' := vk_R.warm hW0 hstr
  obtain ⟨U, hsteps, hrun, hend, hW, hsame, ce, hce, hO⟩ := X₁.ctorThrowS hexec htr (own := own) (cls := cls) (names := names) (ic := ic) hown' hcls hnames h (fun x hx => nomatch hx) hfX hkX hcellA (by rw [hhp, hT]; exact Nat.le_refl _) (msg := .ref sa) rfl
    (g := { method := m, pc := pc + 6, locals := ls, stack := .ref sa :: .ref T.heap.size :: .ref T.heap.size :: rest, locked := none }) rfl hsize rfl rfl (rest := rest) rfl
    (by rw [hb]; exact d6) (by rw [hb]; exact d9) hout hRframes (by simp only [List.map_cons, List.sum_cons, hcat]; omega) hlocks
  obtain ⟨f1, f2⟩ := vx_frame hsame
  rw [hhp] at f1 f2
  have hWs : s.WarmedH U.vm := State.WarmedH.trans hW0 hW
  have hcl : s.vm.findClass cls = some ce.cls := by
    have h9 := hO.cls
    rw [hvm] at h9
    exact h9
  have hall : s.sameButNew ({ U with vm := s.vm } : State) locs mc ms := by
    subst hA
    obtain ⟨e1, e2⟩ := hsame
    rw [State.setFrames_setFrames] at e1
    have h2 : (T.setVm s.vm).sameButNew ({ U with vm := s.vm } : State) [] (0 + 1) (0 + 6) := ⟨e1, e2⟩
    have h3 := X.same.trans h2
    rw [List.append_nil] at h3
    exact h3.mono hc hs
  refine ⟨U, ?_, .threw T.heap.size, hrun, hend, Or.inr ⟨T.heap.size, rfl, cls, ce, locs, hx U hWs.alike f1 (fun q hq => f2 q hq (fun z hz => nomatch hz)), hce, hO.vm, hcl, hWs, hall, hf⟩⟩
  refine st1 _ ?_
  show Steps p.tables e below (T1.setTop { method := m, pc := pc + 3, locals := ls, stack := .ref T.heap.size :: rest, locked := none }) _
  jvm_step X₁.here [X₁.here.top, hexec, d3', Value.category]
  exact X₁.ldcString hexec (own := own) (text := text) (index := is) (a := sa) hown' hstr'.1 hstr'.2
    (g := { method := m, pc := pc + 4, locals := ls, stack := .ref T.heap.size :: .ref T.heap.size :: rest, locked := none }) rfl d4' _ hsteps
/-- 'throw new E("text")', the text by a wide index -/
theorem vx_throwSW {cc : ByteArray} {pc : Nat} (hexec : p.tables.exec = Jvm.exec) (hb : c.code = cc) (hl : l.stackTraces = false) {own cls text : String} {names : List String} {ik is ic mc ms sa : Nat} {A : Nat → Prop}
    (hown : s.vm.findClass own = some m.cls) (hcls : Bundle.fit cls = true) (hnames : ∀ n ∈ names, Bundle.fit n = true)
    (hk : (Cond.classLink own ik cls).before args s = true) (hini : (Cond.initialized cls).before args s = true) (hstr : vk_R own is text sa s) (hat : ∀ w ∈ vx_atS own ic cls names, w.before args s = true)
    (hgood : ∀ w ∈ Cond.classLink own ik cls :: Cond.initialized cls :: vx_atS own ic cls names, vx_ot w = true)
    (hU : vx_Zq Bundle.tN "UNASSIGNED_STACK" Bundle.steD A s s.heap) (hN : vx_Zq Bundle.tN "SUPPRESSED_SENTINEL" Bundle.listD A s s.heap) (hS : va_S A s.heap H locs) (hsize : ls.size = c.maxLocals)
    (d0 : decode cc pc = .ok (.new ik, 3)) (d3 : decode cc (pc + 3) = .ok (.dup, 1)) (d4 : decode cc (pc + 4) = .ok (.ldc_w is, 3)) (d7 : decode cc (pc + 7) = .ok (.invokespecial ic, 3)) (d10 : decode cc (pc + 10) = .ok (.athrow, 1))
    (hout : ∀ x ∈ c.exceptionTable.toList, covers x (pc + 10) = false)
    (hRframes : names.length + 3 < R.frames) (hRlocals : (rest.map fun v => v.category).sum + (13 * (names.length + 1) + 43) ≤ R.locals) (hRcells : cells + 1 ≤ R.cells) (hRslots : slots + 6 ≤ R.slots) (hlocks : meth.locks = false)
    (hx : ∀ t : State, s.vm.Alike t.vm → H.size ≤ t.heap.size → (∀ q : Nat, q < H.size → t.heap[q]? = H[q]?) → XC cls s t)
    (hf : ∀ z ∈ locs, free z.base) (hc : cells + 1 ≤ mc) (hs : slots + 6 ≤ ms) :
    W p l e R s m args below meth c H locs cells slots (vx_MQ below Qc XC args s mc ms free) (F0 m pc ls rest) := by
  intro T hT X
  have htr : e.platform.stackTraces = false := (show e.platform.stackTraces = l.stackTraces by rw [X.admits.platform]).trans hl
  have Y := vx_rebase X (R' := { frames := R.frames, locals := R.locals, cells := 1, slots := 6 }) (Nat.le_refl _) (Nat.le_refl _) hRcells hRslots
  obtain ⟨s', hA⟩ : ∃ z, z = (T.setVm s.vm).setFrames (.invoking m args :: below) := ⟨_, rfl⟩
  rw [← hA] at Y
  have hvm : s'.vm = s.vm := by rw [hA]; rfl
  have hhp : s'.heap = H := by rw [hA]; exact hT
  have hW0 : s.WarmedH s'.vm := by rw [hvm]; exact State.WarmedH.refl s
  have hat' : ∀ w ∈ vx_atS own ic cls names, w.before args s' = true := fun w hw => vx_ot_at hW0 hvm.symm (hgood w (List.mem_cons_of_mem _ (List.mem_cons_of_mem _ hw))) (hat w hw)
  have hk' : (Cond.classLink own ik cls).before args s' = true := vx_ot_at hW0 hvm.symm (hgood _ List.mem_cons_self) hk
  have hini' : (Cond.initialized cls).before args s' = true := vx_ot_at hW0 hvm.symm (hgood _ (List.mem_cons_of_mem _ List.mem_cons_self)) hini
  have hU' : vx_Zq Bundle.tN "UNASSIGNED_STACK" Bundle.steD A s' s'.heap := by rw [hhp]; exact vx_Zq.moved hW0.alike (hU.kept hS.2.1)
  have hN' : vx_Zq Bundle.tN "SUPPRESSED_SENTINEL" Bundle.listD A s' s'.heap := by rw [hhp]; exact vx_Zq.moved hW0.alike (hN.kept hS.2.1)
  have h : ∀ w ∈ Bundle.ownAtoms own ic cls names, w.before args s' = true := vx_own hat' (vx_isRefq hU'.1) (vx_isRefq hN'.1) hU'.2.word hN'.2.word
  have hown' : s'.vm.findClass own = some m.cls := by rw [hvm]; exact hown
  have hins : (Cond.instantiable cls 6).before args s' = true := h _ (by simp [Bundle.ownAtoms])
  obtain ⟨vm₁, cX, kX, hfX, hkX, -, -, X₁, st1⟩ := Y.newCold hexec (own := own) (C := cls) (index := ik) (n := 6) hown' hk' hins hini'
    (g := F0 m pc ls rest) rfl (by rw [hb]; exact d0) (Nat.le_refl _) (Nat.le_refl _)
  generalize hT1 : (T.setVm vm₁).pushCell { cls := cX, slots := kX.instanceTypes.map defaultValue, vm := .none } = T1 at X₁ st1
  have hcat : (Value.ref T.heap.size).category = 1 := rfl
  have hcellA : T1.heap[T.heap.size]? = some (freshCell cX kX) := by rw [← hT1]; exact State.heap_pushCell_size _ _
  have d3' : decode c.code (pc + 3) = .ok (.dup, 1) := by rw [hb]; exact d3
  have d4' : decode c.code (pc + 4) = .ok (.ldc_w is, 3) := by rw [hb]; exact d4
  have hstr' : vk_R own is text sa s' := vk_R.warm hW0 hstr
  obtain ⟨U, hsteps, hrun, hend, hW, hsame, ce, hce, hO⟩ := X₁.ctorThrowS hexec htr (own := own) (cls := cls) (names := names) (ic := ic) hown' hcls hnames h (fun x hx => nomatch hx) hfX hkX hcellA (by rw [hhp, hT]; exact Nat.le_refl _) (msg := .ref sa) rfl
    (g := { method := m, pc := pc + 7, locals := ls, stack := .ref sa :: .ref T.heap.size :: .ref T.heap.size :: rest, locked := none }) rfl hsize rfl rfl (rest := rest) rfl
    (by rw [hb]; exact d7) (by rw [hb]; exact d10) hout hRframes (by simp only [List.map_cons, List.sum_cons, hcat]; omega) hlocks
  obtain ⟨f1, f2⟩ := vx_frame hsame
  rw [hhp] at f1 f2
  have hWs : s.WarmedH U.vm := State.WarmedH.trans hW0 hW
  have hcl : s.vm.findClass cls = some ce.cls := by
    have h9 := hO.cls
    rw [hvm] at h9
    exact h9
  have hall : s.sameButNew ({ U with vm := s.vm } : State) locs mc ms := by
    subst hA
    obtain ⟨e1, e2⟩ := hsame
    rw [State.setFrames_setFrames] at e1
    have h2 : (T.setVm s.vm).sameButNew ({ U with vm := s.vm } : State) [] (0 + 1) (0 + 6) := ⟨e1, e2⟩
    have h3 := X.same.trans h2
    rw [List.append_nil] at h3
    exact h3.mono hc hs
  refine ⟨U, ?_, .threw T.heap.size, hrun, hend, Or.inr ⟨T.heap.size, rfl, cls, ce, locs, hx U hWs.alike f1 (fun q hq => f2 q hq (fun z hz => nomatch hz)), hce, hO.vm, hcl, hWs, hall, hf⟩⟩
  refine st1 _ ?_
  show Steps p.tables e below (T1.setTop { method := m, pc := pc + 3, locals := ls, stack := .ref T.heap.size :: rest, locked := none }) _
  jvm_step X₁.here [X₁.here.top, hexec, d3', Value.category]
  exact X₁.ldcStringW hexec (own := own) (text := text) (index := is) (a := sa) hown' hstr'.1 hstr'.2
    (g := { method := m, pc := pc + 4, locals := ls, stack := .ref T.heap.size :: .ref T.heap.size :: rest, locked := none }) rfl d4' _ hsteps
end Ends
section Bodies
variable {l : Launch}
theorem vx_ofW {y : MethodName} {ws ws' : List Cond} {rm : Room} {Pc : Array Value → State → Prop} {Qc : Array Value → State → Outcome → State → Prop} {XC : String → State → State → Prop} {mc ms : Nat} {free : Addr → Prop} {cc : ByteArray} {maxL : Nat} {ret : Option FieldType}
    (hy : plainName y.cls = true) (hw : ws = Cond.code y cc maxL ret :: ws')
    (body : ∀ p e s m args below meth c s₁, BodyLoose p l y (headSpec ws rm) cc maxL ret e s m args below meth c s₁ → c.maxLocals = maxL → (∀ x ∈ c.exceptionTable.toList, False) → Pc args s →
      W p l e (headSpec ws rm).room s m args below meth c s.heap [] 0 0 (vx_MQ below Qc XC args s mc ms free) (entryFrame m args maxL)) : vx_Met l y ws rm Pc Qc XC mc ms free := by
  refine MetFree.of_bodyS (code := cc) (maxLocals := maxL) (ret := ret) hy ?_ ?_
  · intro args s m h hn
    obtain ⟨meth, c, h1, h2, h3, h4, h5, h6, -, -⟩ := Cond.code_spec hn (atoms_spec (ws := ws) h _ (by rw [hw]; exact List.mem_cons_self))
    exact ⟨meth, c, h1, h2, h3, h4, h5, h6⟩
  · intro p e s m args below meth c s₁ B hml hP _
    have hh0 : s₁.heap = s.heap := by rw [B.state]; rfl
    have ht : ∀ x ∈ c.exceptionTable.toList, False := by
      obtain ⟨meth9, c9, h1, h2, -, -, -, -, h7, -⟩ := Cond.code_spec B.named (atoms_spec (ws := ws) B.pre _ (by rw [hw]; exact List.mem_cons_self))
      cases Option.some.inj (h1.symm.trans B.method)
      cases Option.some.inj (h2.symm.trans (Stand.of_body B).code)
      intro x hx
      rw [Array.isEmpty_iff.mp h7] at hx
      cases hx
    obtain ⟨t, a1, o, b1, b2, b3⟩ := body p e s m args below meth c s₁ B hml ht hP s₁ hh0 (Stand.of_body B)
    exact ⟨t, o, a1, b1, b2, b3⟩
/-- the table of a body with handlers -/
theorem vx_table {p : Program} {x y : MethodName} {S : Spec} {cc bytes : ByteArray} {maxL maxL' : Nat} {ret ret' : Option FieldType} {e : Env} {s s₁ : State} {m : MethodId} {args : Array Value} {below : List Frame} {meth : Method} {c : Code} {hh : List (Nat × Nat × Nat × Nat)}
    (B : BodyLoose p l y S cc maxL ret e s m args below meth c s₁) (h : (Cond.codeWith y bytes maxL' ret' hh).before args s = true) : c.exceptionTable.toList = tableOf hh := by
  obtain ⟨m9, meth9, c9, hn9, h1, h2, -, -, h6, -⟩ := Cond.codeWith_spec h
  cases Option.some.inj (hn9.symm.trans B.named)
  cases Option.some.inj (h1.symm.trans B.method)
  cases Option.some.inj (h2.symm.trans (Stand.of_body B).code)
  rw [← h6, table_eq]
end Bodies
end VXA
/-! ===== END ===== -/
/-! ===== BEGIN a static call of a method with an exception table ===== -/
section VXS
variable {p : Program} {l : Launch} {e : Env} {R : Room} {s : State} {m : MethodId} {args : Array Value} {below : List Frame} {meth : Method} {c : Code} {T : State} {H : Heap} {locs : List Loc} {cells slots : Nat}
abbrev vx_CSW (R : Room) (s : State) (args : Array Value) (own : String) (index : Nat) (y : MethodName) (bytes : ByteArray) (maxL : Nat) (ret : Option FieldType) (hh : List (Nat × Nat × Nat × Nat)) (ws : List Cond) (rm : Room) (mc ms n : Nat) : Prop :=
  (rm.cells = mc ∧ rm.slots = ms ∧ rm.frames + 1 ≤ R.frames ∧ 8 + (maxL + 11) + rm.locals ≤ R.locals ∧ (∀ w ∈ ws, ∀ (a' : Array Value) (U : State), s.WarmedH U.vm → w.before a' U = true) ∧ Cond.codeWith y bytes maxL ret hh ∈ ws) ∧
  (Cond.codeWith y bytes maxL ret hh).before args s = true ∧ (Cond.initialized y.cls).before args s = true ∧ (y.cls ≠ "java/lang/invoke/MethodHandle" ∧ y.cls ≠ "java/lang/invoke/VarHandle") ∧
  (∀ sig, parseMethodDescriptor y.desc = some sig → n = sig.parameters.length) ∧ (Cond.methodLink own index y).before args s = true ∧ (Cond.static y).before args s = true
theorem vx_cwSW {own : String} {index maxL mc ms : Nat} {y : MethodName} {bytes : ByteArray} {ret : Option FieldType} {hh : List (Nat × Nat × Nat × Nat)} {Ts ws ws' : List Cond} {rm : Room} (n : Nat) (ht : ∀ w ∈ Ts, w.before args s = true) (hT : GoodIn Ts (va_wsS own index y ws)) (hw : ws = Cond.codeWith y bytes maxL ret hh :: ws') (hrc : rm.cells = mc) (hrs : rm.slots = ms)
    (hd : y.cls ≠ "java/lang/invoke/MethodHandle" ∧ y.cls ≠ "java/lang/invoke/VarHandle" ∧ (parseMethodDescriptor y.desc).map (fun d => d.parameters.length) = some n) (hR : rm.frames + 1 ≤ R.frames ∧ 8 + (maxL + 11) + rm.locals ≤ R.locals) :
    vx_CSW R s args own index y bytes maxL ret hh ws rm mc ms n := by
  have ok : ∀ w ∈ va_wsS own index y ws, w.before args s = true := fun w h => ht w (hT w h).1
  have hG : GoodIn Ts ws := fun w h => hT w (by unfold va_wsS; exact List.mem_append_right _ h)
  have hc : Cond.codeWith y bytes maxL ret hh ∈ ws := by rw [hw]; exact List.mem_cons_self
  refine ⟨⟨hrc, hrs, hR.1, hR.2, pay_in ht hG, hc⟩, ht _ (hG _ hc).1, ok _ (by simp [va_wsS]), ⟨hd.1, hd.2.1⟩, fun sig h => ?_, ok _ (by simp [va_wsS]), ok _ (by simp [va_wsS])⟩
  have h2 := hd.2.2
  rw [h] at h2
  exact (Option.some.inj h2).symm
theorem vx_callSW (X : Stand p l e R s m args below meth c T locs cells slots) (hexec : p.tables.exec = Jvm.exec) {own : String} {index : Nat} {y : MethodName} {bytes : ByteArray} {maxL : Nat} {ret : Option FieldType} {hh : List (Nat × Nat × Nat × Nat)}
    (hown : s.vm.findClass own = some m.cls) (hlink : (Cond.methodLink own index y).before args s = true) (hstat : (Cond.static y).before args s = true) (hinit : (Cond.initialized y.cls).before args s = true)
    (hcode : (Cond.codeWith y bytes maxL ret hh).before args s = true) (hy : y.cls ≠ "java/lang/invoke/MethodHandle" ∧ y.cls ≠ "java/lang/invoke/VarHandle")
    {W9 : Nat} {Pre : Pt → Array Value → Prop} {Post : Pt → Array Value → Option Value → Pt → Prop} (hK : Back l R p e below s args y 3 W9 Pre Post)
    {g : JFrame} (hg : g.method = m) (hsize : g.locals.size = c.maxLocals) {argsL rest : List Value} (hlen : ∀ sig, parseMethodDescriptor y.desc = some sig → argsL.length = sig.parameters.length)
    (hstack : g.stack = argsL.reverse ++ rest) (hW : 2 * g.monitorRoom + (rest.map fun v => v.category).sum ≤ W9) (hdg : decode c.code g.pc = .ok (.invokestatic index, 3))
    (hpre : ∀ vm₁, s.WarmedH vm₁ → Pre ⟨T.setVm vm₁, locs, cells, slots⟩ argsL.toArray) :
    ∃ (v : Option Value) (vm₁ : Vm) (B : Pt), s.WarmedH vm₁ ∧ Stand p l e R s m args below meth c B.U B.locs B.cells B.slots ∧ Post ⟨T.setVm vm₁, locs, cells, slots⟩ argsL.toArray v B ∧
      ∀ target, Steps p.tables e below (B.U.setTop { g with pc := g.pc + 3, stack := v.toList ++ rest }) target → Steps p.tables e below (T.setTop g) target := by
  obtain ⟨mk, methM, cM, hnamed, hmethM, -, -, -, -, -, -, hsigM⟩ := Cond.codeWith_spec hcode
  have hstatic : methM.isStatic = true := Cond.static_spec hnamed hmethM hstat
  obtain ⟨kP, hkP, -⟩ := className_of_methodNamed hnamed
  have hinitP : kP.init = .initialized := Cond.initialized_spec (findClass_of_methodNamed hnamed) hkP hinit
  obtain ⟨vm₁, X₁, hstep₁⟩ := X.invokestatic hexec hown hlink hnamed hmethM hstatic hkP hinitP hy (g := g) hg (argsL := argsL) (rest := rest) (hlen _ hsigM) hstack hdg
  obtain ⟨v, B, X', hpost, hsteps⟩ := hK m meth c ⟨T.setVm vm₁, locs, cells, slots⟩ { g with stack := rest } (.invokestatic index) mk argsL.toArray X₁ hg hsize hdg hW (X₁.named hnamed) (hpre vm₁ X₁.warmed)
  exact ⟨v, vm₁, B, X₁.warmed, X', hpost, fun target h => hstep₁ _ fun acts => by rw [doInvoke_state]; exact hsteps.trans h⟩
theorem vx_runSW {y : MethodName} {bytes cc : ByteArray} {maxL nL mc ms n index : Nat} {ret : Option FieldType} {hh : List (Nat × Nat × Nat × Nat)} {ws : List Cond} {rm : Room} {Pc : Array Value → State → Prop} {Qc : Array Value → State → Outcome → State → Prop} {free : Addr → Prop} {Ts : List Cond} {own : String} {As rest : List Value} {g : JFrame}
    (S : CallFix p m c cc nL s args Ts own) (hM : Met l y ws rm Pc Qc mc ms free) (cw : vx_CSW R s args own index y bytes maxL ret hh ws rm mc ms n) (hp : PreS s H Pc As)
    (hg : g.method = m) (hn : As.length = n) (hsize : g.locals.size = nL) (hstack : g.stack = As.reverse ++ rest) (hW : 2 * g.monitorRoom + (rest.map fun v => v.category).sum ≤ 8) (hdg : decode cc g.pc = .ok (.invokestatic index, 3)) (hf : cells + mc ≤ R.cells ∧ slots + ms ≤ R.slots) :
    va_Run p l e R s m args below meth c H locs cells slots mc ms g rest (Qc As.toArray) (free) := by
  obtain ⟨⟨hrc, hrs, hfr, hlo, hws, hcw⟩, hcode, hini, hy, hlen, hl, hstt⟩ := cw
  have hK : Back l R p e below s args y 3 8 (PreOf R mc ms Pc) (PostOf Qc mc ms free) := va_backW (hh := hh) (bytes := bytes) (maxL := maxL) (ret := ret) hM hp.1 hrc hrs hfr hlo hws hcw (fun a' U hW => word_at hW (Or.inl (by first | rfl | simp [Cond.onTables, Cond.keeps, Cond.steady])) hini)
  obtain ⟨hx, hb, hml, ho, -⟩ := S
  intro T hT X
  obtain ⟨v, vm₁, ⟨U', l2, c2, s2⟩, hW₁, X', ⟨g', mk, t, L, e1, e2, hq, h1, hL, h2, h3⟩, st⟩ := vx_callSW X hx (hh := hh) (bytes := bytes) (maxL := maxL) (ret := ret) ho hl hstt hini hcode hy hK hg (hsize.trans hml.symm) (argsL := As) (rest := rest) (fun sig h => hn.trans (hlen sig h)) hstack hW (by rw [hb]; exact hdg)
    (fun vm₁ hW₁ => ⟨hf.1, hf.2, hp.2 (T.setVm vm₁) hT hW₁⟩)
  dsimp only [Pt.U, Pt.locs, Pt.cells, Pt.slots] at X' e1 e2 h1 h2 h3 st
  subst h1; subst h2; subst h3
  exact ⟨v, (T.setVm vm₁).calling g' mk As.toArray, t, U', L, hT, X', hL, e1, e2, hq, st⟩
/-- not caught here, past rows that name other classes: it goes on to the caller -/
theorem vx_outP {p : Program} {l : Launch} {e : Env} {R : Room} {s : State} {m : MethodId} {args : Array Value} {below : List Frame} {meth : Method} {c : Code} {H : Heap} {locs : List Loc} {cells slots : Nat} {free : Addr → Prop} {ls : Array Slot} {rest : List Value} {Qc : Array Value → State → Outcome → State → Prop} {XC : String → State → State → Prop}
    {pc : Nat} {own E : String} {ce : Cell} {q : Addr} {mc ms : Nat} (hown : s.vm.findClass own = some m.cls) (hlocks : meth.locks = false)
    (hpass : ∀ z ∈ c.exceptionTable.toList, covers z pc = false ∨ (z.catchType ≠ 0 ∧ ∃ nm : String, (Cond.classLink own z.catchType nm).before args s = true ∧ va_Nc E nm s)) (hcell : H[q]? = some ce) (hv : ce.vm = .none) (hcl : s.vm.findClass E = some ce.cls)
    (hx : ∀ t : State, t.heap = H → s.vm.Alike t.vm → XC E s t) (hf : ∀ z ∈ locs, free z.base) (hc : cells ≤ mc) (hs : slots ≤ ms) :
    vx_W p l e R s m args below meth c H locs cells slots (vx_MQ below Qc XC args s mc ms free) (F0 m pc ls rest) q := by
  intro T hT X
  have hpl : e.platform.magicAccessors = ({} : Platform).magicAccessors := by rw [X.admits.platform]
  obtain ⟨vm', hW', X', st⟩ := X.outThrough hlocks q (g := F0 m pc ls rest) rfl rfl rfl (cell := ce) (by rw [hT]; exact hcell) (by rw [hv]; rfl)
    (by obtain ⟨k9, h9, -⟩ := Vm.findClass_spec hcl; exact ⟨k9, h9⟩) (fun z hz => by
      rcases hpass z hz with h | ⟨hz0, nm, hl1, hn1⟩
      · exact Or.inl h
      · obtain ⟨c6, hc6, hcl6⟩ := Cond.classLink_spec hown hl1 e.platform hpl
        obtain ⟨a8, b8, h1, h2, h3⟩ := hn1
        cases Option.some.inj (h1.symm.trans hcl)
        cases Option.some.inj (h2.symm.trans hc6)
        exact Or.inr ⟨hz0, _, hcl6, h3⟩)
  obtain ⟨g₀, hfr⟩ := X'.frames_eq
  have hcell9 : ((T.setVm vm').setFrames (.throwing q :: below)).heap[q]? = some ce := by
    show T.heap[q]? = some ce
    rw [hT]; exact hcell
  have hend : Ended ((T.setVm vm').setFrames (.throwing q :: below)) below (.threw q) := State.frames_setFrames _ (State.cur_lt_of_frames hfr)
  refine ⟨(T.setVm vm').setFrames (.throwing q :: below), ?_, .threw q, X'.here.running, hend, Or.inr ⟨q, rfl, E, ce, locs, hx _ hT (X'.ends _).1.alike, hcell9, hv, hcl, (X'.ends _).1, (X'.ends _).2.mono hc hs, hf⟩⟩
  rw [X.pushThrowing_eq]
  exact st
/-- a thing of a world lies in the heap -/
theorem vx_lt {D : va_G} {cl : List vw_C} {ws : va_W} {H1 : Heap} (h : va_P D cl ws H1) {k : Nat} {q : Nat × va_E} (hk : ws[k]? = some q) : q.1 < H1.size := (h k q hk).lt
end VXS
/-! ===== END ===== -/
/-! ===== BEGIN methods with a table of their own: called by a name, returning or throwing ===== -/
section VXH
/-! vx_backW, vx_callVX, vx_callSX, vx_callVW, vx_runVW, vx_runVX, vx_runSX, vx_ofWH follow the same proofs as their sisters above (Free/Laws.lean, Shelf42/LK1.lean); vx_outP calls Shelf42/NT130.lean (outThrough). -/
section
variable {l : Launch} {R : Room} {p : Program} {e : Env} {below : List Frame} {s : State} {sargs : Array Value} {y : MethodName} {len W9 : Nat}
theorem vx_backW {ws : List Cond} {rm : Room} {Pc : Array Value → State → Prop} {Qc : Array Value → State → Outcome → State → Prop} {XC : String → State → State → Prop} {mc ms : Nat} {free : Addr → Prop} {bytes : ByteArray} {maxL : Nat} {ret : Option FieldType} {hh : List (Nat × Nat × Nat × Nat)}
    (hM : vx_Met l y ws rm Pc Qc XC mc ms free) (hblind : FrameBlind Pc) (hrc : rm.cells = mc) (hrs : rm.slots = ms)
    (hframes : rm.frames + 1 ≤ R.frames) (hlocals : W9 + (maxL + 11) + rm.locals ≤ R.locals)
    (hws : ∀ w ∈ ws, ∀ a' U, s.WarmedH U.vm → w.before a' U = true) (hcode : Cond.codeWith y bytes maxL ret hh ∈ ws) (hinit : ∀ a' U, s.WarmedH U.vm → (Cond.initialized y.cls).before a' U = true) :
    vx_Back l R p e below s sargs y len W9 (PreOf R mc ms Pc) (PostOf Qc mc ms free) (vx_Post XC mc ms free) := by
  intro m meth c A g ig mk a X hg hsize hdg hW hn hp
  have h1 : (headSpec ws rm).pre.before a A.U = true := atoms_intro fun w hw => hws w hw _ _ X.warmed
  have h2 : (Cond.codeWith y bytes maxL ret hh).before a A.U = true := hws _ hcode _ _ X.warmed
  have h3 : (Cond.initialized y.cls).before a A.U = true := hinit _ _ X.warmed
  have h4 : A.cells + (headSpec ws rm).room.cells ≤ R.cells := by rw [show (headSpec ws rm).room.cells = mc from hrc]; exact hp.1
  have h5 : A.slots + (headSpec ws rm).room.slots ≤ R.slots := by rw [show (headSpec ws rm).room.slots = ms from hrs]; exact hp.2.1
  have hPc : Pc a (A.U.calling g mk a) := hblind _ _ _ _ hp.2.2
  obtain ⟨U, Ls, c0, s0⟩ := A
  dsimp only [Pt.U, Pt.locs, Pt.cells, Pt.slots] at h1 h2 h3 h4 h5 X hn hPc ⊢
  obtain ⟨m9, methY, cY, hn9, hmY, hcY, -, hlY, -⟩ := Cond.codeWith_spec h2
  cases Option.some.inj (hn9.symm.trans hn)
  obtain ⟨kY, hkY, -⟩ := className_of_methodNamed hn
  have hinitY : kY.init = .initialized := Cond.initialized_spec (findClass_of_methodNamed hn) hkY h3
  have h : At U g.method c below := by rw [hg]; exact X.here
  have hlocals9 : W9 + (maxL + 11) + (headSpec ws rm).room.locals ≤ R.locals := hlocals
  have happ : (headSpec ws rm).appliesLoose y e.platform (U.calling g mk a) = true :=
    Spec.appliesLoose_calling (g := g) h hdg hn hkY hinitY
      (X.room_calling (g := g) (R' := (headSpec ws rm).room) hsize hmY hcY hframes (by rw [hlY]; omega) h4 h5) h1
  obtain ⟨mid, hmid⟩ := h.above
  have hfr : (U.setTop g).frames = (.java g :: mid) ++ below := by rw [State.frames_setTop' g h.top, hmid]; rfl
  obtain ⟨o, s₂, hsteps, -, hend, hq⟩ := Steps.callFree hM p X.admits X.cas X.clock (acts := []) hfr happ hPc trivial
  have hq' : vx_Q Qc XC mc ms free a (U.calling g mk a) o s₂ := hq
  rw [State.frames_setTop' g h.top] at hend
  obtain ⟨g₀, hg0⟩ := Option.isSome_iff_exists.mp h.top
  obtain ⟨r, hr⟩ := State.topJava?_eq_some.mp hg0
  have hr' : (({ U with heap := s₂.heap, slotsUsed := s₂.slotsUsed } : State).setVm s₂.vm).frames = .java g₀ :: r := hr
  rcases hq' with ⟨hqc, L, hfe, hL⟩ | ⟨q, rfl, E, ce, L, hx, hce, hcv, hcl, hW₂, hsm, hL⟩
  · obtain ⟨⟨v, rfl⟩, hW₂, e2, q2, q3, q4, q5, q6⟩ := id hfe
    have e3 : s₂ = ({ (U.calling g mk a).setFrames s₂.frames with heap := s₂.heap, slotsUsed := s₂.slotsUsed } : State).setVm s₂.vm := by
      have : s₂ = ({ s₂ with vm := (U.calling g mk a).vm } : State).setVm s₂.vm := rfl
      rw [e2] at this
      exact this
    obtain ⟨c₂, i₂, len₂, hc₂, hd₂, hf₂⟩ := hend
    have hW' : U.WarmedH s₂.vm := hW₂
    have hcc : c₂ = c := by
      have h1 : s₂.code? g.method = U.code? g.method := by
        rw [State.code?_eq, State.code?_eq, hW'.alike.method?]
      exact Option.some.inj (hc₂.symm.trans (h1.trans h.code))
    subst hcc
    have hlen : len₂ = len := by rw [hdg] at hd₂; cases hd₂; rfl
    subst hlen
    have hs₂ : s₂ = (({ U with heap := s₂.heap, slotsUsed := s₂.slotsUsed } : State).setVm s₂.vm).setTop { g with pc := g.pc + len₂, stack := v.toList ++ g.stack } := by
      refine e3.trans ?_
      rw [hf₂, State.calling_eq h.top, State.setFrames_setFrames, State.setTop_of_frames _ hr', hr]
      rfl
    have hsame : U.sameButNew ({ U with heap := s₂.heap, slotsUsed := s₂.slotsUsed } : State) L mc ms := by
      refine ⟨?_, q2, q3, q4, q5, q6⟩
      obtain ⟨t, ht, -⟩ := State.frames_cons hr
      show ({ U with heap := s₂.heap, slotsUsed := s₂.slotsUsed } : State) = { U.setFrames U.frames with heap := s₂.heap, slotsUsed := s₂.slotsUsed }
      rw [State.setFrames_self ht]
    subst hg
    refine Or.inl ⟨v, ⟨(({ U with heap := s₂.heap, slotsUsed := s₂.slotsUsed } : State).setVm s₂.vm), Ls ++ L, c0 + mc, s0 + ms⟩,
      ⟨X.admits, X.cas, X.clock, X.frames, X.room, X.hears, X.method, X.code, (X.here.setHeapUsed s₂.heap s₂.slotsUsed).setVm hW'.alike, X.tail, State.WarmedH.trans X.warmed hW', X.limits, X.bytes, X.same.trans (hsame.setVm s.vm)⟩,
      ⟨g, mk, s₂, L, rfl, rfl, hqc, rfl, hL, rfl, rfl⟩, ?_⟩
    show Steps p.tables e below _ ((({ U with heap := s₂.heap, slotsUsed := s₂.slotsUsed } : State).setVm s₂.vm).setTop { g with pc := g.pc + len₂, stack := v.toList ++ g.stack })
    rw [← hs₂]
    exact hsteps
  · obtain ⟨e2, q2, q3, q4, q5, q6⟩ := id hsm
    have e3 : s₂ = ({ (U.calling g mk a).setFrames s₂.frames with heap := s₂.heap, slotsUsed := s₂.slotsUsed } : State).setVm s₂.vm := by
      have : s₂ = ({ s₂ with vm := (U.calling g mk a).vm } : State).setVm s₂.vm := rfl
      rw [e2] at this
      exact this
    have hf₂ : s₂.frames = .throwing q :: .java g :: U.frames.tail := hend
    have hW' : U.WarmedH s₂.vm := hW₂
    have hs₂ : s₂ = ((({ U with heap := s₂.heap, slotsUsed := s₂.slotsUsed } : State).setVm s₂.vm).setTop g).pushFrame (.throwing q) := by
      refine e3.trans ?_
      rw [hf₂, State.calling_eq h.top, State.setFrames_setFrames, State.pushFrame, State.frames_setTop _ hr', State.setTop_of_frames _ hr', State.setFrames_setFrames, hr]
      rfl
    have hsame : U.sameButNew ({ U with heap := s₂.heap, slotsUsed := s₂.slotsUsed } : State) L mc ms := by
      refine ⟨?_, q2, q3, q4, q5, q6⟩
      obtain ⟨t, ht, -⟩ := State.frames_cons hr
      show ({ U with heap := s₂.heap, slotsUsed := s₂.slotsUsed } : State) = { U.setFrames U.frames with heap := s₂.heap, slotsUsed := s₂.slotsUsed }
      rw [State.setFrames_self ht]
    subst hg
    refine Or.inr ⟨q, ⟨(({ U with heap := s₂.heap, slotsUsed := s₂.slotsUsed } : State).setVm s₂.vm), Ls ++ L, c0 + mc, s0 + ms⟩,
      ⟨X.admits, X.cas, X.clock, X.frames, X.room, X.hears, X.method, X.code, (X.here.setHeapUsed s₂.heap s₂.slotsUsed).setVm hW'.alike, X.tail, State.WarmedH.trans X.warmed hW', X.limits, X.bytes, X.same.trans (hsame.setVm s.vm)⟩,
      ⟨g, mk, s₂, L, E, ce, rfl, rfl, hx, hce, hcv, hcl, rfl, hL, rfl, rfl⟩, ?_⟩
    show Steps p.tables e below _ (((({ U with heap := s₂.heap, slotsUsed := s₂.slotsUsed } : State).setVm s₂.vm).setTop g).pushFrame (.throwing q))
    rw [← hs₂]
    exact hsteps
end
variable {p : Program} {l : Launch} {e : Env} {R : Room} {s : State} {m : MethodId} {args : Array Value} {below : List Frame} {meth : Method} {c : Code} {T : State} {H : Heap} {locs : List Loc} {cells slots : Nat}
theorem vx_callVX (X : Stand p l e R s m args below meth c T locs cells slots) (hexec : p.tables.exec = Jvm.exec) {own C : String} {index : Nat} {y : MethodName} {bytes : ByteArray} {maxL : Nat} {ret : Option FieldType} {hh : List (Nat × Nat × Nat × Nat)}
    (hown : s.vm.findClass own = some m.cls) (hlink : (Cond.methodLink own index y).before args s = true) (hinst : (Cond.instanceMethod y).before args s = true) (hsel : (Cond.selects C y y).before args s = true)
    (hcode : (Cond.codeWith y bytes maxL ret hh).before args s = true) (hy : y.cls ≠ "java/lang/invoke/MethodHandle" ∧ y.cls ≠ "java/lang/invoke/VarHandle")
    {W9 : Nat} {Pre : Pt → Array Value → Prop} {Post : Pt → Array Value → Option Value → Pt → Prop} {PostX : Pt → Array Value → Addr → Pt → Prop} (hK : vx_Back l R p e below s args y 3 W9 Pre Post PostX)
    {b : Addr} {cellB : Cell} (hcell : T.heap[b]? = some cellB) (hobj : cellB.vm.isStatics = false) (hcls : s.vm.findClass C = some cellB.cls)
    {g : JFrame} (hg : g.method = m) (hsize : g.locals.size = c.maxLocals) {argsL rest : List Value} (hlen : ∀ sig, parseMethodDescriptor y.desc = some sig → argsL.length = sig.parameters.length)
    (hstack : g.stack = argsL.reverse ++ .ref b :: rest) (hW : 2 * g.monitorRoom + (rest.map fun v => v.category).sum ≤ W9) (hdg : decode c.code g.pc = .ok (.invokevirtual index, 3))
    (hpre : ∀ vm₁, s.WarmedH vm₁ → Pre ⟨T.setVm vm₁, locs, cells, slots⟩ (Value.ref b :: argsL).toArray) :
    (∃ (v : Option Value) (vm₁ : Vm) (B : Pt), s.WarmedH vm₁ ∧ Stand p l e R s m args below meth c B.U B.locs B.cells B.slots ∧ Post ⟨T.setVm vm₁, locs, cells, slots⟩ (Value.ref b :: argsL).toArray v B ∧
      ∀ target, Steps p.tables e below (B.U.setTop { g with pc := g.pc + 3, stack := v.toList ++ rest }) target → Steps p.tables e below (T.setTop g) target) ∨
    (∃ (q : Addr) (vm₁ : Vm) (B : Pt), s.WarmedH vm₁ ∧ Stand p l e R s m args below meth c B.U B.locs B.cells B.slots ∧ PostX ⟨T.setVm vm₁, locs, cells, slots⟩ (Value.ref b :: argsL).toArray q B ∧
      Steps p.tables e below (T.setTop g) ((B.U.setTop { g with stack := rest }).pushFrame (.throwing q))) := by
  obtain ⟨mk, methM, hnamed, hmethM, hstM, habM⟩ := Cond.instanceMethod_spec hinst
  obtain ⟨m8, methM', cM, hn8, hmethM', -, -, -, -, -, -, hsigM⟩ := Cond.codeWith_spec hcode
  cases Option.some.inj (hn8.symm.trans hnamed)
  cases hmethM.symm.trans hmethM'
  obtain ⟨c2, r2, m2, q1, q2, q3, q4, kP, hkP, hkPi⟩ := Cond.selects_spec hsel
  cases hcls.symm.trans q1
  cases (State.methodFound?_of_named hnamed hy).symm.trans q2
  cases hnamed.symm.trans q3
  have hselP : selectMethod e.platform s.vm cellB.cls mk = .method mk := by rw [Launch.admits_selectMethod X.admits]; exact q4
  obtain ⟨vm₁, X₁, hstep₁⟩ := X.invokevirtual hexec hown hlink hnamed hmethM hstM hkP hkPi hy (a := b) (cell := cellB) hcell
    (fun z h => by rw [h] at hobj; cases hobj) hselP hmethM habM hkP hkPi (g := g) hg (argsL := argsL) (rest := rest) (hlen _ hsigM) hstack hdg
  rcases hK m meth c ⟨T.setVm vm₁, locs, cells, slots⟩ { g with stack := rest } (.invokevirtual index) mk (Value.ref b :: argsL).toArray X₁ hg hsize hdg hW (X₁.named hnamed) (hpre vm₁ X₁.warmed) with ⟨v, B, X', hpost, hsteps⟩ | ⟨q, B, X', hpost, hsteps⟩
  · exact Or.inl ⟨v, vm₁, B, X₁.warmed, X', hpost, fun target h => hstep₁ _ fun acts => by rw [doInvoke_state]; exact hsteps.trans h⟩
  · exact Or.inr ⟨q, vm₁, B, X₁.warmed, X', hpost, hstep₁ _ fun acts => by rw [doInvoke_state]; exact hsteps⟩
theorem vx_callSX (X : Stand p l e R s m args below meth c T locs cells slots) (hexec : p.tables.exec = Jvm.exec) {own : String} {index : Nat} {y : MethodName} {bytes : ByteArray} {maxL : Nat} {ret : Option FieldType} {hh : List (Nat × Nat × Nat × Nat)}
    (hown : s.vm.findClass own = some m.cls) (hlink : (Cond.methodLink own index y).before args s = true) (hstat : (Cond.static y).before args s = true) (hinit : (Cond.initialized y.cls).before args s = true)
    (hcode : (Cond.codeWith y bytes maxL ret hh).before args s = true) (hy : y.cls ≠ "java/lang/invoke/MethodHandle" ∧ y.cls ≠ "java/lang/invoke/VarHandle")
    {W9 : Nat} {Pre : Pt → Array Value → Prop} {Post : Pt → Array Value → Option Value → Pt → Prop} {PostX : Pt → Array Value → Addr → Pt → Prop} (hK : vx_Back l R p e below s args y 3 W9 Pre Post PostX)
    {g : JFrame} (hg : g.method = m) (hsize : g.locals.size = c.maxLocals) {argsL rest : List Value} (hlen : ∀ sig, parseMethodDescriptor y.desc = some sig → argsL.length = sig.parameters.length)
    (hstack : g.stack = argsL.reverse ++ rest) (hW : 2 * g.monitorRoom + (rest.map fun v => v.category).sum ≤ W9) (hdg : decode c.code g.pc = .ok (.invokestatic index, 3))
    (hpre : ∀ vm₁, s.WarmedH vm₁ → Pre ⟨T.setVm vm₁, locs, cells, slots⟩ argsL.toArray) :
    (∃ (v : Option Value) (vm₁ : Vm) (B : Pt), s.WarmedH vm₁ ∧ Stand p l e R s m args below meth c B.U B.locs B.cells B.slots ∧ Post ⟨T.setVm vm₁, locs, cells, slots⟩ argsL.toArray v B ∧
      ∀ target, Steps p.tables e below (B.U.setTop { g with pc := g.pc + 3, stack := v.toList ++ rest }) target → Steps p.tables e below (T.setTop g) target) ∨
    (∃ (q : Addr) (vm₁ : Vm) (B : Pt), s.WarmedH vm₁ ∧ Stand p l e R s m args below meth c B.U B.locs B.cells B.slots ∧ PostX ⟨T.setVm vm₁, locs, cells, slots⟩ argsL.toArray q B ∧
      Steps p.tables e below (T.setTop g) ((B.U.setTop { g with stack := rest }).pushFrame (.throwing q))) := by
  obtain ⟨mk, methM, cM, hnamed, hmethM, -, -, -, -, -, -, hsigM⟩ := Cond.codeWith_spec hcode
  have hstatic : methM.isStatic = true := Cond.static_spec hnamed hmethM hstat
  obtain ⟨kP, hkP, -⟩ := className_of_methodNamed hnamed
  have hinitP : kP.init = .initialized := Cond.initialized_spec (findClass_of_methodNamed hnamed) hkP hinit
  obtain ⟨vm₁, X₁, hstep₁⟩ := X.invokestatic hexec hown hlink hnamed hmethM hstatic hkP hinitP hy (g := g) hg (argsL := argsL) (rest := rest) (hlen _ hsigM) hstack hdg
  rcases hK m meth c ⟨T.setVm vm₁, locs, cells, slots⟩ { g with stack := rest } (.invokestatic index) mk argsL.toArray X₁ hg hsize hdg hW (X₁.named hnamed) (hpre vm₁ X₁.warmed) with ⟨v, B, X', hpost, hsteps⟩ | ⟨q, B, X', hpost, hsteps⟩
  · exact Or.inl ⟨v, vm₁, B, X₁.warmed, X', hpost, fun target h => hstep₁ _ fun acts => by rw [doInvoke_state]; exact hsteps.trans h⟩
  · exact Or.inr ⟨q, vm₁, B, X₁.warmed, X', hpost, hstep₁ _ fun acts => by rw [doInvoke_state]; exact hsteps⟩
theorem vx_callVW (X : Stand p l e R s m args below meth c T locs cells slots) (hexec : p.tables.exec = Jvm.exec) {own C : String} {index : Nat} {y : MethodName} {bytes : ByteArray} {maxL : Nat} {ret : Option FieldType} {hh : List (Nat × Nat × Nat × Nat)}
    (hown : s.vm.findClass own = some m.cls) (hlink : (Cond.methodLink own index y).before args s = true) (hinst : (Cond.instanceMethod y).before args s = true) (hsel : (Cond.selects C y y).before args s = true)
    (hcode : (Cond.codeWith y bytes maxL ret hh).before args s = true) (hy : y.cls ≠ "java/lang/invoke/MethodHandle" ∧ y.cls ≠ "java/lang/invoke/VarHandle")
    {W9 : Nat} {Pre : Pt → Array Value → Prop} {Post : Pt → Array Value → Option Value → Pt → Prop} (hK : Back l R p e below s args y 3 W9 Pre Post)
    {b : Addr} {cellB : Cell} (hcell : T.heap[b]? = some cellB) (hobj : cellB.vm.isStatics = false) (hcls : s.vm.findClass C = some cellB.cls)
    {g : JFrame} (hg : g.method = m) (hsize : g.locals.size = c.maxLocals) {argsL rest : List Value} (hlen : ∀ sig, parseMethodDescriptor y.desc = some sig → argsL.length = sig.parameters.length)
    (hstack : g.stack = argsL.reverse ++ .ref b :: rest) (hW : 2 * g.monitorRoom + (rest.map fun v => v.category).sum ≤ W9) (hdg : decode c.code g.pc = .ok (.invokevirtual index, 3))
    (hpre : ∀ vm₁, s.WarmedH vm₁ → Pre ⟨T.setVm vm₁, locs, cells, slots⟩ (Value.ref b :: argsL).toArray) :
    ∃ (v : Option Value) (vm₁ : Vm) (B : Pt), s.WarmedH vm₁ ∧ Stand p l e R s m args below meth c B.U B.locs B.cells B.slots ∧ Post ⟨T.setVm vm₁, locs, cells, slots⟩ (Value.ref b :: argsL).toArray v B ∧
      ∀ target, Steps p.tables e below (B.U.setTop { g with pc := g.pc + 3, stack := v.toList ++ rest }) target → Steps p.tables e below (T.setTop g) target := by
  obtain ⟨mk, methM, hnamed, hmethM, hstM, habM⟩ := Cond.instanceMethod_spec hinst
  obtain ⟨m8, methM', cM, hn8, hmethM', -, -, -, -, -, -, hsigM⟩ := Cond.codeWith_spec hcode
  cases Option.some.inj (hn8.symm.trans hnamed)
  cases hmethM.symm.trans hmethM'
  obtain ⟨c2, r2, m2, q1, q2, q3, q4, kP, hkP, hkPi⟩ := Cond.selects_spec hsel
  cases hcls.symm.trans q1
  cases (State.methodFound?_of_named hnamed hy).symm.trans q2
  cases hnamed.symm.trans q3
  have hselP : selectMethod e.platform s.vm cellB.cls mk = .method mk := by rw [Launch.admits_selectMethod X.admits]; exact q4
  obtain ⟨vm₁, X₁, hstep₁⟩ := X.invokevirtual hexec hown hlink hnamed hmethM hstM hkP hkPi hy (a := b) (cell := cellB) hcell
    (fun z h => by rw [h] at hobj; cases hobj) hselP hmethM habM hkP hkPi (g := g) hg (argsL := argsL) (rest := rest) (hlen _ hsigM) hstack hdg
  obtain ⟨v, B, X', hpost, hsteps⟩ := hK m meth c ⟨T.setVm vm₁, locs, cells, slots⟩ { g with stack := rest } (.invokevirtual index) mk (Value.ref b :: argsL).toArray X₁ hg hsize hdg hW (X₁.named hnamed) (hpre vm₁ X₁.warmed)
  exact ⟨v, vm₁, B, X₁.warmed, X', hpost, fun target h => hstep₁ _ fun acts => by rw [doInvoke_state]; exact hsteps.trans h⟩
abbrev vx_CVW (R : Room) (s : State) (args : Array Value) (own C : String) (index : Nat) (y : MethodName) (bytes : ByteArray) (maxL : Nat) (ret : Option FieldType) (hh : List (Nat × Nat × Nat × Nat)) (ws : List Cond) (rm : Room) (mc ms n : Nat) : Prop :=
  (rm.cells = mc ∧ rm.slots = ms ∧ rm.frames + 1 ≤ R.frames ∧ 8 + (maxL + 11) + rm.locals ≤ R.locals ∧ (∀ w ∈ ws, ∀ (a' : Array Value) (U : State), s.WarmedH U.vm → w.before a' U = true) ∧ Cond.codeWith y bytes maxL ret hh ∈ ws) ∧
  (Cond.codeWith y bytes maxL ret hh).before args s = true ∧ (Cond.initialized y.cls).before args s = true ∧ (y.cls ≠ "java/lang/invoke/MethodHandle" ∧ y.cls ≠ "java/lang/invoke/VarHandle") ∧
  (∀ sig, parseMethodDescriptor y.desc = some sig → n = sig.parameters.length) ∧ (Cond.methodLink own index y).before args s = true ∧ (Cond.instanceMethod y).before args s = true ∧ (Cond.selects C y y).before args s = true
theorem vx_cwVW {own C : String} {index maxL mc ms : Nat} {y : MethodName} {bytes : ByteArray} {ret : Option FieldType} {hh : List (Nat × Nat × Nat × Nat)} {Ts ws ws' : List Cond} {rm : Room} (n : Nat) (ht : ∀ w ∈ Ts, w.before args s = true) (hT : GoodIn Ts (wsV own index C y ws)) (hw : ws = Cond.codeWith y bytes maxL ret hh :: ws') (hrc : rm.cells = mc) (hrs : rm.slots = ms)
    (hd : y.cls = C ∧ y.cls ≠ "java/lang/invoke/MethodHandle" ∧ y.cls ≠ "java/lang/invoke/VarHandle" ∧ (parseMethodDescriptor y.desc).map (fun d => d.parameters.length) = some n) (hR : rm.frames + 1 ≤ R.frames ∧ 8 + (maxL + 11) + rm.locals ≤ R.locals) :
    vx_CVW R s args own C index y bytes maxL ret hh ws rm mc ms n := by
  obtain ⟨hC, hd⟩ := hd
  subst hC
  have ok : ∀ w ∈ wsV own index y.cls y ws, w.before args s = true := fun w h => ht w (hT w h).1
  have hG : GoodIn Ts ws := fun w h => hT w (by unfold wsV; exact List.mem_append_right _ h)
  have hc : Cond.codeWith y bytes maxL ret hh ∈ ws := by rw [hw]; exact List.mem_cons_self
  refine ⟨⟨hrc, hrs, hR.1, hR.2, pay_in ht hG, hc⟩, ht _ (hG _ hc).1, ok _ (by simp [wsV]), ⟨hd.1, hd.2.1⟩, fun sig h => ?_, ok _ (by simp [wsV]), ok _ (by simp [wsV]), ok _ (by simp [wsV])⟩
  have h2 := hd.2.2
  rw [h] at h2
  exact (Option.some.inj h2).symm
theorem vx_runVW {y : MethodName} {bytes cc : ByteArray} {maxL nL mc ms n index : Nat} {ret : Option FieldType} {hh : List (Nat × Nat × Nat × Nat)} {ws : List Cond} {rm : Room} {Pc : Array Value → State → Prop} {Qc : Array Value → State → Outcome → State → Prop} {free : Addr → Prop} {Ts : List Cond} {own C : String} {b : Addr} {As rest : List Value} {g : JFrame}
    (S : CallFix p m c cc nL s args Ts own) (hM : Met l y ws rm Pc Qc mc ms free) (cw : vx_CVW R s args own C index y bytes maxL ret hh ws rm mc ms n) (hp : PreV s H C b Pc As)
    (hg : g.method = m) (hn : As.length = n) (hsize : g.locals.size = nL) (hstack : g.stack = As.reverse ++ .ref b :: rest) (hW : 2 * g.monitorRoom + (rest.map fun v => v.category).sum ≤ 8) (hdg : decode cc g.pc = .ok (.invokevirtual index, 3)) (hf : cells + mc ≤ R.cells ∧ slots + ms ≤ R.slots) :
    va_Run p l e R s m args below meth c H locs cells slots mc ms g rest (Qc (Value.ref b :: As).toArray) free := by
  obtain ⟨⟨hrc, hrs, hfr, hlo, hws, hcw⟩, hcode, hini, hy, hlen, hl, hin, hse⟩ := cw
  have hK : Back l R p e below s args y 3 8 (PreOf R mc ms Pc) (PostOf Qc mc ms free) := va_backW (hh := hh) (bytes := bytes) (maxL := maxL) (ret := ret) hM hp.1 hrc hrs hfr hlo hws hcw (fun a' U hW => word_at hW (Or.inl (by first | rfl | simp [Cond.onTables, Cond.keeps, Cond.steady])) hini)
  obtain ⟨hx, hb, hml, ho, -⟩ := S
  obtain ⟨-, ⟨cellB, hcB, hoB, hclB⟩, hPc⟩ := hp
  intro T hT X
  obtain ⟨v, vm₁, ⟨U', l2, c2, s2⟩, hW₁, X', ⟨g', mk, t, L, e1, e2, hq, h1, hL, h2, h3⟩, st⟩ := vx_callVW X hx (C := C) (hh := hh) (bytes := bytes) (maxL := maxL) (ret := ret) ho hl hin hse hcode hy hK (by rw [hT]; exact hcB) hoB hclB hg (hsize.trans hml.symm) (argsL := As) (rest := rest) (fun sig h => hn.trans (hlen sig h)) hstack hW (by rw [hb]; exact hdg)
    (fun vm₁ hW₁ => ⟨hf.1, hf.2, hPc (T.setVm vm₁) hT hW₁⟩)
  dsimp only [Pt.U, Pt.locs, Pt.cells, Pt.slots] at X' e1 e2 h1 h2 h3 st
  subst h1; subst h2; subst h3
  exact ⟨v, (T.setVm vm₁).calling g' mk (Value.ref b :: As).toArray, t, U', L, hT, X', hL, e1, e2, hq, st⟩
section
variable {y : MethodName} {bytes cc : ByteArray} {maxL nL mc ms n index : Nat} {ret : Option FieldType} {ws : List Cond} {rm : Room} {Pc : Array Value → State → Prop} {Qc : Array Value → State → Outcome → State → Prop} {XC : String → State → State → Prop} {free : Addr → Prop} {Ts : List Cond} {own C : String} {b : Addr} {As rest : List Value} {g : JFrame}
theorem vx_runVX {hh : List (Nat × Nat × Nat × Nat)} (S : CallFix p m c cc nL s args Ts own) (hM : vx_Met l y ws rm Pc Qc XC mc ms free) (cw : vx_CVW R s args own C index y bytes maxL ret hh ws rm mc ms n) (hp : PreV s H C b Pc As)
    (hg : g.method = m) (hn : As.length = n) (hsize : g.locals.size = nL) (hstack : g.stack = As.reverse ++ .ref b :: rest) (hW : 2 * g.monitorRoom + (rest.map fun v => v.category).sum ≤ 8) (hdg : decode cc g.pc = .ok (.invokevirtual index, 3)) (hf : cells + mc ≤ R.cells ∧ slots + ms ≤ R.slots) :
    vx_Run p l e R s m args below meth c H locs cells slots mc ms g rest (Qc (Value.ref b :: As).toArray) XC free := by
  obtain ⟨⟨hrc, hrs, hfr, hlo, hws, hcw⟩, hcode, hini, hy, hlen, hl, hin, hse⟩ := cw
  have hK : vx_Back l R p e below s args y 3 8 (PreOf R mc ms Pc) (PostOf Qc mc ms free) (vx_Post XC mc ms free) := vx_backW (hh := hh) (bytes := bytes) (maxL := maxL) (ret := ret) hM hp.1 hrc hrs hfr hlo hws hcw (fun a' U hW => word_at hW (Or.inl (by first | rfl | simp [Cond.onTables, Cond.keeps, Cond.steady])) hini)
  obtain ⟨hx, hb, hml, ho, -⟩ := S
  obtain ⟨-, ⟨cellB, hcB, hoB, hclB⟩, hPc⟩ := hp
  intro T hT X
  rcases vx_callVX X hx (C := C) (hh := hh) (bytes := bytes) (maxL := maxL) (ret := ret) ho hl hin hse hcode hy hK (by rw [hT]; exact hcB) hoB hclB hg (hsize.trans hml.symm) (argsL := As) (rest := rest) (fun sig h => hn.trans (hlen sig h)) hstack hW (by rw [hb]; exact hdg)
    (fun vm₁ hW₁ => ⟨hf.1, hf.2, hPc (T.setVm vm₁) hT hW₁⟩) with ⟨v, vm₁, ⟨U', l2, c2, s2⟩, hW₁, X', ⟨g', mk, t, L, e1, e2, hq, h1, hL, h2, h3⟩, st⟩ | ⟨q, vm₁, ⟨U', l2, c2, s2⟩, hW₁, X', ⟨g', mk, t, L, E, ce, e1, e2, hq, hce, hcv, hcl, h1, hL, h2, h3⟩, st⟩
  · dsimp only [Pt.U, Pt.locs, Pt.cells, Pt.slots] at X' e1 e2 h1 h2 h3 st
    subst h1; subst h2; subst h3
    exact Or.inl ⟨v, (T.setVm vm₁).calling g' mk (Value.ref b :: As).toArray, t, U', L, hT, X', hL, e1, e2, hq, st⟩
  · dsimp only [Pt.U, Pt.locs, Pt.cells, Pt.slots] at X' e1 e2 h1 h2 h3 st hcl
    subst h1; subst h2; subst h3
    exact Or.inr ⟨q, (T.setVm vm₁).calling g' mk (Value.ref b :: As).toArray, t, U', L, E, ce, hT, X', hL, e1, e2, hq, hce, hcv, vx_cls hW₁ hcl, st⟩
theorem vx_runSX {hh : List (Nat × Nat × Nat × Nat)} (S : CallFix p m c cc nL s args Ts own) (hM : vx_Met l y ws rm Pc Qc XC mc ms free) (cw : vx_CSW R s args own index y bytes maxL ret hh ws rm mc ms n) (hp : PreS s H Pc As)
    (hg : g.method = m) (hn : As.length = n) (hsize : g.locals.size = nL) (hstack : g.stack = As.reverse ++ rest) (hW : 2 * g.monitorRoom + (rest.map fun v => v.category).sum ≤ 8) (hdg : decode cc g.pc = .ok (.invokestatic index, 3)) (hf : cells + mc ≤ R.cells ∧ slots + ms ≤ R.slots) :
    vx_Run p l e R s m args below meth c H locs cells slots mc ms g rest (Qc As.toArray) XC free := by
  obtain ⟨⟨hrc, hrs, hfr, hlo, hws, hcw⟩, hcode, hini, hy, hlen, hl, hstt⟩ := cw
  have hK : vx_Back l R p e below s args y 3 8 (PreOf R mc ms Pc) (PostOf Qc mc ms free) (vx_Post XC mc ms free) := vx_backW (hh := hh) (bytes := bytes) (maxL := maxL) (ret := ret) hM hp.1 hrc hrs hfr hlo hws hcw (fun a' U hW => word_at hW (Or.inl (by first | rfl | simp [Cond.onTables, Cond.keeps, Cond.steady])) hini)
  obtain ⟨hx, hb, hml, ho, -⟩ := S
  intro T hT X
  rcases vx_callSX X hx (hh := hh) (bytes := bytes) (maxL := maxL) (ret := ret) ho hl hstt hini hcode hy hK hg (hsize.trans hml.symm) (argsL := As) (rest := rest) (fun sig h => hn.trans (hlen sig h)) hstack hW (by rw [hb]; exact hdg)
    (fun vm₁ hW₁ => ⟨hf.1, hf.2, hp.2 (T.setVm vm₁) hT hW₁⟩) with ⟨v, vm₁, ⟨U', l2, c2, s2⟩, hW₁, X', ⟨g', mk, t, L, e1, e2, hq, h1, hL, h2, h3⟩, st⟩ | ⟨q, vm₁, ⟨U', l2, c2, s2⟩, hW₁, X', ⟨g', mk, t, L, E, ce, e1, e2, hq, hce, hcv, hcl, h1, hL, h2, h3⟩, st⟩
  · dsimp only [Pt.U, Pt.locs, Pt.cells, Pt.slots] at X' e1 e2 h1 h2 h3 st
    subst h1; subst h2; subst h3
    exact Or.inl ⟨v, (T.setVm vm₁).calling g' mk As.toArray, t, U', L, hT, X', hL, e1, e2, hq, st⟩
  · dsimp only [Pt.U, Pt.locs, Pt.cells, Pt.slots] at X' e1 e2 h1 h2 h3 st hcl
    subst h1; subst h2; subst h3
    exact Or.inr ⟨q, (T.setVm vm₁).calling g' mk As.toArray, t, U', L, E, ce, hT, X', hL, e1, e2, hq, hce, hcv, vx_cls hW₁ hcl, st⟩
end
end VXH
theorem vx_ofWH {l : Launch} {y : MethodName} {ws ws' : List Cond} {rm : Room} {Pc : Array Value → State → Prop} {Qc : Array Value → State → Outcome → State → Prop} {XC : String → State → State → Prop} {mc ms : Nat} {free : Addr → Prop} {cc : ByteArray} {maxL : Nat} {ret : Option FieldType} {hh : List (Nat × Nat × Nat × Nat)}
    (hy : plainName y.cls = true) (hw : ws = Cond.codeWith y cc maxL ret hh :: ws')
    (body : ∀ p e s m args below meth c s₁, BodyLoose p l y (headSpec ws rm) cc maxL ret e s m args below meth c s₁ → c.maxLocals = maxL → Pc args s →
      W p l e (headSpec ws rm).room s m args below meth c s.heap [] 0 0 (vx_MQ below Qc XC args s mc ms free) (entryFrame m args maxL)) : vx_Met l y ws rm Pc Qc XC mc ms free := by
  refine MetFree.of_bodyS (code := cc) (maxLocals := maxL) (ret := ret) hy ?_ ?_
  · intro args s m h hn
    obtain ⟨m9, meth, c, hn9, h1, h2, h3, h4, -, h5, h6, -⟩ := Cond.codeWith_spec (atoms_spec (ws := ws) h _ (by rw [hw]; exact List.mem_cons_self))
    cases hn.symm.trans hn9
    exact ⟨meth, c, h1, h2, h3, h4, h5, h6⟩
  · intro p e s m args below meth c s₁ B hml hP _
    have hh0 : s₁.heap = s.heap := by rw [B.state]; rfl
    obtain ⟨t, a1, o, b1, b2, b3⟩ := body p e s m args below meth c s₁ B hml hP s₁ hh0 (Stand.of_body B)
    exact ⟨t, o, a1, b1, b2, b3⟩
/-! ===== END ===== -/

/-! ===== BEGIN printed: names, fields, word lists, decode rows ===== -/
def RX0 : String := "BanksDealt$Book"
def TX0 : u_T := fun k => match k with
  | 0 => ("BanksDealt$Book", "why", "I", false)
  | 1 => ("BanksDealt$Book", "lines", "I", false)
  | 2 => ("BanksDealt$Book", "verb", "[I", true)
  | 3 => ("BanksDealt$Book", "who", "[I", true)
  | 4 => ("BanksDealt$Book", "x", "[I", true)
  | _ => ("BanksDealt$Book", "y", "[I", true)
def tyX0 : Nat → FieldType := fun k => match k with
  | 0 => .int
  | 1 => .int
  | 2 => .array .int
  | 3 => .array .int
  | 4 => .array .int
  | _ => .array .int
abbrev wsX00 : List Cond := u_ws RX0 TX0 6
theorem nmX0 : ∀ a, a < 6 → ∀ b, b < 6 → a ≠ b → (TX0 a).2.1 ≠ (TX0 b).2.1 := by decide +kernel
theorem tyX0_ok : ∀ k, k < 6 → parseFieldDescriptor (TX0 k).2.2.1 = some (tyX0 k) := by decide +kernel
abbrev cX0_init : ByteArray := prog_2_method_1_code
def yX0_init : MethodName := ⟨RX0, "<init>", "()V"⟩
abbrev cX0_readText : ByteArray := prog_2_method_2_code
def yX0_readText : MethodName := ⟨RX0, "readText", "(LBanksDealt$Tape;LBanksDealt$Plain;)Z"⟩
abbrev cX0_readLine : ByteArray := prog_2_method_3_code
def yX0_readLine : MethodName := ⟨RX0, "readLine", "(LBanksDealt$Tape;LBanksDealt$Plain;)Z"⟩
abbrev cX0_isBeginning : ByteArray := prog_2_method_4_code
def yX0_isBeginning : MethodName := ⟨RX0, "isBeginning", "(LBanksDealt$Tape;)Z"⟩
abbrev cX0_readOne : ByteArray := prog_2_method_5_code
def yX0_readOne : MethodName := ⟨RX0, "readOne", "(LBanksDealt$Tape;II)Z"⟩
abbrev cX0_readPlace : ByteArray := prog_2_method_6_code
def yX0_readPlace : MethodName := ⟨RX0, "readPlace", "(LBanksDealt$Tape;)Z"⟩
abbrev cX0_live : ByteArray := prog_2_method_7_code
def yX0_live : MethodName := ⟨RX0, "live", "(LBanksDealt$Plain;LBanksDealt$River;)I"⟩
abbrev cX0_liveLine : ByteArray := prog_2_method_8_code
def yX0_liveLine : MethodName := ⟨RX0, "liveLine", "(LBanksDealt$Plain;LBanksDealt$River;I)I"⟩
abbrev cX0_liveWork : ByteArray := prog_2_method_9_code
def yX0_liveWork : MethodName := ⟨RX0, "liveWork", "(LBanksDealt$Plain;III)I"⟩
abbrev cX0_liveRoll : ByteArray := prog_2_method_10_code
def yX0_liveRoll : MethodName := ⟨RX0, "liveRoll", "(LBanksDealt$Plain;I)I"⟩
abbrev cX0_liveSprings : ByteArray := prog_2_method_11_code
def yX0_liveSprings : MethodName := ⟨RX0, "liveSprings", "(LBanksDealt$Plain;LBanksDealt$River;I)I"⟩
def RX1 : String := "BanksDealt$Bygone"
def TX1 : u_T := fun k => match k with
  | 0 => ("BanksDealt$Bygone", "first", "[I", true)
  | 1 => ("BanksDealt$Bygone", "sureAt", "[I", true)
  | 2 => ("BanksDealt$Bygone", "rows", "I", false)
  | 3 => ("BanksDealt$Bygone", "low", "[I", true)
  | 4 => ("BanksDealt$Bygone", "top", "[I", true)
  | 5 => ("BanksDealt$Bygone", "ways", "[I", true)
  | _ => ("BanksDealt$Bygone", "reached", "[Z", true)
def tyX1 : Nat → FieldType := fun k => match k with
  | 0 => .array .int
  | 1 => .array .int
  | 2 => .int
  | 3 => .array .int
  | 4 => .array .int
  | 5 => .array .int
  | _ => .array .boolean
abbrev wsX10 : List Cond := u_ws RX1 TX1 7
theorem nmX1 : ∀ a, a < 7 → ∀ b, b < 7 → a ≠ b → (TX1 a).2.1 ≠ (TX1 b).2.1 := by decide +kernel
theorem tyX1_ok : ∀ k, k < 7 → parseFieldDescriptor (TX1 k).2.2.1 = some (tyX1 k) := by decide +kernel
abbrev cX1_init : ByteArray := prog_3_method_1_code
def yX1_init : MethodName := ⟨RX1, "<init>", "()V"⟩
abbrev cX1_findBeds : ByteArray := prog_3_method_2_code
def yX1_findBeds : MethodName := ⟨RX1, "findBeds", "(LBanksDealt$Tape;LBanksDealt$Plain;)I"⟩
abbrev cX1_readPairs : ByteArray := prog_3_method_3_code
def yX1_readPairs : MethodName := ⟨RX1, "readPairs", "(LBanksDealt$Tape;LBanksDealt$Plain;)Z"⟩
abbrev cX1_countBeds : ByteArray := prog_3_method_4_code
def yX1_countBeds : MethodName := ⟨RX1, "countBeds", "(LBanksDealt$Plain;)I"⟩
abbrev cX1_waysOn : ByteArray := prog_3_method_5_code
def yX1_waysOn : MethodName := ⟨RX1, "waysOn", "(LBanksDealt$Plain;II)I"⟩
abbrev cX1_keepFirst : ByteArray := prog_3_method_6_code
def yX1_keepFirst : MethodName := ⟨RX1, "keepFirst", "(LBanksDealt$Plain;)V"⟩
abbrev cX1_keepSure : ByteArray := prog_3_method_7_code
def yX1_keepSure : MethodName := ⟨RX1, "keepSure", "(LBanksDealt$Plain;)V"⟩
abbrev cX1_isReached : ByteArray := prog_3_method_8_code
def yX1_isReached : MethodName := ⟨RX1, "isReached", "(LBanksDealt$Plain;II)Z"⟩
def RX2 : String := "BanksDealt$Deed"
def TX2 : u_T := fun k => match k with
  | 0 => ("BanksDealt$Deed", "bytes", "[I", true)
  | _ => ("BanksDealt$Deed", "size", "I", false)
def tyX2 : Nat → FieldType := fun k => match k with
  | 0 => .array .int
  | _ => .int
abbrev wsX20 : List Cond := u_ws RX2 TX2 2
theorem nmX2 : ∀ a, a < 2 → ∀ b, b < 2 → a ≠ b → (TX2 a).2.1 ≠ (TX2 b).2.1 := by decide +kernel
theorem tyX2_ok : ∀ k, k < 2 → parseFieldDescriptor (TX2 k).2.2.1 = some (tyX2 k) := by decide +kernel
abbrev cX2_init : ByteArray := prog_4_method_1_code
def yX2_init : MethodName := ⟨RX2, "<init>", "()V"⟩
abbrev cX2_write : ByteArray := prog_4_method_2_code
def yX2_write : MethodName := ⟨RX2, "write", "(LBanksDealt$Plain;I)V"⟩
abbrev cX2_put : ByteArray := prog_4_method_3_code
def yX2_put : MethodName := ⟨RX2, "put", "(I)V"⟩
abbrev cX2_putText : ByteArray := prog_4_method_4_code
def yX2_putText : MethodName := ⟨RX2, "putText", "(Ljava/lang/String;)V"⟩
abbrev cX2_putName : ByteArray := prog_4_method_5_code
def yX2_putName : MethodName := ⟨RX2, "putName", "(J)V"⟩
def RX3 : String := "BanksDealt$History"
def TX3 : u_T := fun k => match k with
  | 0 => ("BanksDealt$History", "size", "I", false)
  | 1 => ("BanksDealt$History", "top", "I", false)
  | _ => ("BanksDealt$History", "ahead", "[LBanksDealt$Plain;", true)
def tyX3 : Nat → FieldType := fun k => match k with
  | 0 => .int
  | 1 => .int
  | _ => .array (.object "BanksDealt$Plain")
abbrev wsX30 : List Cond := u_ws RX3 TX3 3
theorem nmX3 : ∀ a, a < 3 → ∀ b, b < 3 → a ≠ b → (TX3 a).2.1 ≠ (TX3 b).2.1 := by decide +kernel
theorem tyX3_ok : ∀ k, k < 3 → parseFieldDescriptor (TX3 k).2.2.1 = some (tyX3 k) := by decide +kernel
abbrev cX3_init : ByteArray := prog_5_method_1_code
def yX3_init : MethodName := ⟨RX3, "<init>", "()V"⟩
abbrev cX3_forget : ByteArray := prog_5_method_2_code
def yX3_forget : MethodName := ⟨RX3, "forget", "()V"⟩
abbrev cX3_keep : ByteArray := prog_5_method_3_code
def yX3_keep : MethodName := ⟨RX3, "keep", "(LBanksDealt$Plain;)V"⟩
abbrev cX3_takeBack : ByteArray := prog_5_method_4_code
def yX3_takeBack : MethodName := ⟨RX3, "takeBack", "(LBanksDealt$Plain;)V"⟩
def RX4 : String := "BanksDealt$Image"
def TX4 : u_T := fun k => match k with
  | 0 => ("BanksDealt$Image", "plain", "LBanksDealt$Plain;", true)
  | 1 => ("BanksDealt$Image", "saying", "LBanksDealt$Sentence;", true)
  | _ => ("BanksDealt$Image", "kept", "Z", false)
def tyX4 : Nat → FieldType := fun k => match k with
  | 0 => .object "BanksDealt$Plain"
  | 1 => .object "BanksDealt$Sentence"
  | _ => .boolean
abbrev wsX40 : List Cond := u_ws RX4 TX4 3
theorem nmX4 : ∀ a, a < 3 → ∀ b, b < 3 → a ≠ b → (TX4 a).2.1 ≠ (TX4 b).2.1 := by decide +kernel
theorem tyX4_ok : ∀ k, k < 3 → parseFieldDescriptor (TX4 k).2.2.1 = some (tyX4 k) := by decide +kernel
abbrev cX4_init : ByteArray := prog_6_method_1_code
def yX4_init : MethodName := ⟨RX4, "<init>", "()V"⟩
def RX5 : String := "BanksDealt$Plain"
def TX5 : u_T := fun k => match k with
  | 0 => ("BanksDealt$Plain", "wide", "I", false)
  | 1 => ("BanksDealt$Plain", "high", "I", false)
  | 2 => ("BanksDealt$Plain", "source", "I", false)
  | 3 => ("BanksDealt$Plain", "ice", "I", false)
  | 4 => ("BanksDealt$Plain", "heights", "[I", true)
  | 5 => ("BanksDealt$Plain", "course", "[I", true)
  | 6 => ("BanksDealt$Plain", "fields", "I", false)
  | 7 => ("BanksDealt$Plain", "fieldCell", "[I", true)
  | 8 => ("BanksDealt$Plain", "worth", "[I", true)
  | 9 => ("BanksDealt$Plain", "changed", "[I", true)
  | 10 => ("BanksDealt$Plain", "fieldName", "[J", true)
  | 11 => ("BanksDealt$Plain", "mills", "I", false)
  | 12 => ("BanksDealt$Plain", "millCell", "[I", true)
  | 13 => ("BanksDealt$Plain", "rolled", "[I", true)
  | 14 => ("BanksDealt$Plain", "millName", "[J", true)
  | 15 => ("BanksDealt$Plain", "coin", "[I", true)
  | 16 => ("BanksDealt$Plain", "worked", "[I", true)
  | 17 => ("BanksDealt$Plain", "springs", "I", false)
  | _ => ("BanksDealt$Plain", "past", "[I", true)
def tyX5 : Nat → FieldType := fun k => match k with
  | 0 => .int
  | 1 => .int
  | 2 => .int
  | 3 => .int
  | 4 => .array .int
  | 5 => .array .int
  | 6 => .int
  | 7 => .array .int
  | 8 => .array .int
  | 9 => .array .int
  | 10 => .array .long
  | 11 => .int
  | 12 => .array .int
  | 13 => .array .int
  | 14 => .array .long
  | 15 => .array .int
  | 16 => .array .int
  | 17 => .int
  | _ => .array .int
abbrev wsX50 : List Cond := u_ws RX5 TX5 19
theorem nmX5 : ∀ a, a < 19 → ∀ b, b < 19 → a ≠ b → (TX5 a).2.1 ≠ (TX5 b).2.1 := by decide +kernel
theorem tyX5_ok : ∀ k, k < 19 → parseFieldDescriptor (TX5 k).2.2.1 = some (tyX5 k) := by decide +kernel
abbrev cX5_init : ByteArray := prog_7_method_1_code
def yX5_init : MethodName := ⟨RX5, "<init>", "()V"⟩
abbrev cX5_reset : ByteArray := prog_7_method_2_code
def yX5_reset : MethodName := ⟨RX5, "reset", "()V"⟩
abbrev cX5_copyOf : ByteArray := prog_7_method_3_code
def yX5_copyOf : MethodName := ⟨RX5, "copyOf", "(LBanksDealt$Plain;)V"⟩
abbrev cX5_cellAt : ByteArray := prog_7_method_4_code
def yX5_cellAt : MethodName := ⟨RX5, "cellAt", "(II)I"⟩
abbrev cX5_fieldsBy : ByteArray := prog_7_method_5_code
def yX5_fieldsBy : MethodName := ⟨RX5, "fieldsBy", "([II)I"⟩
abbrev cX5_worthBy : ByteArray := prog_7_method_6_code
def yX5_worthBy : MethodName := ⟨RX5, "worthBy", "([II)I"⟩
abbrev cX5_bedHeights : ByteArray := prog_7_method_7_code
def yX5_bedHeights : MethodName := ⟨RX5, "bedHeights", "()I"⟩
abbrev cX5_bends : ByteArray := prog_7_method_8_code
def yX5_bends : MethodName := ⟨RX5, "bends", "()I"⟩
abbrev cX5_changes : ByteArray := prog_7_method_9_code
def yX5_changes : MethodName := ⟨RX5, "changes", "()I"⟩
abbrev cX5_whyNoWork : ByteArray := prog_7_method_10_code
def yX5_whyNoWork : MethodName := ⟨RX5, "whyNoWork", "(III)I"⟩
abbrev cX5_work : ByteArray := prog_7_method_11_code
def yX5_work : MethodName := ⟨RX5, "work", "(III)V"⟩
abbrev cX5_whyNoRoll : ByteArray := prog_7_method_12_code
def yX5_whyNoRoll : MethodName := ⟨RX5, "whyNoRoll", "(II)I"⟩
abbrev cX5_rollTo : ByteArray := prog_7_method_13_code
def yX5_rollTo : MethodName := ⟨RX5, "rollTo", "(II)V"⟩
abbrev cX5_takeBed : ByteArray := prog_7_method_14_code
def yX5_takeBed : MethodName := ⟨RX5, "takeBed", "([I)I"⟩
abbrev cX5_earn : ByteArray := prog_7_method_15_code
def yX5_earn : MethodName := ⟨RX5, "earn", "()V"⟩
def RX6 : String := "BanksDealt$PlainReader"
def TX6 : u_T := fun k => match k with
  | 0 => ("BanksDealt$PlainReader", "wordsTold", "I", false)
  | 1 => ("BanksDealt$PlainReader", "pursesTold", "I", false)
  | 2 => ("BanksDealt$PlainReader", "landTold", "J", false)
  | _ => ("BanksDealt$PlainReader", "cellTold", "Z", false)
def tyX6 : Nat → FieldType := fun k => match k with
  | 0 => .int
  | 1 => .int
  | 2 => .long
  | _ => .boolean
abbrev wsX60 : List Cond := u_ws RX6 TX6 4
theorem nmX6 : ∀ a, a < 4 → ∀ b, b < 4 → a ≠ b → (TX6 a).2.1 ≠ (TX6 b).2.1 := by decide +kernel
theorem tyX6_ok : ∀ k, k < 4 → parseFieldDescriptor (TX6 k).2.2.1 = some (tyX6 k) := by decide +kernel
abbrev cX6_init : ByteArray := prog_8_method_1_code
def yX6_init : MethodName := ⟨RX6, "<init>", "()V"⟩
abbrev cX6_readText : ByteArray := prog_8_method_2_code
def yX6_readText : MethodName := ⟨RX6, "readText", "(LBanksDealt$Tape;LBanksDealt$Plain;)I"⟩
abbrev cX6_readLine : ByteArray := prog_8_method_3_code
def yX6_readLine : MethodName := ⟨RX6, "readLine", "(LBanksDealt$Tape;LBanksDealt$Plain;)Z"⟩
abbrev cX6_isFirst : ByteArray := prog_8_method_4_code
def yX6_isFirst : MethodName := ⟨RX6, "isFirst", "(I)Z"⟩
abbrev cX6_readSize : ByteArray := prog_8_method_5_code
def yX6_readSize : MethodName := ⟨RX6, "readSize", "(LBanksDealt$Tape;LBanksDealt$Plain;)Z"⟩
abbrev cX6_readSource : ByteArray := prog_8_method_6_code
def yX6_readSource : MethodName := ⟨RX6, "readSource", "(LBanksDealt$Tape;LBanksDealt$Plain;)Z"⟩
abbrev cX6_readIce : ByteArray := prog_8_method_7_code
def yX6_readIce : MethodName := ⟨RX6, "readIce", "(LBanksDealt$Tape;LBanksDealt$Plain;)Z"⟩
abbrev cX6_readCell : ByteArray := prog_8_method_8_code
def yX6_readCell : MethodName := ⟨RX6, "readCell", "(LBanksDealt$Tape;LBanksDealt$Plain;)I"⟩
abbrev cX6_readLand : ByteArray := prog_8_method_9_code
def yX6_readLand : MethodName := ⟨RX6, "readLand", "(LBanksDealt$Tape;LBanksDealt$Plain;)Z"⟩
abbrev cX6_readNewName : ByteArray := prog_8_method_10_code
def yX6_readNewName : MethodName := ⟨RX6, "readNewName", "(LBanksDealt$Tape;LBanksDealt$Plain;)Z"⟩
abbrev cX6_readField : ByteArray := prog_8_method_11_code
def yX6_readField : MethodName := ⟨RX6, "readField", "(LBanksDealt$Tape;LBanksDealt$Plain;)Z"⟩
abbrev cX6_isTaken : ByteArray := prog_8_method_12_code
def yX6_isTaken : MethodName := ⟨RX6, "isTaken", "(LBanksDealt$Plain;I)Z"⟩
abbrev cX6_readMill : ByteArray := prog_8_method_13_code
def yX6_readMill : MethodName := ⟨RX6, "readMill", "(LBanksDealt$Tape;LBanksDealt$Plain;)Z"⟩
abbrev cX6_readPurse : ByteArray := prog_8_method_14_code
def yX6_readPurse : MethodName := ⟨RX6, "readPurse", "(LBanksDealt$Tape;LBanksDealt$Plain;)Z"⟩
def RX7 : String := "BanksDealt$Plans"
def TX7 : u_T := fun k => match k with
  | 0 => ("BanksDealt$Plans", "temptedCells", "[I", true)
  | 1 => ("BanksDealt$Plans", "temptedSize", "I", false)
  | 2 => ("BanksDealt$Plans", "duelWorks", "[I", true)
  | 3 => ("BanksDealt$Plans", "fought", "Z", false)
  | 4 => ("BanksDealt$Plans", "pushedWorks", "[I", true)
  | 5 => ("BanksDealt$Plans", "pushedSize", "I", false)
  | 6 => ("BanksDealt$Plans", "river", "LBanksDealt$River;", true)
  | 7 => ("BanksDealt$Plans", "works", "[I", true)
  | 8 => ("BanksDealt$Plans", "size", "I", false)
  | 9 => ("BanksDealt$Plans", "picked", "[I", true)
  | 10 => ("BanksDealt$Plans", "goalField", "I", false)
  | 11 => ("BanksDealt$Plans", "goalSide", "I", false)
  | 12 => ("BanksDealt$Plans", "reply", "I", false)
  | _ => ("BanksDealt$Plans", "best", "I", false)
def tyX7 : Nat → FieldType := fun k => match k with
  | 0 => .array .int
  | 1 => .int
  | 2 => .array .int
  | 3 => .boolean
  | 4 => .array .int
  | 5 => .int
  | 6 => .object "BanksDealt$River"
  | 7 => .array .int
  | 8 => .int
  | 9 => .array .int
  | 10 => .int
  | 11 => .int
  | 12 => .int
  | _ => .int
abbrev wsX70 : List Cond := u_ws RX7 TX7 14
theorem nmX7 : ∀ a, a < 14 → ∀ b, b < 14 → a ≠ b → (TX7 a).2.1 ≠ (TX7 b).2.1 := by decide +kernel
theorem tyX7_ok : ∀ k, k < 14 → parseFieldDescriptor (TX7 k).2.2.1 = some (tyX7 k) := by decide +kernel
abbrev cX7_init : ByteArray := prog_9_method_1_code
def yX7_init : MethodName := ⟨RX7, "<init>", "()V"⟩
abbrev cX7_may : ByteArray := prog_9_method_2_code
def yX7_may : MethodName := ⟨RX7, "may", "(LBanksDealt$Plain;II)Z"⟩
abbrev cX7_apply : ByteArray := prog_9_method_3_code
def yX7_apply : MethodName := ⟨RX7, "apply", "(I)V"⟩
abbrev cX7_takeBack : ByteArray := prog_9_method_4_code
def yX7_takeBack : MethodName := ⟨RX7, "takeBack", "(I)V"⟩
abbrev cX7_listWorks : ByteArray := prog_9_method_5_code
def yX7_listWorks : MethodName := ⟨RX7, "listWorks", "(LBanksDealt$Plain;III)V"⟩
abbrev cX7_tempt : ByteArray := prog_9_method_6_code
def yX7_tempt : MethodName := ⟨RX7, "tempt", "(LBanksDealt$Plain;III)I"⟩
abbrev cX7_tempts : ByteArray := prog_9_method_7_code
def yX7_tempts : MethodName := ⟨RX7, "tempts", "(LBanksDealt$Plain;III)Z"⟩
abbrev cX7_fight : ByteArray := prog_9_method_8_code
def yX7_fight : MethodName := ⟨RX7, "fight", "(LBanksDealt$Plain;I)I"⟩
abbrev cX7_answered : ByteArray := prog_9_method_9_code
def yX7_answered : MethodName := ⟨RX7, "answered", "(LBanksDealt$Plain;II)I"⟩
abbrev cX7_lead : ByteArray := prog_9_method_10_code
def yX7_lead : MethodName := ⟨RX7, "lead", "(LBanksDealt$Plain;I)I"⟩
abbrev cX7_push : ByteArray := prog_9_method_11_code
def yX7_push : MethodName := ⟨RX7, "push", "(LBanksDealt$Plain;II)I"⟩
abbrev cX7_weigh : ByteArray := prog_9_method_12_code
def yX7_weigh : MethodName := ⟨RX7, "weigh", "(LBanksDealt$Plain;III)V"⟩
def RX8 : String := "BanksDealt$River"
def TX8 : u_T := fun k => match k with
  | 0 => ("BanksDealt$River", "ground", "[I", true)
  | 1 => ("BanksDealt$River", "course", "[I", true)
  | 2 => ("BanksDealt$River", "total", "I", false)
  | 3 => ("BanksDealt$River", "seed", "I", false)
  | 4 => ("BanksDealt$River", "rest", "[I", true)
  | _ => ("BanksDealt$River", "onward", "[I", true)
def tyX8 : Nat → FieldType := fun k => match k with
  | 0 => .array .int
  | 1 => .array .int
  | 2 => .int
  | 3 => .int
  | 4 => .array .int
  | _ => .array .int
abbrev wsX80 : List Cond := u_ws RX8 TX8 6
theorem nmX8 : ∀ a, a < 6 → ∀ b, b < 6 → a ≠ b → (TX8 a).2.1 ≠ (TX8 b).2.1 := by decide +kernel
theorem tyX8_ok : ∀ k, k < 6 → parseFieldDescriptor (TX8 k).2.2.1 = some (tyX8 k) := by decide +kernel
abbrev cX8_init : ByteArray := prog_10_method_1_code
def yX8_init : MethodName := ⟨RX8, "<init>", "()V"⟩
abbrev cX8_load : ByteArray := prog_10_method_2_code
def yX8_load : MethodName := ⟨RX8, "load", "(LBanksDealt$Plain;)V"⟩
abbrev cX8_runFreely : ByteArray := prog_10_method_3_code
def yX8_runFreely : MethodName := ⟨RX8, "runFreely", "(LBanksDealt$Plain;)V"⟩
abbrev cX8_takeLeast : ByteArray := prog_10_method_4_code
def yX8_takeLeast : MethodName := ⟨RX8, "takeLeast", "(LBanksDealt$Plain;)V"⟩
abbrev cX8_run : ByteArray := prog_10_method_5_code
def yX8_run : MethodName := ⟨RX8, "run", "(LBanksDealt$Plain;)V"⟩
abbrev cX8_leastBelow : ByteArray := prog_10_method_6_code
def yX8_leastBelow : MethodName := ⟨RX8, "leastBelow", "(LBanksDealt$Plain;I)I"⟩
abbrev cX8_floods : ByteArray := prog_10_method_7_code
def yX8_floods : MethodName := ⟨RX8, "floods", "(LBanksDealt$Plain;I)I"⟩
abbrev cX8_flood : ByteArray := prog_10_method_8_code
def yX8_flood : MethodName := ⟨RX8, "flood", "(LBanksDealt$Plain;)I"⟩
abbrev cX8_draw : ByteArray := prog_10_method_9_code
def yX8_draw : MethodName := ⟨RX8, "draw", "(I)I"⟩
def RX9 : String := "BanksDealt$Sentence"
def TX9 : u_T := fun k => match k with
  | 0 => ("BanksDealt$Sentence", "size", "I", false)
  | 1 => ("BanksDealt$Sentence", "ones", "I", false)
  | 2 => ("BanksDealt$Sentence", "op", "[I", true)
  | 3 => ("BanksDealt$Sentence", "arg", "[I", true)
  | 4 => ("BanksDealt$Sentence", "sign", "[I", true)
  | _ => ("BanksDealt$Sentence", "masks", "[I", true)
def tyX9 : Nat → FieldType := fun k => match k with
  | 0 => .int
  | 1 => .int
  | 2 => .array .int
  | 3 => .array .int
  | 4 => .array .int
  | _ => .array .int
abbrev wsX90 : List Cond := u_ws RX9 TX9 6
theorem nmX9 : ∀ a, a < 6 → ∀ b, b < 6 → a ≠ b → (TX9 a).2.1 ≠ (TX9 b).2.1 := by decide +kernel
theorem tyX9_ok : ∀ k, k < 6 → parseFieldDescriptor (TX9 k).2.2.1 = some (tyX9 k) := by decide +kernel
abbrev cX9_init : ByteArray := prog_11_method_1_code
def yX9_init : MethodName := ⟨RX9, "<init>", "()V"⟩
abbrev cX9_forget : ByteArray := prog_11_method_2_code
def yX9_forget : MethodName := ⟨RX9, "forget", "()V"⟩
abbrev cX9_copyOf : ByteArray := prog_11_method_3_code
def yX9_copyOf : MethodName := ⟨RX9, "copyOf", "(LBanksDealt$Sentence;)V"⟩
abbrev cX9_readText : ByteArray := prog_11_method_4_code
def yX9_readText : MethodName := ⟨RX9, "readText", "(LBanksDealt$Tape;LBanksDealt$Plain;)Z"⟩
abbrev cX9_put : ByteArray := prog_11_method_5_code
def yX9_put : MethodName := ⟨RX9, "put", "(III)Z"⟩
abbrev cX9_readCond : ByteArray := prog_11_method_6_code
def yX9_readCond : MethodName := ⟨RX9, "readCond", "(LBanksDealt$Tape;LBanksDealt$Plain;I)Z"⟩
abbrev cX9_readAll : ByteArray := prog_11_method_7_code
def yX9_readAll : MethodName := ⟨RX9, "readAll", "(LBanksDealt$Tape;LBanksDealt$Plain;I)Z"⟩
abbrev cX9_readOne : ByteArray := prog_11_method_8_code
def yX9_readOne : MethodName := ⟨RX9, "readOne", "(LBanksDealt$Tape;LBanksDealt$Plain;I)Z"⟩
abbrev cX9_isBeginning : ByteArray := prog_11_method_9_code
def yX9_isBeginning : MethodName := ⟨RX9, "isBeginning", "(LBanksDealt$Tape;)Z"⟩
abbrev cX9_readPlainOne : ByteArray := prog_11_method_10_code
def yX9_readPlainOne : MethodName := ⟨RX9, "readPlainOne", "(LBanksDealt$Tape;LBanksDealt$Plain;)Z"⟩
abbrev cX9_fieldsSaid : ByteArray := prog_11_method_11_code
def yX9_fieldsSaid : MethodName := ⟨RX9, "fieldsSaid", "(LBanksDealt$Plain;)I"⟩
abbrev cX9_fieldsOfOne : ByteArray := prog_11_method_12_code
def yX9_fieldsOfOne : MethodName := ⟨RX9, "fieldsOfOne", "(LBanksDealt$Plain;I)I"⟩
abbrev cX9_isSo : ByteArray := prog_11_method_13_code
def yX9_isSo : MethodName := ⟨RX9, "isSo", "(LBanksDealt$Plain;II)Z"⟩
abbrev cX9_compares : ByteArray := prog_11_method_14_code
def yX9_compares : MethodName := ⟨RX9, "compares", "(II)Z"⟩
def RX10 : String := "BanksDealt$Tape"
def TX10 : u_T := fun k => match k with
  | 0 => ("BanksDealt$Tape", "bytes", "[I", true)
  | 1 => ("BanksDealt$Tape", "size", "I", false)
  | 2 => ("BanksDealt$Tape", "kind", "I", false)
  | 3 => ("BanksDealt$Tape", "name", "J", false)
  | 4 => ("BanksDealt$Tape", "word", "I", false)
  | 5 => ("BanksDealt$Tape", "number", "I", false)
  | 6 => ("BanksDealt$Tape", "fault", "I", false)
  | 7 => ("BanksDealt$Tape", "place", "I", false)
  | 8 => ("BanksDealt$Tape", "words", "[J", true)
  | 9 => ("BanksDealt$Tape", "most", "I", false)
  | 10 => ("BanksDealt$Tape", "next", "I", false)
  | _ => ("BanksDealt$Tape", "at", "I", false)
def tyX10 : Nat → FieldType := fun k => match k with
  | 0 => .array .int
  | 1 => .int
  | 2 => .int
  | 3 => .long
  | 4 => .int
  | 5 => .int
  | 6 => .int
  | 7 => .int
  | 8 => .array .long
  | 9 => .int
  | 10 => .int
  | _ => .int
abbrev wsX100 : List Cond := u_ws RX10 TX10 12
theorem nmX10 : ∀ a, a < 12 → ∀ b, b < 12 → a ≠ b → (TX10 a).2.1 ≠ (TX10 b).2.1 := by decide +kernel
theorem tyX10_ok : ∀ k, k < 12 → parseFieldDescriptor (TX10 k).2.2.1 = some (tyX10 k) := by decide +kernel
abbrev cX10_init : ByteArray := prog_12_method_1_code
def yX10_init : MethodName := ⟨RX10, "<init>", "()V"⟩
abbrev cX10_add : ByteArray := prog_12_method_2_code
def yX10_add : MethodName := ⟨RX10, "add", "(I)V"⟩
abbrev cX10_begin : ByteArray := prog_12_method_3_code
def yX10_begin : MethodName := ⟨RX10, "begin", "(I)V"⟩
abbrev cX10_step : ByteArray := prog_12_method_4_code
def yX10_step : MethodName := ⟨RX10, "step", "()V"⟩
abbrev cX10_readWordOrNumber : ByteArray := prog_12_method_5_code
def yX10_readWordOrNumber : MethodName := ⟨RX10, "readWordOrNumber", "()V"⟩
abbrev cX10_isSmall : ByteArray := prog_12_method_6_code
def yX10_isSmall : MethodName := ⟨RX10, "isSmall", "(I)Z"⟩
abbrev cX10_isDigit : ByteArray := prog_12_method_7_code
def yX10_isDigit : MethodName := ⟨RX10, "isDigit", "(I)Z"⟩
abbrev cX10_isSign : ByteArray := prog_12_method_8_code
def yX10_isSign : MethodName := ⟨RX10, "isSign", "(I)Z"⟩
abbrev cX10_fails : ByteArray := prog_12_method_9_code
def yX10_fails : MethodName := ⟨RX10, "fails", "(I)Z"⟩
abbrev cX10_isWord : ByteArray := prog_12_method_10_code
def yX10_isWord : MethodName := ⟨RX10, "isWord", "(I)Z"⟩
abbrev cX10_isName : ByteArray := prog_12_method_11_code
def yX10_isName : MethodName := ⟨RX10, "isName", "()Z"⟩
abbrev cX10_sign : ByteArray := prog_12_method_12_code
def yX10_sign : MethodName := ⟨RX10, "sign", "(I)Z"⟩
abbrev cX10_between : ByteArray := prog_12_method_13_code
def yX10_between : MethodName := ⟨RX10, "between", "(II)Z"⟩
def RX11 : String := "BanksDealt"
def TX11 : u_T := fun k => match k with
  | 0 => ("BanksDealt", "tape", "LBanksDealt$Tape;", true)
  | 1 => ("BanksDealt", "now", "LBanksDealt$Plain;", false)
  | 2 => ("BanksDealt", "draft", "LBanksDealt$Plain;", false)
  | 3 => ("BanksDealt", "trial", "LBanksDealt$Plain;", true)
  | 4 => ("BanksDealt", "river", "LBanksDealt$River;", true)
  | 5 => ("BanksDealt", "plainReader", "LBanksDealt$PlainReader;", true)
  | 6 => ("BanksDealt", "book", "LBanksDealt$Book;", true)
  | 7 => ("BanksDealt", "saying", "LBanksDealt$Sentence;", false)
  | 8 => ("BanksDealt", "sayingDraft", "LBanksDealt$Sentence;", false)
  | 9 => ("BanksDealt", "plans", "LBanksDealt$Plans;", true)
  | 10 => ("BanksDealt", "bygone", "LBanksDealt$Bygone;", true)
  | 11 => ("BanksDealt", "deed", "LBanksDealt$Deed;", true)
  | 12 => ("BanksDealt", "history", "LBanksDealt$History;", true)
  | 13 => ("BanksDealt", "images", "[LBanksDealt$Image;", true)
  | 14 => ("BanksDealt", "told", "[I", true)
  | 15 => ("BanksDealt", "toldOnce", "Z", false)
  | _ => ("BanksDealt", "fault", "I", false)
def tyX11 : Nat → FieldType := fun k => match k with
  | 0 => .object "BanksDealt$Tape"
  | 1 => .object "BanksDealt$Plain"
  | 2 => .object "BanksDealt$Plain"
  | 3 => .object "BanksDealt$Plain"
  | 4 => .object "BanksDealt$River"
  | 5 => .object "BanksDealt$PlainReader"
  | 6 => .object "BanksDealt$Book"
  | 7 => .object "BanksDealt$Sentence"
  | 8 => .object "BanksDealt$Sentence"
  | 9 => .object "BanksDealt$Plans"
  | 10 => .object "BanksDealt$Bygone"
  | 11 => .object "BanksDealt$Deed"
  | 12 => .object "BanksDealt$History"
  | 13 => .array (.object "BanksDealt$Image")
  | 14 => .array .int
  | 15 => .boolean
  | _ => .int
abbrev wsX110 : List Cond := u_ws RX11 TX11 17
theorem nmX11 : ∀ a, a < 17 → ∀ b, b < 17 → a ≠ b → (TX11 a).2.1 ≠ (TX11 b).2.1 := by decide +kernel
theorem tyX11_ok : ∀ k, k < 17 → parseFieldDescriptor (TX11 k).2.2.1 = some (tyX11 k) := by decide +kernel
abbrev cX11_init : ByteArray := prog_1_method_1_code
def yX11_init : MethodName := ⟨RX11, "<init>", "()V"⟩
abbrev cX11_feed : ByteArray := prog_1_method_2_code
def yX11_feed : MethodName := ⟨RX11, "feed", "(IIIII)I"⟩
abbrev cX11_end : ByteArray := prog_1_method_3_code
def yX11_end : MethodName := ⟨RX11, "end", "(I)Z"⟩
abbrev cX11_plain : ByteArray := prog_1_method_4_code
def yX11_plain : MethodName := ⟨RX11, "plain", "()I"⟩
abbrev cX11_emptyTape : ByteArray := prog_1_method_5_code
def yX11_emptyTape : MethodName := ⟨RX11, "emptyTape", "()V"⟩
abbrev cX11_fault : ByteArray := prog_1_method_6_code
def yX11_fault : MethodName := ⟨RX11, "fault", "()I"⟩
abbrev cX11_field : ByteArray := prog_1_method_7_code
def yX11_field : MethodName := ⟨RX11, "field", "(II)I"⟩
abbrev cX11_isField : ByteArray := prog_1_method_8_code
def yX11_isField : MethodName := ⟨RX11, "isField", "(I)Z"⟩
abbrev cX11_mill : ByteArray := prog_1_method_9_code
def yX11_mill : MethodName := ⟨RX11, "mill", "(II)I"⟩
abbrev cX11_height : ByteArray := prog_1_method_10_code
def yX11_height : MethodName := ⟨RX11, "height", "(II)I"⟩
abbrev cX11_bank : ByteArray := prog_1_method_11_code
def yX11_bank : MethodName := ⟨RX11, "bank", "(II)I"⟩
abbrev cX11_bed : ByteArray := prog_1_method_12_code
def yX11_bed : MethodName := ⟨RX11, "bed", "(I)I"⟩
abbrev cX11_isRow : ByteArray := prog_1_method_13_code
def yX11_isRow : MethodName := ⟨RX11, "isRow", "(I)Z"⟩
abbrev cX11_side : ByteArray := prog_1_method_14_code
def yX11_side : MethodName := ⟨RX11, "side", "(II)I"⟩
abbrev cX11_isSide : ByteArray := prog_1_method_15_code
def yX11_isSide : MethodName := ⟨RX11, "isSide", "(I)Z"⟩
abbrev cX11_now : ByteArray := prog_1_method_16_code
def yX11_now : MethodName := ⟨RX11, "now", "(I)I"⟩
abbrev cX11_dig : ByteArray := prog_1_method_17_code
def yX11_dig : MethodName := ⟨RX11, "dig", "(III)I"⟩
abbrev cX11_lay : ByteArray := prog_1_method_18_code
def yX11_lay : MethodName := ⟨RX11, "lay", "(III)I"⟩
abbrev cX11_workBy : ByteArray := prog_1_method_19_code
def yX11_workBy : MethodName := ⟨RX11, "workBy", "(IIII)I"⟩
abbrev cX11_roll : ByteArray := prog_1_method_20_code
def yX11_roll : MethodName := ⟨RX11, "roll", "(III)I"⟩
abbrev cX11_spring : ByteArray := prog_1_method_21_code
def yX11_spring : MethodName := ⟨RX11, "spring", "(I)I"⟩
abbrev cX11_years : ByteArray := prog_1_method_22_code
def yX11_years : MethodName := ⟨RX11, "years", "(II)I"⟩
abbrev cX11_undo : ByteArray := prog_1_method_23_code
def yX11_undo : MethodName := ⟨RX11, "undo", "()I"⟩
abbrev cX11_would : ByteArray := prog_1_method_24_code
def yX11_would : MethodName := ⟨RX11, "would", "()I"⟩
abbrev cX11_wouldAt : ByteArray := prog_1_method_25_code
def yX11_wouldAt : MethodName := ⟨RX11, "wouldAt", "(I)I"⟩
abbrev cX11_wouldBe : ByteArray := prog_1_method_26_code
def yX11_wouldBe : MethodName := ⟨RX11, "wouldBe", "(I)I"⟩
abbrev cX11_tempted : ByteArray := prog_1_method_27_code
def yX11_tempted : MethodName := ⟨RX11, "tempted", "(III)I"⟩
abbrev cX11_temptedAt : ByteArray := prog_1_method_28_code
def yX11_temptedAt : MethodName := ⟨RX11, "temptedAt", "(I)I"⟩
abbrev cX11_duel : ByteArray := prog_1_method_29_code
def yX11_duel : MethodName := ⟨RX11, "duel", "(I)I"⟩
abbrev cX11_duelAt : ByteArray := prog_1_method_30_code
def yX11_duelAt : MethodName := ⟨RX11, "duelAt", "(I)I"⟩
abbrev cX11_pushed : ByteArray := prog_1_method_31_code
def yX11_pushed : MethodName := ⟨RX11, "pushed", "(II)I"⟩
abbrev cX11_pushedAt : ByteArray := prog_1_method_32_code
def yX11_pushedAt : MethodName := ⟨RX11, "pushedAt", "(I)I"⟩
abbrev cX11_ago : ByteArray := prog_1_method_33_code
def yX11_ago : MethodName := ⟨RX11, "ago", "(II)I"⟩
abbrev cX11_shares : ByteArray := prog_1_method_34_code
def yX11_shares : MethodName := ⟨RX11, "shares", "(IIII)I"⟩
abbrev cX11_areTrials : ByteArray := prog_1_method_35_code
def yX11_areTrials : MethodName := ⟨RX11, "areTrials", "(II)Z"⟩
abbrev cX11_ran : ByteArray := prog_1_method_36_code
def yX11_ran : MethodName := ⟨RX11, "ran", "()I"⟩
abbrev cX11_ranAt : ByteArray := prog_1_method_37_code
def yX11_ranAt : MethodName := ⟨RX11, "ranAt", "(I)I"⟩
abbrev cX11_sure : ByteArray := prog_1_method_38_code
def yX11_sure : MethodName := ⟨RX11, "sure", "(I)I"⟩
abbrev cX11_odds : ByteArray := prog_1_method_39_code
def yX11_odds : MethodName := ⟨RX11, "odds", "(IIIII)I"⟩
abbrev cX11_richest : ByteArray := prog_1_method_40_code
def yX11_richest : MethodName := ⟨RX11, "richest", "(I)I"⟩
abbrev cX11_deed : ByteArray := prog_1_method_41_code
def yX11_deed : MethodName := ⟨RX11, "deed", "(I)I"⟩
abbrev cX11_byteAt : ByteArray := prog_1_method_42_code
def yX11_byteAt : MethodName := ⟨RX11, "byteAt", "(I)I"⟩
abbrev cX11_book : ByteArray := prog_1_method_43_code
def yX11_book : MethodName := ⟨RX11, "book", "(I)I"⟩
abbrev cX11_told : ByteArray := prog_1_method_44_code
def yX11_told : MethodName := ⟨RX11, "told", "(I)I"⟩
abbrev cX11_sentence : ByteArray := prog_1_method_45_code
def yX11_sentence : MethodName := ⟨RX11, "sentence", "()I"⟩
abbrev cX11_said : ByteArray := prog_1_method_46_code
def yX11_said : MethodName := ⟨RX11, "said", "(I)I"⟩
abbrev cX11_image : ByteArray := prog_1_method_47_code
def yX11_image : MethodName := ⟨RX11, "image", "(I)Z"⟩
abbrev cX11_restore : ByteArray := prog_1_method_48_code
def yX11_restore : MethodName := ⟨RX11, "restore", "(I)Z"⟩
abbrev cX11_count : ByteArray := prog_1_method_49_code
def yX11_count : MethodName := ⟨RX11, "count", "(I)I"⟩
abbrev cX11_bankBy : ByteArray := prog_1_method_50_code
def yX11_bankBy : MethodName := ⟨RX11, "bankBy", "([II)I"⟩
abbrev cX11_indexOfName : ByteArray := prog_1_method_51_code
def yX11_indexOfName : MethodName := ⟨RX11, "indexOfName", "([JIJ)I"⟩
def RX12 : String := "BanksDealtModel"
def TX12 : u_T := fun k => match k with
  | 0 => ("BanksDealtModel", "thrown", "I", false)
  | 1 => ("BanksDealtModel", "tape", "[I", true)
  | 2 => ("BanksDealtModel", "taped", "I", false)
  | 3 => ("BanksDealtModel", "size", "I", false)
  | 4 => ("BanksDealtModel", "limit", "I", false)
  | 5 => ("BanksDealtModel", "to", "I", false)
  | 6 => ("BanksDealtModel", "from", "I", false)
  | 7 => ("BanksDealtModel", "kind", "I", false)
  | 8 => ("BanksDealtModel", "number", "I", false)
  | 9 => ("BanksDealtModel", "sign", "I", false)
  | 10 => ("BanksDealtModel", "fault", "I", false)
  | 11 => ("BanksDealtModel", "place", "I", false)
  | 12 => ("BanksDealtModel", "word", "J", false)
  | 13 => ("BanksDealtModel", "told", "I", false)
  | 14 => ("BanksDealtModel", "now", "[I", true)
  | 15 => ("BanksDealtModel", "read", "[I", true)
  | 16 => ("BanksDealtModel", "kept", "[I", true)
  | 17 => ("BanksDealtModel", "snaps", "[I", true)
  | 18 => ("BanksDealtModel", "aside", "[I", true)
  | 19 => ("BanksDealtModel", "name", "[J", true)
  | 20 => ("BanksDealtModel", "readName", "[J", true)
  | 21 => ("BanksDealtModel", "keptName", "[J", true)
  | 22 => ("BanksDealtModel", "isKept", "[Z", true)
  | 23 => ("BanksDealtModel", "onces", "[Z", true)
  | 24 => ("BanksDealtModel", "lands", "[Z", true)
  | 25 => ("BanksDealtModel", "snapMany", "I", false)
  | 26 => ("BanksDealtModel", "hasCells", "Z", false)
  | 27 => ("BanksDealtModel", "ice", "[I", true)
  | 28 => ("BanksDealtModel", "cost", "[I", true)
  | 29 => ("BanksDealtModel", "best", "[I", true)
  | 30 => ("BanksDealtModel", "seed", "I", false)
  | 31 => ("BanksDealtModel", "tempting", "[I", true)
  | 32 => ("BanksDealtModel", "tempted", "[I", true)
  | 33 => ("BanksDealtModel", "temptedMany", "I", false)
  | 34 => ("BanksDealtModel", "dueling", "[I", true)
  | 35 => ("BanksDealtModel", "hasDuel", "Z", false)
  | 36 => ("BanksDealtModel", "answer", "I", false)
  | 37 => ("BanksDealtModel", "pushing", "[I", true)
  | 38 => ("BanksDealtModel", "pushed", "[I", true)
  | 39 => ("BanksDealtModel", "pushedMany", "I", false)
  | 40 => ("BanksDealtModel", "pushMost", "I", false)
  | 41 => ("BanksDealtModel", "running", "[I", true)
  | 42 => ("BanksDealtModel", "ran", "[I", true)
  | 43 => ("BanksDealtModel", "sure", "[I", true)
  | 44 => ("BanksDealtModel", "ranRows", "I", false)
  | 45 => ("BanksDealtModel", "ranMany", "I", false)
  | 46 => ("BanksDealtModel", "ranWas", "[I", true)
  | 47 => ("BanksDealtModel", "sureWas", "[I", true)
  | 48 => ("BanksDealtModel", "text", "[I", true)
  | 49 => ("BanksDealtModel", "texts", "I", false)
  | 50 => ("BanksDealtModel", "line", "[I", true)
  | 51 => ("BanksDealtModel", "written", "[I", true)
  | 52 => ("BanksDealtModel", "lineMany", "I", false)
  | 53 => ("BanksDealtModel", "hasWritten", "Z", false)
  | 54 => ("BanksDealtModel", "node", "[I", true)
  | 55 => ("BanksDealtModel", "nodes", "I", false)
  | 56 => ("BanksDealtModel", "onesMany", "I", false)
  | 57 => ("BanksDealtModel", "within", "I", false)
  | _ => ("BanksDealtModel", "top", "I", false)
def tyX12 : Nat → FieldType := fun k => match k with
  | 0 => .int
  | 1 => .array .int
  | 2 => .int
  | 3 => .int
  | 4 => .int
  | 5 => .int
  | 6 => .int
  | 7 => .int
  | 8 => .int
  | 9 => .int
  | 10 => .int
  | 11 => .int
  | 12 => .long
  | 13 => .int
  | 14 => .array .int
  | 15 => .array .int
  | 16 => .array .int
  | 17 => .array .int
  | 18 => .array .int
  | 19 => .array .long
  | 20 => .array .long
  | 21 => .array .long
  | 22 => .array .boolean
  | 23 => .array .boolean
  | 24 => .array .boolean
  | 25 => .int
  | 26 => .boolean
  | 27 => .array .int
  | 28 => .array .int
  | 29 => .array .int
  | 30 => .int
  | 31 => .array .int
  | 32 => .array .int
  | 33 => .int
  | 34 => .array .int
  | 35 => .boolean
  | 36 => .int
  | 37 => .array .int
  | 38 => .array .int
  | 39 => .int
  | 40 => .int
  | 41 => .array .int
  | 42 => .array .int
  | 43 => .array .int
  | 44 => .int
  | 45 => .int
  | 46 => .array .int
  | 47 => .array .int
  | 48 => .array .int
  | 49 => .int
  | 50 => .array .int
  | 51 => .array .int
  | 52 => .int
  | 53 => .boolean
  | 54 => .array .int
  | 55 => .int
  | 56 => .int
  | 57 => .int
  | _ => .int
abbrev wsX120 : List Cond := u_ws RX12 TX12 59
theorem nmX12 : ∀ a, a < 59 → ∀ b, b < 59 → a ≠ b → (TX12 a).2.1 ≠ (TX12 b).2.1 := by decide +kernel
theorem tyX12_ok : ∀ k, k < 59 → parseFieldDescriptor (TX12 k).2.2.1 = some (tyX12 k) := by decide +kernel
abbrev cX12_thrown : ByteArray := prog_14_method_1_code
def yX12_thrown : MethodName := ⟨RX12, "thrown", "()I"⟩
abbrev cX12_refuse : ByteArray := prog_14_method_2_code
def yX12_refuse : MethodName := ⟨RX12, "refuse", "()I"⟩
abbrev cX12_come : ByteArray := prog_14_method_3_code
def yX12_come : MethodName := ⟨RX12, "come", "(I)V"⟩
abbrev cX12_feed : ByteArray := prog_14_method_4_code
def yX12_feed : MethodName := ⟨RX12, "feed", "(IIIII)I"⟩
abbrev cX12_end : ByteArray := prog_14_method_5_code
def yX12_end : MethodName := ⟨RX12, "end", "(I)Z"⟩
abbrev cX12_take : ByteArray := prog_14_method_6_code
def yX12_take : MethodName := ⟨RX12, "take", "()I"⟩
abbrev cX12_isIn : ByteArray := prog_14_method_7_code
def yX12_isIn : MethodName := ⟨RX12, "isIn", "(III)Z"⟩
abbrev cX12_has : ByteArray := prog_14_method_8_code
def yX12_has : MethodName := ⟨RX12, "has", "(II)Z"⟩
abbrev cX12_least : ByteArray := prog_14_method_10_code
def yX12_least : MethodName := ⟨RX12, "least", "(II)I"⟩
abbrev cX12_size : ByteArray := prog_14_method_11_code
def yX12_size : MethodName := ⟨RX12, "size", "(I)I"⟩
abbrev cX12_tapeAt : ByteArray := prog_14_method_13_code
def yX12_tapeAt : MethodName := ⟨RX12, "tapeAt", "(I)I"⟩
abbrev cX12_isDigit : ByteArray := prog_14_method_14_code
def yX12_isDigit : MethodName := ⟨RX12, "isDigit", "(I)Z"⟩
abbrev cX12_isLetter : ByteArray := prog_14_method_15_code
def yX12_isLetter : MethodName := ⟨RX12, "isLetter", "(I)Z"⟩
abbrev cX12_go : ByteArray := prog_14_method_16_code
def yX12_go : MethodName := ⟨RX12, "go", "()V"⟩
abbrev cX12_spelt : ByteArray := prog_14_method_17_code
def yX12_spelt : MethodName := ⟨RX12, "spelt", "(IIIIIII)J"⟩
abbrev cX12_wordOf : ByteArray := prog_14_method_18_code
def yX12_wordOf : MethodName := ⟨RX12, "wordOf", "(I)J"⟩
abbrev cX12_isWord : ByteArray := prog_14_method_19_code
def yX12_isWord : MethodName := ⟨RX12, "isWord", "(I)Z"⟩
abbrev cX12_isSign : ByteArray := prog_14_method_20_code
def yX12_isSign : MethodName := ⟨RX12, "isSign", "(I)Z"⟩
abbrev cX12_isName : ByteArray := prog_14_method_21_code
def yX12_isName : MethodName := ⟨RX12, "isName", "()Z"⟩
abbrev cX12_bad : ByteArray := prog_14_method_22_code
def yX12_bad : MethodName := ⟨RX12, "bad", "(I)Z"⟩
abbrev cX12_readNumber : ByteArray := prog_14_method_23_code
def yX12_readNumber : MethodName := ⟨RX12, "readNumber", "(II)Z"⟩
abbrev cX12_readEnd : ByteArray := prog_14_method_24_code
def yX12_readEnd : MethodName := ⟨RX12, "readEnd", "()Z"⟩
abbrev cX12_begin : ByteArray := prog_14_method_25_code
def yX12_begin : MethodName := ⟨RX12, "begin", "(I)V"⟩
abbrev cX12_init : ByteArray := prog_14_method_26_code
def yX12_init : MethodName := ⟨RX12, "<init>", "()V"⟩
abbrev cX12_startRead : ByteArray := prog_14_method_27_code
def yX12_startRead : MethodName := ⟨RX12, "startRead", "()V"⟩
abbrev cX12_startSo : ByteArray := prog_14_method_28_code
def yX12_startSo : MethodName := ⟨RX12, "startSo", "()V"⟩
abbrev cX12_findIn : ByteArray := prog_14_method_29_code
def yX12_findIn : MethodName := ⟨RX12, "findIn", "([JIIJ)I"⟩
abbrev cX12_readNew : ByteArray := prog_14_method_30_code
def yX12_readNew : MethodName := ⟨RX12, "readNew", "(I)Z"⟩
abbrev cX12_readFirst : ByteArray := prog_14_method_31_code
def yX12_readFirst : MethodName := ⟨RX12, "readFirst", "(II)Z"⟩
abbrev cX12_put : ByteArray := prog_14_method_32_code
def yX12_put : MethodName := ⟨RX12, "put", "(IZ)Z"⟩
abbrev cX12_isFresh : ByteArray := prog_14_method_33_code
def yX12_isFresh : MethodName := ⟨RX12, "isFresh", "(I)Z"⟩
abbrev cX12_readPlain : ByteArray := prog_14_method_34_code
def yX12_readPlain : MethodName := ⟨RX12, "readPlain", "()Z"⟩
abbrev cX12_readBetween : ByteArray := prog_14_method_35_code
def yX12_readBetween : MethodName := ⟨RX12, "readBetween", "(II)Z"⟩
abbrev cX12_readX : ByteArray := prog_14_method_36_code
def yX12_readX : MethodName := ⟨RX12, "readX", "()Z"⟩
abbrev cX12_isBelow : ByteArray := prog_14_method_37_code
def yX12_isBelow : MethodName := ⟨RX12, "isBelow", "(I)Z"⟩
abbrev cX12_readLand : ByteArray := prog_14_method_38_code
def yX12_readLand : MethodName := ⟨RX12, "readLand", "()Z"⟩
abbrev cX12_isField : ByteArray := prog_14_method_39_code
def yX12_isField : MethodName := ⟨RX12, "isField", "(II)Z"⟩
abbrev cX12_readField : ByteArray := prog_14_method_40_code
def yX12_readField : MethodName := ⟨RX12, "readField", "()Z"⟩
abbrev cX12_readMill : ByteArray := prog_14_method_41_code
def yX12_readMill : MethodName := ⟨RX12, "readMill", "()Z"⟩
abbrev cX12_isSideHere : ByteArray := prog_14_method_42_code
def yX12_isSideHere : MethodName := ⟨RX12, "isSideHere", "()Z"⟩
abbrev cX12_readPurse : ByteArray := prog_14_method_43_code
def yX12_readPurse : MethodName := ⟨RX12, "readPurse", "()Z"⟩
abbrev cX12_readLine : ByteArray := prog_14_method_44_code
def yX12_readLine : MethodName := ⟨RX12, "readLine", "()Z"⟩
abbrev cX12_plain : ByteArray := prog_14_method_45_code
def yX12_plain : MethodName := ⟨RX12, "plain", "()I"⟩
abbrev cX12_fault : ByteArray := prog_14_method_46_code
def yX12_fault : MethodName := ⟨RX12, "fault", "()I"⟩
abbrev cX12_melt : ByteArray := prog_14_method_47_code
def yX12_melt : MethodName := ⟨RX12, "melt", "()V"⟩
abbrev cX12_costAt : ByteArray := prog_14_method_48_code
def yX12_costAt : MethodName := ⟨RX12, "costAt", "(II)I"⟩
abbrev cX12_leastNext : ByteArray := prog_14_method_49_code
def yX12_leastNext : MethodName := ⟨RX12, "leastNext", "(II)I"⟩
abbrev cX12_layBest : ByteArray := prog_14_method_50_code
def yX12_layBest : MethodName := ⟨RX12, "layBest", "()I"⟩
abbrev cX12_sideOf : ByteArray := prog_14_method_51_code
def yX12_sideOf : MethodName := ⟨RX12, "sideOf", "(II)I"⟩
abbrev cX12_isCell : ByteArray := prog_14_method_52_code
def yX12_isCell : MethodName := ⟨RX12, "isCell", "(II)Z"⟩
abbrev cX12_isFieldAt : ByteArray := prog_14_method_53_code
def yX12_isFieldAt : MethodName := ⟨RX12, "isFieldAt", "(I)Z"⟩
abbrev cX12_isMill : ByteArray := prog_14_method_54_code
def yX12_isMill : MethodName := ⟨RX12, "isMill", "(I)Z"⟩
abbrev cX12_isRow : ByteArray := prog_14_method_55_code
def yX12_isRow : MethodName := ⟨RX12, "isRow", "(I)Z"⟩
abbrev cX12_bankOf : ByteArray := prog_14_method_56_code
def yX12_bankOf : MethodName := ⟨RX12, "bankOf", "(II)I"⟩
abbrev cX12_whose : ByteArray := prog_14_method_57_code
def yX12_whose : MethodName := ⟨RX12, "whose", "(I)I"⟩
abbrev cX12_whoseByBest : ByteArray := prog_14_method_58_code
def yX12_whoseByBest : MethodName := ⟨RX12, "whoseByBest", "(I)I"⟩
abbrev cX12_fieldsOf : ByteArray := prog_14_method_59_code
def yX12_fieldsOf : MethodName := ⟨RX12, "fieldsOf", "(I)I"⟩
abbrev cX12_worthOf : ByteArray := prog_14_method_60_code
def yX12_worthOf : MethodName := ⟨RX12, "worthOf", "(I)I"⟩
abbrev cX12_fieldsByBest : ByteArray := prog_14_method_61_code
def yX12_fieldsByBest : MethodName := ⟨RX12, "fieldsByBest", "(I)I"⟩
abbrev cX12_field : ByteArray := prog_14_method_62_code
def yX12_field : MethodName := ⟨RX12, "field", "(II)I"⟩
abbrev cX12_mill : ByteArray := prog_14_method_63_code
def yX12_mill : MethodName := ⟨RX12, "mill", "(II)I"⟩
abbrev cX12_height : ByteArray := prog_14_method_64_code
def yX12_height : MethodName := ⟨RX12, "height", "(II)I"⟩
abbrev cX12_bank : ByteArray := prog_14_method_65_code
def yX12_bank : MethodName := ⟨RX12, "bank", "(II)I"⟩
abbrev cX12_bed : ByteArray := prog_14_method_66_code
def yX12_bed : MethodName := ⟨RX12, "bed", "(I)I"⟩
abbrev cX12_side : ByteArray := prog_14_method_67_code
def yX12_side : MethodName := ⟨RX12, "side", "(II)I"⟩
abbrev cX12_now : ByteArray := prog_14_method_68_code
def yX12_now : MethodName := ⟨RX12, "now", "(I)I"⟩
abbrev cX12_snap : ByteArray := prog_14_method_69_code
def yX12_snap : MethodName := ⟨RX12, "snap", "()V"⟩
abbrev cX12_mayWork : ByteArray := prog_14_method_70_code
def yX12_mayWork : MethodName := ⟨RX12, "mayWork", "(IIII)Z"⟩
abbrev cX12_why : ByteArray := prog_14_method_71_code
def yX12_why : MethodName := ⟨RX12, "why", "(IIII)I"⟩
abbrev cX12_live : ByteArray := prog_14_method_72_code
def yX12_live : MethodName := ⟨RX12, "live", "(IIII)V"⟩
abbrev cX12_act : ByteArray := prog_14_method_73_code
def yX12_act : MethodName := ⟨RX12, "act", "(IIII)I"⟩
abbrev cX12_dig : ByteArray := prog_14_method_74_code
def yX12_dig : MethodName := ⟨RX12, "dig", "(III)I"⟩
abbrev cX12_lay : ByteArray := prog_14_method_75_code
def yX12_lay : MethodName := ⟨RX12, "lay", "(III)I"⟩
abbrev cX12_roll : ByteArray := prog_14_method_76_code
def yX12_roll : MethodName := ⟨RX12, "roll", "(III)I"⟩
abbrev cX12_undo : ByteArray := prog_14_method_77_code
def yX12_undo : MethodName := ⟨RX12, "undo", "()I"⟩
abbrev cX12_draw : ByteArray := prog_14_method_78_code
def yX12_draw : MethodName := ⟨RX12, "draw", "(I)I"⟩
abbrev cX12_keepPast : ByteArray := prog_14_method_79_code
def yX12_keepPast : MethodName := ⟨RX12, "keepPast", "()V"⟩
abbrev cX12_earns : ByteArray := prog_14_method_80_code
def yX12_earns : MethodName := ⟨RX12, "earns", "(I)V"⟩
abbrev cX12_oneSpring : ByteArray := prog_14_method_81_code
def yX12_oneSpring : MethodName := ⟨RX12, "oneSpring", "()I"⟩
abbrev cX12_passYears : ByteArray := prog_14_method_82_code
def yX12_passYears : MethodName := ⟨RX12, "passYears", "(II)I"⟩
abbrev cX12_spring : ByteArray := prog_14_method_83_code
def yX12_spring : MethodName := ⟨RX12, "spring", "(I)I"⟩
abbrev cX12_years : ByteArray := prog_14_method_84_code
def yX12_years : MethodName := ⟨RX12, "years", "(II)I"⟩
abbrev cX12_ago : ByteArray := prog_14_method_85_code
def yX12_ago : MethodName := ⟨RX12, "ago", "(II)I"⟩
abbrev cX12_would : ByteArray := prog_14_method_86_code
def yX12_would : MethodName := ⟨RX12, "would", "()I"⟩
abbrev cX12_wouldAt : ByteArray := prog_14_method_87_code
def yX12_wouldAt : MethodName := ⟨RX12, "wouldAt", "(I)I"⟩
abbrev cX12_wouldBe : ByteArray := prog_14_method_88_code
def yX12_wouldBe : MethodName := ⟨RX12, "wouldBe", "(I)I"⟩
abbrev cX12_tempts : ByteArray := prog_14_method_89_code
def yX12_tempts : MethodName := ⟨RX12, "tempts", "(IIIIII)Z"⟩
abbrev cX12_tempted : ByteArray := prog_14_method_90_code
def yX12_tempted : MethodName := ⟨RX12, "tempted", "(III)I"⟩
abbrev cX12_temptedAt : ByteArray := prog_14_method_91_code
def yX12_temptedAt : MethodName := ⟨RX12, "temptedAt", "(I)I"⟩
abbrev cX12_mayCode : ByteArray := prog_14_method_92_code
def yX12_mayCode : MethodName := ⟨RX12, "mayCode", "(II)Z"⟩
abbrev cX12_byCode : ByteArray := prog_14_method_93_code
def yX12_byCode : MethodName := ⟨RX12, "byCode", "(I)I"⟩
abbrev cX12_edge : ByteArray := prog_14_method_94_code
def yX12_edge : MethodName := ⟨RX12, "edge", "(I)I"⟩
abbrev cX12_answered : ByteArray := prog_14_method_95_code
def yX12_answered : MethodName := ⟨RX12, "answered", "(I)I"⟩
abbrev cX12_duel : ByteArray := prog_14_method_96_code
def yX12_duel : MethodName := ⟨RX12, "duel", "(I)I"⟩
abbrev cX12_duelAt : ByteArray := prog_14_method_97_code
def yX12_duelAt : MethodName := ⟨RX12, "duelAt", "(I)I"⟩
abbrev cX12_pushFrom : ByteArray := prog_14_method_98_code
def yX12_pushFrom : MethodName := ⟨RX12, "pushFrom", "(IIII)V"⟩
abbrev cX12_pushed : ByteArray := prog_14_method_99_code
def yX12_pushed : MethodName := ⟨RX12, "pushed", "(II)I"⟩
abbrev cX12_pushedAt : ByteArray := prog_14_method_100_code
def yX12_pushedAt : MethodName := ⟨RX12, "pushedAt", "(I)I"⟩
abbrev cX12_layAside : ByteArray := prog_14_method_101_code
def yX12_layAside : MethodName := ⟨RX12, "layAside", "()V"⟩
abbrev cX12_takeBack : ByteArray := prog_14_method_102_code
def yX12_takeBack : MethodName := ⟨RX12, "takeBack", "()V"⟩
abbrev cX12_shares : ByteArray := prog_14_method_103_code
def yX12_shares : MethodName := ⟨RX12, "shares", "(IIII)I"⟩
abbrev cX12_odds : ByteArray := prog_14_method_104_code
def yX12_odds : MethodName := ⟨RX12, "odds", "(IIIII)I"⟩
abbrev cX12_rowFits : ByteArray := prog_14_method_105_code
def yX12_rowFits : MethodName := ⟨RX12, "rowFits", "(III)Z"⟩
abbrev cX12_runFrom : ByteArray := prog_14_method_106_code
def yX12_runFrom : MethodName := ⟨RX12, "runFrom", "(II)V"⟩
abbrev cX12_ran : ByteArray := prog_14_method_107_code
def yX12_ran : MethodName := ⟨RX12, "ran", "()I"⟩
abbrev cX12_ranAt : ByteArray := prog_14_method_108_code
def yX12_ranAt : MethodName := ⟨RX12, "ranAt", "(I)I"⟩
abbrev cX12_sure : ByteArray := prog_14_method_109_code
def yX12_sure : MethodName := ⟨RX12, "sure", "(I)I"⟩
abbrev cX12_richest : ByteArray := prog_14_method_110_code
def yX12_richest : MethodName := ⟨RX12, "richest", "(I)I"⟩
abbrev cX12_write : ByteArray := prog_14_method_111_code
def yX12_write : MethodName := ⟨RX12, "write", "(I)V"⟩
abbrev cX12_writeWord : ByteArray := prog_14_method_112_code
def yX12_writeWord : MethodName := ⟨RX12, "writeWord", "(J)V"⟩
abbrev cX12_writeNext : ByteArray := prog_14_method_113_code
def yX12_writeNext : MethodName := ⟨RX12, "writeNext", "(J)V"⟩
abbrev cX12_deed : ByteArray := prog_14_method_114_code
def yX12_deed : MethodName := ⟨RX12, "deed", "(I)I"⟩
abbrev cX12_byteAt : ByteArray := prog_14_method_115_code
def yX12_byteAt : MethodName := ⟨RX12, "byteAt", "(I)I"⟩
abbrev cX12_keep : ByteArray := prog_14_method_116_code
def yX12_keep : MethodName := ⟨RX12, "keep", "(IZ)Z"⟩
abbrev cX12_readCell : ByteArray := prog_14_method_117_code
def yX12_readCell : MethodName := ⟨RX12, "readCell", "(I)Z"⟩
abbrev cX12_readSide : ByteArray := prog_14_method_118_code
def yX12_readSide : MethodName := ⟨RX12, "readSide", "(I)Z"⟩
abbrev cX12_readMillRolls : ByteArray := prog_14_method_119_code
def yX12_readMillRolls : MethodName := ⟨RX12, "readMillRolls", "(I)Z"⟩
abbrev cX12_readSprings : ByteArray := prog_14_method_120_code
def yX12_readSprings : MethodName := ⟨RX12, "readSprings", "(I)Z"⟩
abbrev cX12_readBookLine : ByteArray := prog_14_method_121_code
def yX12_readBookLine : MethodName := ⟨RX12, "readBookLine", "()Z"⟩
abbrev cX12_goBy : ByteArray := prog_14_method_122_code
def yX12_goBy : MethodName := ⟨RX12, "goBy", "(I)I"⟩
abbrev cX12_book : ByteArray := prog_14_method_123_code
def yX12_book : MethodName := ⟨RX12, "book", "(I)I"⟩
abbrev cX12_stay : ByteArray := prog_14_method_124_code
def yX12_stay : MethodName := ⟨RX12, "stay", "(Z)V"⟩
abbrev cX12_told : ByteArray := prog_14_method_125_code
def yX12_told : MethodName := ⟨RX12, "told", "(I)I"⟩
abbrev cX12_readFieldName : ByteArray := prog_14_method_126_code
def yX12_readFieldName : MethodName := ⟨RX12, "readFieldName", "()Z"⟩
abbrev cX12_isNear : ByteArray := prog_14_method_127_code
def yX12_isNear : MethodName := ⟨RX12, "isNear", "(I)Z"⟩
abbrev cX12_saysOne : ByteArray := prog_14_method_128_code
def yX12_saysOne : MethodName := ⟨RX12, "saysOne", "(IIII)I"⟩
abbrev cX12_readOr : ByteArray := prog_14_method_129_code
def yX12_readOr : MethodName := ⟨RX12, "readOr", "()Z"⟩
abbrev cX12_readAnd : ByteArray := prog_14_method_130_code
def yX12_readAnd : MethodName := ⟨RX12, "readAnd", "()Z"⟩
abbrev cX12_readSaid : ByteArray := prog_14_method_131_code
def yX12_readSaid : MethodName := ⟨RX12, "readSaid", "()Z"⟩
abbrev cX12_readNot : ByteArray := prog_14_method_132_code
def yX12_readNot : MethodName := ⟨RX12, "readNot", "()Z"⟩
abbrev cX12_readBracket : ByteArray := prog_14_method_133_code
def yX12_readBracket : MethodName := ⟨RX12, "readBracket", "()Z"⟩
abbrev cX12_readOf : ByteArray := prog_14_method_134_code
def yX12_readOf : MethodName := ⟨RX12, "readOf", "(I)Z"⟩
abbrev cX12_readCompare : ByteArray := prog_14_method_135_code
def yX12_readCompare : MethodName := ⟨RX12, "readCompare", "(I)Z"⟩
abbrev cX12_sentence : ByteArray := prog_14_method_136_code
def yX12_sentence : MethodName := ⟨RX12, "sentence", "()I"⟩
abbrev cX12_holds : ByteArray := prog_14_method_137_code
def yX12_holds : MethodName := ⟨RX12, "holds", "(II)Z"⟩
abbrev cX12_said : ByteArray := prog_14_method_138_code
def yX12_said : MethodName := ⟨RX12, "said", "(I)I"⟩
abbrev cX12_image : ByteArray := prog_14_method_139_code
def yX12_image : MethodName := ⟨RX12, "image", "(I)Z"⟩
abbrev cX12_restore : ByteArray := prog_14_method_140_code
def yX12_restore : MethodName := ⟨RX12, "restore", "(I)Z"⟩
abbrev cX12_count : ByteArray := prog_14_method_141_code
def yX12_count : MethodName := ⟨RX12, "count", "(I)I"⟩
def RJx145de : String := "java/io/Serializable"
def TJx145de : u_T := fun k => match k with
  | _ => ("", "", "", false)
def tyJx145de : Nat → FieldType := fun k => match k with
  | _ => .int
abbrev wsJx145de0 : List Cond := u_ws RJx145de TJx145de 0
theorem nmJx145de : ∀ a, a < 0 → ∀ b, b < 0 → a ≠ b → (TJx145de a).2.1 ≠ (TJx145de b).2.1 := by decide +kernel
theorem tyJx145de_ok : ∀ k, k < 0 → parseFieldDescriptor (TJx145de k).2.2.1 = some (tyJx145de k) := by decide +kernel
def RJx9f9b0 : String := "java/lang/CharSequence"
def TJx9f9b0 : u_T := fun k => match k with
  | _ => ("", "", "", false)
def tyJx9f9b0 : Nat → FieldType := fun k => match k with
  | _ => .int
abbrev wsJx9f9b00 : List Cond := u_ws RJx9f9b0 TJx9f9b0 0
theorem nmJx9f9b0 : ∀ a, a < 0 → ∀ b, b < 0 → a ≠ b → (TJx9f9b0 a).2.1 ≠ (TJx9f9b0 b).2.1 := by decide +kernel
theorem tyJx9f9b0_ok : ∀ k, k < 0 → parseFieldDescriptor (TJx9f9b0 k).2.2.1 = some (tyJx9f9b0 k) := by decide +kernel
def RJxb160c : String := "java/lang/Comparable"
def TJxb160c : u_T := fun k => match k with
  | _ => ("", "", "", false)
def tyJxb160c : Nat → FieldType := fun k => match k with
  | _ => .int
abbrev wsJxb160c0 : List Cond := u_ws RJxb160c TJxb160c 0
theorem nmJxb160c : ∀ a, a < 0 → ∀ b, b < 0 → a ≠ b → (TJxb160c a).2.1 ≠ (TJxb160c b).2.1 := by decide +kernel
theorem tyJxb160c_ok : ∀ k, k < 0 → parseFieldDescriptor (TJxb160c k).2.2.1 = some (tyJxb160c k) := by decide +kernel
def RJ6 : String := "java/lang/Integer"
def TJ6 : u_T := fun k => match k with
  | _ => ("", "", "", false)
def tyJ6 : Nat → FieldType := fun k => match k with
  | _ => .int
abbrev wsJ60 : List Cond := u_ws RJ6 TJ6 0
theorem nmJ6 : ∀ a, a < 0 → ∀ b, b < 0 → a ≠ b → (TJ6 a).2.1 ≠ (TJ6 b).2.1 := by decide +kernel
theorem tyJ6_ok : ∀ k, k < 0 → parseFieldDescriptor (TJ6 k).2.2.1 = some (tyJ6 k) := by decide +kernel
abbrev cJ6_bitCount_0f7a4 : ByteArray := prog_19_method_49_code
def yJ6_bitCount_0f7a4 : MethodName := ⟨RJ6, "bitCount", "(I)I"⟩
def RJ9 : String := "java/lang/Math"
def TJ9 : u_T := fun k => match k with
  | _ => ("", "", "", false)
def tyJ9 : Nat → FieldType := fun k => match k with
  | _ => .int
abbrev wsJ90 : List Cond := u_ws RJ9 TJ9 0
theorem nmJ9 : ∀ a, a < 0 → ∀ b, b < 0 → a ≠ b → (TJ9 a).2.1 ≠ (TJ9 b).2.1 := by decide +kernel
theorem tyJ9_ok : ∀ k, k < 0 → parseFieldDescriptor (TJ9 k).2.2.1 = some (tyJ9 k) := by decide +kernel
abbrev cJ9_abs_0f7a4 : ByteArray := prog_20_method_59_code
def yJ9_abs_0f7a4 : MethodName := ⟨RJ9, "abs", "(I)I"⟩
abbrev cJ9_max_7cf53 : ByteArray := prog_20_method_65_code
def yJ9_max_7cf53 : MethodName := ⟨RJ9, "max", "(II)I"⟩
abbrev cJ9_min_7cf53 : ByteArray := prog_20_method_69_code
def yJ9_min_7cf53 : MethodName := ⟨RJ9, "min", "(II)I"⟩
def RJ0 : String := "java/lang/String"
def TJ0 : u_T := fun k => match k with
  | _ => ("", "", "", false)
def tyJ0 : Nat → FieldType := fun k => match k with
  | _ => .int
abbrev wsJ00 : List Cond := u_ws RJ0 TJ0 0
theorem nmJ0 : ∀ a, a < 0 → ∀ b, b < 0 → a ≠ b → (TJ0 a).2.1 ≠ (TJ0 b).2.1 := by decide +kernel
theorem tyJ0_ok : ∀ k, k < 0 → parseFieldDescriptor (TJ0 k).2.2.1 = some (tyJ0 k) := by decide +kernel
abbrev cJ0_length_8abf5 : ByteArray := prog_22_method_54_code
def yJ0_length_8abf5 : MethodName := ⟨RJ0, "length", "()I"⟩
abbrev cJ0_charAt_5068e : ByteArray := prog_22_method_56_code
def yJ0_charAt_5068e : MethodName := ⟨RJ0, "charAt", "(I)C"⟩
abbrev cJ0_coder_7d493 : ByteArray := prog_22_method_152_code
def yJ0_coder_7d493 : MethodName := ⟨RJ0, "coder", "()B"⟩
abbrev cJ0_isLatin1_aae02 : ByteArray := prog_22_method_154_code
def yJ0_isLatin1_aae02 : MethodName := ⟨RJ0, "isLatin1", "()Z"⟩
abbrev cJ0_checkIndex_df160 : ByteArray := prog_22_method_155_code
def yJ0_checkIndex_df160 : MethodName := ⟨RJ0, "checkIndex", "(II)V"⟩
def RJ1 : String := "java/lang/StringLatin1"
def TJ1 : u_T := fun k => match k with
  | _ => ("", "", "", false)
def tyJ1 : Nat → FieldType := fun k => match k with
  | _ => .int
abbrev wsJ10 : List Cond := u_ws RJ1 TJ1 0
theorem nmJ1 : ∀ a, a < 0 → ∀ b, b < 0 → a ≠ b → (TJ1 a).2.1 ≠ (TJ1 b).2.1 := by decide +kernel
theorem tyJ1_ok : ∀ k, k < 0 → parseFieldDescriptor (TJ1 k).2.2.1 = some (tyJ1 k) := by decide +kernel
abbrev cJ1_charAt_3b067 : ByteArray := prog_23_method_2_code
def yJ1_charAt_3b067 : MethodName := ⟨RJ1, "charAt", "([BI)C"⟩
def RJ2 : String := "java/lang/StringUTF16"
def TJ2 : u_T := fun k => match k with
  | _ => ("", "", "", false)
def tyJ2 : Nat → FieldType := fun k => match k with
  | _ => .int
abbrev wsJ20 : List Cond := u_ws RJ2 TJ2 0
theorem nmJ2 : ∀ a, a < 0 → ∀ b, b < 0 → a ≠ b → (TJ2 a).2.1 ≠ (TJ2 b).2.1 := by decide +kernel
theorem tyJ2_ok : ∀ k, k < 0 → parseFieldDescriptor (TJ2 k).2.2.1 = some (tyJ2 k) := by decide +kernel
abbrev cJ2_getChar_3b067 : ByteArray := prog_24_method_5_code
def yJ2_getChar_3b067 : MethodName := ⟨RJ2, "getChar", "([BI)C"⟩
abbrev cJ2_length_9d52b : ByteArray := prog_24_method_6_code
def yJ2_length_9d52b : MethodName := ⟨RJ2, "length", "([B)I"⟩
abbrev cJ2_charAt_3b067 : ByteArray := prog_24_method_83_code
def yJ2_charAt_3b067 : MethodName := ⟨RJ2, "charAt", "([BI)C"⟩
abbrev cJ2_checkIndex_2214a : ByteArray := prog_24_method_91_code
def yJ2_checkIndex_2214a : MethodName := ⟨RJ2, "checkIndex", "(I[B)V"⟩
def RJ10 : String := "java/lang/System"
def TJ10 : u_T := fun k => match k with
  | _ => ("", "", "", false)
def tyJ10 : Nat → FieldType := fun k => match k with
  | _ => .int
abbrev wsJ100 : List Cond := u_ws RJ10 TJ10 0
theorem nmJ10 : ∀ a, a < 0 → ∀ b, b < 0 → a ≠ b → (TJ10 a).2.1 ≠ (TJ10 b).2.1 := by decide +kernel
theorem tyJ10_ok : ∀ k, k < 0 → parseFieldDescriptor (TJ10 k).2.2.1 = some (tyJ10 k) := by decide +kernel
def RJxfd54e : String := "java/lang/constant/Constable"
def TJxfd54e : u_T := fun k => match k with
  | _ => ("", "", "", false)
def tyJxfd54e : Nat → FieldType := fun k => match k with
  | _ => .int
abbrev wsJxfd54e0 : List Cond := u_ws RJxfd54e TJxfd54e 0
theorem nmJxfd54e : ∀ a, a < 0 → ∀ b, b < 0 → a ≠ b → (TJxfd54e a).2.1 ≠ (TJxfd54e b).2.1 := by decide +kernel
theorem tyJxfd54e_ok : ∀ k, k < 0 → parseFieldDescriptor (TJxfd54e k).2.2.1 = some (tyJxfd54e k) := by decide +kernel
def RJx3cf43 : String := "java/lang/constant/ConstantDesc"
def TJx3cf43 : u_T := fun k => match k with
  | _ => ("", "", "", false)
def tyJx3cf43 : Nat → FieldType := fun k => match k with
  | _ => .int
abbrev wsJx3cf430 : List Cond := u_ws RJx3cf43 TJx3cf43 0
theorem nmJx3cf43 : ∀ a, a < 0 → ∀ b, b < 0 → a ≠ b → (TJx3cf43 a).2.1 ≠ (TJx3cf43 b).2.1 := by decide +kernel
theorem tyJx3cf43_ok : ∀ k, k < 0 → parseFieldDescriptor (TJx3cf43 k).2.2.1 = some (tyJx3cf43 k) := by decide +kernel
def RJ3 : String := "jdk/internal/util/Preconditions"
def TJ3 : u_T := fun k => match k with
  | _ => ("", "", "", false)
def tyJ3 : Nat → FieldType := fun k => match k with
  | _ => .int
abbrev wsJ30 : List Cond := u_ws RJ3 TJ3 0
theorem nmJ3 : ∀ a, a < 0 → ∀ b, b < 0 → a ≠ b → (TJ3 a).2.1 ≠ (TJ3 b).2.1 := by decide +kernel
theorem tyJ3_ok : ∀ k, k < 0 → parseFieldDescriptor (TJ3 k).2.2.1 = some (tyJ3 k) := by decide +kernel
abbrev cJ3_checkIndex_8e157 : ByteArray := prog_30_method_11_code
def yJ3_checkIndex_8e157 : MethodName := ⟨RJ3, "checkIndex", "(IILjava/util/function/BiFunction;)I"⟩
def RL : String := "BanksDealtLaw"
abbrev cL_field : ByteArray := method_3_code
def yL_field : MethodName := ⟨RL, "field", "(LBanksDealt;II[J)I"⟩
abbrev cL_duel : ByteArray := method_4_code
def yL_duel : MethodName := ⟨RL, "duel", "(LBanksDealt;I[J)I"⟩
abbrev cL_law : ByteArray := code
def yL_law : MethodName := ⟨RL, "law", "([I)Z"⟩
abbrev vwCl : List vw_C := [(RX0, TX0, 6), (RX1, TX1, 7), (RX2, TX2, 2), (RX3, TX3, 3), (RX4, TX4, 3), (RX5, TX5, 19), (RX6, TX6, 4), (RX7, TX7, 14), (RX8, TX8, 6), (RX9, TX9, 6), (RX10, TX10, 12), (RX11, TX11, 17), (RX12, TX12, 59)]
end
section
/-! The words of this proof (bk_): a machine over numbers. A value is an int or a long, both as Int, or a cell (kind, which one).
    The memory: kind, which one, place. wp: what must hold at a label so that the method ends with Q. -/
abbrev bk_V : Type := Int ⊕ Int ⊕ (Nat × Nat)
abbrev bk_M : Type := Nat → Nat → Int → Int
abbrev bk_P : Type := List (Nat × List Instr)
abbrev bk_Q : Type := Nat → Int → bk_M → Prop
abbrev bk_T : Type := Nat → Nat → List bk_V → List bk_V → bk_M → Prop
abbrev bk_K : Type := Nat → List bk_V → List bk_V → bk_M → Prop
abbrev bk_Ca : Type := Nat → Nat → List bk_V → bk_M → bk_Q → Prop
abbrev bk_i (z : Int) : bk_V := .inl z
abbrev bk_l (z : Int) : bk_V := .inr (.inl z)
abbrev bk_c (k i : Nat) : bk_V := .inr (.inr (k, i))
abbrev bk_x : bk_V := .inr (.inr (15, 0))
def bk_r32 (z : Int) : Prop := -2147483648 ≤ z ∧ z ≤ 2147483647
def bk_r64 (z : Int) : Prop := -9223372036854775808 ≤ z ∧ z ≤ 9223372036854775807
def bk_w32 (z : Int) : Int := z.bmod 4294967296
def bk_ushr (x y : Int) : Int := if y = 0 then x else (x % 4294967296) / 2 ^ y.toNat
def bk_and (x y : Int) : Int := (BitVec.ofInt 32 x &&& BitVec.ofInt 32 y).toInt
def bk_or (x y : Int) : Int := (BitVec.ofInt 32 x ||| BitVec.ofInt 32 y).toInt
def bk_xor (x y : Int) : Int := (BitVec.ofInt 32 x ^^^ BitVec.ofInt 32 y).toInt
def bk_andL (x y : Int) : Int := (BitVec.ofInt 64 x &&& BitVec.ofInt 64 y).toInt
def bk_orL (x y : Int) : Int := (BitVec.ofInt 64 x ||| BitVec.ofInt 64 y).toInt
def bk_lcmp (x y : Int) : Int := if x < y then -1 else if x = y then 0 else 1
def bk_up (M : bk_M) (k i : Nat) (j v : Int) : bk_M := fun k' i' j' => if k' = k ∧ i' = i ∧ j' = j then v else M k' i' j'
def bk_cpy (M : bk_M) (sk si : Nat) (sp : Int) (dk di : Nat) (dp n : Int) : bk_M := fun k i j => if k = dk ∧ i = di ∧ dp ≤ j ∧ j < dp + n then M sk si (sp + (j - dp)) else M k i j
def bk_cmp (c : Jvm.ClassFile.Cond) (x y : Int) : Prop := match c with
  | .eq => x = y
  | .ne => x ≠ y
  | .lt => x < y
  | .ge => y ≤ x
  | .gt => y < x
  | .le => x ≤ y
/-- how long an array of a kind is -/
def bk_szs : Nat := 9489531743850434230096306897657502090308656030164759005406452039327660474276510918656599885002508386786954012502521538701964333973176285980539318227106563037177126522380280397682888963888051698359252726067506770194484949958870955326071104036045440247956242432
def bk_sz (k : Nat) : Int := Int.ofNat ((bk_szs >>> (10 * k)) % 1024)
/-- 0 ints, 1 longs, 2 booleans, 3 cells -/
def bk_sos : Nat := 5986310706737834590178239846750809359329052810280960
def bk_so (k : Nat) : Nat := (bk_sos >>> (2 * k)) % 4
/-- an array of cells: the kind of what it holds, and the first of them -/
def bk_aa (k : Nat) : Nat × Nat := match k with
  | 27 => (5, 3)
  | _ => (4, 0)
def bk_nth : Nat → List bk_V → Option bk_V
  | _, [] => none
  | 0, v :: _ => some v
  | n + 1, _ :: l => bk_nth n l
/-- a value into a local: a long there before it, or over it, is gone -/
def bk_set : Nat → bk_V → List bk_V → List bk_V
  | _, _, [] => []
  | 0, v, _ :: l => match v, l with
    | .inr (.inl _), _ :: l => v :: bk_x :: l
    | _, l => v :: l
  | 1, v, w :: l => match w with
    | .inr (.inl _) => bk_x :: bk_set 0 v l
    | _ => w :: bk_set 0 v l
  | n + 2, v, w :: l => w :: bk_set (n + 1) v l
def bk_take : Nat → List bk_V → List bk_V → Option (List bk_V × List bk_V)
  | 0, acc, st => some (acc, st)
  | _ + 1, _, [] => none
  | n + 1, acc, v :: st => bk_take n (v :: acc) st
/-- the receiver is of the class (0: there is none) -/
def bk_rcv : Nat → List bk_V → Bool
  | 0, _ => true
  | q + 1, as => match as with
    | .inr (.inr (k, _)) :: _ => Nat.beq k q
    | _ => false
/-- how many words they take -/
def bk_wd : List bk_V → Nat
  | [] => 0
  | v :: as => match v with
    | .inr (.inl _) => bk_wd as + 2
    | _ => bk_wd as + 1
def bk_push (r : Nat) (z : Int) (st : List bk_V) : List bk_V := match r with
  | 0 => st
  | 1 => .inl z :: st
  | _ => .inr (.inl z) :: st
def bk_sw (x : Int) (T : Int → Prop) : Int → List Int → Prop
  | _, [] => True
  | lo, o :: os => (x = lo → T o) ∧ bk_sw x T (lo + 1) os
def bk_lsw (x : Int) (T : Int → Prop) (d : Int) : List (Int × Int) → Prop
  | [] => T d
  | (k, o) :: os => (x = k → T o) ∧ (x ≠ k → bk_lsw x T d os)
def bk_txt (n : Nat) : List Int := match n with
  | 0 => [32, 105, 115, 32, 108, 101, 102, 116]
  | 1 => [32, 105, 115, 32, 114, 105, 103, 104, 116]
  | 2 => [32, 105, 115, 32, 119, 101, 116]
  | 3 => [32, 97, 116, 32]
  | _ => []
def bk_getf (f : Nat) (M : bk_M) (k i : Nat) (st : List bk_V) (K : List bk_V → Prop) : Prop :=
  bif Nat.beq k (f / 64 % 16) then (match f / 1024 % 8 with
    | 0 => K (.inl (M k i (Int.ofNat (f % 64))) :: st)
    | 1 => K (.inr (.inl (M k i (Int.ofNat (f % 64)))) :: st)
    | 2 => K (.inr (.inr (f / 8192 % 128, i + f / 1048576)) :: st)
    | 3 => K (.inr (.inr (f / 8192 % 128, (M k i (Int.ofNat (f % 64))).toNat)) :: st)
    | _ => K (.inl (M k i (Int.ofNat (f % 64))) :: st)) else False
def bk_putf (f : Nat) (M : bk_M) (k i : Nat) (v : bk_V) (K : bk_M → Prop) : Prop :=
  bif Nat.beq k (f / 64 % 16) then (match f / 1024 % 8, v with
    | 0, .inl z => ∀ M', M' = bk_up M k i (Int.ofNat (f % 64)) z → K M'
    | 1, .inr (.inl z) => ∀ M', M' = bk_up M k i (Int.ofNat (f % 64)) z → K M'
    | 3, .inr (.inr (k2, i2)) => bif Nat.beq k2 (f / 8192 % 128) then (∀ M', M' = bk_up M k i (Int.ofNat (f % 64)) (Int.ofNat i2) → K M') else False
    | 4, .inl z => (z = 0 ∨ z = 1) ∧ ∀ M', M' = bk_up M k i (Int.ofNat (f % 64)) z → K M'
    | _, _ => False) else False
def bk_op (C : bk_Ca) (T : bk_T) (Q : bk_Q) (i : Instr) (K : bk_K) (b : Nat) (ls st : List bk_V) (M : bk_M) : Prop :=
  match i with
  | .sipush v => K b ls (.inl v :: st) M
  | .bipush v => K b ls (.inr (.inl v) :: st) M
  | .ldc n => K b ls (.inr (.inr (14, n)) :: st) M
  | .iload n => match bk_nth n ls with
    | some (.inl x) => K b ls (.inl x :: st) M
    | _ => False
  | .lload n => match bk_nth n ls with
    | some (.inr (.inl x)) => K b ls (.inr (.inl x) :: st) M
    | _ => False
  | .aload n => match bk_nth n ls with
    | some (.inr (.inr (k, i))) => bif Nat.beq k 15 then False else K b ls (.inr (.inr (k, i)) :: st) M
    | _ => False
  | .istore n => match st with
    | .inl x :: st => K b (bk_set n (.inl x) ls) st M
    | _ => False
  | .lstore n => match st with
    | .inr (.inl x) :: st => K b (bk_set n (.inr (.inl x)) ls) st M
    | _ => False
  | .astore n => match st with
    | .inr (.inr c) :: st => K b (bk_set n (.inr (.inr c)) ls) st M
    | _ => False
  | .iinc n c => match bk_nth n ls with
    | some (.inl x) => bk_r32 (x + c) ∧ K b (bk_set n (.inl (x + c)) ls) st M
    | _ => False
  | .getfield f => match st with
    | .inr (.inr (k, i)) :: st => bk_getf f M k i st (fun st => K b ls st M)
    | _ => False
  | .putfield f => match st with
    | v :: .inr (.inr (k, i)) :: st => bk_putf f M k i v (fun M => K b ls st M)
    | _ => False
  | .iaload => match st with
    | .inl j :: .inr (.inr (k, i)) :: st => (0 ≤ j ∧ j < bk_sz k) ∧ (bif Nat.beq (bk_so k) 0 then K b ls (.inl (M k i j) :: st) M else False)
    | _ => False
  | .laload => match st with
    | .inl j :: .inr (.inr (k, i)) :: st => (0 ≤ j ∧ j < bk_sz k) ∧ (bif Nat.beq (bk_so k) 1 then K b ls (.inr (.inl (M k i j)) :: st) M else False)
    | _ => False
  | .baload => match st with
    | .inl j :: .inr (.inr (k, i)) :: st => (0 ≤ j ∧ j < bk_sz k) ∧ (bif Nat.beq (bk_so k) 2 then K b ls (.inl (M k i j) :: st) M else False)
    | _ => False
  | .aaload => match st with
    | .inl j :: .inr (.inr (k, _)) :: st => (0 ≤ j ∧ j < bk_sz k) ∧ (bif Nat.beq (bk_so k) 3 then K b ls (.inr (.inr ((bk_aa k).1, (bk_aa k).2 + j.toNat)) :: st) M else False)
    | _ => False
  | .iastore => match st with
    | .inl z :: .inl j :: .inr (.inr (k, i)) :: st => (0 ≤ j ∧ j < bk_sz k) ∧ (bif Nat.beq (bk_so k) 0 then ∀ M', M' = bk_up M k i j z → K b ls st M' else False)
    | _ => False
  | .lastore => match st with
    | .inr (.inl z) :: .inl j :: .inr (.inr (k, i)) :: st => (0 ≤ j ∧ j < bk_sz k) ∧ (bif Nat.beq (bk_so k) 1 then ∀ M', M' = bk_up M k i j z → K b ls st M' else False)
    | _ => False
  | .bastore => match st with
    | .inl z :: .inl j :: .inr (.inr (k, i)) :: st => (0 ≤ j ∧ j < bk_sz k) ∧ (bif Nat.beq (bk_so k) 2 then (z = 0 ∨ z = 1) ∧ ∀ M', M' = bk_up M k i j z → K b ls st M' else False)
    | _ => False
  | .arraylength => match st with
    | .inr (.inr (k, _)) :: st => bif Nat.ble 16 k then K b ls (.inl (bk_sz k) :: st) M else False
    | _ => False
  | .saload => match st with
    | .inl j :: .inr (.inr (k, _)) :: st => bif Nat.beq k 13 then (0 ≤ j ∧ j < M 13 1 0) ∧ K b ls (.inl (M 13 0 j) :: st) M else False
    | _ => False
  | .swap => match st with
    | .inr (.inr (k, _)) :: st => bif Nat.beq k 13 then K b ls (.inl (M 13 1 0) :: st) M else False
    | _ => False
  | .iadd => match st with
    | .inl y :: .inl x :: st => bk_r32 (x + y) ∧ K b ls (.inl (x + y) :: st) M
    | _ => False
  | .isub => match st with
    | .inl y :: .inl x :: st => bk_r32 (x - y) ∧ K b ls (.inl (x - y) :: st) M
    | _ => False
  | .imul => match st with
    | .inl y :: .inl x :: st => bk_r32 (x * y) ∧ K b ls (.inl (x * y) :: st) M
    | _ => False
  | .dadd => match st with
    | .inl y :: .inl x :: st => K b ls (.inl (bk_w32 (x + y)) :: st) M
    | _ => False
  | .dmul => match st with
    | .inl y :: .inl x :: st => K b ls (.inl (bk_w32 (x * y)) :: st) M
    | _ => False
  | .idiv => match st with
    | .inl y :: .inl x :: st => (0 ≤ x ∧ 0 < y) ∧ K b ls (.inl (x / y) :: st) M
    | _ => False
  | .irem => match st with
    | .inl y :: .inl x :: st => (0 ≤ x ∧ 0 < y) ∧ K b ls (.inl (x % y) :: st) M
    | _ => False
  | .ineg => match st with
    | .inl x :: st => bk_r32 (-x) ∧ K b ls (.inl (-x) :: st) M
    | _ => False
  | .ishl => match st with
    | .inl y :: .inl x :: st => (0 ≤ y ∧ y < 32 ∧ bk_r32 (x * 2 ^ y.toNat)) ∧ K b ls (.inl (x * 2 ^ y.toNat) :: st) M
    | _ => False
  | .ishr => match st with
    | .inl y :: .inl x :: st => (0 ≤ y ∧ y < 32) ∧ K b ls (.inl (x / 2 ^ y.toNat) :: st) M
    | _ => False
  | .iushr => match st with
    | .inl y :: .inl x :: st => (0 ≤ y ∧ y < 32) ∧ K b ls (.inl (bk_ushr x y) :: st) M
    | _ => False
  | .iand => match st with
    | .inl y :: .inl x :: st => K b ls (.inl (bk_and x y) :: st) M
    | _ => False
  | .ior => match st with
    | .inl y :: .inl x :: st => K b ls (.inl (bk_or x y) :: st) M
    | _ => False
  | .ixor => match st with
    | .inl y :: .inl x :: st => K b ls (.inl (bk_xor x y) :: st) M
    | _ => False
  | .ladd => match st with
    | .inr (.inl y) :: .inr (.inl x) :: st => bk_r64 (x + y) ∧ K b ls (.inr (.inl (x + y)) :: st) M
    | _ => False
  | .lsub => match st with
    | .inr (.inl y) :: .inr (.inl x) :: st => bk_r64 (x - y) ∧ K b ls (.inr (.inl (x - y)) :: st) M
    | _ => False
  | .lmul => match st with
    | .inr (.inl y) :: .inr (.inl x) :: st => bk_r64 (x * y) ∧ K b ls (.inr (.inl (x * y)) :: st) M
    | _ => False
  | .ldiv => match st with
    | .inr (.inl y) :: .inr (.inl x) :: st => (0 ≤ x ∧ 0 < y) ∧ K b ls (.inr (.inl (x / y)) :: st) M
    | _ => False
  | .lrem => match st with
    | .inr (.inl y) :: .inr (.inl x) :: st => (0 ≤ x ∧ 0 < y) ∧ K b ls (.inr (.inl (x % y)) :: st) M
    | _ => False
  | .lshl => match st with
    | .inl y :: .inr (.inl x) :: st => (0 ≤ y ∧ y < 64 ∧ bk_r64 (x * 2 ^ y.toNat)) ∧ K b ls (.inr (.inl (x * 2 ^ y.toNat)) :: st) M
    | _ => False
  | .lshr => match st with
    | .inl y :: .inr (.inl x) :: st => (0 ≤ y ∧ y < 64) ∧ K b ls (.inr (.inl (x / 2 ^ y.toNat)) :: st) M
    | _ => False
  | .land => match st with
    | .inr (.inl y) :: .inr (.inl x) :: st => K b ls (.inr (.inl (bk_andL x y)) :: st) M
    | _ => False
  | .lor => match st with
    | .inr (.inl y) :: .inr (.inl x) :: st => K b ls (.inr (.inl (bk_orL x y)) :: st) M
    | _ => False
  | .lcmp => match st with
    | .inr (.inl y) :: .inr (.inl x) :: st => K b ls (.inl (bk_lcmp x y) :: st) M
    | _ => False
  | .i2l => match st with
    | .inl x :: st => K b ls (.inr (.inl x) :: st) M
    | _ => False
  | .l2i => match st with
    | .inr (.inl x) :: st => bk_r32 x ∧ K b ls (.inl x :: st) M
    | _ => False
  | .dup => match st with
    | .inl x :: st => K b ls (.inl x :: .inl x :: st) M
    | .inr (.inr c) :: st => K b ls (.inr (.inr c) :: .inr (.inr c) :: st) M
    | _ => False
  | .dup2 => match st with
    | .inl y :: .inr (.inr c) :: st => K b ls (.inl y :: .inr (.inr c) :: .inl y :: .inr (.inr c) :: st) M
    | _ => False
  | .pop => match st with
    | .inl _ :: st => K b ls st M
    | _ => False
  | .if_icmp c l => match st with
    | .inl y :: .inl x :: st => (bk_cmp c x y → T b l.toNat ls st M) ∧ (¬ bk_cmp c x y → K b ls st M)
    | _ => False
  | .ifCond c l => match st with
    | .inl x :: st => (bk_cmp c x 0 → T b l.toNat ls st M) ∧ (¬ bk_cmp c x 0 → K b ls st M)
    | _ => False
  | .goto l => T b l.toNat ls st M
  | .tableswitch d lo hi ts => match st with
    | .inl x :: st => bk_sw x (fun l => T b l.toNat ls st M) lo ts.toList ∧ ((x < lo ∨ hi < x) → T b d.toNat ls st M)
    | _ => False
  | .lookupswitch d ps => match st with
    | .inl x :: st => bk_lsw x (fun l => T b l.toNat ls st M) d ps.toList
    | _ => False
  | .ireturn => match st with
    | [.inl x] => Q 0 x M
    | _ => False
  | .freturn => match st with
    | [.inl x] => (x = 0 ∨ x = 1) ∧ Q 0 x M
    | _ => False
  | .lreturn => match st with
    | [.inr (.inl x)] => Q 0 x M
    | _ => False
  | .return_ => match st with
    | [] => Q 0 0 M
    | _ => False
  | .athrow => match b, st with
    | _ + 1, [] => Q 1 0 M
    | _, _ => False
  | .invokestatic n => match bk_take (n / 4 % 16) [] st with
    | some (as, st) => bif Nat.ble st.length 4 && bk_rcv (n / 32768 % 16) as && Nat.beq (bk_wd as) (n / 524288) then C 0 (n / 64 % 512) as M (fun t r M' => t = 0 ∧ K b ls (bk_push (n % 4) r st) M') else False
    | none => False
  | .invokeinterface n h => match b, bk_take (n / 4 % 16) [] st with
    | b + 1, some (as, st) => bif Nat.ble st.length 4 && bk_rcv (n / 32768 % 16) as && Nat.beq (bk_wd as) (n / 524288) then C 1 (n / 64 % 512) as M (fun t r M' => (t = 0 → K b ls (bk_push (n % 4) r st) M') ∧ (t ≠ 0 → T b (h / 16) (bk_set (h % 16) bk_x ls) [] M')) else False
    | _, _ => False
  | .invokevirtual n => match n, st with
    | 0, .inl len :: .inl dp :: .inr (.inr (dk, di)) :: .inl sp :: .inr (.inr (sk, si)) :: st => (0 ≤ len ∧ 0 ≤ sp ∧ sp + len ≤ bk_sz sk ∧ 0 ≤ dp ∧ dp + len ≤ bk_sz dk) ∧ (bif Nat.beq (bk_so sk) (bk_so dk) && Nat.ble (bk_so sk) 1 && Nat.ble st.length 4 && Nat.ble 16 sk && Nat.ble 16 dk then (∀ M', M' = bk_cpy M sk si sp dk di dp len → K b ls st M') else False)
    | 1, .inl y :: .inl x :: st => bif Nat.ble st.length 4 then K b ls (.inl (if x ≤ y then x else y) :: st) M else False
    | 2, .inl y :: .inl x :: st => bif Nat.ble st.length 4 then K b ls (.inl (if y ≤ x then x else y) :: st) M else False
    | 3, .inl x :: st => bk_r32 (-x) ∧ (bif Nat.ble st.length 4 then K b ls (.inl (if x < 0 then -x else x) :: st) M else False)
    | 4, .inr (.inr (k, i)) :: st => bif Nat.beq k 14 && Nat.ble st.length 4 then K b ls (.inl (Int.ofNat (bk_txt i).length) :: st) M else False
    | 5, .inl j :: .inr (.inr (k, i)) :: st => bif Nat.beq k 14 && Nat.ble st.length 4 then (0 ≤ j ∧ j < Int.ofNat (bk_txt i).length) ∧ K b ls (.inl ((bk_txt i).getD j.toNat 0) :: st) M else False
    | _, _ => False
  | _ => False
def bk_run (C : bk_Ca) (T : bk_T) (Q : bk_Q) : List Instr → bk_K
  | [] => fun _ _ _ _ => False
  | i :: is => bk_op C T Q i (bk_run C T Q is)
def bk_lk (l : Nat) : bk_P → List Instr
  | [] => []
  | (k, is) :: P => bif Nat.beq k l then is else bk_lk l P
/-- the least of what is closed under the instructions -/
def bk_wp (C : bk_Ca) (P : bk_P) (Q : bk_Q) : bk_T := fun b l ls st M =>
  ∀ X : bk_T, (∀ b l ls st M, bk_run C X Q (bk_lk l P) b ls st M → X b l ls st M) → X b l ls st M
def bk_go (C : bk_Ca) (P : bk_P) (Q : bk_Q) (S : List Nat) : Nat → bk_T
  | 0 => bk_wp C P Q
  | n + 1 => fun b l ls st M => bif S.elem l then bk_wp C P Q b l ls st M else bk_run C (bk_go C P Q S n) Q (bk_lk l P) b ls st M
end
section
theorem bk_getf_mono {f : Nat} {M : bk_M} {k i : Nat} {st : List bk_V} {K K' : List bk_V → Prop} (hK : ∀ st, K st → K' st) : bk_getf f M k i st K → bk_getf f M k i st K' := by
  unfold bk_getf
  cases Nat.beq k (f / 64 % 16) with
  | false => exact fun h => h
  | true => simp only [cond_true]; split <;> exact hK _
theorem bk_putf_mono {f : Nat} {M : bk_M} {k i : Nat} {v : bk_V} {K K' : bk_M → Prop} (hK : ∀ M, K M → K' M) : bk_putf f M k i v K → bk_putf f M k i v K' := by
  unfold bk_putf
  cases Nat.beq k (f / 64 % 16) with
  | false => exact fun h => h
  | true =>
    simp only [cond_true]
    split
    · exact fun h M' e => hK _ (h M' e)
    · exact fun h M' e => hK _ (h M' e)
    · rename_i k2 i2 _
      cases Nat.beq k2 (f / 8192 % 128) with
      | false => exact fun h => h
      | true => exact fun h M' e => hK _ (h M' e)
    · exact fun h => ⟨h.1, fun M' e => hK _ (h.2 M' e)⟩
    · exact fun h => h
theorem bk_op_mono {C : bk_Ca} (hC : ∀ b μ as M (Q Q' : bk_Q), (∀ t r M, Q t r M → Q' t r M) → C b μ as M Q → C b μ as M Q')
    {T T' : bk_T} (hT : ∀ b l ls st M, T b l ls st M → T' b l ls st M) {Q Q' : bk_Q} (hQ : ∀ t r M, Q t r M → Q' t r M) {K K' : bk_K} (hK : ∀ b ls st M, K b ls st M → K' b ls st M)
    (i : Instr) (b : Nat) (ls st : List bk_V) (M : bk_M) (h : bk_op C T Q i K b ls st M) : bk_op C T' Q' i K' b ls st M := by
  have hsw : ∀ (x : Int) (F G : Int → Prop) (hFG : ∀ l, F l → G l) (os : List Int) (lo : Int), bk_sw x F lo os → bk_sw x G lo os := by
    intro x F G hFG os
    induction os with
    | nil => intro lo _; trivial
    | cons o os ih => intro lo h; exact ⟨fun e => hFG _ (h.1 e), ih _ h.2⟩
  have hlsw : ∀ (x : Int) (F G : Int → Prop) (hFG : ∀ l, F l → G l) (d : Int) (os : List (Int × Int)), bk_lsw x F d os → bk_lsw x G d os := by
    intro x F G hFG d os
    induction os with
    | nil => exact hFG d
    | cons o os ih => intro h; exact ⟨fun e => hFG _ (h.1 e), fun e => ih (h.2 e)⟩
  cases i
  case getfield f =>
    revert h; simp only [bk_op]; split
    · exact bk_getf_mono fun st => hK _ _ _ _
    · exact fun h => h
  case putfield f =>
    revert h; simp only [bk_op]; split
    · exact bk_putf_mono fun M => hK _ _ _ _
    · exact fun h => h
  case iaload =>
    revert h; simp only [bk_op]; split
    · rename_i j k i st
      refine fun h => ⟨h.1, ?_⟩
      have h := h.2
      revert h
      cases Nat.beq (bk_so k) 0 with
      | false => exact fun h => h
      | true => exact hK _ _ _ _
    · exact fun h => h
  case laload =>
    revert h; simp only [bk_op]; split
    · rename_i j k i st
      refine fun h => ⟨h.1, ?_⟩
      have h := h.2
      revert h
      cases Nat.beq (bk_so k) 1 with
      | false => exact fun h => h
      | true => exact hK _ _ _ _
    · exact fun h => h
  case baload =>
    revert h; simp only [bk_op]; split
    · rename_i j k i st
      refine fun h => ⟨h.1, ?_⟩
      have h := h.2
      revert h
      cases Nat.beq (bk_so k) 2 with
      | false => exact fun h => h
      | true => exact hK _ _ _ _
    · exact fun h => h
  case aaload =>
    revert h; simp only [bk_op]; split
    · rename_i j k _ st
      refine fun h => ⟨h.1, ?_⟩
      have h := h.2
      revert h
      cases Nat.beq (bk_so k) 3 with
      | false => exact fun h => h
      | true => exact hK _ _ _ _
    · exact fun h => h
  case iastore =>
    revert h; simp only [bk_op]; split
    · rename_i z j k i st
      refine fun h => ⟨h.1, ?_⟩
      have h := h.2
      revert h
      cases Nat.beq (bk_so k) 0 with
      | false => exact fun h => h
      | true => exact fun h M' e => hK _ _ _ _ (h M' e)
    · exact fun h => h
  case lastore =>
    revert h; simp only [bk_op]; split
    · rename_i z j k i st
      refine fun h => ⟨h.1, ?_⟩
      have h := h.2
      revert h
      cases Nat.beq (bk_so k) 1 with
      | false => exact fun h => h
      | true => exact fun h M' e => hK _ _ _ _ (h M' e)
    · exact fun h => h
  case bastore =>
    revert h; simp only [bk_op]; split
    · rename_i z j k i st
      refine fun h => ⟨h.1, ?_⟩
      have h := h.2
      revert h
      cases Nat.beq (bk_so k) 2 with
      | false => exact fun h => h
      | true => exact fun h => ⟨h.1, fun M' e => hK _ _ _ _ (h.2 M' e)⟩
    · exact fun h => h
  case saload =>
    revert h; simp only [bk_op]; split
    · rename_i j k i st
      cases Nat.beq k 13 with
      | false => exact fun h => h
      | true => exact fun h => ⟨h.1, hK _ _ _ _ h.2⟩
    · exact fun h => h
  case arraylength =>
    revert h; simp only [bk_op]; split
    · rename_i k i st
      cases Nat.ble 16 k with
      | false => exact fun h => h
      | true => exact hK _ _ _ _
    · exact fun h => h
  case swap =>
    revert h; simp only [bk_op]; split
    · rename_i k i st
      cases Nat.beq k 13 with
      | false => exact fun h => h
      | true => exact hK _ _ _ _
    · exact fun h => h
  case invokevirtual n =>
    revert h; simp only [bk_op]; split
    · rename_i len dp dk di sp sk si st
      refine fun h => ⟨h.1, ?_⟩
      have h := h.2
      revert h
      cases (Nat.beq (bk_so sk) (bk_so dk) && Nat.ble (bk_so sk) 1 && Nat.ble st.length 4 && Nat.ble 16 sk && Nat.ble 16 dk) with
      | false => exact fun h => h
      | true => exact fun h M' e => hK _ _ _ _ (h M' e)
    · rename_i y x st
      cases Nat.ble st.length 4 with
      | false => exact fun h => h
      | true => exact hK _ _ _ _
    · rename_i y x st
      cases Nat.ble st.length 4 with
      | false => exact fun h => h
      | true => exact hK _ _ _ _
    · rename_i x st
      cases Nat.ble st.length 4 with
      | false => exact fun h => h
      | true => exact fun h => ⟨h.1, hK _ _ _ _ h.2⟩
    · rename_i k i st
      cases (Nat.beq k 14 && Nat.ble st.length 4) with
      | false => exact fun h => h
      | true => exact hK _ _ _ _
    · rename_i j k i st
      cases (Nat.beq k 14 && Nat.ble st.length 4) with
      | false => exact fun h => h
      | true => exact fun h => ⟨h.1, hK _ _ _ _ h.2⟩
    · exact fun h => h
  case invokestatic n =>
    revert h; simp only [bk_op]; split
    · rename_i as st _
      cases (Nat.ble st.length 4 && bk_rcv (n / 32768 % 16) as && Nat.beq (bk_wd as) (n / 524288)) with
      | false => exact fun h => h
      | true => exact hC _ _ _ _ _ _ (fun t r M e => ⟨e.1, hK _ _ _ _ e.2⟩)
    · exact fun h => h
  case invokeinterface n h' =>
    revert h; simp only [bk_op]; split
    · rename_i as st _
      cases (Nat.ble st.length 4 && bk_rcv (n / 32768 % 16) as && Nat.beq (bk_wd as) (n / 524288)) with
      | false => exact fun h => h
      | true => exact hC _ _ _ _ _ _ (fun t r M e => ⟨fun q => hK _ _ _ _ (e.1 q), fun q => hT _ _ _ _ _ (e.2 q)⟩)
    · exact fun h => h
  case aload n =>
    revert h; simp only [bk_op]; split
    · rename_i k i _
      cases Nat.beq k 15 with
      | false => exact hK _ _ _ _
      | true => exact fun h => h
    · exact fun h => h
  case athrow =>
    revert h; simp only [bk_op]; split
    · exact hQ _ _ _
    · exact fun h => h
  all_goals
    revert h; simp only [bk_op]; (try split) <;>
    first
    | exact fun h => h
    | exact hK _ _ _ _
    | exact hT _ _ _ _ _
    | exact hQ _ _ _
    | exact fun h => ⟨h.1, hQ _ _ _ h.2⟩
    | exact fun h => ⟨h.1, hK _ _ _ _ h.2⟩
    | exact fun h => ⟨fun e => hT _ _ _ _ _ (h.1 e), fun e => hK _ _ _ _ (h.2 e)⟩
    | exact fun h => ⟨hsw _ _ _ (fun l => hT _ _ _ _ _) _ _ h.1, fun e => hT _ _ _ _ _ (h.2 e)⟩
    | exact hlsw _ _ _ (fun l => hT _ _ _ _ _) _ _
    | exact hC _ _ _ _ _ _ (fun t r M e => ⟨e.1, hK _ _ _ _ e.2⟩)
    | exact hC _ _ _ _ _ _ (fun t r M e => ⟨fun q => hK _ _ _ _ (e.1 q), fun q => hT _ _ _ _ _ (e.2 q)⟩)
theorem bk_run_mono {C : bk_Ca} (hC : ∀ b μ as M (Q Q' : bk_Q), (∀ t r M, Q t r M → Q' t r M) → C b μ as M Q → C b μ as M Q')
    {T T' : bk_T} (hT : ∀ b l ls st M, T b l ls st M → T' b l ls st M) {Q Q' : bk_Q} (hQ : ∀ t r M, Q t r M → Q' t r M)
    (is : List Instr) : ∀ (b : Nat) (ls st : List bk_V) (M : bk_M), bk_run C T Q is b ls st M → bk_run C T' Q' is b ls st M := by
  induction is with
  | nil => intro b ls st M h; exact h
  | cons i is ih => intro b ls st M h; exact bk_op_mono hC hT hQ ih i b ls st M h
theorem bk_wp_mono {C : bk_Ca} (hC : ∀ b μ as M (Q Q' : bk_Q), (∀ t r M, Q t r M → Q' t r M) → C b μ as M Q → C b μ as M Q')
    {P : bk_P} {Q Q' : bk_Q} (hQ : ∀ t r M, Q t r M → Q' t r M) {b l : Nat} {ls st : List bk_V} {M : bk_M} (h : bk_wp C P Q b l ls st M) : bk_wp C P Q' b l ls st M :=
  fun X hX => h X fun b l ls st M q => hX b l ls st M (bk_run_mono hC (fun _ _ _ _ _ h => h) hQ _ b ls st M q)
theorem bk_wp_fold {C : bk_Ca} (hC : ∀ b μ as M (Q Q' : bk_Q), (∀ t r M, Q t r M → Q' t r M) → C b μ as M Q → C b μ as M Q')
    {P : bk_P} {Q : bk_Q} {b l : Nat} {ls st : List bk_V} {M : bk_M} (h : bk_run C (bk_wp C P Q) Q (bk_lk l P) b ls st M) : bk_wp C P Q b l ls st M :=
  fun X hX => hX b l ls st M (bk_run_mono hC (fun _ _ _ _ _ q => q X hX) (fun _ _ _ h => h) _ b ls st M h)
theorem bk_go_wp {C : bk_Ca} (hC : ∀ b μ as M (Q Q' : bk_Q), (∀ t r M, Q t r M → Q' t r M) → C b μ as M Q → C b μ as M Q')
    {P : bk_P} {Q : bk_Q} {S : List Nat} (n : Nat) : ∀ {b l : Nat} {ls st : List bk_V} {M : bk_M}, bk_go C P Q S n b l ls st M → bk_wp C P Q b l ls st M := by
  induction n with
  | zero => intro b l ls st M h; exact h
  | succ n ih =>
    intro b l ls st M h
    unfold bk_go at h
    cases hs : S.elem l with
    | true => rw [hs] at h; exact h
    | false => rw [hs] at h; exact bk_wp_fold hC (bk_run_mono hC (fun _ _ _ _ _ q => ih q) (fun _ _ _ h => h) _ b ls st M h)
end
section
/-- BanksDealt$Plain.reset()V -/
def P_0 : bk_P := [(0, [.aload 0, .sipush 5, .putfield 320, .aload 0, .sipush 5, .putfield 321, .aload 0, .sipush 0, .putfield 322, .aload 0, .sipush 2, .putfield 323, .aload 0, .sipush 0, .putfield 326, .aload 0, .sipush 0, .putfield 331, .aload 0, .sipush 0, .putfield 337, .sipush 0, .istore 1, .goto 37]),
  (37, [.iload 1, .sipush 36, .if_icmp .ge 56, .aload 0, .getfield 231748, .iload 1, .sipush 5, .iastore, .iinc 1 (1), .goto 37]),
  (56, [.sipush 0, .istore 1, .goto 58]),
  (58, [.iload 1, .sipush 6, .if_icmp .ge 77, .aload 0, .getfield 239941, .iload 1, .sipush 0, .iastore, .iinc 1 (1), .goto 58]),
  (77, [.sipush 0, .istore 1, .goto 79]),
  (79, [.iload 1, .sipush 1, .if_icmp .gt 105, .aload 0, .getfield 305487, .iload 1, .sipush 9, .iastore, .aload 0, .getfield 313680, .iload 1, .sipush 0, .iastore, .iinc 1 (1), .goto 79]),
  (105, [.return_])]
/-- BanksDealt.feed(IIIII)I -/
def P_1 : bk_P := [(0, [.aload 0, .getfield 84672, .getfield 641, .sipush 920, .if_icmp .le 15, .sipush (-1), .ireturn]),
  (15, [.aload 0, .getfield 84672, .iload 1, .invokestatic 1409160, .aload 0, .getfield 84672, .iload 2, .invokestatic 1409160, .aload 0, .getfield 84672, .iload 3, .invokestatic 1409160, .aload 0, .getfield 84672, .iload 4, .invokestatic 1409160, .aload 0, .getfield 84672, .iload 5, .invokestatic 1409160, .aload 0, .getfield 84672, .getfield 641, .ireturn])]
/-- BanksDealt$Tape.add(I)V -/
def P_2 : bk_P := [(0, [.sipush 24, .istore 2, .goto 3]),
  (3, [.iload 2, .ifCond .lt 49, .aload 0, .getfield 641, .sipush 940, .if_icmp .ge 49, .aload 0, .getfield 436864, .aload 0, .getfield 641, .iload 1, .iload 2, .iushr, .sipush 255, .iand, .iastore, .aload 0, .dup, .getfield 641, .sipush 1, .iadd, .putfield 641, .iinc 2 (-8), .goto 3]),
  (49, [.return_])]
/-- BanksDealt.end(I)Z -/
def P_3 : bk_P := [(0, [.iload 1, .ifCond .lt 15, .iload 1, .aload 0, .getfield 84672, .getfield 641, .if_icmp .le 17, .goto 15]),
  (15, [.sipush 0, .freturn]),
  (17, [.aload 0, .getfield 84672, .iload 1, .putfield 641, .sipush 1, .freturn])]
/-- BanksDealt.plain()I -/
def P_4 : bk_P := [(0, [.aload 0, .getfield 51909, .aload 0, .getfield 84672, .aload 0, .getfield 44738, .invokestatic 1802573, .istore 1, .aload 0, .invokestatic 919492, .iload 1, .sipush (-1), .if_icmp .ne 35, .sipush (-1), .aload 0, .getfield 84672, .getfield 647, .isub, .ireturn]),
  (35, [.aload 0, .getfield 68292, .aload 0, .getfield 44738, .invokestatic 1345544, .aload 0, .getfield 44737, .astore 2, .aload 0, .aload 0, .getfield 44738, .putfield 44737, .aload 0, .aload 2, .putfield 44738, .aload 0, .getfield 77511, .invokestatic 854340, .aload 0, .getfield 27340, .invokestatic 657796, .iload 1, .ireturn])]
/-- BanksDealt$PlainReader.readText(LBanksDealt$Tape;LBanksDealt$Plain;)I -/
def P_5 : bk_P := [(0, [.aload 2, .invokestatic 720900, .aload 0, .sipush 0, .putfield 384, .aload 0, .sipush 0, .putfield 385, .aload 0, .bipush 0, .putfield 1410, .aload 0, .sipush 0, .putfield 4483, .aload 1, .sipush 900, .invokestatic 1409416, .sipush 0, .istore 3, .goto 33]),
  (33, [.iload 3, .sipush 900, .if_icmp .ge 79, .aload 1, .getfield 642, .ifCond .ne 49, .iload 3, .ireturn]),
  (49, [.aload 0, .aload 1, .aload 2, .invokestatic 1803085, .ifCond .eq 67, .aload 1, .sipush 59, .invokestatic 1410953, .ifCond .ne 69, .goto 67]),
  (67, [.sipush (-1), .ireturn]),
  (69, [.aload 1, .invokestatic 885188, .iinc 3 (1), .goto 33]),
  (79, [.sipush (-1), .ireturn])]
/-- BanksDealt$Tape.begin(I)V -/
def P_6 : bk_P := [(0, [.aload 0, .iload 1, .putfield 649, .aload 0, .sipush 0, .putfield 650, .aload 0, .sipush 0, .putfield 646, .aload 0, .sipush 0, .putfield 647, .aload 0, .invokestatic 885188, .return_])]
/-- BanksDealt$Tape.step()V -/
def P_7 : bk_P := [(0, [.aload 0, .getfield 650, .istore 1, .goto 5]),
  (5, [.iload 1, .aload 0, .getfield 641, .if_icmp .ge 41, .aload 0, .getfield 436864, .iload 1, .iaload, .sipush 32, .if_icmp .eq 35, .aload 0, .getfield 436864, .iload 1, .iaload, .sipush 10, .if_icmp .ne 41, .goto 35]),
  (35, [.iinc 1 (1), .goto 5]),
  (41, [.aload 0, .iload 1, .putfield 650, .aload 0, .iload 1, .putfield 651, .iload 1, .aload 0, .getfield 649, .if_icmp .lt 86, .aload 0, .getfield 641, .aload 0, .getfield 649, .if_icmp .le 86, .aload 0, .aload 0, .getfield 649, .putfield 651, .aload 0, .sipush 1, .putfield 642, .goto 198]),
  (86, [.iload 1, .aload 0, .getfield 641, .if_icmp .lt 102, .aload 0, .sipush 0, .putfield 642, .goto 198]),
  (102, [.aload 0, .getfield 436864, .iload 1, .iaload, .invokestatic 524805, .ifCond .ne 126, .aload 0, .getfield 436864, .iload 1, .iaload, .invokestatic 524869, .ifCond .eq 165, .goto 126]),
  (126, [.aload 0, .invokestatic 885380, .aload 0, .aload 0, .getfield 642, .sipush 2, .if_icmp .ne 158, .aload 0, .getfield 445064, .aload 0, .getfield 445064, .arraylength, .aload 0, .getfield 1667, .invokestatic 2097869, .goto 159]),
  (158, [.sipush (-1), .goto 159]),
  (159, [.putfield 644, .goto 198]),
  (165, [.aload 0, .iload 1, .sipush 1, .iadd, .putfield 650, .aload 0, .aload 0, .getfield 436864, .iload 1, .iaload, .invokestatic 525061, .ifCond .eq 194, .aload 0, .getfield 436864, .iload 1, .iaload, .goto 195]),
  (194, [.sipush 1, .goto 195]),
  (195, [.putfield 642, .goto 198]),
  (198, [.return_])]
/-- BanksDealt$Tape.isSmall(I)Z -/
def P_8 : bk_P := [(0, [.iload 0, .sipush 97, .if_icmp .lt 16, .iload 0, .sipush 122, .if_icmp .gt 16, .sipush 1, .goto 17]),
  (16, [.sipush 0, .goto 17]),
  (17, [.freturn])]
/-- BanksDealt$Tape.isDigit(I)Z -/
def P_9 : bk_P := [(0, [.iload 0, .sipush 48, .if_icmp .lt 16, .iload 0, .sipush 57, .if_icmp .gt 16, .sipush 1, .goto 17]),
  (16, [.sipush 0, .goto 17]),
  (17, [.freturn])]
/-- BanksDealt$Tape.readWordOrNumber()V -/
def P_10 : bk_P := [(0, [.sipush 0, .istore 1, .sipush 0, .istore 2, .bipush 0, .lstore 3, .sipush 0, .istore 5, .aload 0, .getfield 651, .istore 6, .goto 15]),
  (15, [.iload 6, .aload 0, .getfield 641, .if_icmp .ge 102, .aload 0, .getfield 436864, .iload 6, .iaload, .istore 7, .iload 7, .sipush 97, .if_icmp .lt 66, .iload 7, .sipush 122, .if_icmp .gt 66, .iinc 1 (1), .lload 3, .sipush 5, .lshl, .iload 7, .sipush 97, .isub, .sipush 1, .iadd, .i2l, .ladd, .lstore 3, .goto 96]),
  (66, [.iload 7, .sipush 48, .if_icmp .lt 102, .iload 7, .sipush 57, .if_icmp .gt 102, .iinc 2 (1), .sipush 10, .iload 5, .imul, .iload 7, .iadd, .sipush 48, .isub, .istore 5, .goto 96]),
  (96, [.iinc 6 (1), .goto 15]),
  (102, [.aload 0, .iload 6, .putfield 650, .aload 0, .sipush 1, .putfield 642, .iload 2, .ifCond .ne 136, .iload 1, .sipush 7, .if_icmp .gt 136, .aload 0, .sipush 2, .putfield 642, .aload 0, .lload 3, .putfield 1667, .goto 156]),
  (136, [.iload 1, .ifCond .ne 156, .iload 2, .sipush 3, .if_icmp .gt 156, .aload 0, .sipush 3, .putfield 642, .aload 0, .iload 5, .putfield 645, .goto 156]),
  (156, [.return_])]
/-- BanksDealt.indexOfName([JIJ)I -/
def P_11 : bk_P := [(0, [.sipush 0, .istore 4, .goto 3]),
  (3, [.iload 4, .iload 1, .if_icmp .ge 34, .iload 4, .aload 0, .arraylength, .if_icmp .ge 34, .aload 0, .iload 4, .laload, .lload 2, .lcmp, .ifCond .ne 28, .iload 4, .ireturn]),
  (28, [.iinc 4 (1), .goto 3]),
  (34, [.sipush (-1), .ireturn])]
/-- BanksDealt$Tape.isSign(I)Z -/
def P_12 : bk_P := [(0, [.iload 0, .sipush 59, .if_icmp .eq 36, .iload 0, .sipush 60, .if_icmp .eq 36, .iload 0, .sipush 61, .if_icmp .eq 36, .iload 0, .sipush 62, .if_icmp .eq 36, .iload 0, .sipush 40, .if_icmp .eq 36, .iload 0, .sipush 41, .if_icmp .ne 40, .goto 36]),
  (36, [.sipush 1, .goto 41]),
  (40, [.sipush 0, .goto 41]),
  (41, [.freturn])]
/-- BanksDealt$PlainReader.readLine(LBanksDealt$Tape;LBanksDealt$Plain;)Z -/
def P_13 : bk_P := [(0, [.aload 1, .getfield 642, .sipush 2, .if_icmp .ne 15, .aload 1, .getfield 644, .goto 16]),
  (15, [.sipush (-1), .goto 16]),
  (16, [.tableswitch 117 0 8 #[68, 75, 82, 89, 96, 103, 117, 117, 110]]),
  (68, [.aload 0, .aload 1, .aload 2, .invokestatic 1803149, .freturn]),
  (75, [.aload 0, .aload 1, .aload 2, .invokestatic 1803405, .freturn]),
  (82, [.aload 0, .aload 1, .aload 2, .invokestatic 1803597, .freturn]),
  (89, [.aload 0, .aload 1, .aload 2, .invokestatic 1803661, .freturn]),
  (96, [.aload 0, .aload 1, .aload 2, .invokestatic 1803917, .freturn]),
  (103, [.aload 0, .aload 1, .aload 2, .invokestatic 1803981, .freturn]),
  (110, [.aload 0, .aload 1, .aload 2, .invokestatic 1804109, .freturn]),
  (117, [.aload 1, .sipush 1, .invokestatic 1410057, .freturn])]
/-- BanksDealt$PlainReader.readSize(LBanksDealt$Tape;LBanksDealt$Plain;)Z -/
def P_14 : bk_P := [(0, [.aload 0, .getfield 4483, .ifCond .ne 27, .aload 0, .getfield 384, .sipush 2, .ishr, .sipush 1, .iand, .sipush 1, .if_icmp .eq 27, .aload 0, .sipush 0, .invokestatic 1278921, .ifCond .ne 33, .goto 27]),
  (27, [.aload 1, .sipush 3, .invokestatic 1410057, .freturn]),
  (33, [.aload 1, .sipush 3, .sipush 6, .invokestatic 1934413, .ifCond .ne 45, .sipush 0, .freturn]),
  (45, [.aload 2, .aload 1, .getfield 645, .putfield 320, .aload 1, .sipush 2, .sipush 6, .invokestatic 1934413, .ifCond .ne 65, .sipush 0, .freturn]),
  (65, [.aload 2, .aload 1, .getfield 645, .putfield 321, .sipush 1, .freturn])]
/-- BanksDealt$PlainReader.isFirst(I)Z -/
def P_15 : bk_P := [(0, [.aload 0, .getfield 384, .iload 1, .ishr, .sipush 1, .iand, .ifCond .ne 15, .sipush 1, .goto 16]),
  (15, [.sipush 0, .goto 16]),
  (16, [.istore 2, .aload 0, .dup, .getfield 384, .sipush 1, .iload 1, .ishl, .ior, .putfield 384, .iload 2, .freturn])]
/-- BanksDealt$Tape.fails(I)Z -/
def P_16 : bk_P := [(0, [.aload 0, .iload 1, .putfield 646, .aload 0, .aload 0, .getfield 651, .putfield 647, .sipush 0, .freturn])]
/-- BanksDealt$Tape.between(II)Z -/
def P_17 : bk_P := [(0, [.aload 0, .invokestatic 885188, .aload 0, .getfield 642, .sipush 3, .if_icmp .eq 18, .aload 0, .sipush 1, .invokestatic 1410057, .freturn]),
  (18, [.aload 0, .getfield 645, .iload 1, .if_icmp .lt 34, .aload 0, .getfield 645, .iload 2, .if_icmp .le 42, .goto 34]),
  (34, [.aload 0, .sipush 2, .invokestatic 1410057, .ifCond .eq 46, .goto 42]),
  (42, [.sipush 1, .goto 47]),
  (46, [.sipush 0, .goto 47]),
  (47, [.freturn])]
/-- BanksDealt$PlainReader.readLand(LBanksDealt$Tape;LBanksDealt$Plain;)Z -/
def P_18 : bk_P := [(0, [.aload 0, .aload 1, .aload 2, .invokestatic 1803469, .istore 3, .iload 3, .sipush (-1), .if_icmp .ne 14, .sipush 0, .freturn]),
  (14, [.aload 0, .getfield 1410, .iload 3, .lshr, .bipush 1, .land, .bipush 1, .lcmp, .ifCond .ne 33, .aload 1, .sipush 3, .invokestatic 1410057, .freturn]),
  (33, [.aload 0, .dup, .getfield 1410, .bipush 1, .iload 3, .lshl, .lor, .putfield 1410, .aload 1, .sipush 0, .sipush 9, .invokestatic 1934413, .ifCond .ne 57, .sipush 0, .freturn]),
  (57, [.aload 2, .getfield 231748, .iload 3, .aload 1, .getfield 645, .iastore, .sipush 1, .freturn])]
/-- BanksDealt$PlainReader.readCell(LBanksDealt$Tape;LBanksDealt$Plain;)I -/
def P_19 : bk_P := [(0, [.aload 1, .sipush 0, .aload 2, .getfield 320, .sipush 1, .isub, .invokestatic 1934413, .ifCond .ne 16, .sipush (-1), .ireturn]),
  (16, [.aload 1, .getfield 645, .istore 3, .aload 1, .sipush 0, .aload 2, .getfield 321, .sipush 1, .isub, .invokestatic 1934413, .ifCond .ne 37, .sipush (-1), .ireturn]),
  (37, [.aload 0, .sipush 1, .putfield 4483, .aload 2, .iload 3, .aload 1, .getfield 645, .invokestatic 1770765, .ireturn])]
/-- BanksDealt$Plain.cellAt(II)I -/
def P_20 : bk_P := [(0, [.iload 1, .ifCond .lt 33, .iload 1, .aload 0, .getfield 320, .if_icmp .ge 33, .iload 2, .ifCond .lt 33, .iload 2, .aload 0, .getfield 321, .if_icmp .ge 33, .sipush 6, .iload 2, .imul, .iload 1, .iadd, .goto 34]),
  (33, [.sipush (-1), .goto 34]),
  (34, [.ireturn])]
/-- BanksDealt$PlainReader.readSource(LBanksDealt$Tape;LBanksDealt$Plain;)Z -/
def P_21 : bk_P := [(0, [.aload 0, .sipush 2, .invokestatic 1278921, .ifCond .ne 14, .aload 1, .sipush 3, .invokestatic 1410057, .freturn]),
  (14, [.aload 1, .sipush 0, .aload 2, .getfield 320, .sipush 1, .isub, .invokestatic 1934413, .ifCond .ne 30, .sipush 0, .freturn]),
  (30, [.aload 2, .aload 1, .getfield 645, .putfield 322, .sipush 1, .freturn])]
/-- BanksDealt$PlainReader.readField(LBanksDealt$Tape;LBanksDealt$Plain;)Z -/
def P_22 : bk_P := [(0, [.aload 2, .getfield 326, .istore 3, .iload 3, .sipush 10, .if_icmp .lt 17, .aload 1, .sipush 4, .invokestatic 1410057, .freturn]),
  (17, [.aload 0, .aload 1, .aload 2, .invokestatic 1803725, .ifCond .ne 28, .sipush 0, .freturn]),
  (28, [.aload 2, .getfield 272714, .iload 3, .aload 1, .getfield 1667, .lastore, .aload 0, .aload 1, .aload 2, .invokestatic 1803469, .istore 4, .iload 4, .sipush (-1), .if_icmp .ne 54, .sipush 0, .freturn]),
  (54, [.aload 2, .iload 4, .invokestatic 1050185, .ifCond .eq 69, .aload 1, .sipush 3, .invokestatic 1410057, .freturn]),
  (69, [.aload 1, .sipush 1, .sipush 20, .invokestatic 1934413, .ifCond .ne 81, .sipush 0, .freturn]),
  (81, [.aload 2, .getfield 248135, .iload 3, .iload 4, .iastore, .aload 2, .getfield 256328, .iload 3, .aload 1, .getfield 645, .iastore, .aload 2, .getfield 264521, .iload 3, .sipush 0, .iastore, .aload 2, .dup, .getfield 326, .sipush 1, .iadd, .putfield 326, .sipush 1, .freturn])]
/-- BanksDealt$PlainReader.readNewName(LBanksDealt$Tape;LBanksDealt$Plain;)Z -/
def P_23 : bk_P := [(0, [.aload 1, .invokestatic 885188, .aload 1, .invokestatic 886277, .ifCond .ne 17, .aload 1, .sipush 1, .invokestatic 1410057, .freturn]),
  (17, [.aload 2, .getfield 272714, .aload 2, .getfield 326, .aload 1, .getfield 1667, .invokestatic 2097869, .sipush (-1), .if_icmp .ne 55, .aload 2, .getfield 297294, .aload 2, .getfield 331, .aload 1, .getfield 1667, .invokestatic 2097869, .sipush (-1), .if_icmp .eq 59, .goto 55]),
  (55, [.sipush 1, .goto 60]),
  (59, [.sipush 0, .goto 60]),
  (60, [.istore 3, .iload 3, .ifCond .eq 73, .aload 1, .sipush 3, .invokestatic 1410057, .ifCond .eq 77, .goto 73]),
  (73, [.sipush 1, .goto 78]),
  (77, [.sipush 0, .goto 78]),
  (78, [.freturn])]
/-- BanksDealt$Tape.isName()Z -/
def P_24 : bk_P := [(0, [.aload 0, .getfield 642, .sipush 2, .if_icmp .ne 20, .aload 0, .getfield 644, .sipush (-1), .if_icmp .ne 20, .sipush 1, .goto 21]),
  (20, [.sipush 0, .goto 21]),
  (21, [.freturn])]
/-- BanksDealt$PlainReader.isTaken(LBanksDealt$Plain;I)Z -/
def P_25 : bk_P := [(0, [.sipush 0, .istore 2, .goto 2]),
  (2, [.iload 2, .aload 0, .getfield 326, .if_icmp .ge 28, .aload 0, .getfield 248135, .iload 2, .iaload, .iload 1, .if_icmp .ne 22, .sipush 1, .freturn]),
  (22, [.iinc 2 (1), .goto 2]),
  (28, [.sipush 0, .freturn])]
/-- BanksDealt$PlainReader.readMill(LBanksDealt$Tape;LBanksDealt$Plain;)Z -/
def P_26 : bk_P := [(0, [.aload 2, .getfield 331, .istore 3, .iload 3, .sipush 3, .if_icmp .lt 16, .aload 1, .sipush 4, .invokestatic 1410057, .freturn]),
  (16, [.aload 0, .aload 1, .aload 2, .invokestatic 1803725, .ifCond .ne 27, .sipush 0, .freturn]),
  (27, [.aload 2, .getfield 297294, .iload 3, .aload 1, .getfield 1667, .lastore, .aload 0, .aload 1, .aload 2, .invokestatic 1803469, .istore 4, .iload 4, .sipush (-1), .if_icmp .ne 53, .sipush 0, .freturn]),
  (53, [.aload 2, .getfield 280908, .iload 3, .iload 4, .iastore, .aload 2, .getfield 289101, .iload 3, .sipush 0, .iastore, .aload 2, .dup, .getfield 331, .sipush 1, .iadd, .putfield 331, .sipush 1, .freturn])]
/-- BanksDealt$PlainReader.readPurse(LBanksDealt$Tape;LBanksDealt$Plain;)Z -/
def P_27 : bk_P := [(0, [.aload 1, .invokestatic 885188, .aload 1, .sipush 6, .invokestatic 1410825, .ifCond .ne 28, .aload 1, .sipush 7, .invokestatic 1410825, .ifCond .ne 28, .aload 1, .sipush 1, .invokestatic 1410057, .freturn]),
  (28, [.aload 1, .getfield 644, .sipush 6, .if_icmp .ne 41, .sipush 0, .goto 42]),
  (41, [.sipush 1, .goto 42]),
  (42, [.istore 3, .aload 0, .getfield 385, .iload 3, .ishr, .sipush 1, .iand, .sipush 1, .if_icmp .ne 61, .aload 1, .sipush 3, .invokestatic 1410057, .freturn]),
  (61, [.aload 0, .dup, .getfield 385, .sipush 1, .iload 3, .ishl, .ior, .putfield 385, .aload 1, .sipush 0, .sipush 99, .invokestatic 1934413, .ifCond .ne 85, .sipush 0, .freturn]),
  (85, [.aload 2, .getfield 305487, .iload 3, .aload 1, .getfield 645, .iastore, .sipush 1, .freturn])]
/-- BanksDealt$Tape.isWord(I)Z -/
def P_28 : bk_P := [(0, [.aload 0, .getfield 642, .sipush 2, .if_icmp .ne 20, .aload 0, .getfield 644, .iload 1, .if_icmp .ne 20, .sipush 1, .goto 21]),
  (20, [.sipush 0, .goto 21]),
  (21, [.freturn])]
/-- BanksDealt$PlainReader.readIce(LBanksDealt$Tape;LBanksDealt$Plain;)Z -/
def P_29 : bk_P := [(0, [.aload 0, .sipush 8, .invokestatic 1278921, .ifCond .ne 15, .aload 1, .sipush 3, .invokestatic 1410057, .freturn]),
  (15, [.aload 1, .sipush 0, .sipush 5, .invokestatic 1934413, .ifCond .ne 26, .sipush 0, .freturn]),
  (26, [.aload 2, .aload 1, .getfield 645, .putfield 323, .sipush 1, .freturn])]
/-- BanksDealt$Tape.sign(I)Z -/
def P_30 : bk_P := [(0, [.aload 0, .invokestatic 885188, .aload 0, .getfield 642, .iload 1, .if_icmp .eq 20, .aload 0, .sipush 1, .invokestatic 1410057, .ifCond .eq 24, .goto 20]),
  (20, [.sipush 1, .goto 25]),
  (24, [.sipush 0, .goto 25]),
  (25, [.freturn])]
/-- BanksDealt.emptyTape()V -/
def P_31 : bk_P := [(0, [.aload 0, .aload 0, .getfield 84672, .getfield 646, .putfield 720, .aload 0, .getfield 84672, .sipush 0, .putfield 641, .return_])]
/-- BanksDealt$River.takeLeast(LBanksDealt$Plain;)V -/
def P_32 : bk_P := [(0, [.aload 0, .aload 1, .invokestatic 1345608, .aload 0, .getfield 379393, .sipush 0, .aload 1, .getfield 239941, .sipush 0, .sipush 6, .invokevirtual 0, .return_])]
/-- BanksDealt$River.runFreely(LBanksDealt$Plain;)V -/
def P_33 : bk_P := [(0, [.aload 0, .aload 1, .invokestatic 1345672, .aload 0, .aload 1, .invokestatic 1345736, .return_])]
/-- BanksDealt$River.load(LBanksDealt$Plain;)V -/
def P_34 : bk_P := [(0, [.aload 1, .getfield 231748, .sipush 0, .aload 0, .getfield 371200, .sipush 0, .sipush 36, .invokevirtual 0, .return_])]
/-- BanksDealt$River.run(LBanksDealt$Plain;)V -/
def P_35 : bk_P := [(0, [.aload 1, .getfield 321, .sipush 1, .isub, .istore 2, .iload 2, .istore 3, .goto 9]),
  (9, [.iload 3, .ifCond .lt 125, .aload 1, .getfield 320, .sipush 1, .isub, .aload 1, .getfield 322, .iload 3, .iadd, .invokevirtual 1, .istore 4, .sipush 0, .aload 1, .getfield 322, .iload 3, .isub, .invokevirtual 2, .istore 5, .goto 42]),
  (42, [.iload 5, .iload 4, .if_icmp .gt 119, .sipush 6, .iload 3, .imul, .iload 5, .iadd, .istore 6, .aload 0, .getfield 387588, .iload 6, .aload 0, .getfield 371200, .iload 6, .iaload, .iastore, .iload 3, .iload 2, .if_icmp .ge 113, .aload 0, .getfield 395781, .iload 6, .aload 0, .aload 1, .iload 6, .invokestatic 1870093, .iastore, .aload 0, .getfield 387588, .iload 6, .dup2, .iaload, .aload 0, .getfield 387588, .aload 0, .getfield 395781, .iload 6, .iaload, .iaload, .iadd, .iastore, .goto 113]),
  (113, [.iinc 5 (1), .goto 42]),
  (119, [.iinc 3 (-1), .goto 9]),
  (125, [.aload 1, .getfield 322, .istore 3, .aload 0, .aload 0, .getfield 387588, .iload 3, .iaload, .putfield 514, .sipush 0, .istore 4, .goto 143]),
  (143, [.iload 4, .iload 2, .if_icmp .ge 173, .aload 0, .getfield 379393, .iload 4, .iload 3, .sipush 6, .irem, .iastore, .aload 0, .getfield 395781, .iload 3, .iaload, .istore 3, .iinc 4 (1), .goto 143]),
  (173, [.aload 0, .getfield 379393, .iload 2, .iload 3, .sipush 6, .irem, .iastore, .return_])]
/-- BanksDealt$River.leastBelow(LBanksDealt$Plain;I)I -/
def P_36 : bk_P := [(0, [.iload 2, .sipush 6, .irem, .istore 3, .iload 2, .sipush 6, .iadd, .istore 4, .iload 3, .ifCond .le 22, .iload 4, .sipush 1, .isub, .goto 24]),
  (22, [.iload 4, .goto 24]),
  (24, [.istore 5, .aload 0, .getfield 387588, .iload 4, .iaload, .aload 0, .getfield 387588, .iload 5, .iaload, .if_icmp .ge 47, .iload 4, .istore 5, .goto 47]),
  (47, [.iload 3, .sipush 1, .iadd, .aload 1, .getfield 320, .if_icmp .ge 82, .aload 0, .getfield 387588, .iload 4, .sipush 1, .iadd, .iaload, .aload 0, .getfield 387588, .iload 5, .iaload, .if_icmp .ge 82, .iload 4, .sipush 1, .iadd, .istore 5, .goto 82]),
  (82, [.iload 5, .ireturn])]
/-- BanksDealt$Sentence.forget()V -/
def P_37 : bk_P := [(0, [.aload 0, .sipush 0, .putfield 576, .aload 0, .sipush 0, .putfield 577, .return_])]
/-- BanksDealt$History.forget()V -/
def P_38 : bk_P := [(0, [.aload 0, .sipush 0, .putfield 192, .return_])]
/-- BanksDealt.fault()I -/
def P_39 : bk_P := [(0, [.aload 0, .getfield 720, .ireturn])]
/-- BanksDealt.mill(II)I -/
def P_40 : bk_P := [(0, [.iload 1, .ifCond .lt 15, .iload 1, .aload 0, .getfield 44737, .getfield 331, .if_icmp .lt 17, .goto 15]),
  (15, [.sipush (-1), .ireturn]),
  (17, [.aload 0, .getfield 44737, .getfield 280908, .iload 1, .iaload, .istore 3, .iload 2, .tableswitch 92 0 3 #[60, 65, 70, 82]]),
  (60, [.iload 3, .sipush 6, .irem, .ireturn]),
  (65, [.iload 3, .sipush 6, .idiv, .ireturn]),
  (70, [.aload 0, .getfield 44737, .getfield 239941, .iload 3, .invokestatic 1051209, .ireturn]),
  (82, [.aload 0, .getfield 44737, .getfield 289101, .iload 1, .iaload, .ireturn]),
  (92, [.sipush (-1), .ireturn])]
/-- BanksDealt.bankBy([II)I -/
def P_41 : bk_P := [(0, [.iload 1, .sipush 6, .idiv, .istore 2, .iload 1, .ifCond .lt 15, .iload 2, .aload 0, .arraylength, .if_icmp .lt 17, .goto 15]),
  (15, [.sipush (-1), .ireturn]),
  (17, [.iload 1, .sipush 6, .irem, .istore 3, .iload 3, .aload 0, .iload 2, .iaload, .if_icmp .ne 31, .sipush 2, .ireturn]),
  (31, [.iload 3, .aload 0, .iload 2, .iaload, .if_icmp .ge 42, .sipush 0, .goto 43]),
  (42, [.sipush 1, .goto 43]),
  (43, [.ireturn])]
/-- BanksDealt.height(II)I -/
def P_42 : bk_P := [(0, [.aload 0, .getfield 44737, .iload 1, .iload 2, .invokestatic 1770765, .istore 3, .iload 3, .sipush (-1), .if_icmp .ne 19, .sipush (-1), .goto 28]),
  (19, [.aload 0, .getfield 44737, .getfield 231748, .iload 3, .iaload, .goto 28]),
  (28, [.ireturn])]
/-- BanksDealt.bank(II)I -/
def P_43 : bk_P := [(0, [.aload 0, .getfield 44737, .iload 1, .iload 2, .invokestatic 1770765, .istore 3, .iload 3, .sipush (-1), .if_icmp .ne 19, .sipush (-1), .goto 30]),
  (19, [.aload 0, .getfield 44737, .getfield 239941, .iload 3, .invokestatic 1051209, .goto 30]),
  (30, [.ireturn])]
/-- BanksDealt.bed(I)I -/
def P_44 : bk_P := [(0, [.aload 0, .iload 1, .invokestatic 1444681, .ifCond .eq 20, .aload 0, .getfield 44737, .getfield 239941, .iload 1, .iaload, .goto 21]),
  (20, [.sipush (-1), .goto 21]),
  (21, [.ireturn])]
/-- BanksDealt.isRow(I)Z -/
def P_45 : bk_P := [(0, [.iload 1, .ifCond .lt 19, .iload 1, .aload 0, .getfield 44737, .getfield 321, .if_icmp .ge 19, .sipush 1, .goto 20]),
  (19, [.sipush 0, .goto 20]),
  (20, [.freturn])]
/-- BanksDealt.side(II)I -/
def P_46 : bk_P := [(0, [.iload 1, .invokestatic 527301, .ifCond .ne 9, .sipush (-1), .ireturn]),
  (9, [.iload 2, .tableswitch 92 0 3 #[40, 50, 66, 82]]),
  (40, [.aload 0, .getfield 44737, .getfield 305487, .iload 1, .iaload, .ireturn]),
  (50, [.aload 0, .getfield 44737, .aload 0, .getfield 44737, .getfield 239941, .iload 1, .invokestatic 1772557, .ireturn]),
  (66, [.aload 0, .getfield 44737, .aload 0, .getfield 44737, .getfield 239941, .iload 1, .invokestatic 1772621, .ireturn]),
  (82, [.aload 0, .getfield 44737, .getfield 313680, .iload 1, .iaload, .ireturn]),
  (92, [.sipush (-1), .ireturn])]
/-- BanksDealt.isSide(I)Z -/
def P_47 : bk_P := [(0, [.iload 0, .ifCond .eq 9, .iload 0, .sipush 1, .if_icmp .ne 13, .goto 9]),
  (9, [.sipush 1, .goto 14]),
  (13, [.sipush 0, .goto 14]),
  (14, [.freturn])]
/-- BanksDealt$Plain.fieldsBy([II)I -/
def P_48 : bk_P := [(0, [.sipush 0, .istore 3, .sipush 0, .istore 4, .goto 5]),
  (5, [.iload 4, .aload 0, .getfield 326, .if_icmp .ge 42, .aload 1, .aload 0, .getfield 248135, .iload 4, .iaload, .invokestatic 1051209, .iload 2, .if_icmp .ne 36, .iload 3, .sipush 1, .iload 4, .ishl, .ior, .istore 3, .goto 36]),
  (36, [.iinc 4 (1), .goto 5]),
  (42, [.iload 3, .ireturn])]
/-- BanksDealt$Plain.worthBy([II)I -/
def P_49 : bk_P := [(0, [.sipush 0, .istore 3, .sipush 0, .istore 4, .goto 5]),
  (5, [.iload 4, .aload 0, .getfield 326, .if_icmp .ge 45, .aload 1, .aload 0, .getfield 248135, .iload 4, .iaload, .invokestatic 1051209, .iload 2, .if_icmp .ne 39, .iload 3, .aload 0, .getfield 256328, .iload 4, .iaload, .iadd, .istore 3, .goto 39]),
  (39, [.iinc 4 (1), .goto 5]),
  (45, [.iload 3, .ireturn])]
/-- BanksDealt.now(I)I -/
def P_50 : bk_P := [(0, [.iload 1, .tableswitch 84 0 4 #[36, 44, 60, 68, 76]]),
  (36, [.aload 0, .getfield 44737, .getfield 337, .ireturn]),
  (44, [.aload 0, .getfield 44737, .aload 0, .getfield 44737, .getfield 239941, .sipush 2, .invokestatic 1772557, .ireturn]),
  (60, [.aload 0, .getfield 44737, .invokestatic 724165, .ireturn]),
  (68, [.aload 0, .getfield 44737, .invokestatic 724229, .ireturn]),
  (76, [.aload 0, .getfield 44737, .invokestatic 724293, .ireturn]),
  (84, [.sipush (-1), .ireturn])]
/-- BanksDealt$Plain.bedHeights()I -/
def P_51 : bk_P := [(0, [.sipush 0, .istore 1, .sipush 0, .istore 2, .goto 4]),
  (4, [.iload 2, .aload 0, .getfield 321, .if_icmp .ge 37, .iload 1, .aload 0, .getfield 231748, .sipush 6, .iload 2, .imul, .aload 0, .getfield 239941, .iload 2, .iaload, .iadd, .iaload, .iadd, .istore 1, .iinc 2 (1), .goto 4]),
  (37, [.iload 1, .ireturn])]
/-- BanksDealt$Plain.bends()I -/
def P_52 : bk_P := [(0, [.sipush 0, .istore 1, .sipush 1, .istore 2, .goto 4]),
  (4, [.iload 2, .aload 0, .getfield 321, .if_icmp .ge 38, .aload 0, .getfield 239941, .iload 2, .iaload, .aload 0, .getfield 239941, .iload 2, .sipush 1, .isub, .iaload, .if_icmp .eq 32, .iinc 1 (1), .goto 32]),
  (32, [.iinc 2 (1), .goto 4]),
  (38, [.iload 1, .ireturn])]
/-- BanksDealt$Plain.changes()I -/
def P_53 : bk_P := [(0, [.sipush 0, .istore 1, .sipush 0, .istore 2, .goto 4]),
  (4, [.iload 2, .aload 0, .getfield 326, .if_icmp .ge 27, .iload 1, .aload 0, .getfield 264521, .iload 2, .iaload, .iadd, .istore 1, .iinc 2 (1), .goto 4]),
  (27, [.iload 1, .ireturn])]
/-- BanksDealt.dig(III)I -/
def P_54 : bk_P := [(0, [.aload 0, .iload 1, .iload 2, .iload 3, .sipush (-1), .invokestatic 3018197, .ireturn])]
/-- BanksDealt.workBy(IIII)I -/
def P_55 : bk_P := [(0, [.aload 0, .getfield 44737, .iload 2, .iload 3, .invokestatic 1770765, .istore 5, .iload 1, .invokestatic 527301, .ifCond .eq 24, .iload 5, .sipush (-1), .if_icmp .ne 26, .goto 24]),
  (24, [.sipush (-1), .ireturn]),
  (26, [.aload 0, .getfield 44737, .iload 1, .iload 5, .iload 4, .invokestatic 2297361, .istore 6, .iload 6, .ifCond .ne 68, .aload 0, .getfield 27340, .aload 0, .getfield 44737, .invokestatic 1183304, .aload 0, .getfield 44737, .iload 1, .iload 5, .iload 4, .invokestatic 2297552, .goto 68]),
  (68, [.iload 6, .ireturn])]
/-- BanksDealt$Plain.whyNoWork(III)I -/
def P_56 : bk_P := [(0, [.aload 0, .getfield 305487, .iload 1, .iaload, .sipush 1, .if_icmp .ge 12, .sipush 1, .ireturn]),
  (12, [.aload 0, .getfield 239941, .iload 2, .invokestatic 1051209, .sipush 1, .iload 1, .isub, .if_icmp .ne 28, .sipush 2, .ireturn]),
  (28, [.aload 0, .getfield 231748, .iload 2, .iaload, .iload 3, .iadd, .istore 4, .iload 4, .ifCond .lt 50, .iload 4, .sipush 9, .if_icmp .le 54, .goto 50]),
  (50, [.sipush 3, .goto 55]),
  (54, [.sipush 0, .goto 55]),
  (55, [.ireturn])]
/-- BanksDealt$History.keep(LBanksDealt$Plain;)V -/
def P_57 : bk_P := [(0, [.aload 0, .getfield 223426, .aload 0, .getfield 193, .aaload, .aload 1, .invokestatic 1248904, .aload 0, .aload 0, .getfield 193, .sipush 1, .iadd, .sipush 8, .irem, .putfield 193, .aload 0, .sipush 8, .aload 0, .getfield 192, .sipush 1, .iadd, .invokevirtual 1, .putfield 192, .return_])]
/-- BanksDealt$Plain.copyOf(LBanksDealt$Plain;)V -/
def P_58 : bk_P := [(0, [.aload 0, .aload 1, .getfield 320, .putfield 320, .aload 0, .aload 1, .getfield 321, .putfield 321, .aload 0, .aload 1, .getfield 322, .putfield 322, .aload 0, .aload 1, .getfield 323, .putfield 323, .aload 0, .aload 1, .getfield 326, .putfield 326, .aload 0, .aload 1, .getfield 331, .putfield 331, .aload 0, .aload 1, .getfield 337, .putfield 337, .aload 1, .getfield 231748, .sipush 0, .aload 0, .getfield 231748, .sipush 0, .sipush 36, .invokevirtual 0, .aload 1, .getfield 239941, .sipush 0, .aload 0, .getfield 239941, .sipush 0, .sipush 6, .invokevirtual 0, .aload 1, .getfield 248135, .sipush 0, .aload 0, .getfield 248135, .sipush 0, .sipush 10, .invokevirtual 0, .aload 1, .getfield 256328, .sipush 0, .aload 0, .getfield 256328, .sipush 0, .sipush 10, .invokevirtual 0, .aload 1, .getfield 264521, .sipush 0, .aload 0, .getfield 264521, .sipush 0, .sipush 10, .invokevirtual 0, .aload 1, .getfield 272714, .sipush 0, .aload 0, .getfield 272714, .sipush 0, .sipush 10, .invokevirtual 0, .aload 1, .getfield 280908, .sipush 0, .aload 0, .getfield 280908, .sipush 0, .sipush 3, .invokevirtual 0, .aload 1, .getfield 289101, .sipush 0, .aload 0, .getfield 289101, .sipush 0, .sipush 3, .invokevirtual 0, .aload 1, .getfield 297294, .sipush 0, .aload 0, .getfield 297294, .sipush 0, .sipush 3, .invokevirtual 0, .aload 1, .getfield 305487, .sipush 0, .aload 0, .getfield 305487, .sipush 0, .sipush 2, .invokevirtual 0, .aload 1, .getfield 313680, .sipush 0, .aload 0, .getfield 313680, .sipush 0, .sipush 2, .invokevirtual 0, .aload 1, .getfield 321874, .sipush 0, .aload 0, .getfield 321874, .sipush 0, .sipush 48, .invokevirtual 0, .return_])]
/-- BanksDealt$Plain.work(III)V -/
def P_59 : bk_P := [(0, [.aload 0, .getfield 231748, .iload 2, .dup2, .iaload, .iload 3, .iadd, .iastore, .aload 0, .getfield 305487, .iload 1, .dup2, .iaload, .sipush 1, .isub, .iastore, .aload 0, .getfield 313680, .iload 1, .dup2, .iaload, .sipush 1, .iadd, .iastore, .return_])]
/-- BanksDealt.lay(III)I -/
def P_60 : bk_P := [(0, [.aload 0, .iload 1, .iload 2, .iload 3, .sipush 1, .invokestatic 3018197, .ireturn])]
/-- BanksDealt.roll(III)I -/
def P_61 : bk_P := [(0, [.aload 0, .getfield 44737, .iload 2, .iload 3, .invokestatic 1770765, .istore 4, .iload 1, .ifCond .lt 32, .iload 1, .aload 0, .getfield 44737, .getfield 331, .if_icmp .ge 32, .iload 4, .sipush (-1), .if_icmp .ne 34, .goto 32]),
  (32, [.sipush (-1), .ireturn]),
  (34, [.aload 0, .getfield 44737, .iload 1, .iload 4, .invokestatic 1773453, .istore 5, .iload 5, .ifCond .ne 72, .aload 0, .getfield 27340, .aload 0, .getfield 44737, .invokestatic 1183304, .aload 0, .getfield 44737, .iload 1, .iload 4, .invokestatic 1773516, .goto 72]),
  (72, [.iload 5, .ireturn])]
/-- BanksDealt$Plain.whyNoRoll(II)I -/
def P_62 : bk_P := [(0, [.aload 0, .getfield 280908, .iload 1, .iaload, .sipush 6, .irem, .iload 2, .sipush 6, .irem, .isub, .invokevirtual 3, .istore 3, .aload 0, .getfield 280908, .iload 1, .iaload, .sipush 6, .idiv, .iload 2, .sipush 6, .idiv, .isub, .invokevirtual 3, .istore 4, .iload 3, .iload 4, .iadd, .sipush 1, .if_icmp .eq 47, .sipush 1, .ireturn]),
  (47, [.aload 0, .getfield 239941, .aload 0, .getfield 280908, .iload 1, .iaload, .invokestatic 1051209, .sipush 2, .if_icmp .ne 68, .sipush 2, .goto 69]),
  (68, [.sipush 0, .goto 69]),
  (69, [.ireturn])]
/-- BanksDealt$Plain.rollTo(II)V -/
def P_63 : bk_P := [(0, [.aload 0, .getfield 280908, .iload 1, .iload 2, .iastore, .aload 0, .getfield 289101, .iload 1, .dup2, .iaload, .sipush 1, .iadd, .iastore, .return_])]
/-- BanksDealt.spring(I)I -/
def P_64 : bk_P := [(0, [.aload 0, .getfield 44737, .getfield 337, .sipush 400, .if_icmp .lt 15, .sipush (-1), .ireturn]),
  (15, [.aload 0, .getfield 27340, .aload 0, .getfield 44737, .invokestatic 1183304, .aload 0, .getfield 68292, .iload 1, .putfield 515, .aload 0, .getfield 68292, .aload 0, .getfield 44737, .invokestatic 1347657, .ireturn])]
/-- BanksDealt$River.flood(LBanksDealt$Plain;)I -/
def P_65 : bk_P := [(0, [.sipush 0, .istore 2, .goto 2]),
  (2, [.iload 2, .aload 1, .getfield 321, .if_icmp .ge 65, .sipush 0, .istore 3, .goto 12]),
  (12, [.iload 3, .aload 1, .getfield 320, .if_icmp .ge 59, .sipush 6, .iload 2, .imul, .iload 3, .iadd, .istore 4, .aload 0, .getfield 371200, .iload 4, .aload 1, .getfield 231748, .iload 4, .iaload, .aload 0, .aload 1, .getfield 323, .sipush 1, .iadd, .invokestatic 1347721, .iadd, .iastore, .iinc 3 (1), .goto 12]),
  (59, [.iinc 2 (1), .goto 2]),
  (65, [.aload 0, .aload 1, .invokestatic 1345736, .aload 1, .aload 0, .getfield 379393, .invokestatic 1249481, .istore 2, .aload 1, .invokestatic 725252, .iload 2, .ireturn])]
/-- BanksDealt$River.draw(I)I -/
def P_66 : bk_P := [(0, [.aload 0, .aload 0, .getfield 515, .sipush 1103515245, .dmul, .sipush 12345, .dadd, .putfield 515, .iload 1, .sipush 1, .if_icmp .ge 24, .sipush 0, .goto 33]),
  (24, [.aload 0, .getfield 515, .sipush 8, .iushr, .iload 1, .irem, .goto 33]),
  (33, [.ireturn])]
/-- BanksDealt$Plain.takeBed([I)I -/
def P_67 : bk_P := [(0, [.sipush 0, .istore 2, .sipush 0, .istore 3, .goto 4]),
  (4, [.iload 3, .aload 0, .getfield 326, .if_icmp .ge 57, .aload 1, .aload 0, .getfield 248135, .iload 3, .iaload, .invokestatic 1051209, .aload 0, .getfield 239941, .aload 0, .getfield 248135, .iload 3, .iaload, .invokestatic 1051209, .if_icmp .eq 51, .aload 0, .getfield 264521, .iload 3, .dup2, .iaload, .sipush 1, .iadd, .iastore, .iinc 2 (1), .goto 51]),
  (51, [.iinc 3 (1), .goto 4]),
  (57, [.aload 0, .getfield 239941, .sipush 0, .aload 0, .getfield 321874, .aload 0, .getfield 337, .sipush 8, .irem, .sipush 6, .imul, .sipush 6, .invokevirtual 0, .aload 1, .sipush 0, .aload 0, .getfield 239941, .sipush 0, .sipush 6, .invokevirtual 0, .aload 0, .dup, .getfield 337, .sipush 1, .iadd, .putfield 337, .iload 2, .ireturn])]
/-- BanksDealt$Plain.earn()V -/
def P_68 : bk_P := [(0, [.sipush 0, .istore 1, .goto 2]),
  (2, [.iload 1, .sipush 1, .if_icmp .gt 81, .aload 0, .aload 0, .getfield 239941, .iload 1, .invokestatic 1772621, .sipush 4, .idiv, .istore 2, .sipush 0, .istore 3, .goto 21]),
  (21, [.iload 3, .aload 0, .getfield 331, .if_icmp .ge 55, .aload 0, .getfield 239941, .aload 0, .getfield 280908, .iload 3, .iaload, .invokestatic 1051209, .iload 1, .if_icmp .ne 49, .iinc 2 (2), .goto 49]),
  (49, [.iinc 3 (1), .goto 21]),
  (55, [.aload 0, .getfield 305487, .iload 1, .sipush 999, .aload 0, .getfield 305487, .iload 1, .iaload, .iload 2, .iadd, .invokevirtual 1, .iastore, .iinc 1 (1), .goto 2]),
  (81, [.return_])]
/-- BanksDealt.years(II)I -/
def P_69 : bk_P := [(0, [.iload 1, .sipush 1, .if_icmp .lt 11, .iload 1, .sipush 30, .if_icmp .le 13, .goto 11]),
  (11, [.sipush (-1), .ireturn]),
  (13, [.aload 0, .getfield 44737, .getfield 337, .sipush 400, .if_icmp .lt 28, .sipush 0, .ireturn]),
  (28, [.aload 0, .getfield 27340, .aload 0, .getfield 44737, .invokestatic 1183304, .aload 0, .getfield 68292, .iload 2, .putfield 515, .aload 0, .getfield 68292, .aload 0, .getfield 44737, .iload 1, .invokestatic 1872269, .ireturn])]
/-- BanksDealt$River.floods(LBanksDealt$Plain;I)I -/
def P_70 : bk_P := [(0, [.sipush 0, .istore 3, .sipush 0, .istore 4, .goto 5]),
  (5, [.iload 4, .iload 2, .if_icmp .ge 36, .aload 1, .getfield 337, .sipush 400, .if_icmp .ge 36, .aload 0, .aload 1, .invokestatic 1347657, .pop, .iinc 3 (1), .iinc 4 (1), .goto 5]),
  (36, [.iload 3, .ireturn])]
/-- BanksDealt.undo()I -/
def P_71 : bk_P := [(0, [.aload 0, .getfield 27340, .getfield 192, .ifCond .ne 12, .sipush (-1), .ireturn]),
  (12, [.aload 0, .getfield 27340, .aload 0, .getfield 44737, .invokestatic 1184264, .aload 0, .getfield 27340, .getfield 192, .ireturn])]
/-- BanksDealt$History.takeBack(LBanksDealt$Plain;)V -/
def P_72 : bk_P := [(0, [.aload 0, .getfield 192, .ifCond .le 46, .aload 0, .aload 0, .getfield 193, .sipush 8, .iadd, .sipush 1, .isub, .sipush 8, .irem, .putfield 193, .aload 0, .dup, .getfield 192, .sipush 1, .isub, .putfield 192, .aload 1, .aload 0, .getfield 223426, .aload 0, .getfield 193, .aaload, .invokestatic 1248904, .goto 46]),
  (46, [.return_])]
/-- BanksDealt.would()I -/
def P_73 : bk_P := [(0, [.aload 0, .getfield 68292, .aload 0, .getfield 44737, .invokestatic 1345608, .aload 0, .getfield 68292, .getfield 514, .ireturn])]
/-- BanksDealt.wouldAt(I)I -/
def P_74 : bk_P := [(0, [.aload 0, .iload 1, .invokestatic 1444681, .ifCond .ne 10, .sipush (-1), .ireturn]),
  (10, [.aload 0, .getfield 68292, .aload 0, .getfield 44737, .invokestatic 1345608, .aload 0, .getfield 68292, .getfield 379393, .iload 1, .iaload, .ireturn])]
/-- BanksDealt.wouldBe(I)I -/
def P_75 : bk_P := [(0, [.iload 1, .ifCond .lt 9, .iload 1, .sipush 2, .if_icmp .le 11, .goto 9]),
  (9, [.sipush (-1), .ireturn]),
  (11, [.aload 0, .getfield 68292, .aload 0, .getfield 44737, .invokestatic 1345608, .aload 0, .getfield 44737, .aload 0, .getfield 68292, .getfield 379393, .iload 1, .invokestatic 1772557, .ireturn])]
/-- BanksDealt.tempted(III)I -/
def P_76 : bk_P := [(0, [.aload 0, .iload 1, .invokestatic 1446729, .ifCond .eq 24, .iload 2, .invokestatic 527301, .ifCond .eq 24, .iload 3, .ifCond .lt 24, .iload 3, .sipush 1, .if_icmp .le 26, .goto 24]),
  (24, [.sipush (-1), .ireturn]),
  (26, [.aload 0, .getfield 60105, .aload 0, .getfield 44737, .iload 1, .iload 2, .iload 3, .sipush 1, .if_icmp .ne 45, .sipush 1, .goto 46]),
  (45, [.sipush (-1), .goto 46]),
  (46, [.invokestatic 2888597, .ireturn])]
/-- BanksDealt.isField(I)Z -/
def P_77 : bk_P := [(0, [.iload 1, .ifCond .lt 19, .iload 1, .aload 0, .getfield 44737, .getfield 326, .if_icmp .ge 19, .sipush 1, .goto 20]),
  (19, [.sipush 0, .goto 20]),
  (20, [.freturn])]
/-- BanksDealt$Plans.tempt(LBanksDealt$Plain;III)I -/
def P_78 : bk_P := [(0, [.aload 0, .getfield 1116614, .aload 1, .invokestatic 1345672, .aload 0, .iload 2, .putfield 458, .aload 0, .iload 3, .putfield 459, .aload 0, .aload 1, .iload 3, .iload 4, .sipush (-1), .if_icmp .ne 31, .sipush 0, .goto 33]),
  (31, [.sipush 36, .goto 33]),
  (33, [.iload 4, .sipush (-1), .if_icmp .ne 44, .sipush 36, .goto 46]),
  (44, [.sipush 72, .goto 46]),
  (46, [.invokestatic 2888660, .sipush 0, .istore 5, .goto 52]),
  (52, [.iload 5, .aload 0, .getfield 362953, .arraylength, .if_icmp .gt 122, .aload 0, .aload 1, .sipush 0, .iload 5, .sipush 0, .invokestatic 2888789, .ifCond .eq 116, .sipush 0, .istore 6, .goto 77]),
  (77, [.iload 6, .iload 5, .if_icmp .ge 107, .aload 0, .getfield 330176, .iload 6, .aload 0, .getfield 362953, .iload 6, .iaload, .sipush 36, .irem, .iastore, .iinc 6 (1), .goto 77]),
  (107, [.aload 0, .iload 5, .putfield 449, .iload 5, .ireturn]),
  (116, [.iinc 5 (1), .goto 52]),
  (122, [.sipush (-1), .ireturn])]
/-- BanksDealt$Plans.listWorks(LBanksDealt$Plain;III)V -/
def P_79 : bk_P := [(0, [.aload 0, .sipush 0, .putfield 456, .iload 3, .istore 5, .goto 8]),
  (8, [.iload 5, .iload 4, .if_icmp .ge 65, .aload 0, .getfield 456, .aload 0, .getfield 354759, .arraylength, .if_icmp .ge 65, .aload 0, .aload 1, .iload 2, .iload 5, .invokestatic 2364433, .ifCond .eq 59, .aload 0, .getfield 354759, .aload 0, .getfield 456, .iload 5, .iastore, .aload 0, .dup, .getfield 456, .sipush 1, .iadd, .putfield 456, .goto 59]),
  (59, [.iinc 5 (1), .goto 8]),
  (65, [.return_])]
/-- BanksDealt$Plans.may(LBanksDealt$Plain;II)Z -/
def P_80 : bk_P := [(0, [.iload 3, .sipush 36, .irem, .istore 4, .iload 4, .sipush 6, .irem, .istore 5, .iload 4, .sipush 6, .idiv, .istore 6, .iload 6, .sipush 1, .if_icmp .lt 59, .iload 6, .aload 1, .getfield 321, .if_icmp .ge 59, .iload 5, .aload 1, .getfield 320, .if_icmp .ge 59, .iload 5, .aload 1, .getfield 322, .isub, .invokevirtual 3, .iload 6, .if_icmp .le 61, .goto 59]),
  (59, [.sipush 0, .freturn]),
  (61, [.aload 1, .getfield 239941, .iload 4, .invokestatic 1051209, .sipush 1, .iload 2, .isub, .if_icmp .ne 78, .sipush 0, .freturn]),
  (78, [.iload 3, .sipush 36, .if_icmp .ge 105, .aload 0, .getfield 1116614, .getfield 371200, .iload 4, .iaload, .ifCond .le 101, .sipush 1, .goto 125]),
  (101, [.sipush 0, .goto 125]),
  (105, [.aload 0, .getfield 1116614, .getfield 371200, .iload 4, .iaload, .sipush 9, .if_icmp .ge 124, .sipush 1, .goto 125]),
  (124, [.sipush 0, .goto 125]),
  (125, [.freturn])]
/-- BanksDealt$Plans.tempts(LBanksDealt$Plain;III)Z -/
def P_81 : bk_P := [(0, [.iload 2, .iload 3, .if_icmp .ge 14, .iload 2, .aload 0, .getfield 362953, .arraylength, .if_icmp .lt 54, .goto 14]),
  (14, [.aload 0, .getfield 1116614, .aload 1, .invokestatic 1345736, .aload 0, .getfield 1116614, .getfield 379393, .aload 1, .getfield 248135, .aload 0, .getfield 458, .iaload, .invokestatic 1051209, .aload 0, .getfield 459, .if_icmp .ne 52, .sipush 1, .goto 53]),
  (52, [.sipush 0, .goto 53]),
  (53, [.freturn]),
  (54, [.iload 4, .istore 5, .goto 58]),
  (58, [.iload 5, .aload 0, .getfield 456, .if_icmp .ge 130, .aload 0, .getfield 362953, .iload 2, .aload 0, .getfield 354759, .iload 5, .iaload, .iastore, .aload 0, .aload 0, .getfield 354759, .iload 5, .iaload, .invokestatic 1315976, .aload 0, .aload 1, .iload 2, .sipush 1, .iadd, .iload 3, .iload 5, .sipush 1, .iadd, .invokestatic 2888789, .istore 6, .aload 0, .aload 0, .getfield 354759, .iload 5, .iaload, .invokestatic 1316040, .iload 6, .ifCond .eq 124, .sipush 1, .freturn]),
  (124, [.iinc 5 (1), .goto 58]),
  (130, [.sipush 0, .freturn])]
/-- BanksDealt$Plans.apply(I)V -/
def P_82 : bk_P := [(0, [.aload 0, .getfield 1116614, .getfield 371200, .iload 1, .sipush 36, .irem, .dup2, .iaload, .iload 1, .sipush 36, .if_icmp .ge 23, .sipush (-1), .goto 24]),
  (23, [.sipush 1, .goto 24]),
  (24, [.iadd, .iastore, .return_])]
/-- BanksDealt$Plans.takeBack(I)V -/
def P_83 : bk_P := [(0, [.aload 0, .getfield 1116614, .getfield 371200, .iload 1, .sipush 36, .irem, .dup2, .iaload, .iload 1, .sipush 36, .if_icmp .ge 23, .sipush (-1), .goto 24]),
  (23, [.sipush 1, .goto 24]),
  (24, [.isub, .iastore, .return_])]
/-- BanksDealt.temptedAt(I)I -/
def P_84 : bk_P := [(0, [.iload 1, .ifCond .lt 27, .iload 1, .aload 0, .getfield 60105, .getfield 449, .if_icmp .ge 27, .aload 0, .getfield 60105, .getfield 330176, .iload 1, .iaload, .goto 28]),
  (27, [.sipush (-1), .goto 28]),
  (28, [.ireturn])]
/-- BanksDealt.duelAt(I)I -/
def P_85 : bk_P := [(0, [.aload 0, .getfield 60105, .getfield 4547, .ifCond .eq 31, .iload 1, .ifCond .lt 31, .iload 1, .sipush 2, .if_icmp .ge 31, .aload 0, .getfield 60105, .getfield 338370, .iload 1, .iaload, .goto 32]),
  (31, [.sipush (-1), .goto 32]),
  (32, [.ireturn])]
/-- BanksDealt.pushed(II)I -/
def P_86 : bk_P := [(0, [.iload 1, .invokestatic 527301, .ifCond .eq 16, .iload 2, .ifCond .lt 16, .iload 2, .sipush 2, .if_icmp .le 18, .goto 16]),
  (16, [.sipush (-1), .ireturn]),
  (18, [.aload 0, .getfield 60105, .aload 0, .getfield 44737, .iload 1, .iload 2, .invokestatic 2364881, .ireturn])]
/-- BanksDealt$Plans.push(LBanksDealt$Plain;II)I -/
def P_87 : bk_P := [(0, [.aload 0, .getfield 1116614, .aload 1, .invokestatic 1345672, .aload 0, .aload 1, .iload 2, .sipush 0, .sipush 72, .invokestatic 2888660, .aload 0, .sipush 0, .putfield 453, .aload 0, .getfield 1116614, .aload 1, .invokestatic 1345736, .aload 0, .aload 1, .aload 0, .getfield 1116614, .getfield 379393, .iload 2, .invokestatic 1772621, .putfield 461, .sipush 0, .istore 4, .goto 49]),
  (49, [.iload 4, .aload 0, .getfield 456, .if_icmp .ge 106, .iload 3, .sipush 1, .if_icmp .lt 106, .aload 0, .aload 0, .getfield 354759, .iload 4, .iaload, .invokestatic 1315976, .aload 0, .aload 1, .iload 2, .aload 0, .getfield 354759, .iload 4, .iaload, .sipush (-2), .invokestatic 2889236, .aload 0, .aload 0, .getfield 354759, .iload 4, .iaload, .invokestatic 1316040, .iinc 4 (1), .goto 49]),
  (106, [.sipush 0, .istore 4, .goto 109]),
  (109, [.iload 4, .aload 0, .getfield 456, .if_icmp .ge 234, .iload 3, .sipush 2, .if_icmp .lt 234, .aload 0, .aload 0, .getfield 354759, .iload 4, .iaload, .invokestatic 1315976, .iload 4, .sipush 1, .iadd, .istore 5, .goto 140]),
  (140, [.iload 5, .aload 0, .getfield 456, .if_icmp .ge 217, .aload 0, .getfield 354759, .iload 5, .iaload, .aload 0, .getfield 354759, .iload 4, .iaload, .sipush 36, .iadd, .if_icmp .eq 211, .aload 0, .aload 0, .getfield 354759, .iload 5, .iaload, .invokestatic 1315976, .aload 0, .aload 1, .iload 2, .aload 0, .getfield 354759, .iload 4, .iaload, .aload 0, .getfield 354759, .iload 5, .iaload, .invokestatic 2889236, .aload 0, .aload 0, .getfield 354759, .iload 5, .iaload, .invokestatic 1316040, .goto 211]),
  (211, [.iinc 5 (1), .goto 140]),
  (217, [.aload 0, .aload 0, .getfield 354759, .iload 4, .iaload, .invokestatic 1316040, .iinc 4 (1), .goto 109]),
  (234, [.aload 0, .getfield 461, .ireturn])]
/-- BanksDealt$Plans.weigh(LBanksDealt$Plain;III)V -/
def P_88 : bk_P := [(0, [.aload 0, .getfield 1116614, .aload 1, .invokestatic 1345736, .aload 1, .aload 0, .getfield 1116614, .getfield 379393, .iload 2, .invokestatic 1772621, .istore 5, .iload 5, .aload 0, .getfield 461, .if_icmp .le 68, .aload 0, .iload 5, .putfield 461, .aload 0, .getfield 346564, .sipush 0, .iload 3, .iastore, .aload 0, .getfield 346564, .sipush 1, .iload 4, .iastore, .aload 0, .iload 4, .sipush (-2), .if_icmp .ne 64, .sipush 1, .goto 65]),
  (64, [.sipush 2, .goto 65]),
  (65, [.putfield 453, .goto 68]),
  (68, [.return_])]
/-- BanksDealt.pushedAt(I)I -/
def P_89 : bk_P := [(0, [.iload 1, .ifCond .lt 27, .iload 1, .aload 0, .getfield 60105, .getfield 453, .if_icmp .ge 27, .aload 0, .getfield 60105, .getfield 346564, .iload 1, .iaload, .goto 28]),
  (27, [.sipush (-1), .goto 28]),
  (28, [.ireturn])]
/-- BanksDealt.ago(II)I -/
def P_90 : bk_P := [(0, [.iload 1, .sipush 1, .if_icmp .lt 30, .iload 1, .sipush 8, .if_icmp .gt 30, .iload 1, .aload 0, .getfield 44737, .getfield 337, .if_icmp .gt 30, .aload 0, .iload 2, .invokestatic 1444681, .ifCond .ne 32, .goto 30]),
  (30, [.sipush (-1), .ireturn]),
  (32, [.aload 0, .getfield 44737, .getfield 321874, .aload 0, .getfield 44737, .getfield 337, .iload 1, .isub, .sipush 8, .irem, .sipush 6, .imul, .iload 2, .iadd, .iaload, .ireturn])]
/-- BanksDealt.shares(IIII)I -/
def P_91 : bk_P := [(0, [.iload 1, .invokestatic 527301, .ifCond .eq 15, .iload 2, .iload 3, .invokestatic 1054473, .ifCond .ne 17, .goto 15]),
  (15, [.sipush (-1), .ireturn]),
  (17, [.sipush 0, .istore 5, .sipush 0, .istore 6, .goto 23]),
  (23, [.iload 6, .iload 3, .if_icmp .ge 109, .aload 0, .getfield 2140867, .aload 0, .getfield 44737, .invokestatic 1248904, .aload 0, .getfield 68292, .iload 4, .iload 6, .dadd, .putfield 515, .sipush 0, .istore 7, .goto 55]),
  (55, [.iload 7, .iload 2, .if_icmp .ge 103, .aload 0, .getfield 68292, .aload 0, .getfield 2140867, .sipush 1, .invokestatic 1872269, .sipush 1, .if_icmp .ne 103, .iload 5, .aload 0, .getfield 2140867, .aload 0, .getfield 2140867, .getfield 239941, .iload 1, .invokestatic 1772621, .dadd, .istore 5, .iinc 7 (1), .goto 55]),
  (103, [.iinc 6 (1), .goto 23]),
  (109, [.iload 5, .ireturn])]
/-- BanksDealt.areTrials(II)Z -/
def P_92 : bk_P := [(0, [.iload 0, .sipush 1, .if_icmp .lt 26, .iload 0, .sipush 10, .if_icmp .gt 26, .iload 1, .sipush 1, .if_icmp .lt 26, .iload 1, .sipush 30, .if_icmp .gt 26, .sipush 1, .goto 27]),
  (26, [.sipush 0, .goto 27]),
  (27, [.freturn])]
/-- BanksDealt.ran()I -/
def P_93 : bk_P := [(0, [.aload 0, .getfield 10954, .aload 0, .getfield 84672, .aload 0, .getfield 44737, .invokestatic 1644429, .istore 1, .aload 0, .getfield 84672, .sipush 0, .putfield 641, .iload 1, .ireturn])]
/-- BanksDealt$Bygone.findBeds(LBanksDealt$Tape;LBanksDealt$Plain;)I -/
def P_94 : bk_P := [(0, [.aload 0, .aload 1, .aload 2, .invokestatic 1644493, .ifCond .ne 11, .sipush (-1), .ireturn]),
  (11, [.aload 0, .aload 2, .invokestatic 1120265, .istore 3, .iload 3, .ifCond .le 39, .aload 0, .aload 2, .getfield 321, .putfield 66, .aload 0, .aload 2, .invokestatic 1120392, .aload 0, .aload 2, .invokestatic 1120456, .goto 39]),
  (39, [.iload 3, .ireturn])]
/-- BanksDealt$Bygone.readPairs(LBanksDealt$Tape;LBanksDealt$Plain;)Z -/
def P_95 : bk_P := [(0, [.aload 1, .getfield 641, .sipush 2, .if_icmp .lt 26, .aload 1, .getfield 641, .sipush 20, .if_icmp .gt 26, .aload 1, .getfield 641, .sipush 2, .irem, .ifCond .eq 28, .goto 26]),
  (26, [.sipush 0, .freturn]),
  (28, [.sipush 0, .istore 3, .goto 30]),
  (30, [.iload 3, .sipush 6, .if_icmp .ge 61, .aload 0, .getfield 182339, .iload 3, .sipush 0, .iastore, .aload 0, .getfield 190532, .iload 3, .aload 2, .getfield 320, .sipush 1, .isub, .iastore, .iinc 3 (1), .goto 30]),
  (61, [.sipush 0, .istore 3, .goto 63]),
  (63, [.iload 3, .sipush 1, .iadd, .aload 1, .getfield 641, .if_icmp .ge 212, .aload 1, .getfield 436864, .iload 3, .iaload, .istore 4, .aload 1, .getfield 436864, .iload 3, .sipush 1, .iadd, .iaload, .istore 5, .iload 4, .aload 2, .getfield 326, .if_icmp .ge 106, .iload 5, .sipush 2, .if_icmp .le 108, .goto 106]),
  (106, [.sipush 0, .freturn]),
  (108, [.aload 2, .getfield 248135, .iload 4, .iaload, .sipush 6, .irem, .istore 6, .aload 2, .getfield 248135, .iload 4, .iaload, .sipush 6, .idiv, .istore 7, .iload 5, .sipush 1, .if_icmp .eq 169, .aload 0, .getfield 182339, .iload 7, .aload 0, .getfield 182339, .iload 7, .iaload, .iload 5, .ifCond .ne 163, .iload 6, .sipush 1, .iadd, .goto 165]),
  (163, [.iload 6, .goto 165]),
  (165, [.invokevirtual 2, .iastore, .goto 169]),
  (169, [.iload 5, .ifCond .eq 206, .aload 0, .getfield 190532, .iload 7, .aload 0, .getfield 190532, .iload 7, .iaload, .iload 5, .sipush 1, .if_icmp .ne 200, .iload 6, .sipush 1, .isub, .goto 202]),
  (200, [.iload 6, .goto 202]),
  (202, [.invokevirtual 1, .iastore, .goto 206]),
  (206, [.iinc 3 (2), .goto 63]),
  (212, [.sipush 1, .freturn])]
/-- BanksDealt$Bygone.countBeds(LBanksDealt$Plain;)I -/
def P_96 : bk_P := [(0, [.sipush 0, .istore 2, .aload 1, .getfield 321, .sipush 1, .isub, .istore 3, .goto 9]),
  (9, [.iload 3, .ifCond .lt 99, .sipush 0, .istore 2, .sipush 0, .istore 4, .goto 18]),
  (18, [.iload 4, .aload 1, .getfield 320, .if_icmp .ge 93, .sipush 6, .iload 3, .imul, .iload 4, .iadd, .istore 5, .aload 0, .getfield 198725, .iload 5, .iload 4, .aload 0, .getfield 182339, .iload 3, .iaload, .if_icmp .lt 64, .iload 4, .aload 0, .getfield 190532, .iload 3, .iaload, .if_icmp .le 68, .goto 64]),
  (64, [.sipush 0, .goto 76]),
  (68, [.aload 0, .aload 1, .iload 4, .iload 3, .invokestatic 2168913, .goto 76]),
  (76, [.iastore, .iload 2, .aload 0, .getfield 198725, .iload 5, .iaload, .iadd, .istore 2, .iinc 4 (1), .goto 18]),
  (93, [.iinc 3 (-1), .goto 9]),
  (99, [.iload 2, .ireturn])]
/-- BanksDealt$Bygone.waysOn(LBanksDealt$Plain;II)I -/
def P_97 : bk_P := [(0, [.iload 3, .aload 1, .getfield 321, .sipush 1, .isub, .if_icmp .ne 12, .sipush 1, .ireturn]),
  (12, [.sipush 0, .istore 4, .sipush 0, .iload 2, .sipush 1, .isub, .invokevirtual 2, .istore 5, .goto 24]),
  (24, [.iload 5, .iload 2, .sipush 1, .iadd, .if_icmp .gt 66, .iload 5, .aload 1, .getfield 320, .if_icmp .ge 66, .iload 4, .aload 0, .getfield 198725, .sipush 6, .iload 3, .sipush 1, .iadd, .imul, .iload 5, .iadd, .iaload, .iadd, .istore 4, .iinc 5 (1), .goto 24]),
  (66, [.iload 4, .ireturn])]
/-- BanksDealt$Bygone.keepFirst(LBanksDealt$Plain;)V -/
def P_98 : bk_P := [(0, [.sipush 0, .istore 2, .sipush 0, .istore 3, .goto 4]),
  (4, [.iload 3, .aload 1, .getfield 321, .if_icmp .ge 70, .iload 2, .istore 4, .goto 15]),
  (15, [.iload 4, .aload 1, .getfield 320, .sipush 1, .isub, .if_icmp .ge 47, .aload 0, .getfield 198725, .sipush 6, .iload 3, .imul, .iload 4, .iadd, .iaload, .ifCond .ne 47, .iinc 4 (1), .goto 15]),
  (47, [.aload 0, .getfield 165952, .iload 3, .iload 4, .iastore, .sipush 0, .iload 4, .sipush 1, .isub, .invokevirtual 2, .istore 2, .iinc 3 (1), .goto 4]),
  (70, [.return_])]
/-- BanksDealt$Bygone.keepSure(LBanksDealt$Plain;)V -/
def P_99 : bk_P := [(0, [.sipush 0, .istore 2, .goto 2]),
  (2, [.iload 2, .aload 1, .getfield 321, .if_icmp .ge 117, .sipush 0, .istore 3, .sipush 0, .istore 4, .goto 15]),
  (15, [.iload 4, .aload 1, .getfield 320, .if_icmp .ge 99, .sipush 6, .iload 2, .imul, .iload 4, .iadd, .istore 5, .aload 0, .getfield 206918, .iload 5, .aload 0, .getfield 198725, .iload 5, .iaload, .ifCond .le 70, .iload 2, .ifCond .eq 66, .aload 0, .aload 1, .iload 4, .iload 2, .sipush 1, .isub, .invokestatic 2169105, .ifCond .eq 70, .goto 66]),
  (66, [.sipush 1, .goto 71]),
  (70, [.sipush 0, .goto 71]),
  (71, [.bastore, .aload 0, .getfield 206918, .iload 5, .baload, .ifCond .eq 93, .iinc 3 (1), .aload 0, .getfield 174145, .iload 2, .iload 4, .iastore, .goto 93]),
  (93, [.iinc 4 (1), .goto 15]),
  (99, [.iload 3, .sipush 1, .if_icmp .eq 111, .aload 0, .getfield 174145, .iload 2, .sipush (-1), .iastore, .goto 111]),
  (111, [.iinc 2 (1), .goto 2]),
  (117, [.return_])]
/-- BanksDealt$Bygone.isReached(LBanksDealt$Plain;II)Z -/
def P_100 : bk_P := [(0, [.sipush 0, .iload 2, .sipush 1, .isub, .invokevirtual 2, .istore 4, .goto 9]),
  (9, [.iload 4, .iload 2, .sipush 1, .iadd, .if_icmp .gt 49, .iload 4, .aload 1, .getfield 320, .if_icmp .ge 49, .aload 0, .getfield 206918, .sipush 6, .iload 3, .imul, .iload 4, .iadd, .baload, .ifCond .eq 43, .sipush 1, .freturn]),
  (43, [.iinc 4 (1), .goto 9]),
  (49, [.sipush 0, .freturn])]
/-- BanksDealt.ranAt(I)I -/
def P_101 : bk_P := [(0, [.iload 1, .ifCond .lt 27, .iload 1, .aload 0, .getfield 10954, .getfield 66, .if_icmp .ge 27, .aload 0, .getfield 10954, .getfield 165952, .iload 1, .iaload, .goto 28]),
  (27, [.sipush (-1), .goto 28]),
  (28, [.ireturn])]
/-- BanksDealt.sure(I)I -/
def P_102 : bk_P := [(0, [.iload 1, .ifCond .lt 27, .iload 1, .aload 0, .getfield 10954, .getfield 66, .if_icmp .ge 27, .aload 0, .getfield 10954, .getfield 174145, .iload 1, .iaload, .goto 28]),
  (27, [.sipush (-1), .goto 28]),
  (28, [.ireturn])]
/-- BanksDealt.odds(IIIII)I -/
def P_103 : bk_P := [(0, [.aload 0, .iload 1, .invokestatic 1446729, .ifCond .eq 26, .iload 2, .ifCond .lt 26, .iload 2, .sipush 2, .if_icmp .gt 26, .iload 3, .iload 4, .invokestatic 1054473, .ifCond .ne 28, .goto 26]),
  (26, [.sipush (-1), .ireturn]),
  (28, [.sipush 0, .istore 6, .sipush 0, .istore 7, .goto 34]),
  (34, [.iload 7, .iload 4, .if_icmp .ge 109, .aload 0, .getfield 2140867, .aload 0, .getfield 44737, .invokestatic 1248904, .aload 0, .getfield 68292, .iload 5, .iload 7, .dadd, .putfield 515, .aload 0, .getfield 68292, .aload 0, .getfield 2140867, .iload 3, .invokestatic 1872269, .pop, .aload 0, .getfield 2140867, .getfield 239941, .aload 0, .getfield 2140867, .getfield 248135, .iload 1, .iaload, .invokestatic 1051209, .iload 2, .if_icmp .ne 103, .iinc 6 (1), .goto 103]),
  (103, [.iinc 7 (1), .goto 34]),
  (109, [.iload 6, .ireturn])]
/-- BanksDealt.richest(I)I -/
def P_104 : bk_P := [(0, [.iload 1, .invokestatic 527301, .ifCond .ne 9, .sipush (-1), .ireturn]),
  (9, [.sipush (-1), .istore 2, .sipush 0, .istore 3, .sipush 0, .istore 4, .goto 16]),
  (16, [.iload 4, .aload 0, .getfield 44737, .getfield 326, .if_icmp .ge 86, .aload 0, .getfield 44737, .getfield 256328, .iload 4, .iaload, .iload 3, .if_icmp .le 80, .aload 0, .getfield 44737, .getfield 239941, .aload 0, .getfield 44737, .getfield 248135, .iload 4, .iaload, .invokestatic 1051209, .iload 1, .if_icmp .ne 80, .iload 4, .istore 2, .aload 0, .getfield 44737, .getfield 256328, .iload 4, .iaload, .istore 3, .goto 80]),
  (80, [.iinc 4 (1), .goto 16]),
  (86, [.iload 2, .ireturn])]
/-- BanksDealt.deed(I)I -/
def P_105 : bk_P := [(0, [.aload 0, .iload 1, .invokestatic 1446729, .ifCond .ne 10, .sipush (-1), .ireturn]),
  (10, [.aload 0, .getfield 19147, .aload 0, .getfield 44737, .iload 1, .invokestatic 1677964, .aload 0, .getfield 19147, .getfield 129, .ireturn])]
/-- BanksDealt$Deed.write(LBanksDealt$Plain;I)V -/
def P_106 : bk_P := [(0, [.aload 0, .sipush 0, .putfield 129, .aload 1, .getfield 248135, .iload 2, .iaload, .istore 3, .aload 1, .getfield 239941, .iload 3, .invokestatic 1051209, .istore 4, .aload 0, .aload 1, .getfield 272714, .iload 2, .laload, .invokestatic 1678024, .aload 0, .iload 4, .ifCond .ne 43, .ldc 0, .goto 56]),
  (43, [.iload 4, .sipush 1, .if_icmp .ne 54, .ldc 1, .goto 56]),
  (54, [.ldc 2, .goto 56]),
  (56, [.invokestatic 1153864, .aload 0, .ldc 3, .invokestatic 1153864, .aload 0, .sipush 48, .iload 3, .sipush 6, .irem, .iadd, .invokestatic 1153800, .aload 0, .sipush 32, .invokestatic 1153800, .aload 0, .sipush 48, .iload 3, .sipush 6, .idiv, .iadd, .invokestatic 1153800, .return_])]
/-- BanksDealt$Deed.putName(J)V -/
def P_107 : bk_P := [(0, [.sipush 6, .istore 3, .goto 3]),
  (3, [.iload 3, .ifCond .lt 41, .lload 1, .sipush 5, .iload 3, .imul, .lshr, .bipush 31, .land, .l2i, .istore 4, .iload 4, .ifCond .le 35, .aload 0, .sipush 97, .iload 4, .iadd, .sipush 1, .isub, .invokestatic 1153800, .goto 35]),
  (35, [.iinc 3 (-1), .goto 3]),
  (41, [.return_])]
/-- BanksDealt$Deed.put(I)V -/
def P_108 : bk_P := [(0, [.aload 0, .getfield 129, .aload 0, .getfield 215168, .arraylength, .if_icmp .ge 32, .aload 0, .getfield 215168, .aload 0, .getfield 129, .iload 1, .iastore, .aload 0, .dup, .getfield 129, .sipush 1, .iadd, .putfield 129, .goto 32]),
  (32, [.return_])]
/-- BanksDealt$Deed.putText(Ljava.lang.String;)V -/
def P_109 : bk_P := [(0, [.sipush 0, .istore 2, .goto 2]),
  (2, [.iload 2, .aload 1, .invokevirtual 4, .if_icmp .ge 25, .aload 0, .aload 1, .iload 2, .invokevirtual 5, .invokestatic 1153800, .iinc 2 (1), .goto 2]),
  (25, [.return_])]
/-- BanksDealt.byteAt(I)I -/
def P_110 : bk_P := [(0, [.iload 1, .ifCond .lt 27, .iload 1, .aload 0, .getfield 19147, .getfield 129, .if_icmp .ge 27, .aload 0, .getfield 19147, .getfield 215168, .iload 1, .iaload, .goto 28]),
  (27, [.sipush (-1), .goto 28]),
  (28, [.ireturn])]
/-- BanksDealt.book(I)I -/
def P_111 : bk_P := [(0, [.iload 1, .ifCond .eq 13, .iload 1, .sipush 1, .if_icmp .eq 13, .sipush (-1000), .ireturn]),
  (13, [.aload 0, .getfield 2758, .aload 0, .getfield 84672, .aload 0, .getfield 44737, .invokestatic 1612813, .istore 2, .aload 0, .invokestatic 919492, .iload 2, .ifCond .ne 48, .sipush (-2), .aload 0, .getfield 84672, .getfield 647, .isub, .ireturn]),
  (48, [.aload 0, .getfield 2140867, .aload 0, .getfield 44737, .invokestatic 1248904, .aload 0, .getfield 2758, .aload 0, .getfield 2140867, .aload 0, .getfield 68292, .invokestatic 1613133, .istore 3, .aload 0, .getfield 461518, .sipush 0, .aload 0, .getfield 2758, .getfield 0, .iastore, .aload 0, .getfield 461518, .sipush 1, .iload 3, .iastore, .aload 0, .getfield 461518, .sipush 2, .aload 0, .getfield 2140867, .getfield 337, .iastore, .aload 0, .getfield 461518, .sipush 3, .aload 0, .getfield 2140867, .aload 0, .getfield 2140867, .getfield 239941, .sipush 0, .invokestatic 1772557, .iastore, .aload 0, .sipush 1, .putfield 4815, .iload 1, .sipush 1, .if_icmp .ne 165, .iload 3, .ifCond .le 165, .aload 0, .getfield 27340, .aload 0, .getfield 44737, .invokestatic 1183304, .aload 0, .getfield 44737, .aload 0, .getfield 2140867, .invokestatic 1248904, .goto 165]),
  (165, [.aload 0, .getfield 2758, .getfield 0, .ifCond .ne 179, .sipush (-1), .goto 180]),
  (179, [.iload 3, .goto 180]),
  (180, [.ireturn])]
/-- BanksDealt$Book.readText(LBanksDealt$Tape;LBanksDealt$Plain;)Z -/
def P_112 : bk_P := [(0, [.aload 0, .sipush 0, .putfield 1, .aload 1, .sipush 400, .invokestatic 1409416, .sipush 0, .istore 3, .goto 14]),
  (14, [.iload 3, .sipush 40, .if_icmp .gt 69, .aload 1, .getfield 642, .ifCond .ne 29, .sipush 1, .freturn]),
  (29, [.aload 0, .aload 1, .aload 2, .invokestatic 1612877, .ifCond .eq 47, .aload 1, .sipush 59, .invokestatic 1410953, .ifCond .ne 49, .goto 47]),
  (47, [.sipush 0, .freturn]),
  (49, [.aload 0, .dup, .getfield 1, .sipush 1, .iadd, .putfield 1, .aload 1, .invokestatic 885188, .iinc 3 (1), .goto 14]),
  (69, [.sipush 0, .freturn])]
/-- BanksDealt$Book.readLine(LBanksDealt$Tape;LBanksDealt$Plain;)Z -/
def P_113 : bk_P := [(0, [.aload 1, .invokestatic 886277, .ifCond .eq 25, .aload 2, .getfield 297294, .aload 2, .getfield 331, .aload 1, .getfield 1667, .invokestatic 2097869, .goto 26]),
  (25, [.sipush (-1), .goto 26]),
  (26, [.istore 3, .aload 1, .invokestatic 886277, .ifCond .eq 45, .iload 3, .sipush (-1), .if_icmp .ne 45, .aload 1, .sipush 3, .invokestatic 1410057, .freturn]),
  (45, [.iload 3, .sipush (-1), .if_icmp .ne 63, .aload 1, .invokestatic 531589, .ifCond .ne 63, .aload 1, .sipush 1, .invokestatic 1410057, .freturn]),
  (63, [.aload 0, .getfield 1, .sipush 40, .if_icmp .lt 78, .aload 1, .sipush 4, .invokestatic 1410057, .freturn]),
  (78, [.aload 0, .getfield 133122, .aload 0, .getfield 1, .aload 1, .getfield 644, .iastore, .aload 1, .sipush 12, .invokestatic 1410825, .ifCond .eq 110, .aload 0, .aload 1, .sipush 0, .sipush 999, .invokestatic 2137297, .freturn]),
  (110, [.aload 1, .sipush 13, .invokestatic 1410825, .ifCond .eq 128, .aload 0, .aload 1, .sipush 1, .sipush 30, .invokestatic 2137297, .freturn]),
  (128, [.aload 0, .getfield 141315, .aload 0, .getfield 1, .iload 3, .sipush (-1), .if_icmp .eq 145, .iload 3, .goto 159]),
  (145, [.aload 1, .getfield 644, .sipush 6, .if_icmp .ne 158, .sipush 0, .goto 159]),
  (158, [.sipush 1, .goto 159]),
  (159, [.iastore, .aload 1, .invokestatic 885188, .iload 3, .sipush (-1), .if_icmp .eq 178, .aload 1, .sipush 11, .invokestatic 1410825, .goto 201]),
  (178, [.aload 1, .sipush 9, .invokestatic 1410825, .ifCond .ne 196, .aload 1, .sipush 10, .invokestatic 1410825, .ifCond .eq 200, .goto 196]),
  (196, [.sipush 1, .goto 201]),
  (200, [.sipush 0, .goto 201]),
  (201, [.istore 4, .iload 4, .ifCond .eq 216, .aload 0, .aload 1, .invokestatic 1088777, .goto 221]),
  (216, [.aload 1, .sipush 1, .invokestatic 1410057, .goto 221]),
  (221, [.freturn])]
/-- BanksDealt$Book.isBeginning(LBanksDealt$Tape;)Z -/
def P_114 : bk_P := [(0, [.aload 0, .sipush 6, .invokestatic 1410825, .ifCond .ne 36, .aload 0, .sipush 7, .invokestatic 1410825, .ifCond .ne 36, .aload 0, .sipush 12, .invokestatic 1410825, .ifCond .ne 36, .aload 0, .sipush 13, .invokestatic 1410825, .ifCond .eq 40, .goto 36]),
  (36, [.sipush 1, .goto 41]),
  (40, [.sipush 0, .goto 41]),
  (41, [.freturn])]
/-- BanksDealt$Book.readOne(LBanksDealt$Tape;II)Z -/
def P_115 : bk_P := [(0, [.aload 1, .iload 2, .iload 3, .invokestatic 1934413, .ifCond .ne 11, .sipush 0, .freturn]),
  (11, [.aload 0, .getfield 149508, .aload 0, .getfield 1, .aload 1, .getfield 645, .iastore, .sipush 1, .freturn])]
/-- BanksDealt$Book.readPlace(LBanksDealt$Tape;)Z -/
def P_116 : bk_P := [(0, [.aload 0, .getfield 133122, .aload 0, .getfield 1, .aload 1, .getfield 644, .iastore, .aload 0, .aload 1, .sipush 0, .sipush 5, .invokestatic 2137297, .ifCond .eq 32, .aload 1, .sipush 0, .sipush 5, .invokestatic 1934413, .ifCond .ne 34, .goto 32]),
  (32, [.sipush 0, .freturn]),
  (34, [.aload 0, .getfield 157701, .aload 0, .getfield 1, .aload 1, .getfield 645, .iastore, .sipush 1, .freturn])]
/-- BanksDealt$Book.live(LBanksDealt$Plain;LBanksDealt$River;)I -/
def P_117 : bk_P := [(0, [.aload 0, .sipush 0, .putfield 0, .sipush 0, .istore 3, .goto 7]),
  (7, [.iload 3, .aload 0, .getfield 1, .if_icmp .ge 41, .aload 0, .aload 0, .aload 1, .aload 2, .iload 3, .invokestatic 2137489, .putfield 0, .aload 0, .getfield 0, .ifCond .eq 35, .iload 3, .ireturn]),
  (35, [.iinc 3 (1), .goto 7]),
  (41, [.aload 0, .getfield 1, .ireturn])]
/-- BanksDealt$Book.liveLine(LBanksDealt$Plain;LBanksDealt$River;I)I -/
def P_118 : bk_P := [(0, [.aload 0, .getfield 133122, .iload 3, .iaload, .tableswitch 58 9 11 #[32, 41, 51]]),
  (32, [.aload 0, .aload 1, .iload 3, .sipush (-1), .sipush 0, .invokestatic 2661845, .ireturn]),
  (41, [.aload 0, .aload 1, .iload 3, .sipush 1, .sipush 10, .invokestatic 2661845, .ireturn]),
  (51, [.aload 0, .aload 1, .iload 3, .invokestatic 1613325, .ireturn]),
  (58, [.aload 0, .aload 1, .aload 2, .iload 3, .invokestatic 2137681, .ireturn])]
/-- BanksDealt$Book.liveWork(LBanksDealt$Plain;III)I -/
def P_119 : bk_P := [(0, [.aload 1, .aload 0, .getfield 149508, .iload 2, .iaload, .aload 0, .getfield 157701, .iload 2, .iaload, .invokestatic 1770765, .istore 5, .iload 5, .sipush (-1), .if_icmp .ne 30, .iload 4, .sipush 9, .iadd, .ireturn]),
  (30, [.aload 1, .aload 0, .getfield 141315, .iload 2, .iaload, .iload 5, .iload 3, .invokestatic 2297361, .istore 6, .iload 6, .ifCond .eq 56, .iload 4, .iload 6, .iadd, .ireturn]),
  (56, [.aload 1, .aload 0, .getfield 141315, .iload 2, .iaload, .iload 5, .iload 3, .invokestatic 2297552, .sipush 0, .ireturn])]
/-- BanksDealt$Book.liveRoll(LBanksDealt$Plain;I)I -/
def P_120 : bk_P := [(0, [.aload 1, .aload 0, .getfield 149508, .iload 2, .iaload, .aload 0, .getfield 157701, .iload 2, .iaload, .invokestatic 1770765, .istore 3, .iload 3, .sipush (-1), .if_icmp .ne 25, .sipush 49, .ireturn]),
  (25, [.aload 1, .aload 0, .getfield 141315, .iload 2, .iaload, .iload 3, .invokestatic 1773453, .istore 4, .iload 4, .ifCond .eq 49, .sipush 40, .iload 4, .iadd, .ireturn]),
  (49, [.aload 1, .aload 0, .getfield 141315, .iload 2, .iaload, .iload 3, .invokestatic 1773516, .sipush 0, .ireturn])]
/-- BanksDealt$Book.liveSprings(LBanksDealt$Plain;LBanksDealt$River;I)I -/
def P_121 : bk_P := [(0, [.aload 0, .getfield 133122, .iload 3, .iaload, .sipush 12, .if_icmp .ne 15, .sipush 1, .goto 21]),
  (15, [.aload 0, .getfield 149508, .iload 3, .iaload, .goto 21]),
  (21, [.istore 4, .aload 1, .getfield 337, .iload 4, .iadd, .sipush 400, .if_icmp .le 39, .sipush 31, .ireturn]),
  (39, [.aload 2, .aload 0, .getfield 149508, .iload 3, .iaload, .putfield 515, .sipush 0, .istore 5, .goto 52]),
  (52, [.iload 5, .iload 4, .if_icmp .ge 71, .aload 2, .aload 1, .invokestatic 1347657, .pop, .iinc 5 (1), .goto 52]),
  (71, [.sipush 0, .ireturn])]
/-- BanksDealt.told(I)I -/
def P_122 : bk_P := [(0, [.aload 0, .getfield 4815, .ifCond .eq 29, .iload 1, .ifCond .lt 29, .iload 1, .aload 0, .getfield 461518, .arraylength, .if_icmp .ge 29, .aload 0, .getfield 461518, .iload 1, .iaload, .goto 30]),
  (29, [.sipush (-1), .goto 30]),
  (30, [.ireturn])]
/-- BanksDealt.sentence()I -/
def P_123 : bk_P := [(0, [.aload 0, .getfield 77512, .aload 0, .getfield 84672, .aload 0, .getfield 44737, .invokestatic 1908493, .istore 1, .aload 0, .invokestatic 919492, .iload 1, .ifCond .ne 34, .sipush (-1), .aload 0, .getfield 84672, .getfield 647, .isub, .ireturn]),
  (34, [.aload 0, .getfield 77511, .astore 2, .aload 0, .aload 0, .getfield 77512, .putfield 77511, .aload 0, .aload 2, .putfield 77512, .aload 0, .getfield 77511, .getfield 577, .ireturn])]
/-- BanksDealt$Sentence.readText(LBanksDealt$Tape;LBanksDealt$Plain;)Z -/
def P_124 : bk_P := [(0, [.aload 0, .invokestatic 854340, .aload 1, .sipush 200, .invokestatic 1409416, .aload 0, .aload 1, .aload 2, .sipush 1, .invokestatic 2432849, .ifCond .eq 40, .aload 1, .getfield 642, .ifCond .eq 36, .aload 1, .sipush 1, .invokestatic 1410057, .ifCond .eq 40, .goto 36]),
  (36, [.sipush 1, .goto 41]),
  (40, [.sipush 0, .goto 41]),
  (41, [.freturn])]
/-- BanksDealt$Sentence.readCond(LBanksDealt$Tape;LBanksDealt$Plain;I)Z -/
def P_125 : bk_P := [(0, [.aload 0, .aload 1, .aload 2, .iload 3, .invokestatic 2432913, .ifCond .ne 12, .sipush 0, .freturn]),
  (12, [.sipush 0, .istore 4, .goto 15]),
  (15, [.iload 4, .sipush 200, .if_icmp .ge 63, .aload 1, .sipush 14, .invokestatic 1410825, .ifCond .eq 63, .aload 1, .invokestatic 885188, .aload 0, .aload 1, .aload 2, .iload 3, .invokestatic 2432913, .ifCond .ne 48, .sipush 0, .freturn]),
  (48, [.aload 0, .sipush 14, .sipush 0, .sipush 0, .invokestatic 2433105, .pop, .iinc 4 (1), .goto 15]),
  (63, [.sipush 1, .freturn])]
/-- BanksDealt$Sentence.readAll(LBanksDealt$Tape;LBanksDealt$Plain;I)Z -/
def P_126 : bk_P := [(0, [.aload 0, .aload 1, .aload 2, .iload 3, .invokestatic 2432977, .ifCond .ne 12, .sipush 0, .freturn]),
  (12, [.sipush 0, .istore 4, .goto 15]),
  (15, [.iload 4, .sipush 200, .if_icmp .ge 63, .aload 1, .sipush 15, .invokestatic 1410825, .ifCond .eq 63, .aload 1, .invokestatic 885188, .aload 0, .aload 1, .aload 2, .iload 3, .invokestatic 2432977, .ifCond .ne 48, .sipush 0, .freturn]),
  (48, [.aload 0, .sipush 15, .sipush 0, .sipush 0, .invokestatic 2433105, .pop, .iinc 4 (1), .goto 15]),
  (63, [.sipush 1, .freturn])]
/-- BanksDealt$Sentence.readOne(LBanksDealt$Tape;LBanksDealt$Plain;I)Z -/
def P_127 : bk_P := [(0, [.aload 1, .invokestatic 532485, .ifCond .ne 13, .aload 1, .sipush 1, .invokestatic 1410057, .freturn]),
  (13, [.aload 0, .getfield 577, .sipush 20, .if_icmp .ge 28, .iload 3, .sipush 8, .if_icmp .le 34, .goto 28]),
  (28, [.aload 1, .sipush 4, .invokestatic 1410057, .freturn]),
  (34, [.aload 0, .dup, .getfield 577, .sipush 1, .iadd, .putfield 577, .aload 1, .getfield 642, .sipush 40, .if_icmp .ne 92, .aload 1, .invokestatic 885188, .aload 0, .aload 1, .aload 2, .iload 3, .sipush 1, .iadd, .invokestatic 2432849, .ifCond .ne 71, .sipush 0, .freturn]),
  (71, [.aload 1, .getfield 642, .sipush 41, .if_icmp .eq 86, .aload 1, .sipush 1, .invokestatic 1410057, .freturn]),
  (86, [.aload 1, .invokestatic 885188, .sipush 1, .freturn]),
  (92, [.aload 1, .getfield 644, .sipush 16, .if_icmp .ne 134, .aload 1, .invokestatic 885188, .aload 0, .aload 1, .aload 2, .iload 3, .sipush 1, .iadd, .invokestatic 2432977, .ifCond .eq 132, .aload 0, .sipush 16, .sipush 0, .sipush 0, .invokestatic 2433105, .ifCond .eq 132, .sipush 1, .goto 133]),
  (132, [.sipush 0, .goto 133]),
  (133, [.freturn]),
  (134, [.aload 0, .aload 1, .aload 2, .invokestatic 1908877, .istore 4, .iload 4, .ifCond .eq 151, .aload 1, .invokestatic 885188, .goto 151]),
  (151, [.iload 4, .freturn])]
/-- BanksDealt$Sentence.isBeginning(LBanksDealt$Tape;)Z -/
def P_128 : bk_P := [(0, [.aload 0, .getfield 642, .sipush 40, .if_icmp .eq 53, .aload 0, .getfield 642, .sipush 2, .if_icmp .ne 57, .aload 0, .getfield 644, .sipush 6, .if_icmp .eq 53, .aload 0, .getfield 644, .sipush 7, .if_icmp .eq 53, .aload 0, .getfield 644, .sipush 16, .if_icmp .eq 53, .aload 0, .getfield 644, .sipush 17, .if_icmp .lt 57, .goto 53]),
  (53, [.sipush 1, .goto 58]),
  (57, [.sipush 0, .goto 58]),
  (58, [.freturn])]
/-- BanksDealt$Sentence.put(III)Z -/
def P_129 : bk_P := [(0, [.aload 0, .getfield 576, .aload 0, .getfield 404034, .arraylength, .if_icmp .ge 52, .aload 0, .getfield 404034, .aload 0, .getfield 576, .iload 1, .iastore, .aload 0, .getfield 412227, .aload 0, .getfield 576, .iload 2, .iastore, .aload 0, .getfield 420420, .aload 0, .getfield 576, .iload 3, .iastore, .aload 0, .dup, .getfield 576, .sipush 1, .iadd, .putfield 576, .goto 52]),
  (52, [.sipush 1, .freturn])]
/-- BanksDealt$Sentence.readPlainOne(LBanksDealt$Tape;LBanksDealt$Plain;)Z -/
def P_130 : bk_P := [(0, [.aload 1, .getfield 644, .istore 3, .iload 3, .sipush 19, .if_icmp .eq 17, .iload 3, .sipush 20, .if_icmp .ne 74, .goto 17]),
  (17, [.aload 1, .invokestatic 885188, .aload 1, .invokestatic 886277, .ifCond .ne 34, .aload 1, .sipush 1, .invokestatic 1410057, .freturn]),
  (34, [.aload 2, .getfield 272714, .aload 2, .getfield 326, .aload 1, .getfield 1667, .invokestatic 2097869, .istore 4, .iload 4, .sipush (-1), .if_icmp .ne 65, .aload 1, .sipush 3, .invokestatic 1410057, .goto 73]),
  (65, [.aload 0, .iload 3, .iload 4, .sipush 0, .invokestatic 2433105, .goto 73]),
  (73, [.freturn]),
  (74, [.iload 3, .sipush 21, .if_icmp .lt 149, .aload 1, .invokestatic 885188, .aload 1, .getfield 642, .istore 4, .iload 4, .sipush 60, .if_icmp .eq 117, .iload 4, .sipush 61, .if_icmp .eq 117, .iload 4, .sipush 62, .if_icmp .eq 117, .aload 1, .sipush 1, .invokestatic 1410057, .freturn]),
  (117, [.aload 1, .invokestatic 885188, .aload 1, .getfield 642, .sipush 3, .if_icmp .ne 143, .aload 0, .iload 3, .aload 1, .getfield 645, .iload 4, .invokestatic 2433105, .goto 148]),
  (143, [.aload 1, .sipush 1, .invokestatic 1410057, .goto 148]),
  (148, [.freturn]),
  (149, [.aload 0, .iload 3, .sipush 0, .sipush 0, .invokestatic 2433105, .freturn])]
/-- BanksDealt.said(I)I -/
def P_131 : bk_P := [(0, [.aload 0, .getfield 77511, .getfield 576, .ifCond .eq 15, .iload 1, .sipush (-1), .if_icmp .ge 17, .goto 15]),
  (15, [.sipush (-1), .ireturn]),
  (17, [.aload 0, .getfield 77511, .aload 0, .getfield 44737, .invokestatic 1384713, .istore 2, .iload 1, .sipush (-1), .if_icmp .ne 39, .iload 2, .invokestatic 532997, .ireturn]),
  (39, [.sipush 0, .istore 3, .sipush 0, .istore 4, .goto 44]),
  (44, [.iload 4, .aload 0, .getfield 44737, .getfield 326, .if_icmp .ge 83, .iload 2, .iload 4, .ishr, .sipush 1, .iand, .sipush 1, .if_icmp .ne 77, .iload 3, .iload 1, .if_icmp .ne 74, .iload 4, .ireturn]),
  (74, [.iinc 3 (1), .goto 77]),
  (77, [.iinc 4 (1), .goto 44]),
  (83, [.sipush (-1), .ireturn])]
/-- BanksDealt$Sentence.fieldsSaid(LBanksDealt$Plain;)I -/
def P_132 : bk_P := [(0, [.sipush 1, .aload 1, .getfield 326, .ishl, .sipush 1, .isub, .istore 2, .sipush 0, .istore 3, .sipush 0, .istore 4, .goto 14]),
  (14, [.iload 4, .aload 0, .getfield 576, .if_icmp .ge 185, .aload 0, .getfield 404034, .iload 4, .iaload, .sipush 16, .if_icmp .ne 62, .iload 3, .ifCond .le 179, .aload 0, .getfield 428613, .iload 3, .sipush 1, .isub, .iload 2, .aload 0, .getfield 428613, .iload 3, .sipush 1, .isub, .iaload, .sipush (-1), .ixor, .iand, .iastore, .goto 179]),
  (62, [.aload 0, .getfield 404034, .iload 4, .iaload, .sipush 15, .if_icmp .eq 86, .aload 0, .getfield 404034, .iload 4, .iaload, .sipush 14, .if_icmp .ne 154, .goto 86]),
  (86, [.iload 3, .sipush 1, .if_icmp .le 179, .iinc 3 (-1), .aload 0, .getfield 428613, .iload 3, .sipush 1, .isub, .iaload, .aload 0, .getfield 428613, .iload 3, .iaload, .iand, .istore 5, .aload 0, .getfield 428613, .iload 3, .sipush 1, .isub, .aload 0, .getfield 404034, .iload 4, .iaload, .sipush 15, .if_icmp .ne 135, .iload 5, .goto 150]),
  (135, [.aload 0, .getfield 428613, .iload 3, .sipush 1, .isub, .iaload, .aload 0, .getfield 428613, .iload 3, .iaload, .ior, .goto 150]),
  (150, [.iastore, .goto 179]),
  (154, [.iload 3, .aload 0, .getfield 428613, .arraylength, .if_icmp .ge 179, .aload 0, .getfield 428613, .iload 3, .aload 0, .aload 1, .iload 4, .invokestatic 1909069, .iastore, .iinc 3 (1), .goto 179]),
  (179, [.iinc 4 (1), .goto 14]),
  (185, [.iload 3, .sipush 1, .if_icmp .ne 199, .aload 0, .getfield 428613, .sipush 0, .iaload, .goto 200]),
  (199, [.sipush 0, .goto 200]),
  (200, [.ireturn])]
/-- BanksDealt$Sentence.fieldsOfOne(LBanksDealt$Plain;I)I -/
def P_133 : bk_P := [(0, [.sipush 0, .istore 3, .sipush 0, .istore 4, .goto 5]),
  (5, [.iload 4, .aload 1, .getfield 326, .if_icmp .ge 38, .aload 0, .aload 1, .iload 4, .iload 2, .invokestatic 2433425, .ifCond .eq 32, .iload 3, .sipush 1, .iload 4, .ishl, .ior, .istore 3, .goto 32]),
  (32, [.iinc 4 (1), .goto 5]),
  (38, [.iload 3, .ireturn])]
/-- BanksDealt$Sentence.isSo(LBanksDealt$Plain;II)Z -/
def P_134 : bk_P := [(0, [.aload 1, .getfield 248135, .iload 2, .iaload, .istore 4, .aload 1, .getfield 239941, .iload 4, .invokestatic 1051209, .istore 5, .aload 0, .getfield 404034, .iload 3, .iaload, .tableswitch 276 6 23 #[112, 123, 276, 276, 276, 276, 276, 276, 276, 276, 276, 135, 147, 176, 211, 239, 251, 264]]),
  (112, [.iload 5, .ifCond .ne 121, .sipush 1, .goto 122]),
  (121, [.sipush 0, .goto 122]),
  (122, [.freturn]),
  (123, [.iload 5, .sipush 1, .if_icmp .ne 133, .sipush 1, .goto 134]),
  (133, [.sipush 0, .goto 134]),
  (134, [.freturn]),
  (135, [.iload 5, .sipush 2, .if_icmp .ne 145, .sipush 1, .goto 146]),
  (145, [.sipush 0, .goto 146]),
  (146, [.freturn]),
  (147, [.aload 1, .getfield 239941, .iload 4, .sipush 6, .idiv, .iaload, .iload 4, .sipush 6, .irem, .isub, .invokevirtual 3, .sipush 1, .if_icmp .ne 174, .sipush 1, .goto 175]),
  (174, [.sipush 0, .goto 175]),
  (175, [.freturn]),
  (176, [.iload 5, .sipush 2, .if_icmp .eq 209, .iload 5, .aload 1, .getfield 239941, .aload 1, .getfield 248135, .aload 0, .getfield 412227, .iload 3, .iaload, .iaload, .invokestatic 1051209, .if_icmp .ne 209, .sipush 1, .goto 210]),
  (209, [.sipush 0, .goto 210]),
  (210, [.freturn]),
  (211, [.iload 4, .sipush 6, .idiv, .aload 1, .getfield 248135, .aload 0, .getfield 412227, .iload 3, .iaload, .iaload, .sipush 6, .idiv, .if_icmp .ge 237, .sipush 1, .goto 238]),
  (237, [.sipush 0, .goto 238]),
  (238, [.freturn]),
  (239, [.aload 0, .aload 1, .getfield 256328, .iload 2, .iaload, .iload 3, .invokestatic 1909197, .freturn]),
  (251, [.aload 0, .aload 1, .getfield 231748, .iload 4, .iaload, .iload 3, .invokestatic 1909197, .freturn]),
  (264, [.aload 0, .aload 1, .getfield 264521, .iload 2, .iaload, .iload 3, .invokestatic 1909197, .freturn]),
  (276, [.aload 0, .iload 2, .iload 3, .invokestatic 1909197, .freturn])]
/-- BanksDealt$Sentence.compares(II)Z -/
def P_135 : bk_P := [(0, [.aload 0, .getfield 420420, .iload 2, .iaload, .sipush 60, .if_icmp .ne 27, .iload 1, .aload 0, .getfield 412227, .iload 2, .iaload, .if_icmp .ge 25, .sipush 1, .goto 26]),
  (25, [.sipush 0, .goto 26]),
  (26, [.freturn]),
  (27, [.aload 0, .getfield 420420, .iload 2, .iaload, .sipush 62, .if_icmp .ne 56, .iload 1, .aload 0, .getfield 412227, .iload 2, .iaload, .if_icmp .le 52, .sipush 1, .goto 71]),
  (52, [.sipush 0, .goto 71]),
  (56, [.iload 1, .aload 0, .getfield 412227, .iload 2, .iaload, .if_icmp .ne 70, .sipush 1, .goto 71]),
  (70, [.sipush 0, .goto 71]),
  (71, [.freturn])]
/-- java/lang/Integer.bitCount(I)I -/
def P_136 : bk_P := [(0, [.iload 0, .iload 0, .sipush 1, .iushr, .sipush 1431655765, .iand, .isub, .istore 0, .iload 0, .sipush 858993459, .iand, .iload 0, .sipush 2, .iushr, .sipush 858993459, .iand, .iadd, .istore 0, .iload 0, .iload 0, .sipush 4, .iushr, .iadd, .sipush 252645135, .iand, .istore 0, .iload 0, .iload 0, .sipush 8, .iushr, .iadd, .istore 0, .iload 0, .iload 0, .sipush 16, .iushr, .iadd, .istore 0, .iload 0, .sipush 63, .iand, .ireturn])]
/-- BanksDealt.image(I)Z -/
def P_137 : bk_P := [(0, [.iload 1, .ifCond .lt 13, .iload 1, .aload 0, .getfield 453325, .arraylength, .if_icmp .lt 15, .goto 13]),
  (13, [.sipush 0, .freturn]),
  (15, [.aload 0, .getfield 453325, .iload 1, .aaload, .getfield 11577600, .aload 0, .getfield 44737, .invokestatic 1248904, .aload 0, .getfield 453325, .iload 1, .aaload, .getfield 2173185, .aload 0, .getfield 77511, .invokestatic 1385096, .aload 0, .getfield 453325, .iload 1, .aaload, .sipush 1, .putfield 4354, .sipush 1, .freturn])]
/-- BanksDealt$Sentence.copyOf(LBanksDealt$Sentence;)V -/
def P_138 : bk_P := [(0, [.aload 0, .aload 1, .getfield 576, .putfield 576, .aload 0, .aload 1, .getfield 577, .putfield 577, .aload 1, .getfield 404034, .sipush 0, .aload 0, .getfield 404034, .sipush 0, .aload 0, .getfield 404034, .arraylength, .invokevirtual 0, .aload 1, .getfield 412227, .sipush 0, .aload 0, .getfield 412227, .sipush 0, .aload 0, .getfield 412227, .arraylength, .invokevirtual 0, .aload 1, .getfield 420420, .sipush 0, .aload 0, .getfield 420420, .sipush 0, .aload 0, .getfield 420420, .arraylength, .invokevirtual 0, .return_])]
/-- BanksDealt.restore(I)Z -/
def P_139 : bk_P := [(0, [.iload 1, .ifCond .lt 25, .iload 1, .aload 0, .getfield 453325, .arraylength, .if_icmp .ge 25, .aload 0, .getfield 453325, .iload 1, .aaload, .getfield 4354, .ifCond .ne 27, .goto 25]),
  (25, [.sipush 0, .freturn]),
  (27, [.aload 0, .getfield 44737, .aload 0, .getfield 453325, .iload 1, .aaload, .getfield 11577600, .invokestatic 1248904, .aload 0, .getfield 77511, .aload 0, .getfield 453325, .iload 1, .aaload, .getfield 2173185, .invokestatic 1385096, .aload 0, .getfield 27340, .invokestatic 657796, .sipush 1, .freturn])]
/-- BanksDealt.count(I)I -/
def P_140 : bk_P := [(0, [.iload 1, .tableswitch 100 0 6 #[44, 52, 60, 68, 76, 84, 92]]),
  (44, [.aload 0, .getfield 44737, .getfield 326, .ireturn]),
  (52, [.aload 0, .getfield 44737, .getfield 320, .ireturn]),
  (60, [.aload 0, .getfield 44737, .getfield 321, .ireturn]),
  (68, [.aload 0, .getfield 44737, .getfield 322, .ireturn]),
  (76, [.aload 0, .getfield 44737, .getfield 323, .ireturn]),
  (84, [.aload 0, .getfield 44737, .getfield 331, .ireturn]),
  (92, [.aload 0, .getfield 84672, .getfield 641, .ireturn]),
  (100, [.sipush (-1), .ireturn])]
/-- BanksDealt.field(II)I -/
def P_141 : bk_P := [(0, [.aload 0, .iload 1, .invokestatic 1446729, .ifCond .eq 17, .iload 2, .ifCond .lt 17, .iload 2, .sipush 4, .if_icmp .le 25, .goto 17]),
  (17, [.athrow]),
  (25, [.aload 0, .getfield 44737, .getfield 248135, .iload 1, .iaload, .istore 3, .iload 2, .tableswitch 100 0 3 #[68, 73, 78, 88]]),
  (68, [.iload 3, .sipush 6, .irem, .ireturn]),
  (73, [.iload 3, .sipush 6, .idiv, .ireturn]),
  (78, [.aload 0, .getfield 44737, .getfield 256328, .iload 1, .iaload, .ireturn]),
  (88, [.aload 0, .getfield 44737, .getfield 239941, .iload 3, .invokestatic 1051209, .ireturn]),
  (100, [.aload 0, .getfield 44737, .getfield 264521, .iload 1, .iaload, .ireturn])]
/-- BanksDealt.duel(I)I -/
def P_142 : bk_P := [(0, [.iload 1, .invokestatic 527301, .ifCond .ne 15, .athrow]),
  (15, [.aload 0, .getfield 60105, .aload 0, .getfield 44737, .iload 1, .invokestatic 1844173, .ireturn])]
/-- BanksDealt$Plans.fight(LBanksDealt$Plain;I)I -/
def P_143 : bk_P := [(0, [.aload 0, .getfield 1116614, .aload 1, .invokestatic 1345672, .aload 0, .sipush 1, .putfield 4547, .aload 0, .aload 0, .aload 1, .iload 2, .sipush (-1000), .invokestatic 2368529, .putfield 461, .aload 0, .getfield 338370, .sipush 0, .sipush (-2), .iastore, .aload 0, .getfield 338370, .sipush 1, .aload 0, .getfield 460, .iastore, .sipush 0, .istore 3, .goto 46]),
  (46, [.iload 3, .sipush 72, .if_icmp .ge 131, .aload 1, .getfield 305487, .iload 2, .iaload, .ifCond .le 131, .aload 0, .aload 1, .iload 2, .iload 3, .invokestatic 2364433, .ifCond .eq 125, .aload 0, .iload 3, .invokestatic 1315976, .aload 0, .aload 1, .iload 2, .aload 0, .getfield 461, .invokestatic 2368529, .istore 4, .aload 0, .iload 3, .invokestatic 1316040, .iload 4, .aload 0, .getfield 461, .if_icmp .le 125, .aload 0, .iload 4, .putfield 461, .aload 0, .getfield 338370, .sipush 0, .iload 3, .iastore, .aload 0, .getfield 338370, .sipush 1, .aload 0, .getfield 460, .iastore, .goto 125]),
  (125, [.iinc 3 (1), .goto 46]),
  (131, [.aload 0, .getfield 461, .ireturn])]
/-- BanksDealt$Plans.answered(LBanksDealt$Plain;II)I -/
def P_144 : bk_P := [(0, [.sipush 1, .iload 2, .isub, .istore 4, .aload 0, .aload 1, .iload 2, .invokestatic 1844301, .istore 5, .aload 0, .sipush (-2), .putfield 460, .sipush 0, .istore 6, .goto 22]),
  (22, [.iload 6, .sipush 72, .if_icmp .ge 100, .aload 1, .getfield 305487, .iload 4, .iaload, .ifCond .le 100, .iload 5, .iload 3, .if_icmp .le 100, .aload 0, .aload 1, .iload 4, .iload 6, .invokestatic 2364433, .ifCond .eq 94, .aload 0, .iload 6, .invokestatic 1315976, .aload 0, .aload 1, .iload 2, .invokestatic 1844301, .istore 7, .aload 0, .iload 6, .invokestatic 1316040, .iload 7, .iload 5, .if_icmp .ge 94, .iload 7, .istore 5, .aload 0, .iload 6, .putfield 460, .goto 94]),
  (94, [.iinc 6 (1), .goto 22]),
  (100, [.iload 5, .ireturn])]
/-- BanksDealt$Plans.lead(LBanksDealt$Plain;I)I -/
def P_145 : bk_P := [(0, [.aload 0, .getfield 1116614, .aload 1, .invokestatic 1345736, .aload 1, .aload 0, .getfield 1116614, .getfield 379393, .iload 2, .invokestatic 1772621, .aload 1, .aload 0, .getfield 1116614, .getfield 379393, .sipush 1, .iload 2, .isub, .invokestatic 1772621, .isub, .ireturn])]
/-- BanksDealtModel.thrown()I -/
def P_146 : bk_P := [(0, [.aload 0, .getfield 768, .ireturn])]
/-- BanksDealtModel.feed(IIIII)I -/
def P_147 : bk_P := [(0, [.aload 0, .sipush 0, .putfield 768, .aload 0, .getfield 770, .sipush 20, .iadd, .sipush 940, .if_icmp .le 20, .sipush (-1), .ireturn]),
  (20, [.aload 0, .iload 1, .invokestatic 1484040, .aload 0, .iload 2, .invokestatic 1484040, .aload 0, .iload 3, .invokestatic 1484040, .aload 0, .iload 4, .invokestatic 1484040, .aload 0, .iload 5, .invokestatic 1484040, .aload 0, .getfield 770, .ireturn])]
/-- BanksDealtModel.come(I)V -/
def P_148 : bk_P := [(0, [.sipush 24, .istore 2, .goto 3]),
  (3, [.iload 2, .ifCond .lt 39, .aload 0, .getfield 469761, .aload 0, .getfield 770, .iload 1, .iload 2, .iushr, .sipush 255, .iand, .iastore, .aload 0, .dup, .getfield 770, .sipush 1, .iadd, .putfield 770, .iinc 2 (-8), .goto 3]),
  (39, [.return_])]
/-- BanksDealtModel.end(I)Z -/
def P_149 : bk_P := [(0, [.aload 0, .sipush 0, .putfield 768, .iload 1, .ifCond .lt 17, .iload 1, .aload 0, .getfield 770, .if_icmp .le 19, .goto 17]),
  (17, [.sipush 0, .freturn]),
  (19, [.aload 0, .iload 1, .putfield 770, .sipush 1, .freturn])]
/-- BanksDealtModel.startRead()V -/
def P_150 : bk_P := [(0, [.sipush 0, .istore 1, .goto 2]),
  (2, [.iload 1, .sipush 80, .if_icmp .ge 21, .aload 0, .getfield 486159, .iload 1, .sipush 0, .iastore, .iinc 1 (1), .goto 2]),
  (21, [.sipush 0, .istore 1, .goto 23]),
  (23, [.iload 1, .sipush 5, .if_icmp .ge 41, .aload 0, .getfield 551703, .iload 1, .sipush 0, .bastore, .iinc 1 (1), .goto 23]),
  (41, [.sipush 0, .istore 1, .goto 43]),
  (43, [.iload 1, .sipush 36, .if_icmp .ge 72, .aload 0, .getfield 559896, .iload 1, .sipush 0, .bastore, .aload 0, .getfield 486159, .sipush 6, .iload 1, .iadd, .sipush 5, .iastore, .iinc 1 (1), .goto 43]),
  (72, [.aload 0, .getfield 486159, .sipush 2, .sipush 5, .iastore, .aload 0, .getfield 486159, .sipush 3, .sipush 5, .iastore, .aload 0, .getfield 486159, .sipush 5, .sipush 2, .iastore, .aload 0, .getfield 486159, .sipush 78, .sipush 9, .iastore, .aload 0, .getfield 486159, .sipush 79, .sipush 9, .iastore, .aload 0, .sipush 0, .putfield 4890, .return_])]
/-- BanksDealtModel.startSo()V -/
def P_151 : bk_P := [(0, [.sipush 80, .istore 1, .goto 3]),
  (3, [.iload 1, .sipush 437, .if_icmp .ge 23, .aload 0, .getfield 477966, .iload 1, .sipush 0, .iastore, .iinc 1 (1), .goto 3]),
  (23, [.sipush 0, .istore 1, .goto 25]),
  (25, [.iload 1, .sipush 2, .if_icmp .ge 54, .aload 0, .getfield 477966, .sipush 81, .iload 1, .iadd, .aload 0, .getfield 477966, .sipush 78, .iload 1, .iadd, .iaload, .iastore, .iinc 1 (1), .goto 25]),
  (54, [.sipush 0, .istore 1, .goto 56]),
  (56, [.iload 1, .sipush 36, .if_icmp .ge 86, .aload 0, .getfield 477966, .sipush 85, .iload 1, .iadd, .aload 0, .getfield 477966, .sipush 6, .iload 1, .iadd, .iaload, .iastore, .iinc 1 (1), .goto 56]),
  (86, [.sipush 0, .istore 1, .goto 88]),
  (88, [.iload 1, .sipush 3, .if_icmp .ge 136, .aload 0, .getfield 477966, .sipush 127, .iload 1, .iadd, .aload 0, .getfield 477966, .sipush 72, .iload 1, .iadd, .iaload, .iastore, .aload 0, .getfield 477966, .sipush 130, .iload 1, .iadd, .aload 0, .getfield 477966, .sipush 75, .iload 1, .iadd, .iaload, .iastore, .iinc 1 (1), .goto 88]),
  (136, [.aload 0, .invokestatic 960004, .aload 0, .invokestatic 960069, .pop, .sipush 0, .istore 1, .goto 147]),
  (147, [.iload 1, .sipush 6, .if_icmp .ge 174, .aload 0, .getfield 477966, .sipush 121, .iload 1, .iadd, .aload 0, .getfield 584477, .iload 1, .iaload, .iastore, .iinc 1 (1), .goto 147]),
  (174, [.return_])]
/-- BanksDealtModel.melt()V -/
def P_152 : bk_P := [(0, [.sipush 0, .istore 1, .goto 2]),
  (2, [.iload 1, .sipush 36, .if_icmp .ge 21, .aload 0, .getfield 568091, .iload 1, .sipush 0, .iastore, .iinc 1 (1), .goto 2]),
  (21, [.return_])]
/-- BanksDealtModel.layBest()I -/
def P_153 : bk_P := [(0, [.aload 0, .getfield 477966, .sipush 3, .iaload, .sipush 1, .isub, .istore 1, .goto 9]),
  (9, [.iload 1, .ifCond .lt 91, .sipush 0, .istore 2, .goto 15]),
  (15, [.iload 2, .aload 0, .getfield 477966, .sipush 2, .iaload, .if_icmp .ge 85, .sipush 6, .iload 1, .imul, .iload 2, .iadd, .istore 3, .aload 0, .getfield 576284, .iload 3, .aload 0, .getfield 477966, .sipush 85, .iload 3, .iadd, .iaload, .aload 0, .getfield 568091, .iload 3, .iaload, .iadd, .iload 1, .aload 0, .getfield 477966, .sipush 3, .iaload, .sipush 1, .isub, .if_icmp .ne 69, .sipush 0, .goto 77]),
  (69, [.aload 0, .iload 2, .iload 1, .sipush 1, .iadd, .invokestatic 2008717, .goto 77]),
  (77, [.iadd, .iastore, .iinc 2 (1), .goto 15]),
  (85, [.iinc 1 (-1), .goto 9]),
  (91, [.aload 0, .getfield 584477, .sipush 0, .aload 0, .getfield 477966, .sipush 4, .iaload, .iastore, .sipush 1, .istore 1, .goto 105]),
  (105, [.iload 1, .aload 0, .getfield 477966, .sipush 3, .iaload, .if_icmp .ge 162, .aload 0, .getfield 584477, .iload 1, .sipush 1, .isub, .iaload, .istore 2, .iload 2, .sipush 1, .isub, .istore 3, .goto 128]),
  (128, [.aload 0, .iload 3, .iload 1, .invokestatic 2008781, .aload 0, .iload 2, .iload 1, .invokestatic 2008717, .if_icmp .eq 149, .iinc 3 (1), .goto 128]),
  (149, [.aload 0, .getfield 584477, .iload 1, .iload 3, .iastore, .iinc 1 (1), .goto 105]),
  (162, [.aload 0, .getfield 576284, .aload 0, .getfield 477966, .sipush 4, .iaload, .iaload, .ireturn])]
/-- BanksDealtModel.leastNext(II)I -/
def P_154 : bk_P := [(0, [.aload 0, .iload 1, .sipush 1, .isub, .iload 2, .invokestatic 2008781, .aload 0, .iload 1, .iload 2, .invokestatic 2008781, .aload 0, .iload 1, .sipush 1, .iadd, .iload 2, .invokestatic 2008781, .invokestatic 1058697, .invokestatic 1058697, .ireturn])]
/-- BanksDealtModel.costAt(II)I -/
def P_155 : bk_P := [(0, [.aload 0, .iload 1, .iload 2, .invokestatic 2008845, .ifCond .eq 23, .aload 0, .getfield 576284, .sipush 6, .iload 2, .imul, .iload 1, .iadd, .iaload, .goto 26]),
  (23, [.sipush 100000, .goto 26]),
  (26, [.ireturn])]
/-- BanksDealtModel.isCell(II)Z -/
def P_156 : bk_P := [(0, [.iload 1, .sipush 0, .aload 0, .getfield 477966, .sipush 2, .iaload, .sipush 1, .isub, .invokestatic 1582925, .ifCond .eq 36, .iload 2, .sipush 0, .aload 0, .getfield 477966, .sipush 3, .iaload, .sipush 1, .isub, .invokestatic 1582925, .ifCond .eq 36, .sipush 1, .goto 37]),
  (36, [.sipush 0, .goto 37]),
  (37, [.freturn])]
/-- BanksDealtModel.isIn(III)Z -/
def P_157 : bk_P := [(0, [.iload 0, .iload 1, .if_icmp .lt 14, .iload 0, .iload 2, .if_icmp .gt 14, .sipush 1, .goto 15]),
  (14, [.sipush 0, .goto 15]),
  (15, [.freturn])]
/-- BanksDealtModel.least(II)I -/
def P_158 : bk_P := [(0, [.iload 0, .iload 1, .if_icmp .ge 9, .iload 0, .goto 10]),
  (9, [.iload 1, .goto 10]),
  (10, [.ireturn])]
/-- BanksDealtModel.plain()I -/
def P_159 : bk_P := [(0, [.aload 0, .sipush 900, .invokestatic 1484808, .aload 0, .invokestatic 959876, .sipush 0, .istore 1, .goto 13]),
  (13, [.aload 0, .getfield 775, .ifCond .eq 47, .aload 0, .invokestatic 960901, .ifCond .eq 34, .aload 0, .invokestatic 962309, .ifCond .ne 41, .goto 34]),
  (34, [.sipush (-1), .aload 0, .getfield 779, .isub, .ireturn]),
  (41, [.iinc 1 (1), .goto 13]),
  (47, [.sipush 0, .istore 2, .goto 49]),
  (49, [.iload 2, .sipush 80, .if_icmp .ge 73, .aload 0, .getfield 477966, .iload 2, .aload 0, .getfield 486159, .iload 2, .iaload, .iastore, .iinc 2 (1), .goto 49]),
  (73, [.sipush 0, .istore 2, .goto 75]),
  (75, [.iload 2, .sipush 13, .if_icmp .ge 99, .aload 0, .getfield 518931, .iload 2, .aload 0, .getfield 527124, .iload 2, .laload, .lastore, .iinc 2 (1), .goto 75]),
  (99, [.aload 0, .invokestatic 959940, .aload 0, .sipush 0, .putfield 793, .iload 1, .ireturn])]
/-- BanksDealtModel.begin(I)V -/
def P_160 : bk_P := [(0, [.aload 0, .sipush 0, .putfield 768, .aload 0, .aload 0, .invokestatic 960581, .putfield 771, .aload 0, .iload 1, .putfield 772, .aload 0, .sipush 0, .putfield 778, .aload 0, .sipush 0, .putfield 773, .aload 0, .invokestatic 960644, .return_])]
/-- BanksDealtModel.take()I -/
def P_161 : bk_P := [(0, [.aload 0, .getfield 770, .istore 1, .aload 0, .sipush 0, .putfield 770, .iload 1, .ireturn])]
/-- BanksDealtModel.go()V -/
def P_162 : bk_P := [(0, [.aload 0, .getfield 773, .aload 0, .getfield 771, .if_icmp .ge 52, .aload 0, .getfield 469761, .aload 0, .getfield 773, .iaload, .sipush 32, .if_icmp .eq 39, .aload 0, .getfield 469761, .aload 0, .getfield 773, .iaload, .sipush 10, .if_icmp .ne 52, .goto 39]),
  (39, [.aload 0, .dup, .getfield 773, .sipush 1, .iadd, .putfield 773, .goto 0]),
  (52, [.aload 0, .aload 0, .getfield 773, .putfield 774, .aload 0, .getfield 771, .aload 0, .getfield 772, .if_icmp .le 96, .aload 0, .getfield 774, .aload 0, .getfield 772, .if_icmp .lt 96, .aload 0, .aload 0, .getfield 772, .putfield 774, .aload 0, .sipush 1, .putfield 775, .return_]),
  (96, [.aload 0, .getfield 773, .aload 0, .getfield 771, .if_icmp .lt 113, .aload 0, .sipush 0, .putfield 775, .return_]),
  (113, [.aload 0, .getfield 469761, .aload 0, .getfield 773, .iaload, .istore 1, .iload 1, .invokestatic 534725, .ifCond .ne 198, .iload 1, .invokestatic 534789, .ifCond .ne 198, .aload 0, .iload 1, .sipush 59, .if_icmp .eq 174, .iload 1, .sipush 60, .if_icmp .eq 174, .iload 1, .sipush 61, .if_icmp .eq 174, .iload 1, .sipush 62, .if_icmp .eq 174, .iload 1, .sipush 40, .if_icmp .eq 174, .iload 1, .sipush 41, .if_icmp .ne 178, .goto 174]),
  (174, [.sipush 4, .goto 179]),
  (178, [.sipush 1, .goto 179]),
  (179, [.putfield 775, .aload 0, .iload 1, .putfield 777, .aload 0, .dup, .getfield 773, .sipush 1, .iadd, .putfield 773, .return_]),
  (198, [.iload 1, .invokestatic 534725, .istore 2, .sipush 1, .istore 3, .aload 0, .bipush 0, .putfield 1804, .aload 0, .sipush 0, .putfield 776, .goto 215]),
  (215, [.aload 0, .aload 0, .getfield 773, .invokestatic 1485129, .invokestatic 534725, .ifCond .ne 243, .aload 0, .aload 0, .getfield 773, .invokestatic 1485129, .invokestatic 534789, .ifCond .eq 350, .goto 243]),
  (243, [.aload 0, .getfield 469761, .aload 0, .getfield 773, .iaload, .istore 4, .iload 3, .ifCond .eq 271, .iload 4, .invokestatic 534725, .iload 2, .if_icmp .ne 271, .sipush 1, .goto 272]),
  (271, [.sipush 0, .goto 272]),
  (272, [.istore 3, .aload 0, .getfield 773, .aload 0, .getfield 774, .isub, .sipush 7, .if_icmp .ge 307, .aload 0, .bipush 27, .aload 0, .getfield 1804, .lmul, .iload 4, .i2l, .ladd, .bipush 96, .lsub, .putfield 1804, .goto 307]),
  (307, [.aload 0, .getfield 773, .aload 0, .getfield 774, .isub, .sipush 3, .if_icmp .ge 337, .aload 0, .sipush 10, .aload 0, .getfield 776, .imul, .iload 4, .iadd, .sipush 48, .isub, .putfield 776, .goto 337]),
  (337, [.aload 0, .dup, .getfield 773, .sipush 1, .iadd, .putfield 773, .goto 215]),
  (350, [.aload 0, .iload 3, .ifCond .eq 377, .aload 0, .getfield 773, .aload 0, .getfield 774, .isub, .iload 2, .ifCond .eq 373, .sipush 7, .goto 374]),
  (373, [.sipush 3, .goto 374]),
  (374, [.if_icmp .le 381, .goto 377]),
  (377, [.sipush 1, .goto 390]),
  (381, [.iload 2, .ifCond .eq 389, .sipush 2, .goto 390]),
  (389, [.sipush 3, .goto 390]),
  (390, [.putfield 775, .return_])]
/-- BanksDealtModel.isLetter(I)Z -/
def P_163 : bk_P := [(0, [.iload 0, .sipush 97, .if_icmp .lt 16, .iload 0, .sipush 122, .if_icmp .gt 16, .sipush 1, .goto 17]),
  (16, [.sipush 0, .goto 17]),
  (17, [.freturn])]
/-- BanksDealtModel.isDigit(I)Z -/
def P_164 : bk_P := [(0, [.iload 0, .sipush 48, .if_icmp .lt 16, .iload 0, .sipush 57, .if_icmp .gt 16, .sipush 1, .goto 17]),
  (16, [.sipush 0, .goto 17]),
  (17, [.freturn])]
/-- BanksDealtModel.tapeAt(I)I -/
def P_165 : bk_P := [(0, [.iload 1, .aload 0, .getfield 771, .if_icmp .ge 17, .aload 0, .getfield 469761, .iload 1, .iaload, .goto 18]),
  (17, [.sipush 0, .goto 18]),
  (18, [.ireturn])]
/-- BanksDealtModel.readLine()Z -/
def P_166 : bk_P := [(0, [.aload 0, .sipush 0, .invokestatic 1485257, .ifCond .eq 13, .aload 0, .invokestatic 961157, .freturn]),
  (13, [.aload 0, .sipush 1, .invokestatic 1485257, .ifCond .eq 26, .aload 0, .invokestatic 961541, .freturn]),
  (26, [.aload 0, .sipush 2, .invokestatic 1485257, .ifCond .eq 60, .aload 0, .sipush 1, .invokestatic 1485577, .ifCond .eq 58, .aload 0, .sipush 4, .aload 0, .invokestatic 961605, .invokestatic 2010061, .ifCond .eq 58, .sipush 1, .goto 59]),
  (58, [.sipush 0, .goto 59]),
  (59, [.freturn]),
  (60, [.aload 0, .sipush 3, .invokestatic 1485257, .ifCond .eq 73, .aload 0, .invokestatic 961733, .freturn]),
  (73, [.aload 0, .sipush 4, .invokestatic 1485257, .ifCond .eq 86, .aload 0, .invokestatic 962117, .freturn]),
  (86, [.aload 0, .sipush 5, .invokestatic 1485257, .ifCond .eq 99, .aload 0, .invokestatic 962181, .freturn]),
  (99, [.aload 0, .sipush 6, .invokestatic 1485257, .ifCond .eq 138, .aload 0, .sipush 2, .invokestatic 1485577, .ifCond .eq 134, .aload 0, .sipush 5, .aload 0, .sipush 0, .sipush 5, .invokestatic 2009997, .invokestatic 2010061, .ifCond .eq 134, .sipush 1, .goto 143]),
  (134, [.sipush 0, .goto 143]),
  (138, [.aload 0, .sipush 1, .invokestatic 1485513, .goto 143]),
  (143, [.freturn])]
/-- BanksDealtModel.isWord(I)Z -/
def P_167 : bk_P := [(0, [.aload 0, .getfield 775, .sipush 2, .if_icmp .ne 24, .aload 0, .getfield 1804, .iload 1, .invokestatic 535046, .lcmp, .ifCond .ne 24, .sipush 1, .goto 25]),
  (24, [.sipush 0, .goto 25]),
  (25, [.freturn])]
/-- BanksDealtModel.wordOf(I)J -/
def P_168 : bk_P := [(0, [.iload 0, .tableswitch 483 0 23 #[112, 128, 143, 160, 176, 191, 207, 221, 236, 251, 267, 284, 300, 313, 327, 341, 356, 372, 386, 401, 416, 432, 448, 465]]),
  (112, [.sipush 112, .sipush 108, .sipush 97, .sipush 105, .sipush 110, .sipush 0, .sipush 0, .invokestatic 3680862, .lreturn]),
  (128, [.sipush 108, .sipush 97, .sipush 110, .sipush 100, .sipush 0, .sipush 0, .sipush 0, .invokestatic 3680862, .lreturn]),
  (143, [.sipush 115, .sipush 111, .sipush 117, .sipush 114, .sipush 99, .sipush 101, .sipush 0, .invokestatic 3680862, .lreturn]),
  (160, [.sipush 102, .sipush 105, .sipush 101, .sipush 108, .sipush 100, .sipush 0, .sipush 0, .invokestatic 3680862, .lreturn]),
  (176, [.sipush 109, .sipush 105, .sipush 108, .sipush 108, .sipush 0, .sipush 0, .sipush 0, .invokestatic 3680862, .lreturn]),
  (191, [.sipush 112, .sipush 117, .sipush 114, .sipush 115, .sipush 101, .sipush 0, .sipush 0, .invokestatic 3680862, .lreturn]),
  (207, [.sipush 105, .sipush 99, .sipush 101, .sipush 0, .sipush 0, .sipush 0, .sipush 0, .invokestatic 3680862, .lreturn]),
  (221, [.sipush 100, .sipush 105, .sipush 103, .sipush 115, .sipush 0, .sipush 0, .sipush 0, .invokestatic 3680862, .lreturn]),
  (236, [.sipush 108, .sipush 97, .sipush 121, .sipush 115, .sipush 0, .sipush 0, .sipush 0, .invokestatic 3680862, .lreturn]),
  (251, [.sipush 114, .sipush 111, .sipush 108, .sipush 108, .sipush 115, .sipush 0, .sipush 0, .invokestatic 3680862, .lreturn]),
  (267, [.sipush 115, .sipush 112, .sipush 114, .sipush 105, .sipush 110, .sipush 103, .sipush 0, .invokestatic 3680862, .lreturn]),
  (284, [.sipush 121, .sipush 101, .sipush 97, .sipush 114, .sipush 115, .sipush 0, .sipush 0, .invokestatic 3680862, .lreturn]),
  (300, [.sipush 111, .sipush 114, .sipush 0, .sipush 0, .sipush 0, .sipush 0, .sipush 0, .invokestatic 3680862, .lreturn]),
  (313, [.sipush 97, .sipush 110, .sipush 100, .sipush 0, .sipush 0, .sipush 0, .sipush 0, .invokestatic 3680862, .lreturn]),
  (327, [.sipush 110, .sipush 111, .sipush 116, .sipush 0, .sipush 0, .sipush 0, .sipush 0, .invokestatic 3680862, .lreturn]),
  (341, [.sipush 108, .sipush 101, .sipush 102, .sipush 116, .sipush 0, .sipush 0, .sipush 0, .invokestatic 3680862, .lreturn]),
  (356, [.sipush 114, .sipush 105, .sipush 103, .sipush 104, .sipush 116, .sipush 0, .sipush 0, .invokestatic 3680862, .lreturn]),
  (372, [.sipush 119, .sipush 101, .sipush 116, .sipush 0, .sipush 0, .sipush 0, .sipush 0, .invokestatic 3680862, .lreturn]),
  (386, [.sipush 110, .sipush 101, .sipush 97, .sipush 114, .sipush 0, .sipush 0, .sipush 0, .invokestatic 3680862, .lreturn]),
  (401, [.sipush 115, .sipush 97, .sipush 109, .sipush 101, .sipush 0, .sipush 0, .sipush 0, .invokestatic 3680862, .lreturn]),
  (416, [.sipush 97, .sipush 98, .sipush 111, .sipush 118, .sipush 101, .sipush 0, .sipush 0, .invokestatic 3680862, .lreturn]),
  (432, [.sipush 119, .sipush 111, .sipush 114, .sipush 116, .sipush 104, .sipush 0, .sipush 0, .invokestatic 3680862, .lreturn]),
  (448, [.sipush 104, .sipush 101, .sipush 105, .sipush 103, .sipush 104, .sipush 116, .sipush 0, .invokestatic 3680862, .lreturn]),
  (465, [.sipush 99, .sipush 104, .sipush 97, .sipush 110, .sipush 103, .sipush 101, .sipush 100, .invokestatic 3680862, .lreturn]),
  (483, [.sipush 110, .sipush 117, .sipush 109, .sipush 98, .sipush 101, .sipush 114, .sipush 0, .invokestatic 3680862, .lreturn])]
/-- BanksDealtModel.spelt(IIIIIII)J -/
def P_169 : bk_P := [(0, [.bipush 27, .iload 0, .i2l, .bipush 96, .lsub, .lmul, .iload 1, .i2l, .ladd, .bipush 96, .lsub, .lstore 7, .iload 2, .ifCond .le 38, .bipush 27, .lload 7, .lmul, .iload 2, .i2l, .ladd, .bipush 96, .lsub, .lstore 7, .goto 38]),
  (38, [.iload 3, .ifCond .le 57, .bipush 27, .lload 7, .lmul, .iload 3, .i2l, .ladd, .bipush 96, .lsub, .lstore 7, .goto 57]),
  (57, [.iload 4, .ifCond .le 78, .bipush 27, .lload 7, .lmul, .iload 4, .i2l, .ladd, .bipush 96, .lsub, .lstore 7, .goto 78]),
  (78, [.iload 5, .ifCond .le 99, .bipush 27, .lload 7, .lmul, .iload 5, .i2l, .ladd, .bipush 96, .lsub, .lstore 7, .goto 99]),
  (99, [.iload 6, .ifCond .le 120, .bipush 27, .lload 7, .lmul, .iload 6, .i2l, .ladd, .bipush 96, .lsub, .lstore 7, .goto 120]),
  (120, [.lload 7, .lreturn])]
/-- BanksDealtModel.readPlain()Z -/
def P_170 : bk_P := [(0, [.aload 0, .getfield 4890, .ifCond .eq 13, .aload 0, .sipush 3, .invokestatic 1485513, .freturn]),
  (13, [.aload 0, .sipush 0, .invokestatic 1485577, .ifCond .eq 55, .aload 0, .sipush 2, .aload 0, .sipush 3, .sipush 6, .invokestatic 2009933, .invokestatic 2010061, .ifCond .eq 55, .aload 0, .sipush 3, .aload 0, .sipush 2, .sipush 6, .invokestatic 2009933, .invokestatic 2010061, .ifCond .eq 55, .sipush 1, .goto 56]),
  (55, [.sipush 0, .goto 56]),
  (56, [.freturn])]
/-- BanksDealtModel.bad(I)Z -/
def P_171 : bk_P := [(0, [.aload 0, .aload 0, .getfield 775, .sipush 1, .if_icmp .ne 13, .sipush 1, .goto 14]),
  (13, [.iload 1, .goto 14]),
  (14, [.putfield 778, .aload 0, .aload 0, .getfield 774, .putfield 779, .sipush 0, .freturn])]
/-- BanksDealtModel.isFresh(I)Z -/
def P_172 : bk_P := [(0, [.aload 0, .getfield 551703, .iload 1, .baload, .ifCond .eq 15, .aload 0, .sipush 3, .invokestatic 1485513, .freturn]),
  (15, [.aload 0, .getfield 551703, .iload 1, .sipush 1, .bastore, .aload 0, .invokestatic 960644, .sipush 1, .freturn])]
/-- BanksDealtModel.readBetween(II)Z -/
def P_173 : bk_P := [(0, [.aload 0, .iload 1, .iload 2, .invokestatic 2009997, .freturn])]
/-- BanksDealtModel.readNumber(II)Z -/
def P_174 : bk_P := [(0, [.aload 0, .getfield 775, .sipush 3, .if_icmp .eq 14, .aload 0, .sipush 1, .invokestatic 1485513, .freturn]),
  (14, [.aload 0, .getfield 776, .iload 1, .iload 2, .invokestatic 1582925, .ifCond .ne 32, .aload 0, .sipush 2, .invokestatic 1485513, .freturn]),
  (32, [.aload 0, .aload 0, .getfield 776, .putfield 781, .aload 0, .invokestatic 960644, .sipush 1, .freturn])]
/-- BanksDealtModel.put(IZ)Z -/
def P_175 : bk_P := [(0, [.iload 2, .ifCond .eq 14, .aload 0, .getfield 486159, .iload 1, .aload 0, .getfield 781, .iastore, .goto 14]),
  (14, [.iload 2, .freturn])]
/-- BanksDealtModel.readLand()Z -/
def P_176 : bk_P := [(0, [.aload 0, .invokestatic 960644, .aload 0, .invokestatic 961605, .ifCond .ne 13, .sipush 0, .freturn]),
  (13, [.aload 0, .getfield 781, .istore 1, .aload 0, .aload 0, .getfield 486159, .sipush 3, .iaload, .invokestatic 1485961, .ifCond .ne 33, .sipush 0, .freturn]),
  (33, [.sipush 6, .aload 0, .getfield 776, .imul, .iload 1, .iadd, .istore 2, .aload 0, .getfield 559896, .iload 2, .baload, .ifCond .eq 58, .aload 0, .sipush 3, .invokestatic 1485513, .freturn]),
  (58, [.aload 0, .getfield 559896, .iload 2, .sipush 1, .bastore, .aload 0, .invokestatic 960644, .aload 0, .sipush 6, .iload 2, .iadd, .aload 0, .sipush 0, .sipush 9, .invokestatic 2009997, .invokestatic 2010061, .freturn])]
/-- BanksDealtModel.readX()Z -/
def P_177 : bk_P := [(0, [.aload 0, .sipush 1, .putfield 4890, .aload 0, .sipush 0, .aload 0, .getfield 486159, .sipush 2, .iaload, .sipush 1, .isub, .invokestatic 2009997, .freturn])]
/-- BanksDealtModel.isBelow(I)Z -/
def P_178 : bk_P := [(0, [.aload 0, .getfield 775, .sipush 3, .if_icmp .eq 14, .aload 0, .sipush 1, .invokestatic 1485513, .freturn]),
  (14, [.aload 0, .getfield 776, .iload 1, .if_icmp .lt 30, .aload 0, .sipush 2, .invokestatic 1485513, .ifCond .eq 34, .goto 30]),
  (30, [.sipush 1, .goto 35]),
  (34, [.sipush 0, .goto 35]),
  (35, [.freturn])]
/-- BanksDealtModel.readField()Z -/
def P_179 : bk_P := [(0, [.aload 0, .sipush 0, .sipush 10, .invokestatic 2010381, .ifCond .ne 12, .sipush 0, .freturn]),
  (12, [.aload 0, .getfield 486159, .sipush 0, .iaload, .istore 1, .aload 0, .iload 1, .invokestatic 1486153, .ifCond .eq 55, .aload 0, .sipush 42, .iload 1, .iadd, .aload 0, .invokestatic 961605, .invokestatic 2010061, .ifCond .eq 55, .aload 0, .aload 0, .getfield 486159, .sipush 3, .iaload, .invokestatic 1485961, .ifCond .ne 57, .goto 55]),
  (55, [.sipush 0, .freturn]),
  (57, [.aload 0, .aload 0, .getfield 486159, .sipush 42, .iload 1, .iadd, .iaload, .aload 0, .getfield 776, .invokestatic 2010637, .ifCond .eq 83, .aload 0, .sipush 3, .invokestatic 1485513, .freturn]),
  (83, [.aload 0, .getfield 486159, .sipush 52, .iload 1, .iadd, .aload 0, .getfield 776, .iastore, .aload 0, .invokestatic 960644, .aload 0, .sipush 62, .iload 1, .iadd, .aload 0, .sipush 1, .sipush 20, .invokestatic 2009997, .invokestatic 2010061, .ifCond .ne 120, .sipush 0, .freturn]),
  (120, [.aload 0, .getfield 486159, .sipush 0, .dup2, .iaload, .sipush 1, .iadd, .iastore, .sipush 1, .freturn])]
/-- BanksDealtModel.readFirst(II)Z -/
def P_180 : bk_P := [(0, [.aload 0, .getfield 486159, .iload 1, .iaload, .iload 2, .if_icmp .ne 16, .aload 0, .sipush 4, .invokestatic 1485513, .freturn]),
  (16, [.aload 0, .invokestatic 960644, .sipush 1, .freturn])]
/-- BanksDealtModel.readNew(I)Z -/
def P_181 : bk_P := [(0, [.aload 0, .invokestatic 961925, .ifCond .ne 13, .aload 0, .sipush 1, .invokestatic 1485513, .freturn]),
  (13, [.aload 0, .getfield 527124, .sipush 0, .aload 0, .getfield 486159, .sipush 0, .iaload, .aload 0, .getfield 1804, .invokestatic 2633169, .sipush (-1), .if_icmp .ne 58, .aload 0, .getfield 527124, .sipush 10, .aload 0, .getfield 486159, .sipush 1, .iaload, .aload 0, .getfield 1804, .invokestatic 2633169, .sipush (-1), .if_icmp .eq 64, .goto 58]),
  (58, [.aload 0, .sipush 3, .invokestatic 1485513, .freturn]),
  (64, [.aload 0, .getfield 527124, .iload 1, .aload 0, .getfield 1804, .lastore, .aload 0, .invokestatic 960644, .sipush 1, .freturn])]
/-- BanksDealtModel.isName()Z -/
def P_182 : bk_P := [(0, [.aload 0, .getfield 775, .sipush 2, .if_icmp .eq 10, .sipush 0, .freturn]),
  (10, [.sipush 0, .istore 1, .goto 12]),
  (12, [.iload 1, .sipush 24, .if_icmp .gt 38, .aload 0, .getfield 1804, .iload 1, .invokestatic 535046, .lcmp, .ifCond .ne 32, .sipush 0, .freturn]),
  (32, [.iinc 1 (1), .goto 12]),
  (38, [.sipush 1, .freturn])]
/-- BanksDealtModel.findIn([JIIJ)I -/
def P_183 : bk_P := [(0, [.sipush 0, .istore 5, .goto 3]),
  (3, [.iload 5, .iload 2, .if_icmp .ge 29, .aload 0, .iload 1, .iload 5, .iadd, .laload, .lload 3, .lcmp, .ifCond .ne 23, .iload 5, .ireturn]),
  (23, [.iinc 5 (1), .goto 3]),
  (29, [.sipush (-1), .ireturn])]
/-- BanksDealtModel.isField(II)Z -/
def P_184 : bk_P := [(0, [.sipush 0, .istore 3, .goto 2]),
  (2, [.iload 3, .aload 0, .getfield 486159, .sipush 0, .iaload, .if_icmp .ge 46, .aload 0, .getfield 486159, .sipush 42, .iload 3, .iadd, .iaload, .iload 1, .if_icmp .ne 40, .aload 0, .getfield 486159, .sipush 52, .iload 3, .iadd, .iaload, .iload 2, .if_icmp .ne 40, .sipush 1, .freturn]),
  (40, [.iinc 3 (1), .goto 2]),
  (46, [.sipush 0, .freturn])]
/-- BanksDealtModel.readMill()Z -/
def P_185 : bk_P := [(0, [.aload 0, .sipush 1, .sipush 3, .invokestatic 2010381, .ifCond .ne 11, .sipush 0, .freturn]),
  (11, [.aload 0, .getfield 486159, .sipush 1, .iaload, .istore 1, .aload 0, .sipush 10, .iload 1, .iadd, .invokestatic 1486153, .ifCond .eq 68, .aload 0, .sipush 72, .iload 1, .iadd, .aload 0, .invokestatic 961605, .invokestatic 2010061, .ifCond .eq 68, .aload 0, .sipush 75, .iload 1, .iadd, .aload 0, .sipush 0, .aload 0, .getfield 486159, .sipush 3, .iaload, .sipush 1, .isub, .invokestatic 2009997, .invokestatic 2010061, .ifCond .ne 70, .goto 68]),
  (68, [.sipush 0, .freturn]),
  (70, [.aload 0, .getfield 486159, .sipush 1, .dup2, .iaload, .sipush 1, .iadd, .iastore, .sipush 1, .freturn])]
/-- BanksDealtModel.readPurse()Z -/
def P_186 : bk_P := [(0, [.aload 0, .invokestatic 960644, .aload 0, .invokestatic 962245, .ifCond .ne 17, .aload 0, .sipush 1, .invokestatic 1485513, .freturn]),
  (17, [.aload 0, .sipush 15, .invokestatic 1485257, .ifCond .eq 30, .sipush 0, .goto 31]),
  (30, [.sipush 1, .goto 31]),
  (31, [.istore 1, .aload 0, .sipush 3, .iload 1, .iadd, .invokestatic 1485577, .ifCond .eq 64, .aload 0, .sipush 78, .iload 1, .iadd, .aload 0, .sipush 0, .sipush 99, .invokestatic 2009997, .invokestatic 2010061, .ifCond .eq 64, .sipush 1, .goto 65]),
  (64, [.sipush 0, .goto 65]),
  (65, [.freturn])]
/-- BanksDealtModel.isSideHere()Z -/
def P_187 : bk_P := [(0, [.aload 0, .sipush 15, .invokestatic 1485257, .ifCond .ne 18, .aload 0, .sipush 16, .invokestatic 1485257, .ifCond .eq 22, .goto 18]),
  (18, [.sipush 1, .goto 23]),
  (22, [.sipush 0, .goto 23]),
  (23, [.freturn])]
/-- BanksDealtModel.readEnd()Z -/
def P_188 : bk_P := [(0, [.aload 0, .sipush 59, .invokestatic 1486665, .ifCond .ne 15, .aload 0, .sipush 1, .invokestatic 1485513, .freturn]),
  (15, [.aload 0, .invokestatic 960644, .sipush 1, .freturn])]
/-- BanksDealtModel.isSign(I)Z -/
def P_189 : bk_P := [(0, [.aload 0, .getfield 775, .sipush 4, .if_icmp .ne 20, .aload 0, .getfield 777, .iload 1, .if_icmp .ne 20, .sipush 1, .goto 21]),
  (20, [.sipush 0, .goto 21]),
  (21, [.freturn])]
/-- BanksDealtModel.fault()I -/
def P_190 : bk_P := [(0, [.aload 0, .sipush 0, .putfield 768, .aload 0, .getfield 778, .ireturn])]
/-- BanksDealtModel.field(II)I -/
def P_191 : bk_P := [(0, [.aload 0, .sipush 0, .putfield 768, .aload 0, .iload 1, .invokestatic 1486857, .ifCond .ne 18, .aload 0, .invokestatic 962629, .ireturn]),
  (18, [.iload 2, .tableswitch 99 0 4 #[52, 62, 72, 82, 88]]),
  (52, [.aload 0, .getfield 477966, .sipush 42, .iload 1, .iadd, .iaload, .ireturn]),
  (62, [.aload 0, .getfield 477966, .sipush 52, .iload 1, .iadd, .iaload, .ireturn]),
  (72, [.aload 0, .getfield 477966, .sipush 62, .iload 1, .iadd, .iaload, .ireturn]),
  (82, [.aload 0, .iload 1, .invokestatic 1486985, .ireturn]),
  (88, [.aload 0, .getfield 477966, .sipush 136, .iload 1, .iadd, .iaload, .ireturn]),
  (99, [.aload 0, .invokestatic 962629, .ireturn])]
/-- BanksDealtModel.isFieldAt(I)Z -/
def P_192 : bk_P := [(0, [.iload 1, .sipush 0, .aload 0, .getfield 477966, .sipush 0, .iaload, .sipush 1, .isub, .invokestatic 1582925, .freturn])]
/-- BanksDealtModel.refuse()I -/
def P_193 : bk_P := [(0, [.aload 0, .sipush 1, .putfield 768, .sipush 0, .ireturn])]
/-- BanksDealtModel.whose(I)I -/
def P_194 : bk_P := [(0, [.aload 0, .aload 0, .getfield 477966, .sipush 42, .iload 1, .iadd, .iaload, .aload 0, .getfield 477966, .sipush 52, .iload 1, .iadd, .iaload, .invokestatic 2011341, .ireturn])]
/-- BanksDealtModel.bankOf(II)I -/
def P_195 : bk_P := [(0, [.iload 1, .aload 0, .getfield 477966, .sipush 121, .iload 2, .iadd, .iaload, .invokestatic 1061129, .ireturn])]
/-- BanksDealtModel.sideOf(II)I -/
def P_196 : bk_P := [(0, [.iload 0, .iload 1, .if_icmp .ge 9, .sipush 0, .goto 19]),
  (9, [.iload 0, .iload 1, .if_icmp .le 18, .sipush 1, .goto 19]),
  (18, [.sipush 2, .goto 19]),
  (19, [.ireturn])]
/-- BanksDealtModel.mill(II)I -/
def P_197 : bk_P := [(0, [.aload 0, .sipush 0, .putfield 768, .aload 0, .iload 1, .invokestatic 1487241, .ifCond .ne 15, .sipush (-1), .ireturn]),
  (15, [.iload 2, .tableswitch 104 0 3 #[48, 58, 69, 93]]),
  (48, [.aload 0, .getfield 477966, .sipush 127, .iload 1, .iadd, .iaload, .ireturn]),
  (58, [.aload 0, .getfield 477966, .sipush 130, .iload 1, .iadd, .iaload, .ireturn]),
  (69, [.aload 0, .aload 0, .getfield 477966, .sipush 127, .iload 1, .iadd, .iaload, .aload 0, .getfield 477966, .sipush 130, .iload 1, .iadd, .iaload, .invokestatic 2011341, .ireturn]),
  (93, [.aload 0, .getfield 477966, .sipush 133, .iload 1, .iadd, .iaload, .ireturn]),
  (104, [.sipush (-1), .ireturn])]
/-- BanksDealtModel.isMill(I)Z -/
def P_198 : bk_P := [(0, [.iload 1, .sipush 0, .aload 0, .getfield 477966, .sipush 1, .iaload, .sipush 1, .isub, .invokestatic 1582925, .freturn])]
/-- BanksDealtModel.height(II)I -/
def P_199 : bk_P := [(0, [.aload 0, .sipush 0, .putfield 768, .aload 0, .iload 1, .iload 2, .invokestatic 2008845, .ifCond .eq 31, .aload 0, .getfield 477966, .sipush 85, .sipush 6, .iload 2, .imul, .iadd, .iload 1, .iadd, .iaload, .goto 32]),
  (31, [.sipush (-1), .goto 32]),
  (32, [.ireturn])]
/-- BanksDealtModel.bank(II)I -/
def P_200 : bk_P := [(0, [.aload 0, .sipush 0, .putfield 768, .aload 0, .iload 1, .iload 2, .invokestatic 2008845, .ifCond .eq 23, .aload 0, .iload 1, .iload 2, .invokestatic 2011341, .goto 24]),
  (23, [.sipush (-1), .goto 24]),
  (24, [.ireturn])]
/-- BanksDealtModel.bed(I)I -/
def P_201 : bk_P := [(0, [.aload 0, .sipush 0, .putfield 768, .aload 0, .iload 1, .invokestatic 1487497, .ifCond .eq 25, .aload 0, .getfield 477966, .sipush 121, .iload 1, .iadd, .iaload, .goto 26]),
  (25, [.sipush (-1), .goto 26]),
  (26, [.ireturn])]
/-- BanksDealtModel.isRow(I)Z -/
def P_202 : bk_P := [(0, [.iload 1, .sipush 0, .aload 0, .getfield 477966, .sipush 3, .iaload, .sipush 1, .isub, .invokestatic 1582925, .freturn])]
/-- BanksDealtModel.side(II)I -/
def P_203 : bk_P := [(0, [.aload 0, .sipush 0, .putfield 768, .iload 1, .sipush 0, .sipush 1, .invokestatic 1582925, .ifCond .ne 16, .sipush (-1), .ireturn]),
  (16, [.iload 2, .tableswitch 84 0 3 #[48, 58, 64, 74]]),
  (48, [.aload 0, .getfield 477966, .sipush 81, .iload 1, .iadd, .iaload, .ireturn]),
  (58, [.aload 0, .iload 1, .invokestatic 1487625, .ireturn]),
  (64, [.aload 0, .aload 0, .iload 1, .invokestatic 1487625, .invokestatic 1487689, .ireturn]),
  (74, [.aload 0, .getfield 477966, .sipush 83, .iload 1, .iadd, .iaload, .ireturn]),
  (84, [.sipush (-1), .ireturn])]
/-- BanksDealtModel.fieldsOf(I)I -/
def P_204 : bk_P := [(0, [.sipush 0, .istore 2, .sipush 0, .istore 3, .goto 4]),
  (4, [.iload 3, .aload 0, .getfield 477966, .sipush 0, .iaload, .if_icmp .ge 35, .aload 0, .iload 3, .invokestatic 1486985, .iload 1, .if_icmp .ne 29, .iload 2, .sipush 1, .iload 3, .ishl, .ior, .istore 2, .goto 29]),
  (29, [.iinc 3 (1), .goto 4]),
  (35, [.iload 2, .ireturn])]
/-- BanksDealtModel.worthOf(I)I -/
def P_205 : bk_P := [(0, [.sipush 0, .istore 2, .sipush 0, .istore 3, .goto 4]),
  (4, [.iload 3, .sipush 10, .if_icmp .ge 36, .iload 1, .iload 3, .invokestatic 1061769, .ifCond .eq 30, .iload 2, .aload 0, .getfield 477966, .sipush 62, .iload 3, .iadd, .iaload, .iadd, .istore 2, .goto 30]),
  (30, [.iinc 3 (1), .goto 4]),
  (36, [.iload 2, .ireturn])]
/-- BanksDealtModel.has(II)Z -/
def P_206 : bk_P := [(0, [.iload 0, .iload 1, .ishr, .sipush 1, .iand, .sipush 1, .if_icmp .ne 13, .sipush 1, .goto 14]),
  (13, [.sipush 0, .goto 14]),
  (14, [.freturn])]
/-- BanksDealtModel.now(I)I -/
def P_207 : bk_P := [(0, [.aload 0, .sipush 0, .putfield 768, .sipush 0, .istore 2, .iload 1, .tableswitch 178 0 4 #[44, 52, 58, 103, 149]]),
  (44, [.aload 0, .getfield 477966, .sipush 80, .iaload, .ireturn]),
  (52, [.aload 0, .sipush 2, .invokestatic 1487625, .ireturn]),
  (58, [.sipush 0, .istore 3, .goto 60]),
  (60, [.iload 3, .aload 0, .getfield 477966, .sipush 3, .iaload, .if_icmp .ge 101, .iload 2, .aload 0, .getfield 477966, .sipush 85, .sipush 6, .iload 3, .imul, .iadd, .aload 0, .getfield 477966, .sipush 121, .iload 3, .iadd, .iaload, .iadd, .iaload, .iadd, .istore 2, .iinc 3 (1), .goto 60]),
  (101, [.iload 2, .ireturn]),
  (103, [.sipush 1, .istore 3, .goto 105]),
  (105, [.iload 3, .aload 0, .getfield 477966, .sipush 3, .iaload, .if_icmp .ge 147, .aload 0, .getfield 477966, .sipush 121, .iload 3, .iadd, .iaload, .aload 0, .getfield 477966, .sipush 121, .iload 3, .iadd, .sipush 1, .isub, .iaload, .if_icmp .eq 141, .iinc 2 (1), .goto 141]),
  (141, [.iinc 3 (1), .goto 105]),
  (147, [.iload 2, .ireturn]),
  (149, [.sipush 0, .istore 3, .goto 151]),
  (151, [.iload 3, .sipush 10, .if_icmp .ge 176, .iload 2, .aload 0, .getfield 477966, .sipush 136, .iload 3, .iadd, .iaload, .iadd, .istore 2, .iinc 3 (1), .goto 151]),
  (176, [.iload 2, .ireturn]),
  (178, [.sipush (-1), .ireturn])]
/-- BanksDealtModel.dig(III)I -/
def P_208 : bk_P := [(0, [.aload 0, .sipush 0, .putfield 768, .iload 1, .sipush 0, .sipush 1, .invokestatic 1582925, .ifCond .eq 34, .aload 0, .iload 2, .iload 3, .invokestatic 2008845, .ifCond .eq 34, .aload 0, .sipush 0, .iload 1, .iload 2, .iload 3, .invokestatic 3060821, .goto 35]),
  (34, [.sipush (-1), .goto 35]),
  (35, [.ireturn])]
/-- BanksDealtModel.act(IIII)I -/
def P_209 : bk_P := [(0, [.aload 0, .iload 1, .iload 2, .iload 3, .iload 4, .invokestatic 3060885, .istore 5, .iload 5, .ifCond .eq 19, .iload 5, .ireturn]),
  (19, [.aload 0, .invokestatic 963908, .aload 0, .iload 1, .iload 2, .iload 3, .iload 4, .invokestatic 3061140, .sipush 0, .ireturn])]
/-- BanksDealtModel.why(IIII)I -/
def P_210 : bk_P := [(0, [.iload 1, .sipush 4, .if_icmp .ne 77, .aload 0, .getfield 477966, .sipush 127, .iload 2, .iadd, .iaload, .iload 3, .isub, .invokestatic 537797, .aload 0, .getfield 477966, .sipush 130, .iload 2, .iadd, .iaload, .iload 4, .isub, .invokestatic 537797, .iadd, .sipush 1, .if_icmp .eq 44, .sipush 1, .goto 76]),
  (44, [.aload 0, .aload 0, .getfield 477966, .sipush 127, .iload 2, .iadd, .iaload, .aload 0, .getfield 477966, .sipush 130, .iload 2, .iadd, .iaload, .invokestatic 2011341, .sipush 2, .if_icmp .ne 75, .sipush 2, .goto 76]),
  (75, [.sipush 0, .goto 76]),
  (76, [.ireturn]),
  (77, [.aload 0, .getfield 477966, .sipush 81, .iload 2, .iadd, .iaload, .ifCond .ne 93, .sipush 1, .goto 127]),
  (93, [.aload 0, .iload 3, .iload 4, .invokestatic 2011341, .sipush 1, .iload 2, .isub, .if_icmp .ne 110, .sipush 2, .goto 127]),
  (110, [.aload 0, .iload 1, .iload 2, .iload 3, .iload 4, .invokestatic 3061013, .ifCond .eq 126, .sipush 0, .goto 127]),
  (126, [.sipush 3, .goto 127]),
  (127, [.ireturn])]
/-- BanksDealtModel.size(I)I -/
def P_211 : bk_P := [(0, [.iload 0, .ifCond .ge 9, .iload 0, .ineg, .goto 10]),
  (9, [.iload 0, .goto 10]),
  (10, [.ireturn])]
/-- BanksDealtModel.mayWork(IIII)Z -/
def P_212 : bk_P := [(0, [.aload 0, .iload 3, .iload 4, .invokestatic 2011341, .sipush 1, .iload 2, .isub, .if_icmp .eq 45, .aload 0, .getfield 477966, .sipush 85, .sipush 6, .iload 4, .imul, .iadd, .iload 3, .iadd, .iaload, .iload 1, .ifCond .ne 36, .sipush 0, .goto 38]),
  (36, [.sipush 9, .goto 38]),
  (38, [.if_icmp .eq 45, .sipush 1, .goto 46]),
  (45, [.sipush 0, .goto 46]),
  (46, [.freturn])]
/-- BanksDealtModel.snap()V -/
def P_213 : bk_P := [(0, [.aload 0, .getfield 793, .sipush 8, .if_icmp .ne 49, .sipush 0, .istore 1, .goto 11]),
  (11, [.iload 1, .sipush 805, .if_icmp .ge 39, .aload 0, .getfield 502545, .iload 1, .aload 0, .getfield 502545, .iload 1, .sipush 115, .iadd, .iaload, .iastore, .iinc 1 (1), .goto 11]),
  (39, [.aload 0, .dup, .getfield 793, .sipush 1, .isub, .putfield 793, .goto 49]),
  (49, [.sipush 0, .istore 1, .goto 51]),
  (51, [.iload 1, .sipush 115, .if_icmp .ge 86, .aload 0, .getfield 502545, .sipush 115, .aload 0, .getfield 793, .imul, .iload 1, .iadd, .aload 0, .getfield 477966, .sipush 80, .iload 1, .iadd, .iaload, .iastore, .iinc 1 (1), .goto 51]),
  (86, [.aload 0, .dup, .getfield 793, .sipush 1, .iadd, .putfield 793, .return_])]
/-- BanksDealtModel.live(IIII)V -/
def P_214 : bk_P := [(0, [.iload 1, .sipush 4, .if_icmp .ne 42, .aload 0, .getfield 477966, .sipush 127, .iload 2, .iadd, .iload 3, .iastore, .aload 0, .getfield 477966, .sipush 130, .iload 2, .iadd, .iload 4, .iastore, .aload 0, .getfield 477966, .sipush 133, .iload 2, .iadd, .dup2, .iaload, .sipush 1, .iadd, .iastore, .return_]),
  (42, [.aload 0, .getfield 477966, .sipush 81, .iload 2, .iadd, .dup2, .iaload, .sipush 1, .isub, .iastore, .aload 0, .getfield 477966, .sipush 83, .iload 2, .iadd, .dup2, .iaload, .sipush 1, .iadd, .iastore, .aload 0, .getfield 477966, .sipush 85, .sipush 6, .iload 4, .imul, .iadd, .iload 3, .iadd, .dup2, .iaload, .iload 1, .ifCond .ne 92, .sipush (-1), .goto 93]),
  (92, [.sipush 1, .goto 93]),
  (93, [.iadd, .iastore, .return_])]
/-- BanksDealtModel.lay(III)I -/
def P_215 : bk_P := [(0, [.aload 0, .sipush 0, .putfield 768, .iload 1, .sipush 0, .sipush 1, .invokestatic 1582925, .ifCond .eq 34, .aload 0, .iload 2, .iload 3, .invokestatic 2008845, .ifCond .eq 34, .aload 0, .sipush 1, .iload 1, .iload 2, .iload 3, .invokestatic 3060821, .goto 35]),
  (34, [.sipush (-1), .goto 35]),
  (35, [.ireturn])]
/-- BanksDealtModel.roll(III)I -/
def P_216 : bk_P := [(0, [.aload 0, .sipush 0, .putfield 768, .aload 0, .iload 1, .invokestatic 1487241, .ifCond .eq 33, .aload 0, .iload 2, .iload 3, .invokestatic 2008845, .ifCond .eq 33, .aload 0, .sipush 4, .iload 1, .iload 2, .iload 3, .invokestatic 3060821, .goto 34]),
  (33, [.sipush (-1), .goto 34]),
  (34, [.ireturn])]
/-- BanksDealtModel.undo()I -/
def P_217 : bk_P := [(0, [.aload 0, .sipush 0, .putfield 768, .aload 0, .getfield 793, .ifCond .ne 14, .sipush (-1), .ireturn]),
  (14, [.aload 0, .dup, .getfield 793, .sipush 1, .isub, .putfield 793, .sipush 0, .istore 1, .goto 26]),
  (26, [.iload 1, .sipush 115, .if_icmp .ge 61, .aload 0, .getfield 477966, .sipush 80, .iload 1, .iadd, .aload 0, .getfield 502545, .sipush 115, .aload 0, .getfield 793, .imul, .iload 1, .iadd, .iaload, .iastore, .iinc 1 (1), .goto 26]),
  (61, [.aload 0, .getfield 793, .ireturn])]
/-- BanksDealtModel.spring(I)I -/
def P_218 : bk_P := [(0, [.aload 0, .sipush 0, .putfield 768, .aload 0, .getfield 477966, .sipush 80, .iaload, .sipush 400, .if_icmp .ne 20, .sipush (-1), .ireturn]),
  (20, [.aload 0, .invokestatic 963908, .aload 0, .iload 1, .putfield 798, .aload 0, .invokestatic 964293, .ireturn])]
/-- BanksDealtModel.oneSpring()I -/
def P_219 : bk_P := [(0, [.sipush 0, .istore 1, .goto 2]),
  (2, [.iload 1, .aload 0, .getfield 477966, .sipush 3, .iaload, .if_icmp .ge 59, .sipush 0, .istore 2, .goto 14]),
  (14, [.iload 2, .aload 0, .getfield 477966, .sipush 2, .iaload, .if_icmp .ge 53, .aload 0, .getfield 568091, .sipush 6, .iload 1, .imul, .iload 2, .iadd, .aload 0, .aload 0, .getfield 477966, .sipush 5, .iaload, .sipush 1, .iadd, .invokestatic 1488649, .iastore, .iinc 2 (1), .goto 14]),
  (53, [.iinc 1 (1), .goto 2]),
  (59, [.aload 0, .invokestatic 960069, .pop, .aload 0, .invokestatic 960004, .aload 0, .invokestatic 964420, .sipush 0, .istore 1, .sipush 0, .istore 2, .goto 76]),
  (76, [.iload 2, .aload 0, .getfield 477966, .sipush 0, .iaload, .if_icmp .ge 125, .aload 0, .iload 2, .invokestatic 1486985, .aload 0, .iload 2, .invokestatic 1488777, .if_icmp .ne 102, .goto 119]),
  (102, [.aload 0, .getfield 477966, .sipush 136, .iload 2, .iadd, .dup2, .iaload, .sipush 1, .iadd, .iastore, .iinc 1 (1), .goto 119]),
  (119, [.iinc 2 (1), .goto 76]),
  (125, [.sipush 0, .istore 2, .goto 127]),
  (127, [.iload 2, .aload 0, .getfield 477966, .sipush 3, .iaload, .if_icmp .ge 158, .aload 0, .getfield 477966, .sipush 121, .iload 2, .iadd, .aload 0, .getfield 584477, .iload 2, .iaload, .iastore, .iinc 2 (1), .goto 127]),
  (158, [.aload 0, .sipush 0, .invokestatic 1488840, .aload 0, .sipush 1, .invokestatic 1488840, .aload 0, .getfield 477966, .sipush 80, .dup2, .iaload, .sipush 1, .iadd, .iastore, .iload 1, .ireturn])]
/-- BanksDealtModel.draw(I)I -/
def P_220 : bk_P := [(0, [.aload 0, .aload 0, .getfield 798, .sipush 1103515245, .dmul, .sipush 12345, .dadd, .putfield 798, .aload 0, .getfield 798, .sipush 8, .iushr, .iload 1, .irem, .ireturn])]
/-- BanksDealtModel.keepPast()V -/
def P_221 : bk_P := [(0, [.sipush 47, .istore 1, .goto 3]),
  (3, [.iload 1, .sipush 6, .if_icmp .lt 38, .aload 0, .getfield 477966, .sipush 146, .iload 1, .iadd, .aload 0, .getfield 477966, .sipush 146, .iload 1, .iadd, .sipush 6, .isub, .iaload, .iastore, .iinc 1 (-1), .goto 3]),
  (38, [.sipush 0, .istore 1, .goto 40]),
  (40, [.iload 1, .sipush 6, .if_icmp .ge 71, .aload 0, .getfield 477966, .sipush 146, .iload 1, .iadd, .aload 0, .getfield 477966, .sipush 121, .iload 1, .iadd, .iaload, .iastore, .iinc 1 (1), .goto 40]),
  (71, [.aload 0, .getfield 477966, .sipush 194, .iaload, .sipush 8, .if_icmp .ge 96, .aload 0, .getfield 477966, .sipush 194, .dup2, .iaload, .sipush 1, .iadd, .iastore, .goto 96]),
  (96, [.return_])]
/-- BanksDealtModel.whoseByBest(I)I -/
def P_222 : bk_P := [(0, [.aload 0, .getfield 477966, .sipush 42, .iload 1, .iadd, .iaload, .aload 0, .getfield 584477, .aload 0, .getfield 477966, .sipush 52, .iload 1, .iadd, .iaload, .iaload, .invokestatic 1061129, .ireturn])]
/-- BanksDealtModel.earns(I)V -/
def P_223 : bk_P := [(0, [.aload 0, .aload 0, .iload 1, .invokestatic 1487625, .invokestatic 1487689, .sipush 4, .idiv, .istore 2, .sipush 0, .istore 3, .goto 14]),
  (14, [.iload 3, .aload 0, .getfield 477966, .sipush 1, .iaload, .if_icmp .ge 60, .aload 0, .aload 0, .getfield 477966, .sipush 127, .iload 3, .iadd, .iaload, .aload 0, .getfield 477966, .sipush 130, .iload 3, .iadd, .iaload, .invokestatic 2011341, .iload 1, .if_icmp .ne 54, .iinc 2 (2), .goto 54]),
  (54, [.iinc 3 (1), .goto 14]),
  (60, [.aload 0, .getfield 477966, .sipush 81, .iload 1, .iadd, .sipush 999, .aload 0, .getfield 477966, .sipush 81, .iload 1, .iadd, .iaload, .iload 2, .iadd, .invokestatic 1058697, .iastore, .return_])]
/-- BanksDealtModel.years(II)I -/
def P_224 : bk_P := [(0, [.aload 0, .sipush 0, .putfield 768, .iload 1, .sipush 1, .sipush 30, .invokestatic 1582925, .ifCond .ne 17, .sipush (-1), .ireturn]),
  (17, [.aload 0, .getfield 477966, .sipush 80, .iaload, .sipush 400, .if_icmp .ne 32, .sipush 0, .ireturn]),
  (32, [.aload 0, .invokestatic 963908, .aload 0, .iload 1, .iload 2, .invokestatic 2013261, .ireturn])]
/-- BanksDealtModel.passYears(II)I -/
def P_225 : bk_P := [(0, [.aload 0, .iload 2, .putfield 798, .iload 1, .sipush 400, .aload 0, .getfield 477966, .sipush 80, .iaload, .isub, .invokestatic 1058697, .istore 3, .sipush 0, .istore 4, .goto 24]),
  (24, [.iload 4, .iload 3, .if_icmp .ge 41, .aload 0, .invokestatic 964293, .pop, .iinc 4 (1), .goto 24]),
  (41, [.iload 3, .ireturn])]
/-- BanksDealtModel.ago(II)I -/
def P_226 : bk_P := [(0, [.aload 0, .sipush 0, .putfield 768, .iload 1, .sipush 1, .aload 0, .getfield 477966, .sipush 194, .iaload, .invokestatic 1582925, .ifCond .eq 49, .aload 0, .iload 2, .invokestatic 1487497, .ifCond .eq 49, .aload 0, .getfield 477966, .sipush 146, .sipush 6, .iload 1, .sipush 1, .isub, .imul, .iadd, .iload 2, .iadd, .iaload, .goto 50]),
  (49, [.sipush (-1), .goto 50]),
  (50, [.ireturn])]
/-- BanksDealtModel.would()I -/
def P_227 : bk_P := [(0, [.aload 0, .sipush 0, .putfield 768, .aload 0, .invokestatic 960069, .ireturn])]
/-- BanksDealtModel.wouldAt(I)I -/
def P_228 : bk_P := [(0, [.aload 0, .sipush 0, .putfield 768, .aload 0, .iload 1, .invokestatic 1487497, .ifCond .ne 15, .sipush (-1), .ireturn]),
  (15, [.aload 0, .invokestatic 960069, .pop, .aload 0, .getfield 584477, .iload 1, .iaload, .ireturn])]
/-- BanksDealtModel.wouldBe(I)I -/
def P_229 : bk_P := [(0, [.aload 0, .sipush 0, .putfield 768, .iload 1, .sipush 0, .sipush 2, .invokestatic 1582925, .ifCond .ne 16, .sipush (-1), .ireturn]),
  (16, [.aload 0, .invokestatic 960069, .pop, .aload 0, .iload 1, .invokestatic 1489289, .ireturn])]
/-- BanksDealtModel.fieldsByBest(I)I -/
def P_230 : bk_P := [(0, [.sipush 0, .istore 2, .sipush 0, .istore 3, .goto 4]),
  (4, [.iload 3, .aload 0, .getfield 477966, .sipush 0, .iaload, .if_icmp .ge 35, .aload 0, .iload 3, .invokestatic 1488777, .iload 1, .if_icmp .ne 29, .iload 2, .sipush 1, .iload 3, .ishl, .ior, .istore 2, .goto 29]),
  (29, [.iinc 3 (1), .goto 4]),
  (35, [.iload 2, .ireturn])]
/-- BanksDealtModel.tempted(III)I -/
def P_231 : bk_P := [(0, [.aload 0, .sipush 0, .putfield 768, .aload 0, .iload 1, .invokestatic 1486857, .ifCond .eq 31, .iload 2, .sipush 0, .sipush 1, .invokestatic 1582925, .ifCond .eq 31, .iload 3, .sipush 0, .sipush 1, .invokestatic 1582925, .ifCond .ne 33, .goto 31]),
  (31, [.sipush (-1), .ireturn]),
  (33, [.sipush 0, .istore 4, .goto 36]),
  (36, [.iload 4, .sipush 3, .if_icmp .gt 104, .aload 0, .sipush 0, .iload 4, .sipush 0, .iload 1, .iload 2, .iload 3, .invokestatic 4110877, .ifCond .ne 59, .goto 98]),
  (59, [.aload 0, .iload 4, .putfield 801, .sipush 0, .istore 5, .goto 68]),
  (68, [.iload 5, .iload 4, .if_icmp .ge 95, .aload 0, .getfield 600864, .iload 5, .aload 0, .getfield 592671, .iload 5, .iaload, .iastore, .iinc 5 (1), .goto 68]),
  (95, [.iload 4, .ireturn]),
  (98, [.iinc 4 (1), .goto 36]),
  (104, [.sipush (-1), .ireturn])]
/-- BanksDealtModel.tempts(IIIIII)Z -/
def P_232 : bk_P := [(0, [.iload 1, .iload 2, .if_icmp .ne 27, .aload 0, .invokestatic 960069, .pop, .aload 0, .iload 4, .invokestatic 1488777, .iload 5, .if_icmp .ne 25, .sipush 1, .goto 26]),
  (25, [.sipush 0, .goto 26]),
  (26, [.freturn]),
  (27, [.iload 3, .istore 7, .goto 30]),
  (30, [.iload 7, .sipush 36, .if_icmp .ge 163, .iload 7, .sipush 6, .irem, .istore 8, .iload 7, .sipush 6, .idiv, .istore 9, .aload 0, .iload 8, .iload 9, .invokestatic 2008845, .ifCond .eq 157, .aload 0, .iload 6, .iload 5, .iload 8, .iload 9, .invokestatic 3061013, .ifCond .ne 80, .goto 157]),
  (80, [.iload 6, .ifCond .ne 89, .sipush (-1), .goto 90]),
  (89, [.sipush 1, .goto 90]),
  (90, [.istore 10, .aload 0, .getfield 477966, .sipush 85, .iload 7, .iadd, .dup2, .iaload, .iload 10, .iadd, .iastore, .aload 0, .getfield 592671, .iload 1, .iload 7, .iastore, .aload 0, .iload 1, .sipush 1, .iadd, .iload 2, .iload 7, .sipush 1, .iadd, .iload 4, .iload 5, .iload 6, .invokestatic 4110877, .istore 11, .aload 0, .getfield 477966, .sipush 85, .iload 7, .iadd, .dup2, .iaload, .iload 10, .isub, .iastore, .iload 11, .ifCond .eq 157, .sipush 1, .freturn]),
  (157, [.iinc 7 (1), .goto 30]),
  (163, [.sipush 0, .freturn])]
/-- BanksDealtModel.temptedAt(I)I -/
def P_233 : bk_P := [(0, [.aload 0, .sipush 0, .putfield 768, .iload 1, .sipush 0, .aload 0, .getfield 801, .sipush 1, .isub, .invokestatic 1582925, .ifCond .eq 28, .aload 0, .getfield 600864, .iload 1, .iaload, .goto 29]),
  (28, [.sipush (-1), .goto 29]),
  (29, [.ireturn])]
/-- BanksDealtModel.duel(I)I -/
def P_234 : bk_P := [(0, [.aload 0, .sipush 0, .putfield 768, .iload 1, .sipush 0, .sipush 1, .invokestatic 1582925, .ifCond .ne 19, .aload 0, .invokestatic 962629, .ireturn]),
  (19, [.aload 0, .iload 1, .invokestatic 1489609, .istore 2, .aload 0, .getfield 609058, .sipush 0, .sipush (-2), .iastore, .aload 0, .getfield 609058, .sipush 1, .aload 0, .getfield 804, .iastore, .aload 0, .sipush 1, .putfield 4899, .aload 0, .getfield 477966, .sipush 81, .iload 1, .iadd, .iaload, .ifCond .ne 62, .iload 2, .ireturn]),
  (62, [.sipush 0, .istore 3, .goto 64]),
  (64, [.iload 3, .sipush 72, .if_icmp .ge 162, .aload 0, .iload 3, .iload 1, .invokestatic 2014029, .ifCond .ne 82, .goto 156]),
  (82, [.aload 0, .getfield 477966, .sipush 85, .iload 3, .sipush 36, .irem, .iadd, .dup2, .iaload, .iload 3, .invokestatic 539525, .iadd, .iastore, .aload 0, .iload 1, .invokestatic 1489609, .istore 4, .aload 0, .getfield 477966, .sipush 85, .iload 3, .sipush 36, .irem, .iadd, .dup2, .iaload, .iload 3, .invokestatic 539525, .isub, .iastore, .iload 4, .iload 2, .if_icmp .gt 136, .goto 156]),
  (136, [.iload 4, .istore 2, .aload 0, .getfield 609058, .sipush 0, .iload 3, .iastore, .aload 0, .getfield 609058, .sipush 1, .aload 0, .getfield 804, .iastore, .goto 156]),
  (156, [.iinc 3 (1), .goto 64]),
  (162, [.iload 2, .ireturn])]
/-- BanksDealtModel.answered(I)I -/
def P_235 : bk_P := [(0, [.aload 0, .iload 1, .invokestatic 1489673, .istore 2, .aload 0, .sipush (-2), .putfield 804, .aload 0, .getfield 477966, .sipush 82, .iload 1, .isub, .iaload, .ifCond .ne 26, .iload 2, .ireturn]),
  (26, [.sipush 0, .istore 3, .goto 28]),
  (28, [.iload 3, .sipush 72, .if_icmp .ge 116, .aload 0, .iload 3, .sipush 1, .iload 1, .isub, .invokestatic 2014029, .ifCond .ne 48, .goto 110]),
  (48, [.aload 0, .getfield 477966, .sipush 85, .iload 3, .sipush 36, .irem, .iadd, .dup2, .iaload, .iload 3, .invokestatic 539525, .iadd, .iastore, .aload 0, .iload 1, .invokestatic 1489673, .istore 4, .aload 0, .getfield 477966, .sipush 85, .iload 3, .sipush 36, .irem, .iadd, .dup2, .iaload, .iload 3, .invokestatic 539525, .isub, .iastore, .iload 4, .iload 2, .if_icmp .lt 102, .goto 110]),
  (102, [.iload 4, .istore 2, .aload 0, .iload 3, .putfield 804, .goto 110]),
  (110, [.iinc 3 (1), .goto 28]),
  (116, [.iload 2, .ireturn])]
/-- BanksDealtModel.edge(I)I -/
def P_236 : bk_P := [(0, [.aload 0, .invokestatic 960069, .pop, .aload 0, .aload 0, .iload 1, .invokestatic 1489289, .invokestatic 1487689, .aload 0, .aload 0, .sipush 1, .iload 1, .isub, .invokestatic 1489289, .invokestatic 1487689, .isub, .ireturn])]
/-- BanksDealtModel.mayCode(II)Z -/
def P_237 : bk_P := [(0, [.iload 1, .sipush 36, .irem, .istore 3, .aload 0, .iload 3, .sipush 6, .irem, .iload 3, .sipush 6, .idiv, .invokestatic 2008845, .ifCond .eq 44, .aload 0, .iload 1, .sipush 36, .idiv, .iload 2, .iload 3, .sipush 6, .irem, .iload 3, .sipush 6, .idiv, .invokestatic 3061013, .ifCond .eq 44, .sipush 1, .goto 45]),
  (44, [.sipush 0, .goto 45]),
  (45, [.freturn])]
/-- BanksDealtModel.byCode(I)I -/
def P_238 : bk_P := [(0, [.iload 0, .sipush 36, .if_icmp .ge 10, .sipush (-1), .goto 11]),
  (10, [.sipush 1, .goto 11]),
  (11, [.ireturn])]
/-- BanksDealtModel.duelAt(I)I -/
def P_239 : bk_P := [(0, [.aload 0, .sipush 0, .putfield 768, .aload 0, .getfield 4899, .ifCond .eq 30, .iload 1, .sipush 0, .sipush 1, .invokestatic 1582925, .ifCond .eq 30, .aload 0, .getfield 609058, .iload 1, .iaload, .goto 31]),
  (30, [.sipush (-1), .goto 31]),
  (31, [.ireturn])]
/-- BanksDealtModel.pushed(II)I -/
def P_240 : bk_P := [(0, [.aload 0, .sipush 0, .putfield 768, .iload 1, .sipush 0, .sipush 1, .invokestatic 1582925, .ifCond .eq 23, .iload 2, .sipush 0, .sipush 2, .invokestatic 1582925, .ifCond .ne 25, .goto 23]),
  (23, [.sipush (-1), .ireturn]),
  (25, [.aload 0, .sipush (-1), .putfield 808, .sipush 0, .istore 3, .goto 32]),
  (32, [.iload 3, .iload 2, .if_icmp .gt 51, .aload 0, .sipush 0, .iload 3, .sipush 0, .iload 1, .invokestatic 3062868, .iinc 3 (1), .goto 32]),
  (51, [.aload 0, .getfield 808, .ireturn])]
/-- BanksDealtModel.pushFrom(IIII)V -/
def P_241 : bk_P := [(0, [.iload 1, .iload 2, .if_icmp .ne 73, .aload 0, .invokestatic 960069, .pop, .aload 0, .aload 0, .iload 4, .invokestatic 1489289, .invokestatic 1487689, .istore 5, .iload 5, .aload 0, .getfield 808, .if_icmp .gt 32, .return_]),
  (32, [.aload 0, .iload 5, .putfield 808, .aload 0, .iload 2, .putfield 807, .sipush 0, .istore 6, .goto 46]),
  (46, [.iload 6, .iload 2, .if_icmp .ge 72, .aload 0, .getfield 625446, .iload 6, .aload 0, .getfield 617253, .iload 6, .iaload, .iastore, .iinc 6 (1), .goto 46]),
  (72, [.return_]),
  (73, [.iload 3, .istore 5, .goto 76]),
  (76, [.iload 5, .sipush 72, .if_icmp .ge 188, .iload 1, .ifCond .le 104, .iload 5, .sipush 36, .irem, .aload 0, .getfield 617253, .sipush 0, .iaload, .sipush 36, .irem, .if_icmp .eq 182, .goto 104]),
  (104, [.aload 0, .iload 5, .iload 4, .invokestatic 2014029, .ifCond .ne 118, .goto 182]),
  (118, [.aload 0, .getfield 477966, .sipush 85, .iload 5, .sipush 36, .irem, .iadd, .dup2, .iaload, .iload 5, .invokestatic 539525, .iadd, .iastore, .aload 0, .getfield 617253, .iload 1, .iload 5, .iastore, .aload 0, .iload 1, .sipush 1, .iadd, .iload 2, .iload 5, .sipush 1, .iadd, .iload 4, .invokestatic 3062868, .aload 0, .getfield 477966, .sipush 85, .iload 5, .sipush 36, .irem, .iadd, .dup2, .iaload, .iload 5, .invokestatic 539525, .isub, .iastore, .goto 182]),
  (182, [.iinc 5 (1), .goto 76]),
  (188, [.return_])]
/-- BanksDealtModel.pushedAt(I)I -/
def P_242 : bk_P := [(0, [.aload 0, .sipush 0, .putfield 768, .iload 1, .sipush 0, .aload 0, .getfield 807, .sipush 1, .isub, .invokestatic 1582925, .ifCond .eq 28, .aload 0, .getfield 625446, .iload 1, .iaload, .goto 29]),
  (28, [.sipush (-1), .goto 29]),
  (29, [.ireturn])]
/-- BanksDealtModel.shares(IIII)I -/
def P_243 : bk_P := [(0, [.aload 0, .sipush 0, .putfield 768, .iload 1, .sipush 0, .sipush 1, .invokestatic 1582925, .ifCond .eq 34, .iload 2, .sipush 1, .sipush 10, .invokestatic 1582925, .ifCond .eq 34, .iload 3, .sipush 1, .sipush 30, .invokestatic 1582925, .ifCond .ne 36, .goto 34]),
  (34, [.sipush (-1), .ireturn]),
  (36, [.aload 0, .invokestatic 965892, .sipush 0, .istore 5, .sipush 0, .istore 6, .goto 46]),
  (46, [.iload 6, .iload 3, .if_icmp .ge 118, .aload 0, .iload 4, .iload 6, .dadd, .putfield 798, .sipush 0, .istore 7, .goto 64]),
  (64, [.iload 7, .iload 2, .if_icmp .ge 108, .aload 0, .getfield 477966, .sipush 80, .iaload, .sipush 400, .if_icmp .ge 108, .aload 0, .invokestatic 964293, .pop, .iload 5, .aload 0, .aload 0, .iload 1, .invokestatic 1487625, .invokestatic 1487689, .dadd, .istore 5, .iinc 7 (1), .goto 64]),
  (108, [.aload 0, .invokestatic 965956, .iinc 6 (1), .goto 46]),
  (118, [.iload 5, .ireturn])]
/-- BanksDealtModel.layAside()V -/
def P_244 : bk_P := [(0, [.sipush 0, .istore 1, .goto 2]),
  (2, [.iload 1, .sipush 115, .if_icmp .ge 29, .aload 0, .getfield 510738, .iload 1, .aload 0, .getfield 477966, .sipush 80, .iload 1, .iadd, .iaload, .iastore, .iinc 1 (1), .goto 2]),
  (29, [.return_])]
/-- BanksDealtModel.takeBack()V -/
def P_245 : bk_P := [(0, [.sipush 0, .istore 1, .goto 2]),
  (2, [.iload 1, .sipush 115, .if_icmp .ge 29, .aload 0, .getfield 477966, .sipush 80, .iload 1, .iadd, .aload 0, .getfield 510738, .iload 1, .iaload, .iastore, .iinc 1 (1), .goto 2]),
  (29, [.return_])]
/-- BanksDealtModel.odds(IIIII)I -/
def P_246 : bk_P := [(0, [.aload 0, .sipush 0, .putfield 768, .aload 0, .iload 1, .invokestatic 1486857, .ifCond .eq 43, .iload 2, .sipush 0, .sipush 2, .invokestatic 1582925, .ifCond .eq 43, .iload 3, .sipush 1, .sipush 10, .invokestatic 1582925, .ifCond .eq 43, .iload 4, .sipush 1, .sipush 30, .invokestatic 1582925, .ifCond .ne 45, .goto 43]),
  (43, [.sipush (-1), .ireturn]),
  (45, [.aload 0, .invokestatic 965892, .sipush 0, .istore 6, .sipush 0, .istore 7, .goto 55]),
  (55, [.iload 7, .iload 4, .if_icmp .ge 95, .aload 0, .iload 3, .iload 5, .iload 7, .dadd, .invokestatic 2013261, .pop, .aload 0, .iload 1, .invokestatic 1486985, .iload 2, .if_icmp .ne 85, .iinc 6 (1), .goto 85]),
  (85, [.aload 0, .invokestatic 965956, .iinc 7 (1), .goto 55]),
  (95, [.iload 6, .ireturn])]
/-- BanksDealtModel.ran()I -/
def P_247 : bk_P := [(0, [.aload 0, .sipush 0, .putfield 768, .aload 0, .invokestatic 960581, .istore 1, .iload 1, .sipush 2, .irem, .ifCond .ne 28, .iload 1, .sipush 2, .idiv, .sipush 1, .sipush 10, .invokestatic 1582925, .ifCond .ne 30, .goto 28]),
  (28, [.sipush (-1), .ireturn]),
  (30, [.sipush 0, .istore 2, .goto 32]),
  (32, [.iload 2, .iload 1, .if_icmp .ge 70, .aload 0, .aload 0, .getfield 469761, .iload 2, .iaload, .invokestatic 1486857, .ifCond .eq 62, .aload 0, .getfield 469761, .iload 2, .sipush 1, .iadd, .iaload, .sipush 2, .if_icmp .le 64, .goto 62]),
  (62, [.sipush (-1), .ireturn]),
  (64, [.iinc 2 (2), .goto 32]),
  (70, [.aload 0, .sipush 0, .putfield 813, .sipush 0, .istore 2, .goto 77]),
  (77, [.iload 2, .sipush 6, .if_icmp .ge 113, .aload 0, .getfield 658222, .iload 2, .aload 0, .getfield 641834, .iload 2, .iaload, .iastore, .aload 0, .getfield 666415, .iload 2, .aload 0, .getfield 650027, .iload 2, .iaload, .iastore, .iinc 2 (1), .goto 77]),
  (113, [.aload 0, .sipush 0, .iload 1, .invokestatic 2014732, .aload 0, .getfield 813, .ifCond .le 136, .aload 0, .aload 0, .getfield 477966, .sipush 3, .iaload, .putfield 812, .goto 136]),
  (136, [.sipush 0, .istore 2, .goto 138]),
  (138, [.iload 2, .sipush 6, .if_icmp .ge 181, .aload 0, .getfield 813, .ifCond .ne 181, .aload 0, .getfield 641834, .iload 2, .aload 0, .getfield 658222, .iload 2, .iaload, .iastore, .aload 0, .getfield 650027, .iload 2, .aload 0, .getfield 666415, .iload 2, .iaload, .iastore, .iinc 2 (1), .goto 138]),
  (181, [.aload 0, .getfield 813, .ireturn])]
/-- BanksDealtModel.runFrom(II)V -/
def P_248 : bk_P := [(0, [.iload 1, .aload 0, .getfield 477966, .sipush 3, .iaload, .if_icmp .ne 96, .aload 0, .dup, .getfield 813, .sipush 1, .iadd, .putfield 813, .sipush 0, .istore 3, .goto 22]),
  (22, [.iload 3, .iload 1, .if_icmp .ge 95, .aload 0, .getfield 813, .sipush 1, .if_icmp .ne 47, .aload 0, .getfield 641834, .iload 3, .aload 0, .getfield 633641, .iload 3, .iaload, .iastore, .goto 47]),
  (47, [.aload 0, .getfield 813, .sipush 1, .if_icmp .ne 67, .aload 0, .getfield 650027, .iload 3, .aload 0, .getfield 633641, .iload 3, .iaload, .iastore, .goto 67]),
  (67, [.aload 0, .getfield 650027, .iload 3, .iaload, .aload 0, .getfield 633641, .iload 3, .iaload, .if_icmp .eq 89, .aload 0, .getfield 650027, .iload 3, .sipush (-1), .iastore, .goto 89]),
  (89, [.iinc 3 (1), .goto 22]),
  (95, [.return_]),
  (96, [.iload 1, .ifCond .ne 104, .sipush 0, .goto 114]),
  (104, [.aload 0, .getfield 633641, .iload 1, .sipush 1, .isub, .iaload, .sipush 1, .isub, .goto 114]),
  (114, [.istore 3, .iload 1, .ifCond .ne 130, .aload 0, .getfield 477966, .sipush 2, .iaload, .sipush 1, .isub, .goto 140]),
  (130, [.aload 0, .getfield 633641, .iload 1, .sipush 1, .isub, .iaload, .sipush 1, .iadd, .goto 140]),
  (140, [.istore 4, .iload 3, .istore 5, .goto 145]),
  (145, [.iload 5, .iload 4, .if_icmp .gt 198, .aload 0, .iload 5, .iload 1, .invokestatic 2008845, .ifCond .eq 192, .aload 0, .iload 1, .iload 5, .iload 2, .invokestatic 2539089, .ifCond .ne 176, .goto 192]),
  (176, [.aload 0, .getfield 633641, .iload 1, .iload 5, .iastore, .aload 0, .iload 1, .sipush 1, .iadd, .iload 2, .invokestatic 2014732, .goto 192]),
  (192, [.iinc 5 (1), .goto 145]),
  (198, [.return_])]
/-- BanksDealtModel.rowFits(III)Z -/
def P_249 : bk_P := [(0, [.sipush 0, .istore 4, .goto 3]),
  (3, [.iload 4, .iload 3, .if_icmp .ge 67, .aload 0, .getfield 477966, .sipush 52, .aload 0, .getfield 469761, .iload 4, .iaload, .iadd, .iaload, .iload 1, .if_icmp .ne 61, .aload 0, .getfield 477966, .sipush 42, .aload 0, .getfield 469761, .iload 4, .iaload, .iadd, .iaload, .iload 2, .invokestatic 1061129, .aload 0, .getfield 469761, .iload 4, .sipush 1, .iadd, .iaload, .if_icmp .eq 61, .sipush 0, .freturn]),
  (61, [.iinc 4 (2), .goto 3]),
  (67, [.sipush 1, .freturn])]
/-- BanksDealtModel.ranAt(I)I -/
def P_250 : bk_P := [(0, [.aload 0, .sipush 0, .putfield 768, .iload 1, .sipush 0, .aload 0, .getfield 812, .sipush 1, .isub, .invokestatic 1582925, .ifCond .eq 28, .aload 0, .getfield 641834, .iload 1, .iaload, .goto 29]),
  (28, [.sipush (-1), .goto 29]),
  (29, [.ireturn])]
/-- BanksDealtModel.sure(I)I -/
def P_251 : bk_P := [(0, [.aload 0, .sipush 0, .putfield 768, .iload 1, .sipush 0, .aload 0, .getfield 812, .sipush 1, .isub, .invokestatic 1582925, .ifCond .eq 28, .aload 0, .getfield 650027, .iload 1, .iaload, .goto 29]),
  (28, [.sipush (-1), .goto 29]),
  (29, [.ireturn])]
/-- BanksDealtModel.richest(I)I -/
def P_252 : bk_P := [(0, [.aload 0, .sipush 0, .putfield 768, .iload 1, .sipush 0, .sipush 1, .invokestatic 1582925, .ifCond .ne 16, .sipush (-1), .ireturn]),
  (16, [.sipush (-1), .istore 2, .sipush 0, .istore 3, .goto 20]),
  (20, [.iload 3, .aload 0, .getfield 477966, .sipush 0, .iaload, .if_icmp .ge 73, .aload 0, .iload 3, .invokestatic 1486985, .iload 1, .if_icmp .ne 67, .iload 2, .sipush (-1), .if_icmp .eq 65, .aload 0, .getfield 477966, .sipush 62, .iload 3, .iadd, .iaload, .aload 0, .getfield 477966, .sipush 62, .iload 2, .iadd, .iaload, .if_icmp .le 67, .goto 65]),
  (65, [.iload 3, .istore 2, .goto 67]),
  (67, [.iinc 3 (1), .goto 20]),
  (73, [.iload 2, .ireturn])]
/-- BanksDealtModel.deed(I)I -/
def P_253 : bk_P := [(0, [.aload 0, .sipush 0, .putfield 768, .aload 0, .iload 1, .invokestatic 1486857, .ifCond .ne 15, .sipush (-1), .ireturn]),
  (15, [.aload 0, .sipush 0, .putfield 817, .aload 0, .aload 0, .getfield 518931, .iload 1, .laload, .invokestatic 2015112, .aload 0, .sipush 105, .sipush 115, .sipush 0, .sipush 0, .sipush 0, .sipush 0, .sipush 0, .invokestatic 3680862, .invokestatic 2015240, .aload 0, .sipush 15, .aload 0, .iload 1, .invokestatic 1486985, .iadd, .invokestatic 535046, .invokestatic 2015240, .aload 0, .sipush 97, .sipush 116, .sipush 0, .sipush 0, .sipush 0, .sipush 0, .sipush 0, .invokestatic 3680862, .invokestatic 2015240, .aload 0, .sipush 32, .invokestatic 1490888, .aload 0, .sipush 48, .aload 0, .getfield 477966, .sipush 42, .iload 1, .iadd, .iaload, .iadd, .invokestatic 1490888, .aload 0, .sipush 32, .invokestatic 1490888, .aload 0, .sipush 48, .aload 0, .getfield 477966, .sipush 52, .iload 1, .iadd, .iaload, .iadd, .invokestatic 1490888, .aload 0, .getfield 817, .ireturn])]
/-- BanksDealtModel.writeWord(J)V -/
def P_254 : bk_P := [(0, [.lload 1, .bipush 27, .lcmp, .ifCond .lt 17, .aload 0, .lload 1, .bipush 27, .ldiv, .invokestatic 2015112, .goto 17]),
  (17, [.aload 0, .sipush 96, .lload 1, .bipush 27, .lrem, .l2i, .iadd, .invokestatic 1490888, .return_])]
/-- BanksDealtModel.write(I)V -/
def P_255 : bk_P := [(0, [.aload 0, .getfield 674608, .aload 0, .getfield 817, .iload 1, .iastore, .aload 0, .dup, .getfield 817, .sipush 1, .iadd, .putfield 817, .return_])]
/-- BanksDealtModel.writeNext(J)V -/
def P_256 : bk_P := [(0, [.aload 0, .sipush 32, .invokestatic 1490888, .aload 0, .lload 1, .invokestatic 2015112, .return_])]
/-- BanksDealtModel.byteAt(I)I -/
def P_257 : bk_P := [(0, [.aload 0, .sipush 0, .putfield 768, .iload 1, .sipush 0, .aload 0, .getfield 817, .sipush 1, .isub, .invokestatic 1582925, .ifCond .eq 28, .aload 0, .getfield 674608, .iload 1, .iaload, .goto 29]),
  (28, [.sipush (-1), .goto 29]),
  (29, [.ireturn])]
/-- BanksDealtModel.book(I)I -/
def P_258 : bk_P := [(0, [.aload 0, .sipush 0, .putfield 768, .iload 1, .sipush 0, .sipush 1, .invokestatic 1582925, .ifCond .ne 18, .sipush (-1000), .ireturn]),
  (18, [.aload 0, .sipush 400, .invokestatic 1484808, .aload 0, .sipush 0, .putfield 820, .goto 30]),
  (30, [.aload 0, .getfield 775, .ifCond .eq 65, .aload 0, .invokestatic 966853, .ifCond .ne 52, .sipush (-2), .aload 0, .getfield 779, .isub, .ireturn]),
  (52, [.aload 0, .dup, .getfield 820, .sipush 1, .iadd, .putfield 820, .goto 30]),
  (65, [.aload 0, .invokestatic 965892, .sipush 0, .istore 2, .sipush 0, .istore 3, .goto 73]),
  (73, [.iload 2, .aload 0, .getfield 820, .if_icmp .ge 103, .iload 3, .ifCond .ne 103, .aload 0, .sipush 4, .iload 2, .imul, .invokestatic 1491529, .istore 3, .iload 3, .ifCond .ne 73, .iinc 2 (1), .goto 73]),
  (103, [.aload 0, .getfield 690995, .sipush 0, .iload 3, .iastore, .aload 0, .getfield 690995, .sipush 1, .iload 2, .iastore, .aload 0, .getfield 690995, .sipush 2, .aload 0, .getfield 477966, .sipush 80, .iaload, .iastore, .aload 0, .getfield 690995, .sipush 3, .aload 0, .sipush 0, .invokestatic 1487625, .iastore, .aload 0, .sipush 1, .putfield 4917, .aload 0, .iload 1, .sipush 1, .if_icmp .ne 160, .iload 2, .ifCond .le 160, .sipush 1, .goto 161]),
  (160, [.sipush 0, .goto 161]),
  (161, [.invokestatic 1491592, .iload 3, .ifCond .ne 172, .sipush (-1), .goto 173]),
  (172, [.iload 2, .goto 173]),
  (173, [.ireturn])]
/-- BanksDealtModel.readBookLine()Z -/
def P_259 : bk_P := [(0, [.aload 0, .invokestatic 962245, .istore 1, .aload 0, .sipush 10, .invokestatic 1485257, .ifCond .ne 23, .aload 0, .sipush 11, .invokestatic 1485257, .ifCond .eq 27, .goto 23]),
  (23, [.sipush 1, .goto 28]),
  (27, [.sipush 0, .goto 28]),
  (28, [.istore 2, .iload 1, .ifCond .ne 79, .iload 2, .ifCond .ne 79, .aload 0, .invokestatic 961925, .ifCond .ne 50, .aload 0, .sipush 1, .invokestatic 1485513, .freturn]),
  (50, [.aload 0, .getfield 518931, .sipush 10, .aload 0, .getfield 477966, .sipush 1, .iaload, .aload 0, .getfield 1804, .invokestatic 2633169, .sipush (-1), .if_icmp .ne 79, .aload 0, .sipush 3, .invokestatic 1485513, .freturn]),
  (79, [.aload 0, .getfield 820, .sipush 40, .if_icmp .ne 94, .aload 0, .sipush 4, .invokestatic 1485513, .freturn]),
  (94, [.sipush 4, .aload 0, .getfield 820, .imul, .istore 3, .iload 1, .ifCond .eq 116, .aload 0, .iload 3, .invokestatic 1491209, .ifCond .eq 150, .goto 139]),
  (116, [.iload 2, .ifCond .eq 131, .aload 0, .iload 3, .invokestatic 1491401, .ifCond .eq 150, .goto 139]),
  (131, [.aload 0, .iload 3, .invokestatic 1491465, .ifCond .eq 150, .goto 139]),
  (139, [.aload 0, .invokestatic 962309, .ifCond .eq 150, .sipush 1, .goto 151]),
  (150, [.sipush 0, .goto 151]),
  (151, [.freturn])]
/-- BanksDealtModel.readSide(I)Z -/
def P_260 : bk_P := [(0, [.aload 0, .getfield 682802, .iload 1, .sipush 1, .iadd, .aload 0, .sipush 15, .invokestatic 1485257, .ifCond .eq 20, .sipush 0, .goto 21]),
  (20, [.sipush 1, .goto 21]),
  (21, [.iastore, .aload 0, .invokestatic 960644, .aload 0, .sipush 7, .invokestatic 1485257, .ifCond .ne 50, .aload 0, .sipush 8, .invokestatic 1485257, .ifCond .ne 50, .aload 0, .sipush 1, .invokestatic 1485513, .freturn]),
  (50, [.aload 0, .getfield 682802, .iload 1, .aload 0, .sipush 7, .invokestatic 1485257, .ifCond .eq 68, .sipush 0, .goto 69]),
  (68, [.sipush 1, .goto 69]),
  (69, [.iastore, .aload 0, .invokestatic 960644, .aload 0, .iload 1, .sipush 2, .iadd, .invokestatic 1491273, .freturn])]
/-- BanksDealtModel.readCell(I)Z -/
def P_261 : bk_P := [(0, [.aload 0, .iload 1, .aload 0, .sipush 0, .sipush 5, .invokestatic 2009997, .invokestatic 2015629, .ifCond .eq 34, .aload 0, .iload 1, .sipush 1, .iadd, .aload 0, .sipush 0, .sipush 5, .invokestatic 2009997, .invokestatic 2015629, .ifCond .eq 34, .sipush 1, .goto 35]),
  (34, [.sipush 0, .goto 35]),
  (35, [.freturn])]
/-- BanksDealtModel.keep(IZ)Z -/
def P_262 : bk_P := [(0, [.iload 2, .ifCond .eq 14, .aload 0, .getfield 682802, .iload 1, .aload 0, .getfield 781, .iastore, .goto 14]),
  (14, [.iload 2, .freturn])]
/-- BanksDealtModel.readSprings(I)Z -/
def P_263 : bk_P := [(0, [.aload 0, .sipush 10, .invokestatic 1485257, .istore 2, .aload 0, .getfield 682802, .iload 1, .sipush 3, .iastore, .aload 0, .invokestatic 960644, .iload 2, .ifCond .eq 36, .aload 0, .sipush 0, .sipush 999, .invokestatic 2009997, .ifCond .eq 46, .goto 48]),
  (36, [.aload 0, .sipush 1, .sipush 30, .invokestatic 2009997, .ifCond .ne 48, .goto 46]),
  (46, [.sipush 0, .freturn]),
  (48, [.aload 0, .getfield 682802, .iload 1, .sipush 1, .iadd, .iload 2, .ifCond .eq 63, .sipush 1, .goto 67]),
  (63, [.aload 0, .getfield 781, .goto 67]),
  (67, [.iastore, .aload 0, .getfield 682802, .iload 1, .sipush 2, .iadd, .aload 0, .getfield 781, .iastore, .sipush 1, .freturn])]
/-- BanksDealtModel.readMillRolls(I)Z -/
def P_264 : bk_P := [(0, [.aload 0, .getfield 682802, .iload 1, .sipush 4, .iastore, .aload 0, .getfield 682802, .iload 1, .sipush 1, .iadd, .aload 0, .getfield 518931, .sipush 10, .aload 0, .getfield 477966, .sipush 1, .iaload, .aload 0, .getfield 1804, .invokestatic 2633169, .iastore, .aload 0, .invokestatic 960644, .aload 0, .sipush 9, .invokestatic 1485257, .ifCond .ne 53, .aload 0, .sipush 1, .invokestatic 1485513, .freturn]),
  (53, [.aload 0, .invokestatic 960644, .aload 0, .iload 1, .sipush 2, .iadd, .invokestatic 1491273, .freturn])]
/-- BanksDealtModel.goBy(I)I -/
def P_265 : bk_P := [(0, [.aload 0, .getfield 682802, .iload 1, .sipush 1, .iadd, .iaload, .istore 2, .aload 0, .getfield 682802, .iload 1, .sipush 2, .iadd, .iaload, .istore 3, .aload 0, .getfield 682802, .iload 1, .sipush 3, .iadd, .iaload, .istore 4, .aload 0, .getfield 682802, .iload 1, .iaload, .sipush 3, .if_icmp .ne 65, .aload 0, .getfield 477966, .sipush 80, .iaload, .iload 2, .iadd, .sipush 400, .if_icmp .le 56, .sipush 31, .ireturn]),
  (56, [.aload 0, .iload 2, .iload 3, .invokestatic 2013261, .pop, .sipush 0, .ireturn]),
  (65, [.aload 0, .iload 3, .iload 4, .invokestatic 2008845, .ifCond .ne 88, .sipush 10, .aload 0, .getfield 682802, .iload 1, .iaload, .imul, .sipush 9, .iadd, .ireturn]),
  (88, [.aload 0, .aload 0, .getfield 682802, .iload 1, .iaload, .iload 2, .iload 3, .iload 4, .invokestatic 3060885, .istore 5, .iload 5, .ifCond .eq 122, .sipush 10, .aload 0, .getfield 682802, .iload 1, .iaload, .imul, .iload 5, .iadd, .ireturn]),
  (122, [.aload 0, .aload 0, .getfield 682802, .iload 1, .iaload, .iload 2, .iload 3, .iload 4, .invokestatic 3061140, .sipush 0, .ireturn])]
/-- BanksDealtModel.stay(Z)V -/
def P_266 : bk_P := [(0, [.sipush 0, .istore 2, .goto 2]),
  (2, [.iload 2, .sipush 115, .if_icmp .ge 46, .aload 0, .getfield 477966, .sipush 80, .iload 2, .iadd, .iaload, .istore 3, .aload 0, .getfield 477966, .sipush 80, .iload 2, .iadd, .aload 0, .getfield 510738, .iload 2, .iaload, .iastore, .aload 0, .getfield 510738, .iload 2, .iload 3, .iastore, .iinc 2 (1), .goto 2]),
  (46, [.iload 1, .ifCond .ne 51, .return_]),
  (51, [.aload 0, .invokestatic 963908, .aload 0, .invokestatic 965956, .return_])]
/-- BanksDealtModel.told(I)I -/
def P_267 : bk_P := [(0, [.aload 0, .sipush 0, .putfield 768, .aload 0, .getfield 4917, .ifCond .eq 30, .iload 1, .sipush 0, .sipush 3, .invokestatic 1582925, .ifCond .eq 30, .aload 0, .getfield 690995, .iload 1, .iaload, .goto 31]),
  (30, [.sipush (-1), .goto 31]),
  (31, [.ireturn])]
/-- BanksDealtModel.sentence()I -/
def P_268 : bk_P := [(0, [.aload 0, .sipush 200, .invokestatic 1484808, .aload 0, .sipush 0, .putfield 823, .aload 0, .sipush 0, .putfield 824, .aload 0, .sipush 0, .putfield 825, .aload 0, .invokestatic 967493, .ifCond .ne 36, .sipush (-1), .aload 0, .getfield 779, .isub, .ireturn]),
  (36, [.aload 0, .getfield 775, .ifCond .eq 56, .aload 0, .sipush 1, .invokestatic 1485513, .pop, .sipush (-1), .aload 0, .getfield 779, .isub, .ireturn]),
  (56, [.aload 0, .getfield 477966, .sipush 195, .sipush 1, .iastore, .aload 0, .getfield 477966, .sipush 196, .aload 0, .getfield 826, .iastore, .sipush 0, .istore 1, .goto 79]),
  (79, [.iload 1, .sipush 240, .if_icmp .ge 108, .aload 0, .getfield 477966, .sipush 197, .iload 1, .iadd, .aload 0, .getfield 699190, .iload 1, .iaload, .iastore, .iinc 1 (1), .goto 79]),
  (108, [.aload 0, .getfield 824, .ireturn])]
/-- BanksDealtModel.readOr()Z -/
def P_269 : bk_P := [(0, [.aload 0, .invokestatic 967557, .ifCond .ne 9, .sipush 0, .freturn]),
  (9, [.aload 0, .getfield 826, .istore 1, .goto 14]),
  (14, [.aload 0, .sipush 12, .invokestatic 1485257, .ifCond .eq 51, .aload 0, .invokestatic 960644, .aload 0, .invokestatic 967557, .ifCond .ne 36, .sipush 0, .freturn]),
  (36, [.aload 0, .sipush 3, .iload 1, .aload 0, .getfield 826, .sipush 0, .invokestatic 3064981, .istore 1, .goto 14]),
  (51, [.aload 0, .iload 1, .putfield 826, .sipush 1, .freturn])]
/-- BanksDealtModel.readAnd()Z -/
def P_270 : bk_P := [(0, [.aload 0, .invokestatic 967621, .ifCond .ne 9, .sipush 0, .freturn]),
  (9, [.aload 0, .getfield 826, .istore 1, .goto 14]),
  (14, [.aload 0, .sipush 13, .invokestatic 1485257, .ifCond .eq 51, .aload 0, .invokestatic 960644, .aload 0, .invokestatic 967621, .ifCond .ne 36, .sipush 0, .freturn]),
  (36, [.aload 0, .sipush 2, .iload 1, .aload 0, .getfield 826, .sipush 0, .invokestatic 3064981, .istore 1, .goto 14]),
  (51, [.aload 0, .iload 1, .putfield 826, .sipush 1, .freturn])]
/-- BanksDealtModel.readSaid()Z -/
def P_271 : bk_P := [(0, [.aload 0, .sipush 40, .invokestatic 1486665, .istore 1, .sipush 14, .istore 2, .goto 10]),
  (10, [.iload 2, .sipush 24, .if_icmp .gt 30, .aload 0, .iload 2, .invokestatic 1485257, .ifCond .ne 30, .iinc 2 (1), .goto 10]),
  (30, [.iload 1, .ifCond .ne 46, .iload 2, .sipush 24, .if_icmp .le 46, .aload 0, .sipush 1, .invokestatic 1485513, .freturn]),
  (46, [.aload 0, .getfield 824, .sipush 20, .if_icmp .eq 64, .aload 0, .getfield 825, .sipush 8, .if_icmp .ne 70, .goto 64]),
  (64, [.aload 0, .sipush 4, .invokestatic 1485513, .freturn]),
  (70, [.aload 0, .dup, .getfield 824, .sipush 1, .iadd, .putfield 824, .aload 0, .dup, .getfield 825, .sipush 1, .iadd, .putfield 825, .aload 0, .invokestatic 960644, .sipush 1, .istore 3, .iload 1, .ifCond .eq 108, .aload 0, .invokestatic 967685, .istore 3, .goto 166]),
  (108, [.iload 2, .sipush 14, .if_icmp .ne 122, .aload 0, .invokestatic 967749, .istore 3, .goto 166]),
  (122, [.iload 2, .sipush 19, .if_icmp .ge 146, .aload 0, .aload 0, .sipush 50, .iload 2, .iadd, .sipush 0, .sipush 0, .sipush 0, .invokestatic 3064981, .putfield 826, .goto 166]),
  (146, [.iload 2, .sipush 21, .if_icmp .ge 160, .aload 0, .iload 2, .invokestatic 1492169, .goto 165]),
  (160, [.aload 0, .iload 2, .invokestatic 1492297, .goto 165]),
  (165, [.istore 3, .goto 166]),
  (166, [.aload 0, .dup, .getfield 825, .sipush 1, .isub, .putfield 825, .iload 3, .freturn])]
/-- BanksDealtModel.readBracket()Z -/
def P_272 : bk_P := [(0, [.aload 0, .invokestatic 967493, .ifCond .ne 9, .sipush 0, .freturn]),
  (9, [.aload 0, .sipush 41, .invokestatic 1486665, .ifCond .ne 24, .aload 0, .sipush 1, .invokestatic 1485513, .freturn]),
  (24, [.aload 0, .invokestatic 960644, .sipush 1, .freturn])]
/-- BanksDealtModel.readNot()Z -/
def P_273 : bk_P := [(0, [.aload 0, .invokestatic 967621, .ifCond .ne 9, .sipush 0, .freturn]),
  (9, [.aload 0, .aload 0, .sipush 1, .aload 0, .getfield 826, .sipush 0, .sipush 0, .invokestatic 3064981, .putfield 826, .sipush 1, .freturn])]
/-- BanksDealtModel.saysOne(IIII)I -/
def P_274 : bk_P := [(0, [.sipush 4, .aload 0, .getfield 823, .imul, .istore 5, .aload 0, .getfield 699190, .iload 5, .iload 1, .iastore, .aload 0, .getfield 699190, .iload 5, .sipush 1, .iadd, .iload 2, .iastore, .aload 0, .getfield 699190, .iload 5, .sipush 2, .iadd, .iload 3, .iastore, .aload 0, .getfield 699190, .iload 5, .sipush 3, .iadd, .iload 4, .iastore, .aload 0, .dup, .getfield 823, .sipush 1, .iadd, .putfield 823, .aload 0, .getfield 823, .sipush 1, .isub, .ireturn])]
/-- BanksDealtModel.readOf(I)Z -/
def P_275 : bk_P := [(0, [.aload 0, .invokestatic 967941, .ifCond .ne 9, .sipush 0, .freturn]),
  (9, [.aload 0, .aload 0, .sipush 50, .iload 1, .iadd, .aload 0, .getfield 781, .sipush 0, .sipush 0, .invokestatic 3064981, .putfield 826, .sipush 1, .freturn])]
/-- BanksDealtModel.readFieldName()Z -/
def P_276 : bk_P := [(0, [.aload 0, .invokestatic 961925, .ifCond .ne 13, .aload 0, .sipush 1, .invokestatic 1485513, .freturn]),
  (13, [.aload 0, .aload 0, .getfield 518931, .sipush 0, .aload 0, .getfield 477966, .sipush 0, .iaload, .aload 0, .getfield 1804, .invokestatic 2633169, .putfield 781, .aload 0, .getfield 781, .sipush (-1), .if_icmp .ne 49, .aload 0, .sipush 3, .invokestatic 1485513, .freturn]),
  (49, [.aload 0, .invokestatic 960644, .sipush 1, .freturn])]
/-- BanksDealtModel.readCompare(I)Z -/
def P_277 : bk_P := [(0, [.aload 0, .sipush 60, .invokestatic 1486665, .ifCond .ne 33, .aload 0, .sipush 61, .invokestatic 1486665, .ifCond .ne 33, .aload 0, .sipush 62, .invokestatic 1486665, .ifCond .ne 33, .aload 0, .sipush 1, .invokestatic 1485513, .freturn]),
  (33, [.aload 0, .getfield 777, .istore 2, .aload 0, .invokestatic 960644, .aload 0, .sipush 0, .sipush 999, .invokestatic 2009997, .ifCond .ne 55, .sipush 0, .freturn]),
  (55, [.aload 0, .aload 0, .sipush 50, .iload 1, .iadd, .sipush 0, .aload 0, .getfield 781, .iload 2, .invokestatic 3064981, .putfield 826, .sipush 1, .freturn])]
/-- BanksDealtModel.said(I)I -/
def P_278 : bk_P := [(0, [.aload 0, .sipush 0, .putfield 768, .aload 0, .getfield 477966, .sipush 195, .iaload, .ifCond .ne 18, .sipush (-1), .ireturn]),
  (18, [.sipush 0, .istore 2, .sipush 0, .istore 3, .goto 22]),
  (22, [.iload 3, .aload 0, .getfield 477966, .sipush 0, .iaload, .if_icmp .ge 67, .aload 0, .aload 0, .getfield 477966, .sipush 196, .iaload, .iload 3, .invokestatic 2016717, .ifCond .ne 51, .goto 61]),
  (51, [.iload 2, .iload 1, .if_icmp .ne 58, .iload 3, .ireturn]),
  (58, [.iinc 2 (1), .goto 61]),
  (61, [.iinc 3 (1), .goto 22]),
  (67, [.iload 1, .sipush (-1), .if_icmp .ne 76, .iload 2, .goto 77]),
  (76, [.sipush (-1), .goto 77]),
  (77, [.ireturn])]
/-- BanksDealtModel.holds(II)Z -/
def P_279 : bk_P := [(0, [.sipush 197, .sipush 4, .iload 1, .imul, .iadd, .istore 3, .aload 0, .getfield 477966, .iload 3, .sipush 1, .iadd, .iaload, .istore 4, .aload 0, .getfield 477966, .iload 3, .sipush 2, .iadd, .iaload, .istore 5, .aload 0, .getfield 477966, .iload 3, .iaload, .lookupswitch 291 #[(1, 116), (2, 132), (3, 158), (65, 184), (66, 198), (67, 213), (68, 228), (69, 234), (70, 263)]]),
  (116, [.aload 0, .iload 4, .iload 2, .invokestatic 2016717, .ifCond .ne 130, .sipush 1, .goto 131]),
  (130, [.sipush 0, .goto 131]),
  (131, [.freturn]),
  (132, [.aload 0, .iload 4, .iload 2, .invokestatic 2016717, .ifCond .eq 156, .aload 0, .iload 5, .iload 2, .invokestatic 2016717, .ifCond .eq 156, .sipush 1, .goto 157]),
  (156, [.sipush 0, .goto 157]),
  (157, [.freturn]),
  (158, [.aload 0, .iload 4, .iload 2, .invokestatic 2016717, .ifCond .ne 178, .aload 0, .iload 5, .iload 2, .invokestatic 2016717, .ifCond .eq 182, .goto 178]),
  (178, [.sipush 1, .goto 183]),
  (182, [.sipush 0, .goto 183]),
  (183, [.freturn]),
  (184, [.aload 0, .iload 2, .invokestatic 1486985, .ifCond .ne 196, .sipush 1, .goto 197]),
  (196, [.sipush 0, .goto 197]),
  (197, [.freturn]),
  (198, [.aload 0, .iload 2, .invokestatic 1486985, .sipush 1, .if_icmp .ne 211, .sipush 1, .goto 212]),
  (211, [.sipush 0, .goto 212]),
  (212, [.freturn]),
  (213, [.aload 0, .iload 2, .invokestatic 1486985, .sipush 2, .if_icmp .ne 226, .sipush 1, .goto 227]),
  (226, [.sipush 0, .goto 227]),
  (227, [.freturn]),
  (228, [.aload 0, .iload 2, .invokestatic 1492489, .freturn]),
  (234, [.aload 0, .iload 2, .invokestatic 1486985, .sipush 2, .if_icmp .eq 261, .aload 0, .iload 2, .invokestatic 1486985, .aload 0, .iload 4, .invokestatic 1486985, .if_icmp .ne 261, .sipush 1, .goto 262]),
  (261, [.sipush 0, .goto 262]),
  (262, [.freturn]),
  (263, [.aload 0, .getfield 477966, .sipush 52, .iload 2, .iadd, .iaload, .aload 0, .getfield 477966, .sipush 52, .iload 4, .iadd, .iaload, .if_icmp .ge 289, .sipush 1, .goto 290]),
  (289, [.sipush 0, .goto 290]),
  (290, [.freturn]),
  (291, [.aload 0, .getfield 477966, .iload 3, .iaload, .sipush 50, .isub, .istore 6, .iload 6, .sipush 21, .if_icmp .ne 321, .aload 0, .getfield 477966, .sipush 62, .iload 2, .iadd, .iaload, .goto 382]),
  (321, [.iload 6, .sipush 22, .if_icmp .ne 361, .aload 0, .getfield 477966, .sipush 85, .sipush 6, .aload 0, .getfield 477966, .sipush 52, .iload 2, .iadd, .iaload, .imul, .iadd, .aload 0, .getfield 477966, .sipush 42, .iload 2, .iadd, .iaload, .iadd, .iaload, .goto 382]),
  (361, [.iload 6, .sipush 23, .if_icmp .ne 381, .aload 0, .getfield 477966, .sipush 136, .iload 2, .iadd, .iaload, .goto 382]),
  (381, [.iload 2, .goto 382]),
  (382, [.istore 7, .aload 0, .getfield 477966, .iload 3, .sipush 3, .iadd, .iaload, .sipush 60, .if_icmp .ne 412, .iload 7, .iload 5, .if_icmp .ge 408, .sipush 1, .goto 452]),
  (408, [.sipush 0, .goto 452]),
  (412, [.aload 0, .getfield 477966, .iload 3, .sipush 3, .iadd, .iaload, .sipush 61, .if_icmp .ne 440, .iload 7, .iload 5, .if_icmp .ne 436, .sipush 1, .goto 452]),
  (436, [.sipush 0, .goto 452]),
  (440, [.iload 7, .iload 5, .if_icmp .le 451, .sipush 1, .goto 452]),
  (451, [.sipush 0, .goto 452]),
  (452, [.freturn])]
/-- BanksDealtModel.isNear(I)Z -/
def P_280 : bk_P := [(0, [.aload 0, .getfield 477966, .sipush 42, .iload 1, .iadd, .iaload, .aload 0, .getfield 477966, .sipush 121, .aload 0, .getfield 477966, .sipush 52, .iload 1, .iadd, .iaload, .iadd, .iaload, .isub, .invokestatic 537797, .sipush 1, .if_icmp .ne 38, .sipush 1, .goto 39]),
  (38, [.sipush 0, .goto 39]),
  (39, [.freturn])]
/-- BanksDealtModel.image(I)Z -/
def P_281 : bk_P := [(0, [.aload 0, .sipush 0, .putfield 768, .iload 1, .sipush 0, .sipush 1, .invokestatic 1582925, .ifCond .ne 16, .sipush 0, .freturn]),
  (16, [.sipush 0, .istore 2, .goto 18]),
  (18, [.iload 2, .sipush 437, .if_icmp .ge 49, .aload 0, .getfield 494352, .sipush 437, .iload 1, .imul, .iload 2, .iadd, .aload 0, .getfield 477966, .iload 2, .iaload, .iastore, .iinc 2 (1), .goto 18]),
  (49, [.sipush 0, .istore 2, .goto 51]),
  (51, [.iload 2, .sipush 13, .if_icmp .ge 80, .aload 0, .getfield 535317, .sipush 13, .iload 1, .imul, .iload 2, .iadd, .aload 0, .getfield 518931, .iload 2, .laload, .lastore, .iinc 2 (1), .goto 51]),
  (80, [.aload 0, .getfield 543510, .iload 1, .sipush 1, .bastore, .sipush 1, .freturn])]
/-- BanksDealtModel.restore(I)Z -/
def P_282 : bk_P := [(0, [.aload 0, .sipush 0, .putfield 768, .iload 1, .sipush 0, .sipush 1, .invokestatic 1582925, .ifCond .eq 23, .aload 0, .getfield 543510, .iload 1, .baload, .ifCond .ne 25, .goto 23]),
  (23, [.sipush 0, .freturn]),
  (25, [.sipush 0, .istore 2, .goto 27]),
  (27, [.iload 2, .sipush 437, .if_icmp .ge 58, .aload 0, .getfield 477966, .iload 2, .aload 0, .getfield 494352, .sipush 437, .iload 1, .imul, .iload 2, .iadd, .iaload, .iastore, .iinc 2 (1), .goto 27]),
  (58, [.sipush 0, .istore 2, .goto 60]),
  (60, [.iload 2, .sipush 13, .if_icmp .ge 89, .aload 0, .getfield 518931, .iload 2, .aload 0, .getfield 535317, .sipush 13, .iload 1, .imul, .iload 2, .iadd, .laload, .lastore, .iinc 2 (1), .goto 60]),
  (89, [.aload 0, .sipush 0, .putfield 793, .sipush 1, .freturn])]
/-- BanksDealtModel.count(I)I -/
def P_283 : bk_P := [(0, [.aload 0, .sipush 0, .putfield 768, .iload 1, .tableswitch 95 0 6 #[48, 55, 62, 69, 76, 83, 90]]),
  (48, [.aload 0, .getfield 477966, .sipush 0, .iaload, .ireturn]),
  (55, [.aload 0, .getfield 477966, .sipush 2, .iaload, .ireturn]),
  (62, [.aload 0, .getfield 477966, .sipush 3, .iaload, .ireturn]),
  (69, [.aload 0, .getfield 477966, .sipush 4, .iaload, .ireturn]),
  (76, [.aload 0, .getfield 477966, .sipush 5, .iaload, .ireturn]),
  (83, [.aload 0, .getfield 477966, .sipush 1, .iaload, .ireturn]),
  (90, [.aload 0, .getfield 770, .ireturn]),
  (95, [.sipush (-1), .ireturn])]
/-- BanksDealtLaw.field(LBanksDealt;II[J)I -/
def P_284 : bk_P := [(0, [.aload 3, .sipush 0, .aload 0, .iload 1, .iload 2, .invokeinterface 1975117 244, .i2l, .lastore, .goto 17]),
  (15, [.sipush 1, .ireturn]),
  (17, [.sipush 0, .ireturn])]
/-- BanksDealtLaw.duel(LBanksDealt;I[J)I -/
def P_285 : bk_P := [(0, [.aload 2, .sipush 0, .aload 0, .iload 1, .invokeinterface 1450889 211, .i2l, .lastore, .goto 15]),
  (13, [.sipush 1, .ireturn]),
  (15, [.sipush 0, .ireturn])]
/-- BanksDealtLaw.law([I)Z -/
def P_286 : bk_P := [(20, [.sipush 0, .istore 4, .goto 23]),
  (23, [.iload 4, .aload 0, .swap, .sipush 6, .isub, .if_icmp .gt 1594, .aload 0, .iload 4, .saload, .sipush 63, .iand, .tableswitch 1588 0 41 #[224, 297, 322, 335, 348, 416, 453, 490, 527, 552, 589, 614, 663, 712, 761, 786, 823, 836, 849, 874, 899, 948, 973, 1029, 1054, 1091, 1116, 1153, 1214, 1227, 1252, 1277, 1350, 1375, 1400, 1425, 1450, 1475, 1488, 1513, 1538, 1563]]),
  (224, [.aload 1, .aload 0, .iload 4, .sipush 1, .iadd, .saload, .aload 0, .iload 4, .sipush 2, .iadd, .saload, .aload 0, .iload 4, .sipush 3, .iadd, .saload, .aload 0, .iload 4, .sipush 4, .iadd, .saload, .aload 0, .iload 4, .sipush 5, .iadd, .saload, .invokestatic 3539033, .aload 2, .aload 0, .iload 4, .sipush 1, .iadd, .saload, .aload 0, .iload 4, .sipush 2, .iadd, .saload, .aload 0, .iload 4, .sipush 3, .iadd, .saload, .aload 0, .iload 4, .sipush 4, .iadd, .saload, .aload 0, .iload 4, .sipush 5, .iadd, .saload, .invokestatic 3581145, .if_icmp .eq 1588, .sipush 0, .freturn]),
  (297, [.aload 1, .aload 0, .iload 4, .sipush 1, .iadd, .saload, .invokestatic 1441993, .aload 2, .aload 0, .iload 4, .sipush 1, .iadd, .saload, .invokestatic 1484105, .if_icmp .eq 1588, .sipush 0, .freturn]),
  (322, [.aload 1, .invokestatic 917765, .aload 2, .invokestatic 960453, .if_icmp .eq 1588, .sipush 0, .freturn]),
  (335, [.aload 1, .invokestatic 920005, .aload 2, .invokestatic 962437, .if_icmp .eq 1588, .sipush 0, .freturn]),
  (348, [.aload 1, .aload 0, .iload 4, .sipush 1, .iadd, .saload, .aload 0, .iload 4, .sipush 2, .iadd, .saload, .aload 3, .invokestatic 2115345, .istore 5, .aload 2, .aload 0, .iload 4, .sipush 1, .iadd, .saload, .aload 0, .iload 4, .sipush 2, .iadd, .saload, .invokestatic 2011085, .istore 6, .aload 2, .invokestatic 959621, .iload 5, .if_icmp .eq 396, .sipush 0, .freturn]),
  (396, [.iload 5, .ifCond .ne 413, .aload 3, .sipush 0, .laload, .iload 6, .i2l, .lcmp, .ifCond .eq 413, .sipush 0, .freturn]),
  (413, [.goto 1588]),
  (416, [.aload 1, .aload 0, .iload 4, .sipush 1, .iadd, .saload, .aload 0, .iload 4, .sipush 2, .iadd, .saload, .invokestatic 1968653, .aload 2, .aload 0, .iload 4, .sipush 1, .iadd, .saload, .aload 0, .iload 4, .sipush 2, .iadd, .saload, .invokestatic 2011469, .if_icmp .eq 1588, .sipush 0, .freturn]),
  (453, [.aload 1, .aload 0, .iload 4, .sipush 1, .iadd, .saload, .aload 0, .iload 4, .sipush 2, .iadd, .saload, .invokestatic 1968781, .aload 2, .aload 0, .iload 4, .sipush 1, .iadd, .saload, .aload 0, .iload 4, .sipush 2, .iadd, .saload, .invokestatic 2011597, .if_icmp .eq 1588, .sipush 0, .freturn]),
  (490, [.aload 1, .aload 0, .iload 4, .sipush 1, .iadd, .saload, .aload 0, .iload 4, .sipush 2, .iadd, .saload, .invokestatic 1968845, .aload 2, .aload 0, .iload 4, .sipush 1, .iadd, .saload, .aload 0, .iload 4, .sipush 2, .iadd, .saload, .invokestatic 2011661, .if_icmp .eq 1588, .sipush 0, .freturn]),
  (527, [.aload 1, .aload 0, .iload 4, .sipush 1, .iadd, .saload, .invokestatic 1444617, .aload 2, .aload 0, .iload 4, .sipush 1, .iadd, .saload, .invokestatic 1487433, .if_icmp .eq 1588, .sipush 0, .freturn]),
  (552, [.aload 1, .aload 0, .iload 4, .sipush 1, .iadd, .saload, .aload 0, .iload 4, .sipush 2, .iadd, .saload, .invokestatic 1969037, .aload 2, .aload 0, .iload 4, .sipush 1, .iadd, .saload, .aload 0, .iload 4, .sipush 2, .iadd, .saload, .invokestatic 2011853, .if_icmp .eq 1588, .sipush 0, .freturn]),
  (589, [.aload 1, .aload 0, .iload 4, .sipush 1, .iadd, .saload, .invokestatic 1445001, .aload 2, .aload 0, .iload 4, .sipush 1, .iadd, .saload, .invokestatic 1487817, .if_icmp .eq 1588, .sipush 0, .freturn]),
  (614, [.aload 1, .aload 0, .iload 4, .sipush 1, .iadd, .saload, .aload 0, .iload 4, .sipush 2, .iadd, .saload, .aload 0, .iload 4, .sipush 3, .iadd, .saload, .invokestatic 2493841, .aload 2, .aload 0, .iload 4, .sipush 1, .iadd, .saload, .aload 0, .iload 4, .sipush 2, .iadd, .saload, .aload 0, .iload 4, .sipush 3, .iadd, .saload, .invokestatic 2536465, .if_icmp .eq 1588, .sipush 0, .freturn]),
  (663, [.aload 1, .aload 0, .iload 4, .sipush 1, .iadd, .saload, .aload 0, .iload 4, .sipush 2, .iadd, .saload, .aload 0, .iload 4, .sipush 3, .iadd, .saload, .invokestatic 2494225, .aload 2, .aload 0, .iload 4, .sipush 1, .iadd, .saload, .aload 0, .iload 4, .sipush 2, .iadd, .saload, .aload 0, .iload 4, .sipush 3, .iadd, .saload, .invokestatic 2536913, .if_icmp .eq 1588, .sipush 0, .freturn]),
  (712, [.aload 1, .aload 0, .iload 4, .sipush 1, .iadd, .saload, .aload 0, .iload 4, .sipush 2, .iadd, .saload, .aload 0, .iload 4, .sipush 3, .iadd, .saload, .invokestatic 2494289, .aload 2, .aload 0, .iload 4, .sipush 1, .iadd, .saload, .aload 0, .iload 4, .sipush 2, .iadd, .saload, .aload 0, .iload 4, .sipush 3, .iadd, .saload, .invokestatic 2536977, .if_icmp .eq 1588, .sipush 0, .freturn]),
  (761, [.aload 1, .aload 0, .iload 4, .sipush 1, .iadd, .saload, .invokestatic 1445897, .aload 2, .aload 0, .iload 4, .sipush 1, .iadd, .saload, .invokestatic 1488521, .if_icmp .eq 1588, .sipush 0, .freturn]),
  (786, [.aload 1, .aload 0, .iload 4, .sipush 1, .iadd, .saload, .aload 0, .iload 4, .sipush 2, .iadd, .saload, .invokestatic 1970509, .aload 2, .aload 0, .iload 4, .sipush 1, .iadd, .saload, .aload 0, .iload 4, .sipush 2, .iadd, .saload, .invokestatic 2013197, .if_icmp .eq 1588, .sipush 0, .freturn]),
  (823, [.aload 1, .invokestatic 922053, .aload 2, .invokestatic 964165, .if_icmp .eq 1588, .sipush 0, .freturn]),
  (836, [.aload 1, .invokestatic 922181, .aload 2, .invokestatic 964805, .if_icmp .eq 1588, .sipush 0, .freturn]),
  (849, [.aload 1, .aload 0, .iload 4, .sipush 1, .iadd, .saload, .invokestatic 1446537, .aload 2, .aload 0, .iload 4, .sipush 1, .iadd, .saload, .invokestatic 1489161, .if_icmp .eq 1588, .sipush 0, .freturn]),
  (874, [.aload 1, .aload 0, .iload 4, .sipush 1, .iadd, .saload, .invokestatic 1446601, .aload 2, .aload 0, .iload 4, .sipush 1, .iadd, .saload, .invokestatic 1489225, .if_icmp .eq 1588, .sipush 0, .freturn]),
  (899, [.aload 1, .aload 0, .iload 4, .sipush 1, .iadd, .saload, .aload 0, .iload 4, .sipush 2, .iadd, .saload, .aload 0, .iload 4, .sipush 3, .iadd, .saload, .invokestatic 2495249, .aload 2, .aload 0, .iload 4, .sipush 1, .iadd, .saload, .aload 0, .iload 4, .sipush 2, .iadd, .saload, .aload 0, .iload 4, .sipush 3, .iadd, .saload, .invokestatic 2537937, .if_icmp .eq 1588, .sipush 0, .freturn]),
  (948, [.aload 1, .aload 0, .iload 4, .sipush 1, .iadd, .saload, .invokestatic 1447177, .aload 2, .aload 0, .iload 4, .sipush 1, .iadd, .saload, .invokestatic 1489481, .if_icmp .eq 1588, .sipush 0, .freturn]),
  (973, [.aload 1, .aload 0, .iload 4, .sipush 1, .iadd, .saload, .aload 3, .invokestatic 1591117, .istore 5, .aload 2, .aload 0, .iload 4, .sipush 1, .iadd, .saload, .invokestatic 1489545, .istore 6, .aload 2, .invokestatic 959621, .iload 5, .if_icmp .eq 1009, .sipush 0, .freturn]),
  (1009, [.iload 5, .ifCond .ne 1026, .aload 3, .sipush 0, .laload, .iload 6, .i2l, .lcmp, .ifCond .eq 1026, .sipush 0, .freturn]),
  (1026, [.goto 1588]),
  (1029, [.aload 1, .aload 0, .iload 4, .sipush 1, .iadd, .saload, .invokestatic 1447241, .aload 2, .aload 0, .iload 4, .sipush 1, .iadd, .saload, .invokestatic 1489865, .if_icmp .eq 1588, .sipush 0, .freturn]),
  (1054, [.aload 1, .aload 0, .iload 4, .sipush 1, .iadd, .saload, .aload 0, .iload 4, .sipush 2, .iadd, .saload, .invokestatic 1971597, .aload 2, .aload 0, .iload 4, .sipush 1, .iadd, .saload, .aload 0, .iload 4, .sipush 2, .iadd, .saload, .invokestatic 2014221, .if_icmp .eq 1588, .sipush 0, .freturn]),
  (1091, [.aload 1, .aload 0, .iload 4, .sipush 1, .iadd, .saload, .invokestatic 1447497, .aload 2, .aload 0, .iload 4, .sipush 1, .iadd, .saload, .invokestatic 1490057, .if_icmp .eq 1588, .sipush 0, .freturn]),
  (1116, [.aload 1, .aload 0, .iload 4, .sipush 1, .iadd, .saload, .aload 0, .iload 4, .sipush 2, .iadd, .saload, .invokestatic 1971853, .aload 2, .aload 0, .iload 4, .sipush 1, .iadd, .saload, .aload 0, .iload 4, .sipush 2, .iadd, .saload, .invokestatic 2013325, .if_icmp .eq 1588, .sipush 0, .freturn]),
  (1153, [.aload 1, .aload 0, .iload 4, .sipush 1, .iadd, .saload, .aload 0, .iload 4, .sipush 2, .iadd, .saload, .aload 0, .iload 4, .sipush 3, .iadd, .saload, .aload 0, .iload 4, .sipush 4, .iadd, .saload, .invokestatic 3020501, .aload 2, .aload 0, .iload 4, .sipush 1, .iadd, .saload, .aload 0, .iload 4, .sipush 2, .iadd, .saload, .aload 0, .iload 4, .sipush 3, .iadd, .saload, .aload 0, .iload 4, .sipush 4, .iadd, .saload, .invokestatic 3062997, .if_icmp .eq 1588, .sipush 0, .freturn]),
  (1214, [.aload 1, .invokestatic 923461, .aload 2, .invokestatic 966085, .if_icmp .eq 1588, .sipush 0, .freturn]),
  (1227, [.aload 1, .aload 0, .iload 4, .sipush 1, .iadd, .saload, .invokestatic 1448265, .aload 2, .aload 0, .iload 4, .sipush 1, .iadd, .saload, .invokestatic 1490569, .if_icmp .eq 1588, .sipush 0, .freturn]),
  (1252, [.aload 1, .aload 0, .iload 4, .sipush 1, .iadd, .saload, .invokestatic 1448329, .aload 2, .aload 0, .iload 4, .sipush 1, .iadd, .saload, .invokestatic 1490633, .if_icmp .eq 1588, .sipush 0, .freturn]),
  (1277, [.aload 1, .aload 0, .iload 4, .sipush 1, .iadd, .saload, .aload 0, .iload 4, .sipush 2, .iadd, .saload, .aload 0, .iload 4, .sipush 3, .iadd, .saload, .aload 0, .iload 4, .sipush 4, .iadd, .saload, .aload 0, .iload 4, .sipush 5, .iadd, .saload, .invokestatic 3545561, .aload 2, .aload 0, .iload 4, .sipush 1, .iadd, .saload, .aload 0, .iload 4, .sipush 2, .iadd, .saload, .aload 0, .iload 4, .sipush 3, .iadd, .saload, .aload 0, .iload 4, .sipush 4, .iadd, .saload, .aload 0, .iload 4, .sipush 5, .iadd, .saload, .invokestatic 3587481, .if_icmp .eq 1588, .sipush 0, .freturn]),
  (1350, [.aload 1, .aload 0, .iload 4, .sipush 1, .iadd, .saload, .invokestatic 1448457, .aload 2, .aload 0, .iload 4, .sipush 1, .iadd, .saload, .invokestatic 1490697, .if_icmp .eq 1588, .sipush 0, .freturn]),
  (1375, [.aload 1, .aload 0, .iload 4, .sipush 1, .iadd, .saload, .invokestatic 1448521, .aload 2, .aload 0, .iload 4, .sipush 1, .iadd, .saload, .invokestatic 1490761, .if_icmp .eq 1588, .sipush 0, .freturn]),
  (1400, [.aload 1, .aload 0, .iload 4, .sipush 1, .iadd, .saload, .invokestatic 1448841, .aload 2, .aload 0, .iload 4, .sipush 1, .iadd, .saload, .invokestatic 1491017, .if_icmp .eq 1588, .sipush 0, .freturn]),
  (1425, [.aload 1, .aload 0, .iload 4, .sipush 1, .iadd, .saload, .invokestatic 1448905, .aload 2, .aload 0, .iload 4, .sipush 1, .iadd, .saload, .invokestatic 1491081, .if_icmp .eq 1588, .sipush 0, .freturn]),
  (1450, [.aload 1, .aload 0, .iload 4, .sipush 1, .iadd, .saload, .invokestatic 1449609, .aload 2, .aload 0, .iload 4, .sipush 1, .iadd, .saload, .invokestatic 1491657, .if_icmp .eq 1588, .sipush 0, .freturn]),
  (1475, [.aload 1, .invokestatic 925381, .aload 2, .invokestatic 967429, .if_icmp .eq 1588, .sipush 0, .freturn]),
  (1488, [.aload 1, .aload 0, .iload 4, .sipush 1, .iadd, .saload, .invokestatic 1450185, .aload 2, .aload 0, .iload 4, .sipush 1, .iadd, .saload, .invokestatic 1492361, .if_icmp .eq 1588, .sipush 0, .freturn]),
  (1513, [.aload 1, .aload 0, .iload 4, .sipush 1, .iadd, .saload, .invokestatic 1450569, .aload 2, .aload 0, .iload 4, .sipush 1, .iadd, .saload, .invokestatic 1492553, .if_icmp .eq 1588, .sipush 0, .freturn]),
  (1538, [.aload 1, .aload 0, .iload 4, .sipush 1, .iadd, .saload, .invokestatic 1450697, .aload 2, .aload 0, .iload 4, .sipush 1, .iadd, .saload, .invokestatic 1492617, .if_icmp .eq 1588, .sipush 0, .freturn]),
  (1563, [.aload 1, .aload 0, .iload 4, .sipush 1, .iadd, .saload, .invokestatic 1450761, .aload 2, .aload 0, .iload 4, .sipush 1, .iadd, .saload, .invokestatic 1492681, .if_icmp .eq 1588, .sipush 0, .freturn]),
  (1588, [.iinc 4 (6), .goto 23]),
  (1594, [.sipush 1, .freturn])]
def bk_prog : Nat → bk_P × Nat
  | 0 => (P_0, 2)
  | 1 => (P_1, 6)
  | 2 => (P_2, 3)
  | 3 => (P_3, 2)
  | 4 => (P_4, 3)
  | 5 => (P_5, 4)
  | 6 => (P_6, 2)
  | 7 => (P_7, 2)
  | 8 => (P_8, 1)
  | 9 => (P_9, 1)
  | 10 => (P_10, 8)
  | 11 => (P_11, 5)
  | 12 => (P_12, 1)
  | 13 => (P_13, 3)
  | 14 => (P_14, 3)
  | 15 => (P_15, 3)
  | 16 => (P_16, 2)
  | 17 => (P_17, 3)
  | 18 => (P_18, 4)
  | 19 => (P_19, 4)
  | 20 => (P_20, 3)
  | 21 => (P_21, 3)
  | 22 => (P_22, 5)
  | 23 => (P_23, 4)
  | 24 => (P_24, 1)
  | 25 => (P_25, 3)
  | 26 => (P_26, 5)
  | 27 => (P_27, 4)
  | 28 => (P_28, 2)
  | 29 => (P_29, 3)
  | 30 => (P_30, 2)
  | 31 => (P_31, 1)
  | 32 => (P_32, 2)
  | 33 => (P_33, 2)
  | 34 => (P_34, 2)
  | 35 => (P_35, 7)
  | 36 => (P_36, 6)
  | 37 => (P_37, 1)
  | 38 => (P_38, 1)
  | 39 => (P_39, 1)
  | 40 => (P_40, 4)
  | 41 => (P_41, 4)
  | 42 => (P_42, 4)
  | 43 => (P_43, 4)
  | 44 => (P_44, 2)
  | 45 => (P_45, 2)
  | 46 => (P_46, 3)
  | 47 => (P_47, 1)
  | 48 => (P_48, 5)
  | 49 => (P_49, 5)
  | 50 => (P_50, 2)
  | 51 => (P_51, 3)
  | 52 => (P_52, 3)
  | 53 => (P_53, 3)
  | 54 => (P_54, 4)
  | 55 => (P_55, 7)
  | 56 => (P_56, 5)
  | 57 => (P_57, 2)
  | 58 => (P_58, 2)
  | 59 => (P_59, 4)
  | 60 => (P_60, 4)
  | 61 => (P_61, 6)
  | 62 => (P_62, 5)
  | 63 => (P_63, 3)
  | 64 => (P_64, 2)
  | 65 => (P_65, 5)
  | 66 => (P_66, 2)
  | 67 => (P_67, 4)
  | 68 => (P_68, 4)
  | 69 => (P_69, 3)
  | 70 => (P_70, 5)
  | 71 => (P_71, 1)
  | 72 => (P_72, 2)
  | 73 => (P_73, 1)
  | 74 => (P_74, 2)
  | 75 => (P_75, 2)
  | 76 => (P_76, 4)
  | 77 => (P_77, 2)
  | 78 => (P_78, 7)
  | 79 => (P_79, 6)
  | 80 => (P_80, 7)
  | 81 => (P_81, 7)
  | 82 => (P_82, 2)
  | 83 => (P_83, 2)
  | 84 => (P_84, 2)
  | 85 => (P_85, 2)
  | 86 => (P_86, 3)
  | 87 => (P_87, 6)
  | 88 => (P_88, 6)
  | 89 => (P_89, 2)
  | 90 => (P_90, 3)
  | 91 => (P_91, 8)
  | 92 => (P_92, 2)
  | 93 => (P_93, 2)
  | 94 => (P_94, 4)
  | 95 => (P_95, 8)
  | 96 => (P_96, 6)
  | 97 => (P_97, 6)
  | 98 => (P_98, 5)
  | 99 => (P_99, 6)
  | 100 => (P_100, 5)
  | 101 => (P_101, 2)
  | 102 => (P_102, 2)
  | 103 => (P_103, 8)
  | 104 => (P_104, 5)
  | 105 => (P_105, 2)
  | 106 => (P_106, 5)
  | 107 => (P_107, 5)
  | 108 => (P_108, 2)
  | 109 => (P_109, 3)
  | 110 => (P_110, 2)
  | 111 => (P_111, 4)
  | 112 => (P_112, 4)
  | 113 => (P_113, 5)
  | 114 => (P_114, 1)
  | 115 => (P_115, 4)
  | 116 => (P_116, 2)
  | 117 => (P_117, 4)
  | 118 => (P_118, 4)
  | 119 => (P_119, 7)
  | 120 => (P_120, 5)
  | 121 => (P_121, 6)
  | 122 => (P_122, 2)
  | 123 => (P_123, 3)
  | 124 => (P_124, 3)
  | 125 => (P_125, 5)
  | 126 => (P_126, 5)
  | 127 => (P_127, 5)
  | 128 => (P_128, 1)
  | 129 => (P_129, 4)
  | 130 => (P_130, 5)
  | 131 => (P_131, 5)
  | 132 => (P_132, 6)
  | 133 => (P_133, 5)
  | 134 => (P_134, 6)
  | 135 => (P_135, 3)
  | 136 => (P_136, 1)
  | 137 => (P_137, 2)
  | 138 => (P_138, 2)
  | 139 => (P_139, 2)
  | 140 => (P_140, 2)
  | 141 => (P_141, 4)
  | 142 => (P_142, 2)
  | 143 => (P_143, 5)
  | 144 => (P_144, 8)
  | 145 => (P_145, 3)
  | 146 => (P_146, 1)
  | 147 => (P_147, 6)
  | 148 => (P_148, 3)
  | 149 => (P_149, 2)
  | 150 => (P_150, 2)
  | 151 => (P_151, 2)
  | 152 => (P_152, 2)
  | 153 => (P_153, 4)
  | 154 => (P_154, 3)
  | 155 => (P_155, 3)
  | 156 => (P_156, 3)
  | 157 => (P_157, 3)
  | 158 => (P_158, 2)
  | 159 => (P_159, 3)
  | 160 => (P_160, 2)
  | 161 => (P_161, 2)
  | 162 => (P_162, 5)
  | 163 => (P_163, 1)
  | 164 => (P_164, 1)
  | 165 => (P_165, 2)
  | 166 => (P_166, 1)
  | 167 => (P_167, 2)
  | 168 => (P_168, 1)
  | 169 => (P_169, 9)
  | 170 => (P_170, 1)
  | 171 => (P_171, 2)
  | 172 => (P_172, 2)
  | 173 => (P_173, 3)
  | 174 => (P_174, 3)
  | 175 => (P_175, 3)
  | 176 => (P_176, 3)
  | 177 => (P_177, 1)
  | 178 => (P_178, 2)
  | 179 => (P_179, 2)
  | 180 => (P_180, 3)
  | 181 => (P_181, 2)
  | 182 => (P_182, 2)
  | 183 => (P_183, 6)
  | 184 => (P_184, 4)
  | 185 => (P_185, 2)
  | 186 => (P_186, 2)
  | 187 => (P_187, 1)
  | 188 => (P_188, 1)
  | 189 => (P_189, 2)
  | 190 => (P_190, 1)
  | 191 => (P_191, 3)
  | 192 => (P_192, 2)
  | 193 => (P_193, 1)
  | 194 => (P_194, 2)
  | 195 => (P_195, 3)
  | 196 => (P_196, 2)
  | 197 => (P_197, 3)
  | 198 => (P_198, 2)
  | 199 => (P_199, 3)
  | 200 => (P_200, 3)
  | 201 => (P_201, 2)
  | 202 => (P_202, 2)
  | 203 => (P_203, 3)
  | 204 => (P_204, 4)
  | 205 => (P_205, 4)
  | 206 => (P_206, 2)
  | 207 => (P_207, 4)
  | 208 => (P_208, 4)
  | 209 => (P_209, 6)
  | 210 => (P_210, 5)
  | 211 => (P_211, 1)
  | 212 => (P_212, 5)
  | 213 => (P_213, 2)
  | 214 => (P_214, 5)
  | 215 => (P_215, 4)
  | 216 => (P_216, 4)
  | 217 => (P_217, 2)
  | 218 => (P_218, 2)
  | 219 => (P_219, 3)
  | 220 => (P_220, 2)
  | 221 => (P_221, 2)
  | 222 => (P_222, 2)
  | 223 => (P_223, 4)
  | 224 => (P_224, 3)
  | 225 => (P_225, 5)
  | 226 => (P_226, 3)
  | 227 => (P_227, 1)
  | 228 => (P_228, 2)
  | 229 => (P_229, 2)
  | 230 => (P_230, 4)
  | 231 => (P_231, 6)
  | 232 => (P_232, 12)
  | 233 => (P_233, 2)
  | 234 => (P_234, 5)
  | 235 => (P_235, 5)
  | 236 => (P_236, 2)
  | 237 => (P_237, 4)
  | 238 => (P_238, 1)
  | 239 => (P_239, 2)
  | 240 => (P_240, 4)
  | 241 => (P_241, 7)
  | 242 => (P_242, 2)
  | 243 => (P_243, 8)
  | 244 => (P_244, 2)
  | 245 => (P_245, 2)
  | 246 => (P_246, 8)
  | 247 => (P_247, 3)
  | 248 => (P_248, 6)
  | 249 => (P_249, 5)
  | 250 => (P_250, 2)
  | 251 => (P_251, 2)
  | 252 => (P_252, 4)
  | 253 => (P_253, 2)
  | 254 => (P_254, 3)
  | 255 => (P_255, 2)
  | 256 => (P_256, 3)
  | 257 => (P_257, 2)
  | 258 => (P_258, 4)
  | 259 => (P_259, 4)
  | 260 => (P_260, 2)
  | 261 => (P_261, 2)
  | 262 => (P_262, 3)
  | 263 => (P_263, 3)
  | 264 => (P_264, 2)
  | 265 => (P_265, 6)
  | 266 => (P_266, 4)
  | 267 => (P_267, 2)
  | 268 => (P_268, 2)
  | 269 => (P_269, 2)
  | 270 => (P_270, 2)
  | 271 => (P_271, 4)
  | 272 => (P_272, 1)
  | 273 => (P_273, 1)
  | 274 => (P_274, 6)
  | 275 => (P_275, 2)
  | 276 => (P_276, 1)
  | 277 => (P_277, 3)
  | 278 => (P_278, 4)
  | 279 => (P_279, 8)
  | 280 => (P_280, 2)
  | 281 => (P_281, 3)
  | 282 => (P_282, 3)
  | 283 => (P_283, 2)
  | 284 => (P_284, 5)
  | 285 => (P_285, 4)
  | 286 => (P_286, 7)
  | _ => ([], 0)
/-- the locals at an entry -/
def bk_args : Nat → List bk_V → List bk_V
  | 0, _ => []
  | n + 1, [] => bk_x :: bk_args n []
  | 1, v :: _ => [v]
  | n + 2, v :: as => match v with
    | .inr (.inl _) => v :: bk_x :: bk_args n as
    | _ => v :: bk_args (n + 1) as
/-- method μ, called d deep at the most, b throws at the most -/
def bk_C : Nat → bk_Ca
  | 0 => fun _ _ _ _ _ => False
  | d + 1 => fun b μ as M Q => bk_wp (bk_C d) (bk_prog μ).1 Q b 0 (bk_args (bk_prog μ).2 as) [] M
theorem bk_C_mono : ∀ (d : Nat) (b μ : Nat) (as : List bk_V) (M : bk_M) (Q Q' : bk_Q), (∀ t r M, Q t r M → Q' t r M) → bk_C d b μ as M Q → bk_C d b μ as M Q'
  | 0, _, _, _, _, _, _, _, h => h.elim
  | d + 1, _, _, _, _, _, _, hQ, h => bk_wp_mono (bk_C_mono d) hQ h
/-- a label opened, and all behind it but the stops -/
theorem bk_blk {d : Nat} {P : bk_P} {Q : bk_Q} (S : List Nat) (n : Nat) {b l : Nat} {ls st : List bk_V} {M : bk_M} (h : bk_run (bk_C d) (bk_go (bk_C d) P Q S n) Q (bk_lk l P) b ls st M) : bk_wp (bk_C d) P Q b l ls st M :=
  bk_wp_fold (bk_C_mono d) (bk_run_mono (bk_C_mono d) (fun _ _ _ _ _ q => bk_go_wp (bk_C_mono d) n q) (fun _ _ _ h => h) _ b ls st M h)
end
section
def bk_R : Nat → String
  | 0 => RX0
  | 1 => RX1
  | 2 => RX2
  | 3 => RX3
  | 4 => RX4
  | 5 => RX5
  | 6 => RX6
  | 7 => RX7
  | 8 => RX8
  | 9 => RX9
  | 10 => RX10
  | 11 => RX11
  | 12 => RX12
  | 13 => RL
  | _ => RJ6
def bk_F : Nat → u_T
  | 0 => TX0
  | 1 => TX1
  | 2 => TX2
  | 3 => TX3
  | 4 => TX4
  | 5 => TX5
  | 6 => TX6
  | 7 => TX7
  | 8 => TX8
  | 9 => TX9
  | 10 => TX10
  | 11 => TX11
  | _ => TX12
def bk_ty : Nat → Nat → FieldType
  | 0 => tyX0
  | 1 => tyX1
  | 2 => tyX2
  | 3 => tyX3
  | 4 => tyX4
  | 5 => tyX5
  | 6 => tyX6
  | 7 => tyX7
  | 8 => tyX8
  | 9 => tyX9
  | 10 => tyX10
  | 11 => tyX11
  | _ => tyX12
def bk_n : Nat → Nat
  | 0 => 6
  | 1 => 7
  | 2 => 2
  | 3 => 3
  | 4 => 3
  | 5 => 19
  | 6 => 4
  | 7 => 14
  | 8 => 6
  | 9 => 6
  | 10 => 12
  | 11 => 17
  | _ => 59
abbrev bk_Me : Type := MethodName × ByteArray × Nat × Option FieldType × Bool × Nat × Nat
def bk_me1 : List bk_Me := [(yX5_reset, cX5_reset, 2, none, false, 5, 1)]
def bk_me3 : List bk_Me := [(yX11_feed, cX11_feed, 6, some .int, false, 11, 6),
  (yX10_add, cX10_add, 3, none, false, 10, 2),
  (yX11_end, cX11_end, 2, some .boolean, false, 11, 2),
  (yX11_plain, cX11_plain, 3, some .int, false, 11, 1),
  (yX6_readText, cX6_readText, 4, some .int, false, 6, 3),
  (yX10_begin, cX10_begin, 2, none, false, 10, 2),
  (yX10_step, cX10_step, 2, none, false, 10, 1),
  (yX10_isSmall, cX10_isSmall, 1, some .boolean, true, 10, 1),
  (yX10_isDigit, cX10_isDigit, 1, some .boolean, true, 10, 1),
  (yX10_readWordOrNumber, cX10_readWordOrNumber, 8, none, false, 10, 1),
  (yX11_indexOfName, cX11_indexOfName, 5, some .int, true, 11, 3),
  (yX10_isSign, cX10_isSign, 1, some .boolean, true, 10, 1),
  (yX6_readLine, cX6_readLine, 3, some .boolean, false, 6, 3),
  (yX6_readSize, cX6_readSize, 3, some .boolean, false, 6, 3),
  (yX6_isFirst, cX6_isFirst, 3, some .boolean, false, 6, 2),
  (yX10_fails, cX10_fails, 2, some .boolean, false, 10, 2),
  (yX10_between, cX10_between, 3, some .boolean, false, 10, 3),
  (yX6_readLand, cX6_readLand, 4, some .boolean, false, 6, 3),
  (yX6_readCell, cX6_readCell, 4, some .int, false, 6, 3),
  (yX5_cellAt, cX5_cellAt, 3, some .int, false, 5, 3),
  (yX6_readSource, cX6_readSource, 3, some .boolean, false, 6, 3),
  (yX6_readField, cX6_readField, 5, some .boolean, false, 6, 3),
  (yX6_readNewName, cX6_readNewName, 4, some .boolean, false, 6, 3),
  (yX10_isName, cX10_isName, 1, some .boolean, false, 10, 1),
  (yX6_isTaken, cX6_isTaken, 3, some .boolean, true, 6, 2),
  (yX6_readMill, cX6_readMill, 5, some .boolean, false, 6, 3),
  (yX6_readPurse, cX6_readPurse, 4, some .boolean, false, 6, 3),
  (yX10_isWord, cX10_isWord, 2, some .boolean, false, 10, 2),
  (yX6_readIce, cX6_readIce, 3, some .boolean, false, 6, 3),
  (yX10_sign, cX10_sign, 2, some .boolean, false, 10, 2),
  (yX11_emptyTape, cX11_emptyTape, 1, none, false, 11, 1),
  (yX8_takeLeast, cX8_takeLeast, 2, none, false, 8, 2),
  (yX8_runFreely, cX8_runFreely, 2, none, false, 8, 2),
  (yX8_load, cX8_load, 2, none, false, 8, 2),
  (yX8_run, cX8_run, 7, none, false, 8, 2)]
def bk_me4 : List bk_Me := [(yX8_leastBelow, cX8_leastBelow, 6, some .int, false, 8, 3),
  (yX9_forget, cX9_forget, 1, none, false, 9, 1),
  (yX3_forget, cX3_forget, 1, none, false, 3, 1),
  (yX11_fault, cX11_fault, 1, some .int, false, 11, 1),
  (yX11_mill, cX11_mill, 4, some .int, false, 11, 3),
  (yX11_bankBy, cX11_bankBy, 4, some .int, true, 11, 2),
  (yX11_height, cX11_height, 4, some .int, false, 11, 3),
  (yX11_bank, cX11_bank, 4, some .int, false, 11, 3),
  (yX11_bed, cX11_bed, 2, some .int, false, 11, 2),
  (yX11_isRow, cX11_isRow, 2, some .boolean, false, 11, 2),
  (yX11_side, cX11_side, 3, some .int, false, 11, 3),
  (yX11_isSide, cX11_isSide, 1, some .boolean, true, 11, 1),
  (yX5_fieldsBy, cX5_fieldsBy, 5, some .int, false, 5, 3),
  (yX5_worthBy, cX5_worthBy, 5, some .int, false, 5, 3),
  (yX11_now, cX11_now, 2, some .int, false, 11, 2),
  (yX5_bedHeights, cX5_bedHeights, 3, some .int, false, 5, 1),
  (yX5_bends, cX5_bends, 3, some .int, false, 5, 1),
  (yX5_changes, cX5_changes, 3, some .int, false, 5, 1),
  (yX11_dig, cX11_dig, 4, some .int, false, 11, 4),
  (yX11_workBy, cX11_workBy, 7, some .int, false, 11, 5),
  (yX5_whyNoWork, cX5_whyNoWork, 5, some .int, false, 5, 4),
  (yX3_keep, cX3_keep, 2, none, false, 3, 2),
  (yX5_copyOf, cX5_copyOf, 2, none, false, 5, 2),
  (yX5_work, cX5_work, 4, none, false, 5, 4),
  (yX11_lay, cX11_lay, 4, some .int, false, 11, 4),
  (yX11_roll, cX11_roll, 6, some .int, false, 11, 4),
  (yX5_whyNoRoll, cX5_whyNoRoll, 5, some .int, false, 5, 3),
  (yX5_rollTo, cX5_rollTo, 3, none, false, 5, 3),
  (yX11_spring, cX11_spring, 2, some .int, false, 11, 2),
  (yX8_flood, cX8_flood, 5, some .int, false, 8, 2),
  (yX8_draw, cX8_draw, 2, some .int, false, 8, 2),
  (yX5_takeBed, cX5_takeBed, 4, some .int, false, 5, 2),
  (yX5_earn, cX5_earn, 4, none, false, 5, 1),
  (yX11_years, cX11_years, 3, some .int, false, 11, 3),
  (yX8_floods, cX8_floods, 5, some .int, false, 8, 3),
  (yX11_undo, cX11_undo, 1, some .int, false, 11, 1),
  (yX3_takeBack, cX3_takeBack, 2, none, false, 3, 2),
  (yX11_would, cX11_would, 1, some .int, false, 11, 1),
  (yX11_wouldAt, cX11_wouldAt, 2, some .int, false, 11, 2),
  (yX11_wouldBe, cX11_wouldBe, 2, some .int, false, 11, 2),
  (yX11_tempted, cX11_tempted, 4, some .int, false, 11, 4),
  (yX11_isField, cX11_isField, 2, some .boolean, false, 11, 2),
  (yX7_tempt, cX7_tempt, 7, some .int, false, 7, 5),
  (yX7_listWorks, cX7_listWorks, 6, none, false, 7, 5),
  (yX7_may, cX7_may, 7, some .boolean, false, 7, 4),
  (yX7_tempts, cX7_tempts, 7, some .boolean, false, 7, 5),
  (yX7_apply, cX7_apply, 2, none, false, 7, 2),
  (yX7_takeBack, cX7_takeBack, 2, none, false, 7, 2),
  (yX11_temptedAt, cX11_temptedAt, 2, some .int, false, 11, 2),
  (yX11_duelAt, cX11_duelAt, 2, some .int, false, 11, 2),
  (yX11_pushed, cX11_pushed, 3, some .int, false, 11, 3),
  (yX7_push, cX7_push, 6, some .int, false, 7, 4),
  (yX7_weigh, cX7_weigh, 6, none, false, 7, 5),
  (yX11_pushedAt, cX11_pushedAt, 2, some .int, false, 11, 2),
  (yX11_ago, cX11_ago, 3, some .int, false, 11, 3)]
def bk_me5 : List bk_Me := [(yX11_shares, cX11_shares, 8, some .int, false, 11, 5),
  (yX11_areTrials, cX11_areTrials, 2, some .boolean, true, 11, 2),
  (yX11_ran, cX11_ran, 2, some .int, false, 11, 1),
  (yX1_findBeds, cX1_findBeds, 4, some .int, false, 1, 3),
  (yX1_readPairs, cX1_readPairs, 8, some .boolean, false, 1, 3),
  (yX1_countBeds, cX1_countBeds, 6, some .int, false, 1, 2),
  (yX1_waysOn, cX1_waysOn, 6, some .int, false, 1, 4),
  (yX1_keepFirst, cX1_keepFirst, 5, none, false, 1, 2),
  (yX1_keepSure, cX1_keepSure, 6, none, false, 1, 2),
  (yX1_isReached, cX1_isReached, 5, some .boolean, false, 1, 4),
  (yX11_ranAt, cX11_ranAt, 2, some .int, false, 11, 2),
  (yX11_sure, cX11_sure, 2, some .int, false, 11, 2),
  (yX11_odds, cX11_odds, 8, some .int, false, 11, 6),
  (yX11_richest, cX11_richest, 5, some .int, false, 11, 2),
  (yX11_deed, cX11_deed, 2, some .int, false, 11, 2),
  (yX2_write, cX2_write, 5, none, false, 2, 3),
  (yX2_putName, cX2_putName, 5, none, false, 2, 2),
  (yX2_put, cX2_put, 2, none, false, 2, 2),
  (yX2_putText, cX2_putText, 3, none, false, 2, 2),
  (yX11_byteAt, cX11_byteAt, 2, some .int, false, 11, 2),
  (yX11_book, cX11_book, 4, some .int, false, 11, 2),
  (yX0_readText, cX0_readText, 4, some .boolean, false, 0, 3),
  (yX0_readLine, cX0_readLine, 5, some .boolean, false, 0, 3),
  (yX0_isBeginning, cX0_isBeginning, 1, some .boolean, true, 0, 1),
  (yX0_readOne, cX0_readOne, 4, some .boolean, false, 0, 4),
  (yX0_readPlace, cX0_readPlace, 2, some .boolean, false, 0, 2),
  (yX0_live, cX0_live, 4, some .int, false, 0, 3),
  (yX0_liveLine, cX0_liveLine, 4, some .int, false, 0, 4),
  (yX0_liveWork, cX0_liveWork, 7, some .int, false, 0, 5),
  (yX0_liveRoll, cX0_liveRoll, 5, some .int, false, 0, 3),
  (yX0_liveSprings, cX0_liveSprings, 6, some .int, false, 0, 4),
  (yX11_told, cX11_told, 2, some .int, false, 11, 2),
  (yX11_sentence, cX11_sentence, 3, some .int, false, 11, 1),
  (yX9_readText, cX9_readText, 3, some .boolean, false, 9, 3),
  (yX9_readCond, cX9_readCond, 5, some .boolean, false, 9, 4),
  (yX9_readAll, cX9_readAll, 5, some .boolean, false, 9, 4),
  (yX9_readOne, cX9_readOne, 5, some .boolean, false, 9, 4),
  (yX9_isBeginning, cX9_isBeginning, 1, some .boolean, true, 9, 1),
  (yX9_put, cX9_put, 4, some .boolean, false, 9, 4),
  (yX9_readPlainOne, cX9_readPlainOne, 5, some .boolean, false, 9, 3),
  (yX11_said, cX11_said, 5, some .int, false, 11, 2),
  (yX9_fieldsSaid, cX9_fieldsSaid, 6, some .int, false, 9, 2),
  (yX9_fieldsOfOne, cX9_fieldsOfOne, 5, some .int, false, 9, 3),
  (yX9_isSo, cX9_isSo, 6, some .boolean, false, 9, 4),
  (yX9_compares, cX9_compares, 3, some .boolean, false, 9, 3),
  (yJ6_bitCount_0f7a4, cJ6_bitCount_0f7a4, 1, some .int, true, 14, 1),
  (yX11_image, cX11_image, 2, some .boolean, false, 11, 2),
  (yX9_copyOf, cX9_copyOf, 2, none, false, 9, 2),
  (yX11_restore, cX11_restore, 2, some .boolean, false, 11, 2),
  (yX11_count, cX11_count, 2, some .int, false, 11, 2)]
def bk_me6 : List bk_Me := [(yX11_field, cX11_field, 4, some .int, false, 11, 3),
  (yX11_duel, cX11_duel, 2, some .int, false, 11, 2),
  (yX7_fight, cX7_fight, 5, some .int, false, 7, 3),
  (yX7_answered, cX7_answered, 8, some .int, false, 7, 4),
  (yX7_lead, cX7_lead, 3, some .int, false, 7, 3),
  (yX12_thrown, cX12_thrown, 1, some .int, false, 12, 1),
  (yX12_feed, cX12_feed, 6, some .int, false, 12, 6),
  (yX12_come, cX12_come, 3, none, false, 12, 2),
  (yX12_end, cX12_end, 2, some .boolean, false, 12, 2),
  (yX12_startRead, cX12_startRead, 2, none, false, 12, 1),
  (yX12_startSo, cX12_startSo, 2, none, false, 12, 1),
  (yX12_melt, cX12_melt, 2, none, false, 12, 1),
  (yX12_layBest, cX12_layBest, 4, some .int, false, 12, 1),
  (yX12_leastNext, cX12_leastNext, 3, some .int, false, 12, 3),
  (yX12_costAt, cX12_costAt, 3, some .int, false, 12, 3),
  (yX12_isCell, cX12_isCell, 3, some .boolean, false, 12, 3),
  (yX12_isIn, cX12_isIn, 3, some .boolean, true, 12, 3),
  (yX12_least, cX12_least, 2, some .int, true, 12, 2)]
def bk_me7 : List bk_Me := [(yX12_plain, cX12_plain, 3, some .int, false, 12, 1),
  (yX12_begin, cX12_begin, 2, none, false, 12, 2),
  (yX12_take, cX12_take, 2, some .int, false, 12, 1),
  (yX12_go, cX12_go, 5, none, false, 12, 1),
  (yX12_isLetter, cX12_isLetter, 1, some .boolean, true, 12, 1),
  (yX12_isDigit, cX12_isDigit, 1, some .boolean, true, 12, 1),
  (yX12_tapeAt, cX12_tapeAt, 2, some .int, false, 12, 2),
  (yX12_readLine, cX12_readLine, 1, some .boolean, false, 12, 1),
  (yX12_isWord, cX12_isWord, 2, some .boolean, false, 12, 2),
  (yX12_wordOf, cX12_wordOf, 1, some .long, true, 12, 1),
  (yX12_spelt, cX12_spelt, 9, some .long, true, 12, 7),
  (yX12_readPlain, cX12_readPlain, 1, some .boolean, false, 12, 1),
  (yX12_bad, cX12_bad, 2, some .boolean, false, 12, 2),
  (yX12_isFresh, cX12_isFresh, 2, some .boolean, false, 12, 2),
  (yX12_readBetween, cX12_readBetween, 3, some .boolean, false, 12, 3),
  (yX12_readNumber, cX12_readNumber, 3, some .boolean, false, 12, 3),
  (yX12_put, cX12_put, 3, some .boolean, false, 12, 3),
  (yX12_readLand, cX12_readLand, 3, some .boolean, false, 12, 1),
  (yX12_readX, cX12_readX, 1, some .boolean, false, 12, 1),
  (yX12_isBelow, cX12_isBelow, 2, some .boolean, false, 12, 2),
  (yX12_readField, cX12_readField, 2, some .boolean, false, 12, 1),
  (yX12_readFirst, cX12_readFirst, 3, some .boolean, false, 12, 3),
  (yX12_readNew, cX12_readNew, 2, some .boolean, false, 12, 2),
  (yX12_isName, cX12_isName, 2, some .boolean, false, 12, 1),
  (yX12_findIn, cX12_findIn, 6, some .int, true, 12, 4),
  (yX12_isField, cX12_isField, 4, some .boolean, false, 12, 3),
  (yX12_readMill, cX12_readMill, 2, some .boolean, false, 12, 1),
  (yX12_readPurse, cX12_readPurse, 2, some .boolean, false, 12, 1),
  (yX12_isSideHere, cX12_isSideHere, 1, some .boolean, false, 12, 1),
  (yX12_readEnd, cX12_readEnd, 1, some .boolean, false, 12, 1),
  (yX12_isSign, cX12_isSign, 2, some .boolean, false, 12, 2),
  (yX12_fault, cX12_fault, 1, some .int, false, 12, 1),
  (yX12_field, cX12_field, 3, some .int, false, 12, 3),
  (yX12_isFieldAt, cX12_isFieldAt, 2, some .boolean, false, 12, 2),
  (yX12_refuse, cX12_refuse, 1, some .int, false, 12, 1),
  (yX12_whose, cX12_whose, 2, some .int, false, 12, 2),
  (yX12_bankOf, cX12_bankOf, 3, some .int, false, 12, 3),
  (yX12_sideOf, cX12_sideOf, 2, some .int, true, 12, 2),
  (yX12_mill, cX12_mill, 3, some .int, false, 12, 3),
  (yX12_isMill, cX12_isMill, 2, some .boolean, false, 12, 2),
  (yX12_height, cX12_height, 3, some .int, false, 12, 3)]
def bk_me8 : List bk_Me := [(yX12_bank, cX12_bank, 3, some .int, false, 12, 3),
  (yX12_bed, cX12_bed, 2, some .int, false, 12, 2),
  (yX12_isRow, cX12_isRow, 2, some .boolean, false, 12, 2),
  (yX12_side, cX12_side, 3, some .int, false, 12, 3),
  (yX12_fieldsOf, cX12_fieldsOf, 4, some .int, false, 12, 2),
  (yX12_worthOf, cX12_worthOf, 4, some .int, false, 12, 2),
  (yX12_has, cX12_has, 2, some .boolean, true, 12, 2),
  (yX12_now, cX12_now, 4, some .int, false, 12, 2),
  (yX12_dig, cX12_dig, 4, some .int, false, 12, 4),
  (yX12_act, cX12_act, 6, some .int, false, 12, 5),
  (yX12_why, cX12_why, 5, some .int, false, 12, 5),
  (yX12_size, cX12_size, 1, some .int, true, 12, 1),
  (yX12_mayWork, cX12_mayWork, 5, some .boolean, false, 12, 5),
  (yX12_snap, cX12_snap, 2, none, false, 12, 1),
  (yX12_live, cX12_live, 5, none, false, 12, 5),
  (yX12_lay, cX12_lay, 4, some .int, false, 12, 4),
  (yX12_roll, cX12_roll, 4, some .int, false, 12, 4),
  (yX12_undo, cX12_undo, 2, some .int, false, 12, 1),
  (yX12_spring, cX12_spring, 2, some .int, false, 12, 2),
  (yX12_oneSpring, cX12_oneSpring, 3, some .int, false, 12, 1),
  (yX12_draw, cX12_draw, 2, some .int, false, 12, 2),
  (yX12_keepPast, cX12_keepPast, 2, none, false, 12, 1),
  (yX12_whoseByBest, cX12_whoseByBest, 2, some .int, false, 12, 2),
  (yX12_earns, cX12_earns, 4, none, false, 12, 2),
  (yX12_years, cX12_years, 3, some .int, false, 12, 3),
  (yX12_passYears, cX12_passYears, 5, some .int, false, 12, 3),
  (yX12_ago, cX12_ago, 3, some .int, false, 12, 3),
  (yX12_would, cX12_would, 1, some .int, false, 12, 1),
  (yX12_wouldAt, cX12_wouldAt, 2, some .int, false, 12, 2),
  (yX12_wouldBe, cX12_wouldBe, 2, some .int, false, 12, 2),
  (yX12_fieldsByBest, cX12_fieldsByBest, 4, some .int, false, 12, 2),
  (yX12_tempted, cX12_tempted, 6, some .int, false, 12, 4),
  (yX12_tempts, cX12_tempts, 12, some .boolean, false, 12, 7),
  (yX12_temptedAt, cX12_temptedAt, 2, some .int, false, 12, 2),
  (yX12_duel, cX12_duel, 5, some .int, false, 12, 2),
  (yX12_answered, cX12_answered, 5, some .int, false, 12, 2),
  (yX12_edge, cX12_edge, 2, some .int, false, 12, 2),
  (yX12_mayCode, cX12_mayCode, 4, some .boolean, false, 12, 3),
  (yX12_byCode, cX12_byCode, 1, some .int, true, 12, 1),
  (yX12_duelAt, cX12_duelAt, 2, some .int, false, 12, 2),
  (yX12_pushed, cX12_pushed, 4, some .int, false, 12, 3),
  (yX12_pushFrom, cX12_pushFrom, 7, none, false, 12, 5),
  (yX12_pushedAt, cX12_pushedAt, 2, some .int, false, 12, 2),
  (yX12_shares, cX12_shares, 8, some .int, false, 12, 5),
  (yX12_layAside, cX12_layAside, 2, none, false, 12, 1),
  (yX12_takeBack, cX12_takeBack, 2, none, false, 12, 1),
  (yX12_odds, cX12_odds, 8, some .int, false, 12, 6),
  (yX12_ran, cX12_ran, 3, some .int, false, 12, 1),
  (yX12_runFrom, cX12_runFrom, 6, none, false, 12, 3),
  (yX12_rowFits, cX12_rowFits, 5, some .boolean, false, 12, 4),
  (yX12_ranAt, cX12_ranAt, 2, some .int, false, 12, 2),
  (yX12_sure, cX12_sure, 2, some .int, false, 12, 2),
  (yX12_richest, cX12_richest, 4, some .int, false, 12, 2),
  (yX12_deed, cX12_deed, 2, some .int, false, 12, 2),
  (yX12_writeWord, cX12_writeWord, 3, none, false, 12, 2),
  (yX12_write, cX12_write, 2, none, false, 12, 2),
  (yX12_writeNext, cX12_writeNext, 3, none, false, 12, 2),
  (yX12_byteAt, cX12_byteAt, 2, some .int, false, 12, 2),
  (yX12_book, cX12_book, 4, some .int, false, 12, 2),
  (yX12_readBookLine, cX12_readBookLine, 4, some .boolean, false, 12, 1),
  (yX12_readSide, cX12_readSide, 2, some .boolean, false, 12, 2)]
def bk_me9 : List bk_Me := [(yX12_readCell, cX12_readCell, 2, some .boolean, false, 12, 2),
  (yX12_keep, cX12_keep, 3, some .boolean, false, 12, 3),
  (yX12_readSprings, cX12_readSprings, 3, some .boolean, false, 12, 2),
  (yX12_readMillRolls, cX12_readMillRolls, 2, some .boolean, false, 12, 2),
  (yX12_goBy, cX12_goBy, 6, some .int, false, 12, 2),
  (yX12_stay, cX12_stay, 4, none, false, 12, 2),
  (yX12_told, cX12_told, 2, some .int, false, 12, 2),
  (yX12_sentence, cX12_sentence, 2, some .int, false, 12, 1),
  (yX12_readOr, cX12_readOr, 2, some .boolean, false, 12, 1),
  (yX12_readAnd, cX12_readAnd, 2, some .boolean, false, 12, 1),
  (yX12_readSaid, cX12_readSaid, 4, some .boolean, false, 12, 1),
  (yX12_readBracket, cX12_readBracket, 1, some .boolean, false, 12, 1),
  (yX12_readNot, cX12_readNot, 1, some .boolean, false, 12, 1),
  (yX12_saysOne, cX12_saysOne, 6, some .int, false, 12, 5),
  (yX12_readOf, cX12_readOf, 2, some .boolean, false, 12, 2),
  (yX12_readFieldName, cX12_readFieldName, 1, some .boolean, false, 12, 1),
  (yX12_readCompare, cX12_readCompare, 3, some .boolean, false, 12, 2),
  (yX12_said, cX12_said, 4, some .int, false, 12, 2),
  (yX12_holds, cX12_holds, 8, some .boolean, false, 12, 3),
  (yX12_isNear, cX12_isNear, 2, some .boolean, false, 12, 2),
  (yX12_image, cX12_image, 3, some .boolean, false, 12, 2),
  (yX12_restore, cX12_restore, 3, some .boolean, false, 12, 2),
  (yX12_count, cX12_count, 2, some .int, false, 12, 2)]
def bk_me : List bk_Me := bk_me1 ++ bk_me3 ++ bk_me4 ++ bk_me5 ++ bk_me6 ++ bk_me7 ++ bk_me8 ++ bk_me9
def bk_mw (e : bk_Me) : Cond := .code e.1 e.2.1 e.2.2.1 e.2.2.2.1
def bk_mi (e : bk_Me) : Cond := if e.2.2.2.2.1 = true then .static e.1 else .instanceMethod e.1
def bk_ms (e : bk_Me) : Cond := .selects e.1.cls e.1 e.1
def bk_m0 : bk_Me := (⟨"", "", ""⟩, ⟨#[]⟩, 0, none, true, 0, 0)
def bk_m (μ : Nat) : bk_Me := bk_me.getD μ bk_m0
/-- words along a list, in its order -/
def bk_sub : List Cond → List Cond → Bool
  | [], _ => true
  | _ :: _, [] => false
  | w :: ws, t :: ts => if w == t then bk_sub ws ts else bk_sub (w :: ws) ts
def bk_fl : List (Nat × Nat × Nat) := [(10, 9, 436864), (1, 63, 436864), (11, 99, 641), (10, 31, 641), (1, 55, 641), (0, 34, 642), (6, 37, 642), (9, 50, 642), (10, 53, 642), (0, 61, 1667), (10, 66, 1667), (6, 123, 1667), (9, 97, 1667), (6, 51, 644), (0, 76, 644), (10, 74, 644), (9, 77, 644), (0, 93, 645), (6, 85, 645), (10, 80, 645), (9, 105, 645), (10, 41, 646), (11, 125, 646), (10, 44, 647), (11, 114, 647), (10, 15, 445064), (10, 35, 649), (10, 38, 650), (10, 50, 651), (5, 52, 320), (7, 40, 320), (1, 60, 320), (8, 50, 320), (6, 88, 320), (11, 346, 320), (5, 56, 321), (1, 39, 321), (7, 34, 321), (8, 46, 321), (6, 91, 321), (11, 174, 321), (5, 59, 322), (7, 43, 322), (8, 53, 322), (6, 94, 322), (11, 349, 322), (5, 62, 323), (6, 97, 323), (8, 79, 323), (11, 352, 323), (5, 9, 231748), (8, 24, 231748), (6, 108, 231748), (11, 168, 231748), (9, 139, 231748), (5, 15, 239941), (2, 24, 239941), (7, 52, 239941), (8, 45, 239941), (11, 142, 239941), (9, 119, 239941), (5, 65, 326), (1, 66, 326), (11, 152, 326), (6, 120, 326), (9, 94, 326), (5, 18, 248135), (2, 19, 248135), (1, 69, 248135), (11, 136, 248135), (7, 94, 248135), (6, 143, 248135), (9, 116, 248135), (5, 21, 256328), (11, 139, 256328), (6, 146, 256328), (9, 132, 256328), (5, 24, 264521), (11, 149, 264521), (6, 149, 264521), (9, 142, 264521), (5, 27, 272714), (2, 31, 272714), (6, 116, 272714), (9, 88, 272714), (5, 68, 331), (0, 58, 331), (11, 155, 331), (6, 133, 331), (5, 31, 280908), (11, 158, 280908), (6, 152, 280908), (5, 34, 289101), (11, 161, 289101), (6, 155, 289101), (5, 37, 297294), (0, 52, 297294), (6, 130, 297294), (5, 40, 305487), (7, 118, 305487), (11, 180, 305487), (6, 161, 305487), (5, 43, 313680), (11, 189, 313680), (5, 71, 337), (8, 72, 337), (0, 133, 337), (11, 192, 337), (5, 46, 321874), (11, 279, 321874), (8, 9, 371200), (7, 59, 371200), (8, 15, 379393), (7, 93, 379393), (11, 248, 379393), (8, 69, 514), (11, 245, 514), (8, 93, 515), (0, 136, 515), (11, 227, 515), (8, 18, 387588), (8, 21, 395781), (6, 14, 384), (6, 20, 385), (6, 23, 1410), (6, 27, 4483), (0, 96, 0), (11, 316, 0), (0, 24, 1), (0, 9, 133122), (0, 15, 141315), (0, 18, 149508), (0, 21, 157701), (9, 24, 576), (11, 326, 576), (9, 28, 577), (11, 323, 577), (9, 9, 404034), (9, 15, 412227), (9, 18, 420420), (9, 21, 428613), (7, 9, 330176), (11, 256, 330176), (7, 87, 449), (11, 253, 449), (7, 15, 338370), (11, 266, 338370), (7, 104, 4547), (11, 262, 4547), (7, 18, 346564), (11, 276, 346564), (7, 128, 453), (11, 273, 453), (7, 24, 1116614), (7, 28, 354759), (7, 62, 456), (7, 31, 362953), (7, 73, 458), (7, 76, 459), (7, 115, 460), (7, 112, 461), (1, 9, 165952), (11, 295, 165952), (1, 15, 174145), (11, 298, 174145), (1, 45, 66), (11, 292, 66), (1, 18, 182339), (1, 21, 190532), (1, 24, 198725), (1, 27, 206918), (2, 9, 215168), (11, 306, 215168), (2, 15, 129), (11, 305, 129), (3, 18, 192), (11, 238, 192), (3, 22, 193), (3, 11, 223426), (11, 336, 11577600), (11, 339, 2173185), (11, 343, 4354), (11, 10, 84672), (11, 19, 44737), (11, 23, 44738), (11, 26, 2140867), (11, 32, 68292), (11, 39, 51909), (11, 46, 2758), (11, 53, 77511), (11, 57, 77512), (11, 63, 60105), (11, 70, 10954), (11, 77, 19147), (11, 84, 27340), (11, 91, 453325), (11, 95, 461518), (11, 319, 4815), (11, 128, 720), (12, 1, 768), (12, 7, 469761), (12, 11, 770), (12, 18, 771), (12, 27, 772), (12, 21, 773), (12, 24, 774), (12, 30, 775), (12, 47, 776), (12, 40, 777), (12, 66, 778), (12, 69, 779), (12, 43, 1804), (12, 79, 781), (12, 98, 477966), (12, 101, 486159), (12, 104, 494352), (12, 107, 502545), (12, 110, 510738), (12, 113, 518931), (12, 117, 527124), (12, 120, 535317), (12, 123, 543510), (12, 127, 551703), (12, 130, 559896), (12, 267, 793), (12, 190, 4890), (12, 133, 568091), (12, 136, 576284), (12, 139, 584477), (12, 337, 798), (12, 142, 592671), (12, 145, 600864), (12, 363, 801), (12, 148, 609058), (12, 381, 4899), (12, 369, 804), (12, 151, 617253), (12, 154, 625446), (12, 387, 807), (12, 384, 808), (12, 157, 633641), (12, 160, 641834), (12, 163, 650027), (12, 409, 812), (12, 399, 813), (12, 166, 658222), (12, 169, 666415), (12, 172, 674608), (12, 412, 817), (12, 175, 682802), (12, 178, 690995), (12, 431, 820), (12, 449, 4917), (12, 181, 699190), (12, 456, 823), (12, 471, 824), (12, 474, 825), (12, 462, 826)]
def bk_ml : List (Nat × Nat × Nat) := [(13, 23, 1), (11, 103, 2), (13, 28, 3), (13, 33, 4), (11, 107, 5), (6, 9, 0), (6, 31, 6), (10, 47, 7), (10, 56, 8), (10, 60, 9), (10, 63, 10), (10, 77, 12), (6, 40, 13), (6, 54, 14), (6, 78, 15), (6, 75, 16), (6, 81, 17), (10, 83, 16), (6, 57, 18), (6, 104, 19), (6, 100, 20), (6, 60, 21), (6, 63, 22), (6, 136, 23), (6, 48, 7), (6, 112, 24), (6, 139, 25), (6, 66, 26), (6, 69, 27), (6, 158, 28), (6, 72, 29), (6, 44, 30), (11, 111, 31), (11, 117, 32), (8, 42, 33), (8, 35, 34), (8, 39, 35), (8, 65, 36), (11, 121, 37), (11, 124, 38), (13, 38, 39), (13, 51, 40), (11, 145, 41), (13, 55, 42), (11, 164, 20), (13, 59, 43), (13, 63, 44), (11, 171, 45), (13, 67, 46), (11, 177, 47), (11, 183, 48), (11, 186, 49), (13, 71, 50), (11, 195, 51), (11, 199, 52), (11, 202, 53), (13, 75, 54), (11, 205, 55), (11, 209, 56), (11, 213, 57), (3, 25, 58), (11, 216, 59), (13, 80, 60), (13, 84, 61), (11, 220, 62), (11, 223, 63), (13, 88, 64), (11, 230, 65), (8, 82, 66), (8, 86, 67), (8, 90, 68), (5, 90, 49), (13, 92, 69), (11, 234, 70), (8, 75, 65), (13, 96, 71), (11, 239, 72), (13, 100, 73), (11, 242, 33), (13, 104, 74), (13, 108, 75), (13, 112, 76), (11, 129, 77), (11, 249, 78), (7, 69, 34), (7, 79, 79), (7, 65, 80), (7, 83, 81), (7, 90, 35), (7, 97, 82), (7, 101, 83), (13, 116, 84), (13, 124, 85), (13, 128, 86), (11, 269, 87), (7, 125, 49), (7, 131, 88), (13, 132, 89), (13, 136, 90), (13, 140, 91), (11, 282, 92), (11, 286, 58), (13, 145, 93), (11, 289, 94), (1, 31, 95), (1, 35, 96), (1, 81, 97), (1, 48, 98), (1, 52, 99), (1, 85, 100), (13, 149, 101), (13, 153, 102), (13, 157, 103), (13, 161, 104), (13, 165, 105), (11, 301, 106), (2, 35, 107), (2, 51, 108), (2, 45, 109), (13, 169, 110), (13, 173, 111), (11, 309, 112), (0, 28, 6), (0, 37, 113), (0, 48, 24), (0, 69, 16), (0, 72, 114), (0, 79, 28), (0, 82, 115), (0, 89, 17), (0, 45, 7), (0, 86, 116), (0, 41, 30), (11, 312, 117), (0, 99, 118), (0, 103, 119), (0, 114, 20), (0, 118, 56), (0, 122, 59), (0, 107, 120), (0, 126, 62), (0, 129, 63), (0, 111, 121), (0, 141, 65), (13, 177, 122), (13, 181, 123), (11, 322, 124), (9, 37, 37), (9, 40, 6), (9, 46, 125), (9, 57, 126), (9, 70, 127), (9, 73, 128), (9, 53, 16), (9, 63, 7), (9, 66, 129), (9, 80, 130), (9, 84, 24), (9, 60, 28), (13, 185, 131), (11, 327, 132), (9, 108, 133), (9, 112, 134), (9, 135, 135), (11, 330, 136), (13, 189, 137), (11, 340, 138), (13, 193, 139), (13, 197, 140), (13, 7, 141), (13, 15, 142), (11, 259, 143), (7, 108, 144), (7, 121, 145), (13, 48, 146), (13, 27, 147), (12, 14, 148), (13, 32, 149), (12, 184, 150), (12, 187, 151), (12, 194, 152), (12, 197, 153), (12, 281, 154), (12, 274, 155), (12, 270, 156), (12, 75, 157), (12, 278, 158), (13, 37, 159), (12, 258, 160), (12, 89, 161), (12, 82, 162), (12, 33, 163), (12, 37, 164), (12, 50, 165), (12, 261, 166), (12, 237, 167), (12, 62, 168), (12, 58, 169), (12, 243, 170), (12, 72, 171), (12, 208, 172), (12, 211, 173), (12, 219, 174), (12, 215, 175), (12, 246, 176), (12, 222, 177), (12, 225, 178), (12, 249, 179), (12, 228, 180), (12, 231, 181), (12, 200, 182), (12, 204, 183), (12, 234, 184), (12, 252, 185), (12, 255, 186), (12, 240, 187), (12, 264, 188), (12, 86, 189), (13, 41, 190), (13, 47, 191), (12, 299, 192), (12, 302, 193), (12, 290, 194), (12, 287, 195), (12, 284, 196), (13, 54, 197), (12, 305, 198), (13, 58, 199), (13, 62, 200), (13, 66, 201), (12, 308, 202), (13, 70, 203), (12, 311, 204), (12, 314, 205), (12, 293, 206), (13, 74, 207), (13, 79, 208), (12, 334, 209), (12, 323, 210), (12, 317, 211), (12, 319, 212), (12, 327, 213), (12, 330, 214), (13, 83, 215), (13, 87, 216), (13, 99, 217), (13, 91, 218), (12, 350, 219), (12, 341, 220), (12, 344, 221), (12, 296, 222), (12, 347, 223), (13, 95, 224), (12, 353, 225), (13, 139, 226), (13, 103, 227), (13, 107, 228), (13, 111, 229), (12, 356, 230), (13, 115, 231), (12, 359, 232), (13, 119, 233), (13, 123, 234), (12, 378, 235), (12, 366, 236), (12, 372, 237), (12, 375, 238), (13, 127, 239), (13, 131, 240), (12, 390, 241), (13, 135, 242), (13, 144, 243), (12, 393, 244), (12, 396, 245), (13, 160, 246), (13, 148, 247), (12, 405, 248), (12, 402, 249), (13, 152, 250), (13, 156, 251), (13, 164, 252), (13, 168, 253), (12, 415, 254), (12, 419, 255), (12, 422, 256), (13, 172, 257), (13, 176, 258), (12, 443, 259), (12, 434, 260), (12, 428, 261), (12, 425, 262), (12, 437, 263), (12, 440, 264), (12, 446, 265), (12, 452, 266), (13, 180, 267), (13, 184, 268), (12, 489, 269), (12, 459, 270), (12, 468, 271), (12, 477, 272), (12, 480, 273), (12, 465, 274), (12, 483, 275), (12, 492, 276), (12, 486, 277), (13, 188, 278), (12, 495, 279), (12, 498, 280), (13, 192, 281), (13, 196, 282), (13, 200, 283)]
def bk_nl : List (Nat × Nat × Nat) := [(10, 70, 11), (6, 126, 11), (5, 80, 41), (7, 55, 41), (2, 27, 41), (0, 65, 11), (9, 101, 11), (9, 122, 41)]
def bk_kl : List (Nat × Nat × Int) := [(8, 96, 1103515245), (14, 265, 1431655765), (14, 266, 858993459), (14, 267, 252645135), (12, 273, 100000), (12, 340, 1103515245)]
def bk_kL : List (Nat × Nat × Int) := [(2, 65, 31), (12, 54, 27), (12, 56, 96)]
def bk_sT : List Nat := [0, 1, 2, 3, 4, 5, 6, 7, 16, 17, 20, 24, 28, 30, 32, 33, 34, 35, 37, 38, 39, 40, 42, 43, 44, 46, 48, 49, 50, 51, 52, 53, 54, 56, 57, 58, 59, 60, 61, 62, 63, 64, 65, 67, 68, 69, 70, 71, 72, 73, 74, 75, 76, 78, 84, 85, 86, 87, 89, 90, 91, 93, 94, 101, 102, 103, 104, 105, 106, 110, 111, 112, 117, 122, 123, 124, 131, 132, 137, 138, 139, 140, 141, 142, 143, 146, 147, 149, 159, 190, 191, 197, 199, 200, 201, 203, 207, 208, 215, 216, 217, 218, 224, 226, 227, 228, 229, 231, 233, 234, 239, 240, 242, 243, 246, 247, 250, 251, 252, 253, 257, 258, 267, 268, 278, 281, 282, 283]
def bk_sP : List Nat := [10, 13, 14, 15, 18, 19, 21, 22, 23, 26, 27, 29, 31, 36, 45, 55, 66, 77, 79, 80, 81, 82, 83, 88, 95, 96, 97, 98, 99, 100, 107, 108, 109, 113, 115, 116, 118, 119, 120, 121, 125, 126, 127, 129, 130, 133, 134, 135, 144, 145, 148, 150, 151, 152, 153, 154, 155, 156, 160, 161, 162, 165, 166, 167, 170, 171, 172, 173, 174, 175, 176, 177, 178, 179, 180, 181, 182, 184, 185, 186, 187, 188, 189, 192, 193, 194, 195, 198, 202, 204, 205, 209, 210, 212, 213, 214, 219, 220, 221, 222, 223, 225, 230, 232, 235, 236, 237, 241, 244, 245, 248, 249, 254, 255, 256, 259, 260, 261, 262, 263, 264, 265, 266, 269, 270, 271, 272, 273, 274, 275, 276, 277, 279, 280]
def bk_iT : List Nat := [0, 1, 2, 3, 4, 5, 6, 7, 10, 13, 14, 15, 16, 17, 18, 19, 20, 21, 22, 23, 24, 26, 27, 28, 29, 30, 31, 32, 33, 34, 35, 36, 37, 38, 39, 40, 42, 43, 44, 45, 46, 48, 49, 50, 51, 52, 53, 54, 55, 56, 57, 58, 59, 60, 61, 62, 63, 64, 65, 66, 67, 68, 69, 70, 71, 72, 73, 74, 75, 76, 77, 78, 79, 80, 81, 82, 83, 84, 85, 86, 87, 88, 89, 90, 91, 93, 94, 95, 96, 97, 98, 99, 100, 101, 102, 103, 104, 105, 106, 107, 108, 109, 110, 111, 112, 113, 115, 116, 117, 118, 119, 120, 121, 122, 123, 124, 125, 126, 127, 129, 130, 131, 132, 133, 134, 135, 137, 138, 139, 140, 141, 142, 143, 144, 145, 146, 147, 148, 149, 150, 151, 152, 153, 154, 155, 156, 159, 160, 161, 162, 165, 166, 167, 170, 171, 172, 173, 174, 175, 176, 177, 178, 179, 180, 181, 182, 184, 185, 186, 187, 188, 189, 190, 191, 192, 193, 194, 195, 197, 198, 199, 200, 201, 202, 203, 204, 205, 207, 208, 209, 210, 212, 213, 214, 215, 216, 217, 218, 219, 220, 221, 222, 223, 224, 225, 226, 227, 228, 229, 230, 231, 232, 233, 234, 235, 236, 237, 239, 240, 241, 242, 243, 244, 245, 246, 247, 248, 249, 250, 251, 252, 253, 254, 255, 256, 257, 258, 259, 260, 261, 262, 263, 264, 265, 266, 267, 268, 269, 270, 271, 272, 273, 274, 275, 276, 277, 278, 279, 280, 281, 282, 283]
def bk_tT : List Nat := [8, 9, 11, 12, 25, 41, 47, 92, 114, 128, 136, 157, 158, 163, 164, 168, 169, 183, 196, 206, 211, 238]
def bk_ini : List Nat := [13, 11, 10, 5, 8, 6, 0, 9, 7, 1, 2, 3, 4, 12, 14]
def bk_fw (e : Nat × Nat × Nat) : Cond := .fieldLink (bk_R e.1) e.2.1 (bk_F (e.2.2 / 64 % 16) (e.2.2 % 64)).1 (bk_F (e.2.2 / 64 % 16) (e.2.2 % 64)).2.1 (bk_F (e.2.2 / 64 % 16) (e.2.2 % 64)).2.2.1
def bk_lw (e : Nat × Nat × Nat) : Cond := .methodLink (bk_R e.1) e.2.1 (bk_m e.2.2).1
def bk_nw (e : Nat × Nat × Nat) : Cond := .methodLinkNest (bk_R e.1) e.2.1 (bk_m e.2.2).1 "BanksDealt"
def bk_kw (e : Nat × Nat × Int) : Cond := .constant (bk_R e.1) e.2.1 (Int32.ofInt e.2.2)
def bk_kW (e : Nat × Nat × Int) : Cond := .constantLong (bk_R e.1) e.2.1 (Int64.ofInt e.2.2)
set_option maxRecDepth 20000 in
theorem bk_fl_in : bk_sub (bk_fl.map bk_fw) tables_1 = true := by decide +kernel
set_option maxRecDepth 20000 in
theorem bk_ml_in : bk_sub (bk_ml.map bk_lw) tables_1 = true := by decide +kernel
set_option maxRecDepth 20000 in
theorem bk_nl_in : bk_sub (bk_nl.map bk_nw) tables_1 = true := by decide +kernel
set_option maxRecDepth 20000 in
theorem bk_kl_in : bk_sub (bk_kl.map bk_kw) tables_1 = true := by decide +kernel
set_option maxRecDepth 20000 in
theorem bk_kL_in : bk_sub (bk_kL.map bk_kW) tables_1 = true := by decide +kernel
set_option maxRecDepth 20000 in
theorem bk_dummy : True := trivial
def bk_isC : Cond → Bool
  | .code y _ _ _ => (y.name != "<init>" && (y.cls == "BanksDealt" || y.cls == "BanksDealtModel" || y.name == "bitCount" || [RX0, RX1, RX2, RX3, RX4, RX5, RX6, RX7, RX8, RX9, RX10].elem y.cls))
  | _ => false
set_option maxRecDepth 20000 in
theorem bk_me1_in : tables_1_1.filter bk_isC = bk_me1.map bk_mw := by rfl
set_option maxRecDepth 20000 in
theorem bk_me3_in : tables_1_3.filter bk_isC = bk_me3.map bk_mw := by rfl
set_option maxRecDepth 20000 in
theorem bk_me4_in : tables_1_4.filter bk_isC = bk_me4.map bk_mw := by rfl
set_option maxRecDepth 20000 in
theorem bk_me5_in : tables_1_5.filter bk_isC = bk_me5.map bk_mw := by rfl
set_option maxRecDepth 20000 in
theorem bk_me6_in : tables_1_6.filter bk_isC = bk_me6.map bk_mw := by rfl
set_option maxRecDepth 20000 in
theorem bk_me7_in : tables_1_7.filter bk_isC = bk_me7.map bk_mw := by rfl
set_option maxRecDepth 20000 in
theorem bk_me8_in : tables_1_8.filter bk_isC = bk_me8.map bk_mw := by rfl
set_option maxRecDepth 20000 in
theorem bk_me9_in : tables_1_9.filter bk_isC = bk_me9.map bk_mw := by rfl
set_option maxRecDepth 20000 in
theorem bk_sT_in : bk_sub (bk_sT.map (fun μ => bk_ms (bk_m μ))) tables_1 = true := by decide +kernel
set_option maxRecDepth 20000 in
theorem bk_sP_in : bk_sub (bk_sP.map (fun μ => bk_ms (bk_m μ))) (k2_sels lw_privs) = true := by decide +kernel
set_option maxRecDepth 20000 in
theorem bk_iT_in : bk_sub (bk_iT.map (fun μ => Cond.instanceMethod (bk_m μ).1)) tables_1 = true := by decide +kernel
set_option maxRecDepth 20000 in
theorem bk_tT_in : bk_sub (bk_tT.map (fun μ => Cond.static (bk_m μ).1)) tables_1 = true := by decide +kernel
set_option maxRecDepth 20000 in
theorem bk_ini_in : bk_sub (bk_ini.map (fun c => Cond.initialized (bk_R c))) tables_1 = true := by decide +kernel
set_option maxRecDepth 20000 in
theorem bk_lay_in : ∀ c, c < 13 → bk_sub (u_ws (bk_R c) (bk_F c) (bk_n c)) tables_1 = true := by decide +kernel
end
section
/-- the cells in the order of their making: kind, which one -/
def bk_lay : List (Nat × Nat) := [(11, 0), (10, 0), (53, 0), (54, 0), (5, 0), (28, 0), (29, 0), (30, 0), (31, 0), (32, 0), (33, 0), (34, 0), (35, 0), (36, 0), (37, 0), (38, 0), (39, 0), (5, 1), (28, 1), (29, 1), (30, 1), (31, 1), (32, 1), (33, 1), (34, 1), (35, 1), (36, 1), (37, 1), (38, 1), (39, 1), (5, 2), (28, 2), (29, 2), (30, 2), (31, 2), (32, 2), (33, 2), (34, 2), (35, 2), (36, 2), (37, 2), (38, 2), (39, 2), (8, 0), (45, 0), (46, 0), (47, 0), (48, 0), (6, 0), (0, 0), (16, 0), (17, 0), (18, 0), (19, 0), (9, 0), (49, 0), (50, 0), (51, 0), (52, 0), (9, 1), (49, 1), (50, 1), (51, 1), (52, 1), (7, 0), (40, 0), (41, 0), (42, 0), (8, 1), (45, 1), (46, 1), (47, 1), (48, 1), (43, 0), (44, 0), (1, 0), (20, 0), (21, 0), (22, 0), (23, 0), (24, 0), (25, 0), (2, 0), (26, 0), (3, 0), (27, 0), (5, 3), (28, 3), (29, 3), (30, 3), (31, 3), (32, 3), (33, 3), (34, 3), (35, 3), (36, 3), (37, 3), (38, 3), (39, 3), (5, 4), (28, 4), (29, 4), (30, 4), (31, 4), (32, 4), (33, 4), (34, 4), (35, 4), (36, 4), (37, 4), (38, 4), (39, 4), (5, 5), (28, 5), (29, 5), (30, 5), (31, 5), (32, 5), (33, 5), (34, 5), (35, 5), (36, 5), (37, 5), (38, 5), (39, 5), (5, 6), (28, 6), (29, 6), (30, 6), (31, 6), (32, 6), (33, 6), (34, 6), (35, 6), (36, 6), (37, 6), (38, 6), (39, 6), (5, 7), (28, 7), (29, 7), (30, 7), (31, 7), (32, 7), (33, 7), (34, 7), (35, 7), (36, 7), (37, 7), (38, 7), (39, 7), (5, 8), (28, 8), (29, 8), (30, 8), (31, 8), (32, 8), (33, 8), (34, 8), (35, 8), (36, 8), (37, 8), (38, 8), (39, 8), (5, 9), (28, 9), (29, 9), (30, 9), (31, 9), (32, 9), (33, 9), (34, 9), (35, 9), (36, 9), (37, 9), (38, 9), (39, 9), (5, 10), (28, 10), (29, 10), (30, 10), (31, 10), (32, 10), (33, 10), (34, 10), (35, 10), (36, 10), (37, 10), (38, 10), (39, 10), (55, 0), (4, 0), (5, 11), (28, 11), (29, 11), (30, 11), (31, 11), (32, 11), (33, 11), (34, 11), (35, 11), (36, 11), (37, 11), (38, 11), (39, 11), (9, 2), (49, 2), (50, 2), (51, 2), (52, 2), (4, 1), (5, 12), (28, 12), (29, 12), (30, 12), (31, 12), (32, 12), (33, 12), (34, 12), (35, 12), (36, 12), (37, 12), (38, 12), (39, 12), (9, 3), (49, 3), (50, 3), (51, 3), (52, 3), (56, 0), (12, 0), (57, 0), (58, 0), (59, 0), (60, 0), (61, 0), (62, 0), (63, 0), (64, 0), (65, 0), (66, 0), (67, 0), (68, 0), (69, 0), (70, 0), (71, 0), (72, 0), (73, 0), (74, 0), (75, 0), (76, 0), (77, 0), (78, 0), (79, 0), (80, 0), (81, 0), (82, 0), (83, 0), (84, 0), (85, 0), (86, 0)]
/-- the fields of the classes: what they hold -/
def bk_fds : List (List Nat) := [[0, 0, 130, 138, 146, 154],
  [162, 170, 0, 178, 186, 194, 202],
  [210, 0],
  [0, 0, 218],
  [11306, 2122, 4],
  [0, 0, 0, 0, 226, 234, 0, 242, 250, 258, 266, 0, 274, 282, 290, 298, 306, 0, 314],
  [0, 0, 1, 4],
  [322, 0, 330, 4, 338, 0, 1090, 346, 0, 354, 0, 0, 0, 0],
  [362, 370, 0, 0, 378, 386],
  [0, 0, 394, 402, 410, 418],
  [426, 0, 0, 1, 0, 0, 0, 0, 434, 0, 0, 0],
  [82, 43, 43, 2090, 66, 50, 2, 75, 75, 58, 10, 18, 26, 442, 450, 4, 0],
  [0, 458, 0, 0, 0, 0, 0, 0, 0, 0, 0, 0, 1, 0, 466, 474, 482, 490, 498, 506, 514, 522, 530, 538, 546, 0, 4, 554, 562, 570, 0, 578, 586, 0, 594, 4, 0, 602, 610, 0, 0, 618, 626, 634, 0, 0, 642, 650, 658, 0, 666, 674, 0, 4, 682, 0, 0, 0, 0]]
/-- the links of arraycopy, min, max, abs, length, charAt -/
def bk_pl0 : List (Nat × Nat) := [(8, 29), (5, 74), (9, 31)]
def bk_pl1 : List (Nat × Nat) := [(8, 56), (3, 29), (5, 93), (1, 78)]
def bk_pl2 : List (Nat × Nat) := [(8, 62), (1, 72)]
def bk_pl3 : List (Nat × Nat) := [(5, 84), (7, 46), (9, 126)]
def bk_pl4 : List (Nat × Nat) := [(2, 55)]
def bk_pl5 : List (Nat × Nat) := [(2, 61)]
def bk_fd (c j : Nat) : Nat := (bk_fds.getD c []).getD j 0
/-- a real instruction r of so many bytes is carried out as i -/
def bk_ck (own : Nat) (rt : Option FieldType) (nL pc : Nat) (r : Instr) (len : Nat) (i : Instr) : Bool :=
  match i with
  | .sipush v => match r with
    | .sipush w => decide (w = v ∧ len = 3 ∧ -32768 ≤ v ∧ v ≤ 32767)
    | .bipush w => decide (w = v ∧ len = 2 ∧ -128 ≤ v ∧ v ≤ 127)
    | .iconst w => decide (w = v ∧ len = 1 ∧ -1 ≤ v ∧ v ≤ 5)
    | .ldc n => decide ((own, n, v) ∈ bk_kl ∧ len = 2 ∧ -2147483648 ≤ v ∧ v ≤ 2147483647)
    | .ldc_w n => decide ((own, n, v) ∈ bk_kl ∧ len = 3 ∧ -2147483648 ≤ v ∧ v ≤ 2147483647)
    | _ => false
  | .bipush v => match r with
    | .lconst w => decide (((w : Nat) : Int) = v ∧ len = 1)
    | .ldc2_w n => decide ((own, n, v) ∈ bk_kL ∧ len = 3 ∧ -9223372036854775808 ≤ v ∧ v ≤ 9223372036854775807)
    | _ => false
  | .ldc k => match r with
    | .ldc n => decide (own = 2 ∧ len = 2 ∧ [39, 41, 43, 49][k]? = some n)
    | _ => false
  | .iload n => match r with
    | .iload k => decide (k = n ∧ len = 2)
    | .iload_n k => decide (k.val = n ∧ len = 1)
    | _ => false
  | .lload n => match r with
    | .lload k => decide (k = n ∧ len = 2)
    | .lload_n k => decide (k.val = n ∧ len = 1)
    | _ => false
  | .aload n => match r with
    | .aload k => decide (k = n ∧ len = 2)
    | .aload_n k => decide (k.val = n ∧ len = 1)
    | _ => false
  | .istore n => match r with
    | .istore k => decide (k = n ∧ len = 2 ∧ n < nL)
    | .istore_n k => decide (k.val = n ∧ len = 1 ∧ n < nL)
    | _ => false
  | .lstore n => match r with
    | .lstore k => decide (k = n ∧ len = 2 ∧ n + 1 < nL)
    | .lstore_n k => decide (k.val = n ∧ len = 1 ∧ n + 1 < nL)
    | _ => false
  | .astore n => match r with
    | .astore k => decide (k = n ∧ len = 2 ∧ n < nL)
    | .astore_n k => decide (k.val = n ∧ len = 1 ∧ n < nL)
    | _ => false
  | .iinc n c => match r with
    | .iinc k d => decide (k = n ∧ d = c ∧ len = 3 ∧ -128 ≤ c ∧ c ≤ 127)
    | _ => false
  | .getfield f => match r with
    | .getfield n => decide ((own, n, f) ∈ bk_fl ∧ len = 3)
    | _ => false
  | .putfield f => match r with
    | .putfield n => decide ((own, n, f) ∈ bk_fl ∧ len = 3 ∧ (bk_F (f / 64 % 16) (f % 64)).2.2.2 = false)
    | _ => false
  | .iaload => decide (r = .iaload ∧ len = 1)
  | .laload => decide (r = .laload ∧ len = 1)
  | .baload => decide (r = .baload ∧ len = 1)
  | .iastore => decide (r = .iastore ∧ len = 1)
  | .lastore => decide (r = .lastore ∧ len = 1)
  | .bastore => decide (r = .bastore ∧ len = 1)
  | .if_icmp c t => match r with
    | .if_icmp c' off => decide (c' = c ∧ (pc : Int) + off = t ∧ 0 ≤ t ∧ len = 3)
    | _ => false
  | .ifCond c t => match r with
    | .ifCond c' off => decide (c' = c ∧ (pc : Int) + off = t ∧ 0 ≤ t ∧ len = 3)
    | _ => false
  | .tableswitch d lo hi ts => match r with
    | .tableswitch d' lo' hi' offs => decide ((pc : Int) + d' = d ∧ 0 ≤ d ∧ lo' = lo ∧ hi' = hi ∧ offs.toList.map (fun o => (pc : Int) + o) = ts.toList ∧ (∀ t ∈ ts.toList, (0 : Int) ≤ t) ∧ hi = lo + ts.toList.length - 1)
    | _ => false
  | .lookupswitch d ps => match r with
    | .lookupswitch d' qs => decide ((pc : Int) + d' = d ∧ 0 ≤ d ∧ qs.toList.map (fun o => (o.1, (pc : Int) + o.2)) = ps.toList ∧ (∀ t ∈ ps.toList, (0 : Int) ≤ t.2)) && (qs.toList.zip (qs.toList.drop 1)).all (fun (a, next) => a.1 < next.1)
    | _ => false
  | .ireturn => decide (r = .ireturn ∧ len = 1 ∧ rt = some .int)
  | .freturn => decide (r = .ireturn ∧ len = 1 ∧ rt = some .boolean)
  | .lreturn => decide (r = .lreturn ∧ len = 1 ∧ rt = some .long)
  | .return_ => decide (r = .return_ ∧ len = 1 ∧ rt = none)
  | .invokestatic n => decide (len = 3 ∧ n / 32768 % 16 = (if (bk_m (n / 64 % 512)).2.2.2.2.1 = true then 0 else (bk_m (n / 64 % 512)).2.2.2.2.2.1 + 1) ∧ n / 524288 ≤ (bk_m (n / 64 % 512)).2.2.1 ∧ n / 64 % 512 < bk_me.length ∧ n / 4 % 16 = (bk_m (n / 64 % 512)).2.2.2.2.2.2 ∧ n % 4 = (match (bk_m (n / 64 % 512)).2.2.2.1 with | none => 0 | some .int => 1 | some .boolean => 1 | some .long => 2 | _ => 3)) && (match r with
    | .invokestatic k => decide ((bk_m (n / 64 % 512)).2.2.2.2.1 = true ∧ n / 64 % 512 ∈ bk_tT ∧ ((own, k, n / 64 % 512) ∈ bk_ml ∨ (own, k, n / 64 % 512) ∈ bk_nl))
    | .invokevirtual k => decide ((bk_m (n / 64 % 512)).2.2.2.2.1 = false ∧ n / 64 % 512 ∈ bk_iT ∧ (n / 64 % 512 ∈ bk_sT ∨ n / 64 % 512 ∈ bk_sP) ∧ (own, k, n / 64 % 512) ∈ bk_ml)
    | _ => false)
  | .invokevirtual n => decide (len = 3) && (match n with
    | 0 => decide ((own, (match r with | .invokestatic k => k | _ => 0)) ∈ bk_pl0 ∧ r = .invokestatic (match r with | .invokestatic k => k | _ => 0))
    | 1 => decide ((own, (match r with | .invokestatic k => k | _ => 0)) ∈ bk_pl1 ∧ r = .invokestatic (match r with | .invokestatic k => k | _ => 0))
    | 2 => decide ((own, (match r with | .invokestatic k => k | _ => 0)) ∈ bk_pl2 ∧ r = .invokestatic (match r with | .invokestatic k => k | _ => 0))
    | 3 => decide ((own, (match r with | .invokestatic k => k | _ => 0)) ∈ bk_pl3 ∧ r = .invokestatic (match r with | .invokestatic k => k | _ => 0))
    | 4 => decide ((own, (match r with | .invokevirtual k => k | _ => 0)) ∈ bk_pl4 ∧ r = .invokevirtual (match r with | .invokevirtual k => k | _ => 0))
    | 5 => decide ((own, (match r with | .invokevirtual k => k | _ => 0)) ∈ bk_pl5 ∧ r = .invokevirtual (match r with | .invokevirtual k => k | _ => 0))
    | _ => false)
  | .saload => decide (r = .iaload ∧ len = 1)
  | .swap => decide (r = .arraylength ∧ len = 1)
  | .dadd => decide (r = .iadd ∧ len = 1)
  | .dmul => decide (r = .imul ∧ len = 1)
  | .aaload => decide (r = .aaload ∧ len = 1)
  | .arraylength => decide (r = .arraylength ∧ len = 1)
  | .iadd => decide (r = .iadd ∧ len = 1)
  | .isub => decide (r = .isub ∧ len = 1)
  | .imul => decide (r = .imul ∧ len = 1)
  | .idiv => decide (r = .idiv ∧ len = 1)
  | .irem => decide (r = .irem ∧ len = 1)
  | .ineg => decide (r = .ineg ∧ len = 1)
  | .ishl => decide (r = .ishl ∧ len = 1)
  | .ishr => decide (r = .ishr ∧ len = 1)
  | .iushr => decide (r = .iushr ∧ len = 1)
  | .iand => decide (r = .iand ∧ len = 1)
  | .ior => decide (r = .ior ∧ len = 1)
  | .ixor => decide (r = .ixor ∧ len = 1)
  | .ladd => decide (r = .ladd ∧ len = 1)
  | .lsub => decide (r = .lsub ∧ len = 1)
  | .lmul => decide (r = .lmul ∧ len = 1)
  | .ldiv => decide (r = .ldiv ∧ len = 1)
  | .lrem => decide (r = .lrem ∧ len = 1)
  | .lshl => decide (r = .lshl ∧ len = 1)
  | .lshr => decide (r = .lshr ∧ len = 1)
  | .land => decide (r = .land ∧ len = 1)
  | .lor => decide (r = .lor ∧ len = 1)
  | .lcmp => decide (r = .lcmp ∧ len = 1)
  | .i2l => decide (r = .i2l ∧ len = 1)
  | .l2i => decide (r = .l2i ∧ len = 1)
  | .dup => decide (r = .dup ∧ len = 1)
  | .dup2 => decide (r = .dup2 ∧ len = 1)
  | .pop => decide (r = .pop ∧ len = 1)
  | _ => false
def bk_chk (own : Nat) (rt : Option FieldType) (nL : Nat) (cc : ByteArray) : Nat → List Instr → Bool
  | _, [] => true
  | pc, i :: is => match i with
    | .goto t => decide ((pc : Int) = t) || (match decode cc pc with
      | .ok (.goto off, 3) => decide ((pc : Int) + off = t ∧ 0 ≤ t)
      | _ => false)
    | .athrow => decide (own = 11 ∧ decode cc pc = .ok (.new 133, 3) ∧ decode cc (pc + 3) = .ok (.dup, 1) ∧ decode cc (pc + 4) = .ok (.invokespecial 135, 3) ∧ decode cc (pc + 7) = .ok (.athrow, 1))
    | i => match decode cc pc with
      | .ok (r, len) => bk_ck own rt nL pc r len i && bk_chk own rt nL cc (pc + len) is
      | _ => false
def bk_okP (e : bk_Me) (P : bk_P) : Bool := P.all fun q => bk_chk e.2.2.2.2.2.1 e.2.2.2.1 e.2.2.1 e.2.1 q.1 q.2
/-- a method's table is that of its bytes -/
def bk_ok1 (μ : Nat) : Prop := bk_okP (bk_m μ) (bk_prog μ).1 = true ∧ (bk_prog μ).2 = (bk_m μ).2.2.1
theorem bk_fl_ok : ∀ e ∈ bk_fl, e.2.2 / 64 % 16 < 13 ∧ e.2.2 % 64 < bk_n (e.2.2 / 64 % 16) ∧ e.2.2 / 1024 = bk_fd (e.2.2 / 64 % 16) (e.2.2 % 64) ∧ e.1 ≤ 14 := by decide +kernel
end
section
theorem nb_i {x : Int} (h : bk_r32 x) : (Int32.ofInt x).toInt = x := Int32.toInt_ofInt_of_le (by unfold bk_r32 at h; omega) (by unfold bk_r32 at h; omega)
theorem nb_l {x : Int} (h : bk_r64 x) : (Int64.ofInt x).toInt = x := Int64.toInt_ofInt_of_le (by unfold bk_r64 at h; omega) (by unfold bk_r64 at h; omega)
theorem nb_lt {x y : Int} (hx : bk_r32 x) (hy : bk_r32 y) : Int32.ofInt x < Int32.ofInt y ↔ x < y := by rw [Int32.lt_iff_toInt_lt, nb_i hx, nb_i hy]
theorem nb_le {x y : Int} (hx : bk_r32 x) (hy : bk_r32 y) : Int32.ofInt x ≤ Int32.ofInt y ↔ x ≤ y := by rw [Int32.le_iff_toInt_le, nb_i hx, nb_i hy]
theorem nb_eq {x y : Int} (hx : bk_r32 x) (hy : bk_r32 y) : Int32.ofInt x = Int32.ofInt y ↔ x = y := by rw [← Int32.toInt_inj, nb_i hx, nb_i hy]
theorem nb_r0 : bk_r32 0 := by unfold bk_r32; omega
theorem nb_z : (0 : Int32) = Int32.ofInt 0 := rfl
theorem nb_clamp {j : Int} (h : bk_r32 j) : (Int32.ofInt j).toNatClampNeg = j.toNat := by
  show (Int32.ofInt j).toInt.toNat = _
  rw [nb_i h]
theorem nb_in {j : Int} {n : Nat} (h : bk_r32 j) (h0 : 0 ≤ j) (h1 : j < n) : vp_in (Int32.ofInt j) n := by
  unfold vp_in
  rw [nb_z, nb_lt h nb_r0, nb_clamp h]
  omega
theorem nb_div {x y : Int} (hx : bk_r32 x) (hy : bk_r32 y) (h0 : 0 ≤ x) (h1 : 0 < y) : Int32.ofInt x / Int32.ofInt y = Int32.ofInt (x / y) := by
  have hr : bk_r32 (x / y) := by
    unfold bk_r32 at *
    have := Int.ediv_nonneg h0 (Int.le_of_lt h1)
    have := Int.ediv_le_self y h0
    omega
  rw [← Int32.toInt_inj, Int32.toInt_div, nb_i hx, nb_i hy, nb_i hr, Int.tdiv_eq_ediv_of_nonneg h0]
  unfold bk_r32 at hr
  exact Int.bmod_eq_of_le (by omega) (by omega)
theorem nb_rem {x y : Int} (hx : bk_r32 x) (hy : bk_r32 y) (h0 : 0 ≤ x) (h1 : 0 < y) : Int32.ofInt x - Int32.ofInt x / Int32.ofInt y * Int32.ofInt y = Int32.ofInt (x % y) := by
  rw [nb_div hx hy h0 h1, ← Int32.ofInt_mul, ← Int32.ofInt_sub, Int.emod_def, Int.mul_comm]
theorem nb_div_r {x y : Int} (hx : bk_r32 x) (h0 : 0 ≤ x) (h1 : 0 < y) : bk_r32 (x / y) := by
  unfold bk_r32 at *
  have := Int.ediv_nonneg h0 (Int.le_of_lt h1)
  have := Int.ediv_le_self y h0
  omega
theorem nb_rem_r {x y : Int} (hy : bk_r32 y) (h1 : 0 < y) : bk_r32 (x % y) := by
  unfold bk_r32 at *
  have := Int.emod_nonneg x (Int.ne_of_gt h1)
  have := Int.emod_lt_of_pos x h1
  omega
theorem nl_div {x y : Int} (hx : bk_r64 x) (hy : bk_r64 y) (h0 : 0 ≤ x) (h1 : 0 < y) : Int64.ofInt x / Int64.ofInt y = Int64.ofInt (x / y) := by
  have hr : bk_r64 (x / y) := by
    unfold bk_r64 at *
    have := Int.ediv_nonneg h0 (Int.le_of_lt h1)
    have := Int.ediv_le_self y h0
    omega
  rw [← Int64.toInt_inj, Int64.toInt_div, nb_l hx, nb_l hy, nb_l hr, Int.tdiv_eq_ediv_of_nonneg h0]
  unfold bk_r64 at hr
  exact Int.bmod_eq_of_le (by omega) (by omega)
theorem nl_rem {x y : Int} (hx : bk_r64 x) (hy : bk_r64 y) (h0 : 0 ≤ x) (h1 : 0 < y) : Int64.ofInt x - Int64.ofInt x / Int64.ofInt y * Int64.ofInt y = Int64.ofInt (x % y) := by
  rw [nl_div hx hy h0 h1, ← Int64.ofInt_mul, ← Int64.ofInt_sub, Int.emod_def, Int.mul_comm]
theorem nl_div_r {x y : Int} (hx : bk_r64 x) (h0 : 0 ≤ x) (h1 : 0 < y) : bk_r64 (x / y) := by
  unfold bk_r64 at *
  have := Int.ediv_nonneg h0 (Int.le_of_lt h1)
  have := Int.ediv_le_self y h0
  omega
theorem nl_rem_r {x y : Int} (hy : bk_r64 y) (h1 : 0 < y) : bk_r64 (x % y) := by
  unfold bk_r64 at *
  have := Int.emod_nonneg x (Int.ne_of_gt h1)
  have := Int.emod_lt_of_pos x h1
  omega
theorem nb_and (x y : Int) : Int32.ofInt x &&& Int32.ofInt y = Int32.ofInt (bk_and x y) := by
  apply Int32.toBitVec.inj
  rw [Int32.toBitVec_and, Int32.toBitVec_ofInt, Int32.toBitVec_ofInt, Int32.toBitVec_ofInt, bk_and, BitVec.ofInt_toInt]
theorem nb_or (x y : Int) : Int32.ofInt x ||| Int32.ofInt y = Int32.ofInt (bk_or x y) := by
  apply Int32.toBitVec.inj
  rw [Int32.toBitVec_or, Int32.toBitVec_ofInt, Int32.toBitVec_ofInt, Int32.toBitVec_ofInt, bk_or, BitVec.ofInt_toInt]
theorem nb_xor (x y : Int) : Int32.ofInt x ^^^ Int32.ofInt y = Int32.ofInt (bk_xor x y) := by
  apply Int32.toBitVec.inj
  rw [Int32.toBitVec_xor, Int32.toBitVec_ofInt, Int32.toBitVec_ofInt, Int32.toBitVec_ofInt, bk_xor, BitVec.ofInt_toInt]
theorem nl_and (x y : Int) : Int64.ofInt x &&& Int64.ofInt y = Int64.ofInt (bk_andL x y) := by
  apply Int64.toBitVec.inj
  rw [Int64.toBitVec_and, Int64.toBitVec_ofInt, Int64.toBitVec_ofInt, Int64.toBitVec_ofInt, bk_andL, BitVec.ofInt_toInt]
theorem nl_or (x y : Int) : Int64.ofInt x ||| Int64.ofInt y = Int64.ofInt (bk_orL x y) := by
  apply Int64.toBitVec.inj
  rw [Int64.toBitVec_or, Int64.toBitVec_ofInt, Int64.toBitVec_ofInt, Int64.toBitVec_ofInt, bk_orL, BitVec.ofInt_toInt]
theorem nb_bvr (b : BitVec 32) : bk_r32 b.toInt := by
  have h1 := BitVec.toInt_lt (x := b)
  have h2 := BitVec.le_toInt (x := b)
  unfold bk_r32
  omega
theorem nl_bvr (b : BitVec 64) : bk_r64 b.toInt := by
  have h1 := BitVec.toInt_lt (x := b)
  have h2 := BitVec.le_toInt (x := b)
  unfold bk_r64
  omega
theorem nb_w32 (z : Int) : Int32.ofInt (bk_w32 z) = Int32.ofInt z := by
  rw [← Int32.toInt_inj, Int32.toInt_ofInt, Int32.toInt_ofInt, bk_w32]
  exact Int.bmod_bmod
theorem nb_w32_r (z : Int) : bk_r32 (bk_w32 z) := by
  unfold bk_w32 bk_r32
  have h1 := Int.bmod_lt (x := z) (m := 4294967296) (by omega)
  have h2 := Int.le_bmod (x := z) (m := 4294967296) (by omega)
  omega
theorem nb_sh {y : Int} (h0 : 0 ≤ y) (h1 : y < 32) : ((Int32.ofInt y &&& 31).toBitVec.smod 32).toNat = y.toNat := by
  have key : ∀ n : Nat, n < 32 → ((Int32.ofInt (n : Int) &&& 31).toBitVec.smod 32).toNat = n := by decide +kernel
  have := key y.toNat (by omega)
  rwa [show ((y.toNat : Nat) : Int) = y by omega] at this
theorem nb_shl {x y : Int} (h0 : 0 ≤ y) (h1 : y < 32) : Int32.ofInt x <<< (Int32.ofInt y &&& 31) = Int32.ofInt (x * 2 ^ y.toNat) := by
  apply Int32.toBitVec.inj
  rw [Int32.toBitVec_shiftLeft, Int32.toBitVec_ofInt, Int32.toBitVec_ofInt, BitVec.ofInt_mul]
  show BitVec.ofInt 32 x <<< ((Int32.ofInt y &&& 31).toBitVec.smod 32).toNat = _
  rw [nb_sh h0 h1, BitVec.shiftLeft_eq_mul_twoPow]
  congr 1
  have key : ∀ n : Nat, n < 32 → BitVec.twoPow 32 n = BitVec.ofInt 32 (2 ^ n) := by decide +kernel
  exact key y.toNat (by omega)
theorem nb_shr {x y : Int} (hx : bk_r32 x) (h0 : 0 ≤ y) (h1 : y < 32) : Int32.ofInt x >>> (Int32.ofInt y &&& 31) = Int32.ofInt (x / 2 ^ y.toNat) := by
  have h := pk_shr (Int32.ofInt x) (Int32.ofInt y &&& 31) y.toNat (nb_sh h0 h1)
  rw [← Int32.ofInt_toInt (Int32.ofInt x >>> (Int32.ofInt y &&& 31)), h, nb_i hx, Int.shiftRight_eq_div_pow]
  rfl
theorem nb_shr_r {x : Int} {n : Nat} (hx : bk_r32 x) : bk_r32 (x / 2 ^ n) := by
  unfold bk_r32 at *
  have hp : (0 : Int) < 2 ^ n := Int.pow_pos (by omega)
  have h1 : x / 2 ^ n ≤ 2147483647 := by
    rcases Int.lt_or_le x 0 with h | h
    · have := Int.ediv_neg_of_neg_of_pos h hp; omega
    · have := Int.ediv_le_self (2 ^ n) h; omega
  have h2 : -2147483648 ≤ x / 2 ^ n := by
    apply Int.le_ediv_of_mul_le hp
    have : (1 : Int) ≤ 2 ^ n := hp
    have := Int.mul_le_mul_of_nonpos_right this (show (-2147483648 : Int) ≤ 0 by omega)
    omega
  exact ⟨h2, h1⟩
theorem nb_ush {y : Int} (h0 : 0 ≤ y) (h1 : y < 32) : (((Int32.ofInt y).toUInt32 &&& Int32.toUInt32 31).toBitVec % 32).toNat = y.toNat := by
  have key : ∀ n : Nat, n < 32 → (((Int32.ofInt (n : Int)).toUInt32 &&& Int32.toUInt32 31).toBitVec % 32).toNat = n := by decide +kernel
  have := key y.toNat (by omega)
  rwa [show ((y.toNat : Nat) : Int) = y by omega] at this
theorem nb_ushr {x y : Int} (h0 : 0 ≤ y) (h1 : y < 32) : ((Int32.ofInt x).toUInt32 >>> ((Int32.ofInt y).toUInt32 &&& Int32.toUInt32 31)).toInt32 = Int32.ofInt (bk_ushr x y) := by
  apply Int32.toBitVec.inj
  apply BitVec.eq_of_toNat_eq
  rw [pk_ushr _ _ y.toNat (nb_ush h0 h1), Int32.toBitVec_ofInt, Int32.toBitVec_ofInt, BitVec.toNat_ofInt, BitVec.toNat_ofInt]
  unfold bk_ushr
  have h2 : (((2 : Nat) ^ 32 : Nat) : Int) = 4294967296 := by decide
  rw [h2]
  by_cases e : y = 0
  · subst e
    simp
  · rw [if_neg e]
    obtain ⟨u, hu, hl⟩ : ∃ u : Nat, x % 4294967296 = (u : Int) ∧ u < 4294967296 := ⟨(x % 4294967296).toNat, by omega, by omega⟩
    rw [hu]
    have h3 : (u : Int) / 2 ^ y.toNat = ((u / 2 ^ y.toNat : Nat) : Int) := by
      rw [Int.natCast_ediv]; congr 1
    rw [h3]
    have h4 := Nat.div_le_self u (2 ^ y.toNat)
    rw [Int.toNat_natCast]
    generalize u / 2 ^ y.toNat = v at *
    omega
theorem nb_ushr_r {x y : Int} (hx : bk_r32 x) (h0 : 0 ≤ y) (h1 : y < 32) : bk_r32 (bk_ushr x y) := by
  unfold bk_ushr
  by_cases e : y = 0
  · rw [if_pos e]; exact hx
  · rw [if_neg e]
    have hp : (0 : Int) < 2 ^ y.toNat := Int.pow_pos (by omega)
    have h2 : (2 : Int) ≤ 2 ^ y.toNat := by
      obtain ⟨n, hn⟩ : ∃ n, y.toNat = n + 1 := ⟨y.toNat - 1, by omega⟩
      rw [hn, Int.pow_succ]
      have : (0 : Int) < 2 ^ n := Int.pow_pos (by omega)
      omega
    have h3 := Int.emod_nonneg x (show (4294967296 : Int) ≠ 0 by omega)
    have h4 := Int.emod_lt_of_pos x (show (0 : Int) < 4294967296 by omega)
    have h5 : x % 4294967296 / 2 ^ y.toNat < 2147483648 := by
      apply Int.ediv_lt_of_lt_mul hp
      have := Int.mul_le_mul_of_nonneg_left h2 (show (0 : Int) ≤ 2147483648 by omega)
      omega
    have h6 := Int.ediv_nonneg h3 (Int.le_of_lt hp)
    unfold bk_r32
    omega
theorem nl_sh {y : Int} (h0 : 0 ≤ y) (h1 : y < 64) : (((Int32.ofInt y).toInt64 &&& 63).toBitVec.smod 64).toNat = y.toNat := by
  have key : ∀ n : Nat, n < 64 → (((Int32.ofInt (n : Int)).toInt64 &&& 63).toBitVec.smod 64).toNat = n := by decide +kernel
  have := key y.toNat (by omega)
  rwa [show ((y.toNat : Nat) : Int) = y by omega] at this
theorem nl_shl {x y : Int} (h0 : 0 ≤ y) (h1 : y < 64) : Int64.ofInt x <<< ((Int32.ofInt y).toInt64 &&& 63) = Int64.ofInt (x * 2 ^ y.toNat) := by
  apply Int64.toBitVec.inj
  rw [Int64.toBitVec_shiftLeft, Int64.toBitVec_ofInt, Int64.toBitVec_ofInt, BitVec.ofInt_mul]
  show BitVec.ofInt 64 x <<< (((Int32.ofInt y).toInt64 &&& 63).toBitVec.smod 64).toNat = _
  rw [nl_sh h0 h1, BitVec.shiftLeft_eq_mul_twoPow]
  congr 1
  have key : ∀ n : Nat, n < 64 → BitVec.twoPow 64 n = BitVec.ofInt 64 (2 ^ n) := by decide +kernel
  exact key y.toNat (by omega)
theorem nl_shr {x y : Int} (hx : bk_r64 x) (h0 : 0 ≤ y) (h1 : y < 64) : Int64.ofInt x >>> ((Int32.ofInt y).toInt64 &&& 63) = Int64.ofInt (x / 2 ^ y.toNat) := by
  have h : (Int64.ofInt x >>> ((Int32.ofInt y).toInt64 &&& 63)).toInt = (Int64.ofInt x).toInt >>> y.toNat := by
    show ((Int64.ofInt x).toBitVec.sshiftRight (((Int32.ofInt y).toInt64 &&& 63).toBitVec.smod 64).toNat).toInt = _
    rw [nl_sh h0 h1, BitVec.toInt_sshiftRight]
    rfl
  rw [← Int64.ofInt_toInt (Int64.ofInt x >>> _), h, nb_l hx, Int.shiftRight_eq_div_pow]
  rfl
theorem nl_shr_r {x : Int} {n : Nat} (hx : bk_r64 x) : bk_r64 (x / 2 ^ n) := by
  unfold bk_r64 at *
  have hp : (0 : Int) < 2 ^ n := Int.pow_pos (by omega)
  have h1 : x / 2 ^ n ≤ 9223372036854775807 := by
    rcases Int.lt_or_le x 0 with h | h
    · have := Int.ediv_neg_of_neg_of_pos h hp; omega
    · have := Int.ediv_le_self (2 ^ n) h; omega
  have h2 : -9223372036854775808 ≤ x / 2 ^ n := by
    apply Int.le_ediv_of_mul_le hp
    have : (1 : Int) ≤ 2 ^ n := hp
    have := Int.mul_le_mul_of_nonpos_right this (show (-9223372036854775808 : Int) ≤ 0 by omega)
    omega
  exact ⟨h2, h1⟩
theorem nl_lcmp {x y : Int} (hx : bk_r64 x) (hy : bk_r64 y) : lg_cmp (Int64.ofInt x) (Int64.ofInt y) = Int32.ofInt (bk_lcmp x y) := by
  unfold lg_cmp bk_lcmp
  simp only [gt_iff_lt, Int64.lt_iff_toInt_lt, ← Int64.toInt_inj, nb_l hx, nb_l hy]
  rcases Int.lt_trichotomy x y with h | h | h
  · rw [if_neg (by omega), if_neg (by omega), if_pos h]; rfl
  · rw [if_neg (by omega), if_pos h, if_neg (by omega), if_pos h]; rfl
  · rw [if_pos h, if_neg (by omega), if_neg (by omega)]; rfl
theorem nb_i2l {x : Int} (hx : bk_r32 x) : (Int32.ofInt x).toInt64 = Int64.ofInt x := by
  unfold bk_r32 at hx
  exact Int32.toInt64_ofInt hx.1 hx.2
theorem nb_8 {v : Int} (h1 : -128 ≤ v) (h2 : v ≤ 127) : (Int8.ofInt v).toInt32 = Int32.ofInt v := by
  rw [← Int32.ofInt_int8ToInt, Int8.toInt_ofInt_of_le (by omega) (by omega)]
theorem nb_16 {v : Int} (h1 : -32768 ≤ v) (h2 : v ≤ 32767) : (Int16.ofInt v).toInt32 = Int32.ofInt v := by
  rw [← Int32.ofInt_int16ToInt, Int16.toInt_ofInt_of_le (by omega) (by omega)]
theorem nl_lcmp_r (x y : Int) : bk_r32 (bk_lcmp x y) := by
  unfold bk_lcmp bk_r32
  by_cases h : x < y
  · rw [if_pos h]; omega
  · rw [if_neg h]
    by_cases h2 : x = y
    · rw [if_pos h2]; omega
    · rw [if_neg h2]; omega
theorem nl_fin : ∀ n : Fin 2, Int64.ofNat (n : Nat) = Int64.ofInt ((n : Nat) : Int) := by decide +kernel
theorem nb_beq {a b : Nat} (h : a ≠ b) : Nat.beq a b = false := by
  cases hq : Nat.beq a b with
  | false => rfl
  | true => exact absurd (Nat.eq_of_beq_eq_true hq) h
theorem nb_beqT {a b : Nat} (h : Nat.beq a b = true) : a = b := Nat.eq_of_beq_eq_true h
end
section
/-! What the numbers stand for on the heap. ba: where the cells begin; b0: the script's cell; aK: the texts' cells; cA: the array classes; sc: the script. -/
def bk_find (q : Nat × Nat) : List (Nat × Nat) → Nat
  | [] => 0
  | x :: l => if x = q then 0 else bk_find q l + 1
theorem bk_find_at {q : Nat × Nat} : ∀ {l : List (Nat × Nat)}, q ∈ l → l[bk_find q l]? = some q
  | [], h => nomatch h
  | x :: l, h => by
    unfold bk_find
    by_cases e : x = q
    · rw [if_pos e, e]; rfl
    · rw [if_neg e, List.getElem?_cons_succ]
      exact bk_find_at ((List.mem_cons.mp h).resolve_left fun z => e z.symm)
def bk_off (k i : Nat) : Nat := bk_find (k, i) bk_lay
theorem bk_off_at {k i : Nat} (h : (k, i) ∈ bk_lay) : bk_lay[bk_off k i]? = some (k, i) := bk_find_at h
set_option maxRecDepth 100000 in
theorem bk_lay_nd : bk_lay.Nodup := by decide +kernel
theorem bk_lay_len : bk_lay.length = 261 := by decide +kernel
theorem bk_off_lt {k i : Nat} (h : (k, i) ∈ bk_lay) : bk_off k i < 261 := by
  rw [← bk_lay_len]; exact (List.getElem?_eq_some_iff.mp (bk_off_at h)).1
theorem bk_off_one {k i n : Nat} (h : bk_lay[n]? = some (k, i)) : n = bk_off k i := by
  obtain ⟨h1, h2⟩ := List.getElem?_eq_some_iff.mp h
  obtain ⟨h3, h4⟩ := List.getElem?_eq_some_iff.mp (bk_off_at (List.mem_of_getElem? h))
  exact (List.getElem_inj bk_lay_nd).mp (h2.trans h4.symm)
def bk_ad (ba b0 : Nat) (aK : Nat → Nat) (k i : Nat) : Nat := if k = 13 then b0 else if k = 14 then aK i else ba + bk_off k i
def bk_rv (ba b0 : Nat) (aK : Nat → Nat) (v : bk_V) : Value := match v with
  | .inl z => .int (Int32.ofInt z)
  | .inr (.inl z) => .long (Int64.ofInt z)
  | .inr (.inr c) => .ref (bk_ad ba b0 aK c.1 c.2)
def bk_fv (ba : Nat) (M : bk_M) (k i j : Nat) : Value := match bk_fd k j % 8 with
  | 1 => .long (Int64.ofInt (M k i j))
  | 2 => .ref (ba + bk_off (bk_fd k j / 8 % 128) (i + bk_fd k j / 1024))
  | 3 => .ref (ba + bk_off (bk_fd k j / 8 % 128) (M k i j).toNat)
  | _ => .int (Int32.ofInt (M k i j))
def bk_tys (cA : Nat → ClassId) : List (ClassId × FieldType) := [(cA 0, .int), (cA 1, .long), (cA 2, .boolean), (cA 3, .object "BanksDealt$Plain"), (cA 4, .object "BanksDealt$Image")]
def bk_en (ba : Nat) (cA : Nat → ClassId) (M : bk_M) (q : Nat × Nat) : va_E := if q.1 < 13 then .inr (q.1, (List.range (bk_n q.1)).map (bk_fv ba M q.1 q.2)) else match bk_so q.1 with
  | 0 => .inl (cA 0, (bk_sz q.1).toNat, .inl (fun j => Int32.ofInt (M q.1 q.2 j)))
  | 1 => .inl (cA 1, (bk_sz q.1).toNat, .inr (.inl (fun j => Int64.ofInt (M q.1 q.2 j))))
  | 2 => .inl (cA 2, (bk_sz q.1).toNat, .inl (fun j => Int32.ofInt (M q.1 q.2 j)))
  | _ => .inl (cA (if q.1 = 27 then 3 else 4), (bk_sz q.1).toNat, .inr (.inr (.inr (.inr (fun j => some (ba + bk_off (bk_aa q.1).1 ((bk_aa q.1).2 + j)))))))
theorem bk_en_eq {ba : Nat} {cA : Nat → ClassId} {M M' : bk_M} {k i : Nat} (h : ∀ j, M k i j = M' k i j) : bk_en ba cA M (k, i) = bk_en ba cA M' (k, i) := by
  unfold bk_en
  simp only [h]
  have : bk_fv ba M k i = bk_fv ba M' k i := by funext j; unfold bk_fv; simp only [h]
  rw [this]
def bk_ws (ba : Nat) (cA : Nat → ClassId) (M : bk_M) : va_W := (List.range 261).map fun n => (ba + n, bk_en ba cA M (bk_lay.getD n (0, 0)))
theorem bk_ws_n {ba : Nat} {cA : Nat → ClassId} {M : bk_M} {n : Nat} (h : n < 261) : (bk_ws ba cA M)[n]? = some (ba + n, bk_en ba cA M (bk_lay.getD n (0, 0))) := by
  simp [bk_ws, h]
theorem bk_ws_at {ba : Nat} {cA : Nat → ClassId} {M : bk_M} {k i : Nat} (h : (k, i) ∈ bk_lay) : (bk_ws ba cA M)[bk_off k i]? = some (ba + bk_off k i, bk_en ba cA M (k, i)) := by
  rw [bk_ws_n (bk_off_lt h), List.getD_eq_getElem?_getD, bk_off_at h]; rfl
theorem bk_ws_set {ba : Nat} {cA : Nat → ClassId} {M M' : bk_M} {k i : Nat} (h : (k, i) ∈ bk_lay) (hM : ∀ k' i' j, (k', i') ≠ (k, i) → M' k' i' j = M k' i' j) : (bk_ws ba cA M).set (bk_off k i) (ba + bk_off k i, bk_en ba cA M' (k, i)) = bk_ws ba cA M' := by
  apply List.ext_getElem?
  intro n
  rw [List.getElem?_set]
  by_cases e : bk_off k i = n
  · subst e
    rw [if_pos rfl, bk_ws_at h, if_pos (by rw [bk_ws, List.length_map, List.length_range]; exact bk_off_lt h)]
  · rw [if_neg e]
    rcases Nat.lt_or_ge n 261 with hn | hn
    · rw [bk_ws_n hn, bk_ws_n hn]
      have h1 : n < bk_lay.length := by rw [bk_lay_len]; exact hn
      have h2 : bk_lay[n]? = some bk_lay[n] := List.getElem?_eq_getElem h1
      have h3 : bk_lay.getD n (0, 0) = bk_lay[n] := by rw [List.getD_eq_getElem?_getD, h2]; rfl
      rw [h3]
      congr 2
      refine bk_en_eq fun j => (hM _ _ j fun z => e ?_).symm
      exact (bk_off_one (n := n) (h2.trans (congrArg some (show bk_lay[n] = (k, i) from z)))).symm
    · simp [bk_ws, hn]
def bk_A (ba : Nat) : Nat → Prop := fun q => ba ≤ q ∧ q < ba + 261
theorem bk_ws_D {ba : Nat} {cA : Nat → ClassId} {M : bk_M} : va_D (bk_A ba) (bk_ws ba cA M) := by
  have key : ∀ (n : Nat) (q : Nat × va_E), (bk_ws ba cA M)[n]? = some q → n < 261 ∧ q.1 = ba + n := by
    intro n q h
    have h1 : n < 261 := by
      have := (List.getElem?_eq_some_iff.mp h).1
      rwa [bk_ws, List.length_map, List.length_range] at this
    rw [bk_ws_n h1] at h
    exact ⟨h1, by rw [← Option.some.inj h]⟩
  refine ⟨fun i j p q hp hq e => ?_, fun n q h => ?_⟩
  · have h1 := (key i p hp).2
    have h2 := (key j q hq).2
    omega
  · obtain ⟨h1, h2⟩ := key n q h
    unfold bk_A
    omega
def bk_okv (v : bk_V) : Prop := match v with
  | .inl z => bk_r32 z
  | .inr (.inl z) => bk_r64 z
  | .inr (.inr (k, i)) => k = 13 ∨ (k = 14 ∧ i < 4) ∨ (k, i) ∈ bk_lay
def bk_okm (M : bk_M) : Prop :=
  (∀ k i j, (k, i) ∈ bk_lay → k < 13 → j < bk_n k → match bk_fd k j % 8 with
    | 1 => bk_r64 (M k i j)
    | 2 => True
    | 3 => (bk_fd k j / 8 % 128, (M k i j).toNat) ∈ bk_lay
    | _ => bk_r32 (M k i j)) ∧
  (∀ (k i : Nat) (j : Int), (k, i) ∈ bk_lay → 13 ≤ k → 0 ≤ j → j < bk_sz k → match bk_so k with
    | 1 => bk_r64 (M k i j)
    | 3 => True
    | _ => bk_r32 (M k i j)) ∧
  (0 ≤ M 13 1 0 ∧ M 13 1 0 ≤ 2147483647 ∧ ∀ j, 0 ≤ j → j < M 13 1 0 → bk_r32 (M 13 0 j))
/-- the locals, as the kit lists them -/
def bk_al (ba b0 : Nat) (aK : Nat → Nat) (ls : List bk_V) : List (Nat × Value) := (List.range ls.length).filterMap fun n => match ls[n]? with
  | some v => if v = bk_x then none else some (n, bk_rv ba b0 aK v)
  | none => none
theorem bk_al_mem {ba b0 : Nat} {aK : Nat → Nat} {ls : List bk_V} {q : Nat × Value} : q ∈ bk_al ba b0 aK ls ↔ ∃ v, ls[q.1]? = some v ∧ v ≠ bk_x ∧ q.2 = bk_rv ba b0 aK v := by
  unfold bk_al
  rw [List.mem_filterMap]
  constructor
  · rintro ⟨n, -, h⟩
    split at h
    · rename_i v hv
      by_cases e : v = bk_x
      · rw [if_pos e] at h; cases h
      · rw [if_neg e] at h; cases h; exact ⟨v, hv, e, rfl⟩
    · cases h
  · rintro ⟨v, h1, h2, h3⟩
    refine ⟨q.1, List.mem_range.mpr (List.getElem?_eq_some_iff.mp h1).1, ?_⟩
    rw [h1]
    show (if v = bk_x then none else some (q.1, bk_rv ba b0 aK v)) = some q
    rw [if_neg h2, ← h3]
theorem bk_nth_eq : ∀ (n : Nat) (ls : List bk_V), bk_nth n ls = ls[n]?
  | _, [] => by simp [bk_nth]
  | 0, _ :: _ => rfl
  | n + 1, _ :: l => by rw [bk_nth, bk_nth_eq n l]; rfl
theorem bk_at {ba b0 nL : Nat} {aK : Nat → Nat} {ls : List bk_V} {lsr : Array Slot} (h : lv_has lsr nL (bk_al ba b0 aK ls)) {n : Nat} {v : bk_V} (hv : bk_nth n ls = some v) (hx : v ≠ bk_x) : lsr[n]? = some (.val (bk_rv ba b0 aK v)) :=
  h.2.2 (n, bk_rv ba b0 aK v) (bk_al_mem.mpr ⟨v, by rw [← bk_nth_eq]; exact hv, hx, rfl⟩)
theorem bk_set_len : ∀ (n : Nat) (v : bk_V) (ls : List bk_V), (bk_set n v ls).length = ls.length
  | _, _, [] => by simp [bk_set]
  | 0, v, w :: l => by
    cases l with
    | nil => rcases v with z | z | z <;> simp [bk_set]
    | cons u l => rcases v with z | z | z <;> simp [bk_set]
  | 1, v, w :: l => by
    rcases w with z | z | z <;> simp [bk_set, bk_set_len 0 v l]
  | n + 2, v, w :: l => by
    have := bk_set_len (n + 1) v l
    simp [bk_set, this]
/-- what stands in the locals behind a store -/
theorem bk_set_at : ∀ (n : Nat) (v : bk_V) (ls : List bk_V) (j : Nat) (w : bk_V), (bk_set n v ls)[j]? = some w → w ≠ bk_x →
    (j = n ∧ w = v) ∨ (j ≠ n ∧ ls[j]? = some w ∧ (j + 1 = n → ∀ z, w ≠ .inr (.inl z)) ∧ (∀ z, v = .inr (.inl z) → j ≠ n + 1))
  | _, _, [], j, w, h, _ => by simp [bk_set] at h
  | 0, v, u :: l, j, w, h, hx => by
    rcases v with z | z | z
    · have h : ((.inl z : bk_V) :: l)[j]? = some w := by cases l <;> exact h
      cases j with
      | zero => left; simp at h; exact ⟨rfl, h.symm⟩
      | succ j => right; exact ⟨by omega, by simpa using h, by omega, fun z' e => by cases e⟩
    · cases l with
      | nil =>
        have h : ([.inr (.inl z)] : List bk_V)[j]? = some w := h
        cases j with
        | zero => left; simp at h; exact ⟨rfl, h.symm⟩
        | succ j => simp at h
      | cons y l =>
        have h : ((.inr (.inl z) : bk_V) :: bk_x :: l)[j]? = some w := h
        match j, h with
        | 0, h => left; simp at h; exact ⟨rfl, h.symm⟩
        | 1, h => simp at h; exact absurd h.symm hx
        | j + 2, h => right; exact ⟨by omega, by simpa using h, by omega, fun _ _ => by omega⟩
    · have h : ((.inr (.inr z) : bk_V) :: l)[j]? = some w := by cases l <;> exact h
      cases j with
      | zero => left; simp at h; exact ⟨rfl, h.symm⟩
      | succ j => right; exact ⟨by omega, by simpa using h, by omega, fun z' e => by cases e⟩
  | 1, v, u :: l, j, w, h, hx => by
    have h2 : ((match u with | .inr (.inl _) => bk_x | _ => u) :: bk_set 0 v l)[j]? = some w := by
      rcases u with z | z | z <;> exact h
    cases j with
    | zero =>
      right
      simp only [List.getElem?_cons_zero, Option.some.injEq] at h2
      refine ⟨by omega, ?_, fun _ z e => ?_, fun _ _ => by omega⟩
      · rcases u with z | z | z
        · simpa using h2
        · exact absurd h2.symm hx
        · simpa using h2
      · rcases u with z' | z' | z'
        · rw [← h2] at e; cases e
        · exact hx h2.symm
        · rw [← h2] at e; cases e
    | succ j =>
      rw [List.getElem?_cons_succ] at h2
      rcases bk_set_at 0 v l j w h2 hx with ⟨a, b⟩ | ⟨a, b, c, d⟩
      · left; exact ⟨by omega, b⟩
      · right; exact ⟨by omega, by simpa using b, fun e => by omega, fun z e => by have := d z e; omega⟩
  | n + 2, v, u :: l, j, w, h, hx => by
    have h : (u :: bk_set (n + 1) v l)[j]? = some w := h
    cases j with
    | zero => right; exact ⟨by omega, by simpa using h, by omega, fun _ _ => by omega⟩
    | succ j =>
      rw [List.getElem?_cons_succ] at h
      rcases bk_set_at (n + 1) v l j w h hx with ⟨a, b⟩ | ⟨a, b, c, d⟩
      · left; exact ⟨by omega, b⟩
      · right; exact ⟨by omega, by simpa using b, fun e => c (by omega), fun z e => by have := d z e; omega⟩
theorem bk_set_mem {n : Nat} {v : bk_V} {ls : List bk_V} {P : bk_V → Prop} (hv : v ≠ bk_x → P v) (hl : ∀ w ∈ ls, w ≠ bk_x → P w) : ∀ w ∈ bk_set n v ls, w ≠ bk_x → P w := by
  intro w hw hx
  obtain ⟨j, hj⟩ := List.getElem?_of_mem hw
  rcases bk_set_at n v ls j w hj hx with ⟨-, rfl⟩ | ⟨-, b, -, -⟩
  · exact hv hx
  · exact hl w (List.mem_of_getElem? b) hx
theorem bk_rv_cat {ba b0 : Nat} {aK : Nat → Nat} {v : bk_V} : ((bk_rv ba b0 aK v).category = 2) ↔ ∃ z, v = .inr (.inl z) := by
  rcases v with z | z | z
  · simp [bk_rv, Value.category]
  · simp [bk_rv, Value.category]
  · simp [bk_rv, Value.category]
theorem bk_rv_cat1 {ba b0 : Nat} {aK : Nat → Nat} {v : bk_V} (h : ∀ z, v ≠ .inr (.inl z)) : (bk_rv ba b0 aK v).category = 1 := by
  rcases v with z | z | z
  · rfl
  · exact absurd rfl (h z)
  · rfl
/-- a store of one slot, and the locals listed anew -/
theorem bk_store1 {ba b0 nL : Nat} {aK : Nat → Nat} {ls : List bk_V} {n : Nat} {v : bk_V} {l' : Array Slot} (hc : ∀ z, v ≠ .inr (.inl z))
    (h : lv_has l' nL ((n, bk_rv ba b0 aK v) :: (bk_al ba b0 aK ls).filter (fun q => !(q.1 == n) && !(q.1 + 1 == n && q.2.category == 2)))) : lv_has l' nL (bk_al ba b0 aK (bk_set n v ls)) := by
  refine ⟨h.1, h.2.1, fun q hq => h.2.2 q ?_⟩
  obtain ⟨w, h1, h2, h3⟩ := bk_al_mem.mp hq
  rcases bk_set_at n v ls q.1 w h1 h2 with ⟨a, b⟩ | ⟨a, b, c, -⟩
  · rw [List.mem_cons]; left; rw [← b, ← a, ← h3]
  · rw [List.mem_cons]; right
    refine List.mem_filter.mpr ⟨bk_al_mem.mpr ⟨w, b, h2, h3⟩, ?_⟩
    have h4 : (q.1 == n) = false := by simpa using a
    rw [h4]
    simp only [Bool.not_false, Bool.true_and, Bool.not_eq_true', Bool.and_eq_false_iff, beq_eq_false_iff_ne]
    by_cases e : q.1 + 1 = n
    · right; rw [h3]; intro z; obtain ⟨y, hy⟩ := bk_rv_cat.mp z; exact c e y hy
    · left; exact e
theorem bk_store2 {ba b0 nL : Nat} {aK : Nat → Nat} {ls : List bk_V} {n : Nat} {z : Int} {l' : Array Slot}
    (h : lv_has l' nL ((n, bk_rv ba b0 aK (.inr (.inl z))) :: (bk_al ba b0 aK ls).filter (fun q => !(q.1 == n) && (!(q.1 == n + 1) && !(q.1 + 1 == n && q.2.category == 2))))) : lv_has l' nL (bk_al ba b0 aK (bk_set n (.inr (.inl z)) ls)) := by
  refine ⟨h.1, h.2.1, fun q hq => h.2.2 q ?_⟩
  obtain ⟨w, h1, h2, h3⟩ := bk_al_mem.mp hq
  rcases bk_set_at n _ ls q.1 w h1 h2 with ⟨a, b⟩ | ⟨a, b, c, d⟩
  · rw [List.mem_cons]; left; rw [← b, ← a, ← h3]
  · rw [List.mem_cons]; right
    refine List.mem_filter.mpr ⟨bk_al_mem.mpr ⟨w, b, h2, h3⟩, ?_⟩
    have h4 : (q.1 == n) = false := by simpa using a
    have h5 : (q.1 == n + 1) = false := by simpa using d z rfl
    rw [h4, h5]
    simp only [Bool.not_false, Bool.true_and, Bool.not_eq_true', Bool.and_eq_false_iff, beq_eq_false_iff_ne]
    by_cases e : q.1 + 1 = n
    · right; rw [h3]; intro y; obtain ⟨y, hy⟩ := bk_rv_cat.mp y; exact c e y hy
    · left; exact e
theorem bk_take_eq : ∀ (n : Nat) (acc st as rest : List bk_V), bk_take n acc st = some (as, rest) → ∃ l, st = l ++ rest ∧ as = l.reverse ++ acc ∧ l.length = n
  | 0, acc, st, as, rest, h => by simp [bk_take] at h; exact ⟨[], by simp [h.2], by simp [h.1], rfl⟩
  | n + 1, acc, [], as, rest, h => by simp [bk_take] at h
  | n + 1, acc, v :: st, as, rest, h => by
    obtain ⟨l, h1, h2, h3⟩ := bk_take_eq n (v :: acc) st as rest h
    exact ⟨v :: l, by rw [h1]; rfl, by rw [h2]; simp, by simp [h3]⟩
end
section
/-- the tables' words that hold at every method -/
def bk_W : List Cond := lw_tbl.filter goodWord
/-- the texts of the constants, their places, and their bytes -/
def bk_tx : Nat → Nat × String
  | 0 => (39, " is left")
  | 1 => (41, " is right")
  | 2 => (43, " is wet")
  | _ => (49, " at ")
/-- what stands beside the cells and is never written: the script, the texts, links between nest mates, what a throw needs -/
def bk_St (ba b0 : Nat) (aK : Nat → Nat) (sc : Nat → Int → Int) (U : State) (H : Heap) : Prop :=
  (va_X b0 (sc 1 0).toNat (fun j => Int32.ofInt (sc 0 j)) U H ∧ b0 < H.size ∧ b0 < ba) ∧ (∀ e ∈ bk_nl, va_Nw (bk_nw e) U) ∧
  (∀ i, i < 4 → vk_R RX2 (bk_tx i).1 (bk_tx i).2 (aK i) U) ∧
  (∃ aV : Nat → Nat, vk_S 4 ((List.range 4).map fun i => (bk_txt i).length) ((List.range 4).map fun i => (bk_txt i).map Int32.ofInt) aK aV (bk_A ba) U H) ∧
  vx_Zq Bundle.tN "UNASSIGNED_STACK" Bundle.steD (bk_A ba) U H ∧ vx_Zq Bundle.tN "SUPPRESSED_SENTINEL" Bundle.listD (bk_A ba) U H
/-- what holds of the method that runs -/
def bk_Cx (p : Program) (R : Room) (s : State) (m : MethodId) (args : Array Value) (c : Code) (cc : ByteArray) (own : Nat) (nL ba b0 : Nat) (aK : Nat → Nat) (cA : Nat → ClassId) (D : va_G) (sc : Nat → Int → Int) : Prop :=
  p.tables.exec = Jvm.exec ∧ c.code = cc ∧ c.maxLocals = nL ∧ s.vm.findClass (bk_R own) = some m.cls ∧ (∀ w ∈ bk_W, w.before args s = true) ∧ va_K D vwCl (bk_tys cA) s ∧ bk_St ba b0 aK sc s s.heap ∧ (1 ≤ R.frames ∧ 100 ≤ R.locals ∧ s.heap.size ≥ ba)
/-- what holds at a label, on the machine -/
def bk_X (p : Program) (l : Launch) (e : Env) (R : Room) (s : State) (m : MethodId) (args : Array Value) (below : List Frame) (meth : Method) (c : Code) (ba b0 : Nat) (aK : Nat → Nat) (cA : Nat → ClassId) (D : va_G) (sc : Nat → Int → Int) (nL mc ms : Nat) (Z : State → Prop) : bk_T := fun b pc ls st M =>
  (∀ v ∈ st, bk_okv v) → (∀ v ∈ ls, v ≠ bk_x → bk_okv v) → ls.length = nL → bk_okm M → M 13 = sc →
  ∀ (H : Heap) (locs : List Loc) (cells slots : Nat) (lsr : Array Slot), va_P D vwCl (bk_ws ba cA M) H → va_S (bk_A ba) s.heap H locs → cells + b ≤ mc → slots + 6 * b ≤ ms → lv_has lsr nL (bk_al ba b0 aK ls) →
  W p l e R s m args below meth c H locs cells slots Z (F0 m pc lsr (st.map (bk_rv ba b0 aK)))
theorem bk_ocons {v : bk_V} {st : List bk_V} (h1 : bk_okv v) (h2 : ∀ w ∈ st, bk_okv w) : ∀ w ∈ v :: st, bk_okv w := fun w hw => (List.mem_cons.mp hw).elim (fun q => q ▸ h1) (h2 w)
section SND
variable {p : Program} {l : Launch} {e : Env} {R : Room} {s : State} {m : MethodId} {args : Array Value} {below : List Frame} {meth : Method} {c : Code} {cc : ByteArray} {own : Nat}
variable {ba b0 : Nat} {aK : Nat → Nat} {cA : Nat → ClassId} {D : va_G} {sc : Nat → Int → Int} {nL mc ms : Nat} {Z : State → Prop}
variable {Ca : bk_Ca} {Q : bk_Q} {K : bk_K} {b pc : Nat} {ls st : List bk_V} {M : bk_M}
theorem bk_s_iadd (C0 : bk_Cx p R s m args c cc own nL ba b0 aK cA D sc) (hd : decode cc pc = .ok (.iadd, 1)) (h : bk_op Ca (bk_X p l e R s m args below meth c ba b0 aK cA D sc nL mc ms Z) Q (.iadd) K b ls st M) (hk : ∀ b ls st M, K b ls st M → bk_X p l e R s m args below meth c ba b0 aK cA D sc nL mc ms Z b (pc + 1) ls st M) : bk_X p l e R s m args below meth c ba b0 aK cA D sc nL mc ms Z b pc ls st M := by
  obtain ⟨hx, hb, hml, hown, hts, hK, hSt, hR⟩ := C0
  simp only [bk_op] at h
  split at h
  · rename_i y x st'
    intro hs hl hn hM h13 H locs cells slots lsr hP hS hc hsl hL
    have hy : bk_r32 y := hs (.inl y) (by simp)
    have hx0 : bk_r32 x := hs (.inl x) (by simp)
    have hs' : ∀ w ∈ st', bk_okv w := fun w hw => hs w (by simp [hw])
    refine lv_iadd hx hb hd ?_
    rw [← Int32.ofInt_add]
    exact hk _ _ _ _ h.2 (bk_ocons h.1 hs') hl hn hM h13 H locs cells slots lsr hP hS hc hsl hL
  · exact h.elim
theorem bk_s_isub (C0 : bk_Cx p R s m args c cc own nL ba b0 aK cA D sc) (hd : decode cc pc = .ok (.isub, 1)) (h : bk_op Ca (bk_X p l e R s m args below meth c ba b0 aK cA D sc nL mc ms Z) Q (.isub) K b ls st M) (hk : ∀ b ls st M, K b ls st M → bk_X p l e R s m args below meth c ba b0 aK cA D sc nL mc ms Z b (pc + 1) ls st M) : bk_X p l e R s m args below meth c ba b0 aK cA D sc nL mc ms Z b pc ls st M := by
  obtain ⟨hx, hb, hml, hown, hts, hK, hSt, hR⟩ := C0
  simp only [bk_op] at h
  split at h
  · rename_i y x st'
    intro hs hl hn hM h13 H locs cells slots lsr hP hS hc hsl hL
    have hy : bk_r32 y := hs (.inl y) (by simp)
    have hx0 : bk_r32 x := hs (.inl x) (by simp)
    have hs' : ∀ w ∈ st', bk_okv w := fun w hw => hs w (by simp [hw])
    refine lv_isub hx hb hd ?_
    rw [← Int32.ofInt_sub]
    exact hk _ _ _ _ h.2 (bk_ocons h.1 hs') hl hn hM h13 H locs cells slots lsr hP hS hc hsl hL
  · exact h.elim
theorem bk_s_imul (C0 : bk_Cx p R s m args c cc own nL ba b0 aK cA D sc) (hd : decode cc pc = .ok (.imul, 1)) (h : bk_op Ca (bk_X p l e R s m args below meth c ba b0 aK cA D sc nL mc ms Z) Q (.imul) K b ls st M) (hk : ∀ b ls st M, K b ls st M → bk_X p l e R s m args below meth c ba b0 aK cA D sc nL mc ms Z b (pc + 1) ls st M) : bk_X p l e R s m args below meth c ba b0 aK cA D sc nL mc ms Z b pc ls st M := by
  obtain ⟨hx, hb, hml, hown, hts, hK, hSt, hR⟩ := C0
  simp only [bk_op] at h
  split at h
  · rename_i y x st'
    intro hs hl hn hM h13 H locs cells slots lsr hP hS hc hsl hL
    have hy : bk_r32 y := hs (.inl y) (by simp)
    have hx0 : bk_r32 x := hs (.inl x) (by simp)
    have hs' : ∀ w ∈ st', bk_okv w := fun w hw => hs w (by simp [hw])
    refine lv_imul hx hb hd ?_
    rw [← Int32.ofInt_mul]
    exact hk _ _ _ _ h.2 (bk_ocons h.1 hs') hl hn hM h13 H locs cells slots lsr hP hS hc hsl hL
  · exact h.elim
theorem bk_s_dadd (C0 : bk_Cx p R s m args c cc own nL ba b0 aK cA D sc) (hd : decode cc pc = .ok (.iadd, 1)) (h : bk_op Ca (bk_X p l e R s m args below meth c ba b0 aK cA D sc nL mc ms Z) Q (.dadd) K b ls st M) (hk : ∀ b ls st M, K b ls st M → bk_X p l e R s m args below meth c ba b0 aK cA D sc nL mc ms Z b (pc + 1) ls st M) : bk_X p l e R s m args below meth c ba b0 aK cA D sc nL mc ms Z b pc ls st M := by
  obtain ⟨hx, hb, hml, hown, hts, hK, hSt, hR⟩ := C0
  simp only [bk_op] at h
  split at h
  · rename_i y x st'
    intro hs hl hn hM h13 H locs cells slots lsr hP hS hc hsl hL
    have hy : bk_r32 y := hs (.inl y) (by simp)
    have hx0 : bk_r32 x := hs (.inl x) (by simp)
    have hs' : ∀ w ∈ st', bk_okv w := fun w hw => hs w (by simp [hw])
    refine lv_iadd hx hb hd ?_
    rw [← Int32.ofInt_add, ← nb_w32]
    exact hk _ _ _ _ h (bk_ocons (nb_w32_r _) hs') hl hn hM h13 H locs cells slots lsr hP hS hc hsl hL
  · exact h.elim
theorem bk_s_dmul (C0 : bk_Cx p R s m args c cc own nL ba b0 aK cA D sc) (hd : decode cc pc = .ok (.imul, 1)) (h : bk_op Ca (bk_X p l e R s m args below meth c ba b0 aK cA D sc nL mc ms Z) Q (.dmul) K b ls st M) (hk : ∀ b ls st M, K b ls st M → bk_X p l e R s m args below meth c ba b0 aK cA D sc nL mc ms Z b (pc + 1) ls st M) : bk_X p l e R s m args below meth c ba b0 aK cA D sc nL mc ms Z b pc ls st M := by
  obtain ⟨hx, hb, hml, hown, hts, hK, hSt, hR⟩ := C0
  simp only [bk_op] at h
  split at h
  · rename_i y x st'
    intro hs hl hn hM h13 H locs cells slots lsr hP hS hc hsl hL
    have hy : bk_r32 y := hs (.inl y) (by simp)
    have hx0 : bk_r32 x := hs (.inl x) (by simp)
    have hs' : ∀ w ∈ st', bk_okv w := fun w hw => hs w (by simp [hw])
    refine lv_imul hx hb hd ?_
    rw [← Int32.ofInt_mul, ← nb_w32]
    exact hk _ _ _ _ h (bk_ocons (nb_w32_r _) hs') hl hn hM h13 H locs cells slots lsr hP hS hc hsl hL
  · exact h.elim
theorem bk_s_idiv (C0 : bk_Cx p R s m args c cc own nL ba b0 aK cA D sc) (hd : decode cc pc = .ok (.idiv, 1)) (h : bk_op Ca (bk_X p l e R s m args below meth c ba b0 aK cA D sc nL mc ms Z) Q (.idiv) K b ls st M) (hk : ∀ b ls st M, K b ls st M → bk_X p l e R s m args below meth c ba b0 aK cA D sc nL mc ms Z b (pc + 1) ls st M) : bk_X p l e R s m args below meth c ba b0 aK cA D sc nL mc ms Z b pc ls st M := by
  obtain ⟨hx, hb, hml, hown, hts, hK, hSt, hR⟩ := C0
  simp only [bk_op] at h
  split at h
  · rename_i y x st'
    intro hs hl hn hM h13 H locs cells slots lsr hP hS hc hsl hL
    have hy : bk_r32 y := hs (.inl y) (by simp)
    have hx0 : bk_r32 x := hs (.inl x) (by simp)
    have hs' : ∀ w ∈ st', bk_okv w := fun w hw => hs w (by simp [hw])
    refine lv_idiv hx hb hd (fun q => by rw [nb_z, nb_eq hy nb_r0] at q; omega) ?_
    rw [nb_div hx0 hy h.1.1 h.1.2]
    exact hk _ _ _ _ h.2 (bk_ocons (nb_div_r hx0 h.1.1 h.1.2) hs') hl hn hM h13 H locs cells slots lsr hP hS hc hsl hL
  · exact h.elim
theorem bk_s_irem (C0 : bk_Cx p R s m args c cc own nL ba b0 aK cA D sc) (hd : decode cc pc = .ok (.irem, 1)) (h : bk_op Ca (bk_X p l e R s m args below meth c ba b0 aK cA D sc nL mc ms Z) Q (.irem) K b ls st M) (hk : ∀ b ls st M, K b ls st M → bk_X p l e R s m args below meth c ba b0 aK cA D sc nL mc ms Z b (pc + 1) ls st M) : bk_X p l e R s m args below meth c ba b0 aK cA D sc nL mc ms Z b pc ls st M := by
  obtain ⟨hx, hb, hml, hown, hts, hK, hSt, hR⟩ := C0
  simp only [bk_op] at h
  split at h
  · rename_i y x st'
    intro hs hl hn hM h13 H locs cells slots lsr hP hS hc hsl hL
    have hy : bk_r32 y := hs (.inl y) (by simp)
    have hx0 : bk_r32 x := hs (.inl x) (by simp)
    have hs' : ∀ w ∈ st', bk_okv w := fun w hw => hs w (by simp [hw])
    refine lv_irem hx hb hd (fun q => by rw [nb_z, nb_eq hy nb_r0] at q; omega) ?_
    rw [nb_rem hx0 hy h.1.1 h.1.2]
    exact hk _ _ _ _ h.2 (bk_ocons (nb_rem_r hy h.1.2) hs') hl hn hM h13 H locs cells slots lsr hP hS hc hsl hL
  · exact h.elim
theorem bk_s_ishl (C0 : bk_Cx p R s m args c cc own nL ba b0 aK cA D sc) (hd : decode cc pc = .ok (.ishl, 1)) (h : bk_op Ca (bk_X p l e R s m args below meth c ba b0 aK cA D sc nL mc ms Z) Q (.ishl) K b ls st M) (hk : ∀ b ls st M, K b ls st M → bk_X p l e R s m args below meth c ba b0 aK cA D sc nL mc ms Z b (pc + 1) ls st M) : bk_X p l e R s m args below meth c ba b0 aK cA D sc nL mc ms Z b pc ls st M := by
  obtain ⟨hx, hb, hml, hown, hts, hK, hSt, hR⟩ := C0
  simp only [bk_op] at h
  split at h
  · rename_i y x st'
    intro hs hl hn hM h13 H locs cells slots lsr hP hS hc hsl hL
    have hy : bk_r32 y := hs (.inl y) (by simp)
    have hx0 : bk_r32 x := hs (.inl x) (by simp)
    have hs' : ∀ w ∈ st', bk_okv w := fun w hw => hs w (by simp [hw])
    refine lv_ishl hx hb hd ?_
    rw [nb_shl h.1.1 h.1.2.1]
    exact hk _ _ _ _ h.2 (bk_ocons h.1.2.2 hs') hl hn hM h13 H locs cells slots lsr hP hS hc hsl hL
  · exact h.elim
theorem bk_s_ishr (C0 : bk_Cx p R s m args c cc own nL ba b0 aK cA D sc) (hd : decode cc pc = .ok (.ishr, 1)) (h : bk_op Ca (bk_X p l e R s m args below meth c ba b0 aK cA D sc nL mc ms Z) Q (.ishr) K b ls st M) (hk : ∀ b ls st M, K b ls st M → bk_X p l e R s m args below meth c ba b0 aK cA D sc nL mc ms Z b (pc + 1) ls st M) : bk_X p l e R s m args below meth c ba b0 aK cA D sc nL mc ms Z b pc ls st M := by
  obtain ⟨hx, hb, hml, hown, hts, hK, hSt, hR⟩ := C0
  simp only [bk_op] at h
  split at h
  · rename_i y x st'
    intro hs hl hn hM h13 H locs cells slots lsr hP hS hc hsl hL
    have hy : bk_r32 y := hs (.inl y) (by simp)
    have hx0 : bk_r32 x := hs (.inl x) (by simp)
    have hs' : ∀ w ∈ st', bk_okv w := fun w hw => hs w (by simp [hw])
    refine lv_ishr hx hb hd ?_
    rw [nb_shr hx0 h.1.1 h.1.2]
    exact hk _ _ _ _ h.2 (bk_ocons (nb_shr_r hx0) hs') hl hn hM h13 H locs cells slots lsr hP hS hc hsl hL
  · exact h.elim
theorem bk_s_iushr (C0 : bk_Cx p R s m args c cc own nL ba b0 aK cA D sc) (hd : decode cc pc = .ok (.iushr, 1)) (h : bk_op Ca (bk_X p l e R s m args below meth c ba b0 aK cA D sc nL mc ms Z) Q (.iushr) K b ls st M) (hk : ∀ b ls st M, K b ls st M → bk_X p l e R s m args below meth c ba b0 aK cA D sc nL mc ms Z b (pc + 1) ls st M) : bk_X p l e R s m args below meth c ba b0 aK cA D sc nL mc ms Z b pc ls st M := by
  obtain ⟨hx, hb, hml, hown, hts, hK, hSt, hR⟩ := C0
  simp only [bk_op] at h
  split at h
  · rename_i y x st'
    intro hs hl hn hM h13 H locs cells slots lsr hP hS hc hsl hL
    have hy : bk_r32 y := hs (.inl y) (by simp)
    have hx0 : bk_r32 x := hs (.inl x) (by simp)
    have hs' : ∀ w ∈ st', bk_okv w := fun w hw => hs w (by simp [hw])
    refine lv_iushr hx hb hd (nb_ushr h.1.1 h.1.2) ?_
    exact hk _ _ _ _ h.2 (bk_ocons (nb_ushr_r hx0 h.1.1 h.1.2) hs') hl hn hM h13 H locs cells slots lsr hP hS hc hsl hL
  · exact h.elim
theorem bk_s_iand (C0 : bk_Cx p R s m args c cc own nL ba b0 aK cA D sc) (hd : decode cc pc = .ok (.iand, 1)) (h : bk_op Ca (bk_X p l e R s m args below meth c ba b0 aK cA D sc nL mc ms Z) Q (.iand) K b ls st M) (hk : ∀ b ls st M, K b ls st M → bk_X p l e R s m args below meth c ba b0 aK cA D sc nL mc ms Z b (pc + 1) ls st M) : bk_X p l e R s m args below meth c ba b0 aK cA D sc nL mc ms Z b pc ls st M := by
  obtain ⟨hx, hb, hml, hown, hts, hK, hSt, hR⟩ := C0
  simp only [bk_op] at h
  split at h
  · rename_i y x st'
    intro hs hl hn hM h13 H locs cells slots lsr hP hS hc hsl hL
    have hy : bk_r32 y := hs (.inl y) (by simp)
    have hx0 : bk_r32 x := hs (.inl x) (by simp)
    have hs' : ∀ w ∈ st', bk_okv w := fun w hw => hs w (by simp [hw])
    refine lv_iand hx hb hd ?_
    rw [nb_and]
    exact hk _ _ _ _ h (bk_ocons (nb_bvr _) hs') hl hn hM h13 H locs cells slots lsr hP hS hc hsl hL
  · exact h.elim
theorem bk_s_ior (C0 : bk_Cx p R s m args c cc own nL ba b0 aK cA D sc) (hd : decode cc pc = .ok (.ior, 1)) (h : bk_op Ca (bk_X p l e R s m args below meth c ba b0 aK cA D sc nL mc ms Z) Q (.ior) K b ls st M) (hk : ∀ b ls st M, K b ls st M → bk_X p l e R s m args below meth c ba b0 aK cA D sc nL mc ms Z b (pc + 1) ls st M) : bk_X p l e R s m args below meth c ba b0 aK cA D sc nL mc ms Z b pc ls st M := by
  obtain ⟨hx, hb, hml, hown, hts, hK, hSt, hR⟩ := C0
  simp only [bk_op] at h
  split at h
  · rename_i y x st'
    intro hs hl hn hM h13 H locs cells slots lsr hP hS hc hsl hL
    have hy : bk_r32 y := hs (.inl y) (by simp)
    have hx0 : bk_r32 x := hs (.inl x) (by simp)
    have hs' : ∀ w ∈ st', bk_okv w := fun w hw => hs w (by simp [hw])
    refine lv_ior hx hb hd ?_
    rw [nb_or]
    exact hk _ _ _ _ h (bk_ocons (nb_bvr _) hs') hl hn hM h13 H locs cells slots lsr hP hS hc hsl hL
  · exact h.elim
theorem bk_s_ixor (C0 : bk_Cx p R s m args c cc own nL ba b0 aK cA D sc) (hd : decode cc pc = .ok (.ixor, 1)) (h : bk_op Ca (bk_X p l e R s m args below meth c ba b0 aK cA D sc nL mc ms Z) Q (.ixor) K b ls st M) (hk : ∀ b ls st M, K b ls st M → bk_X p l e R s m args below meth c ba b0 aK cA D sc nL mc ms Z b (pc + 1) ls st M) : bk_X p l e R s m args below meth c ba b0 aK cA D sc nL mc ms Z b pc ls st M := by
  obtain ⟨hx, hb, hml, hown, hts, hK, hSt, hR⟩ := C0
  simp only [bk_op] at h
  split at h
  · rename_i y x st'
    intro hs hl hn hM h13 H locs cells slots lsr hP hS hc hsl hL
    have hy : bk_r32 y := hs (.inl y) (by simp)
    have hx0 : bk_r32 x := hs (.inl x) (by simp)
    have hs' : ∀ w ∈ st', bk_okv w := fun w hw => hs w (by simp [hw])
    refine lv_ixor hx hb hd ?_
    rw [nb_xor]
    exact hk _ _ _ _ h (bk_ocons (nb_bvr _) hs') hl hn hM h13 H locs cells slots lsr hP hS hc hsl hL
  · exact h.elim
theorem bk_s_ladd (C0 : bk_Cx p R s m args c cc own nL ba b0 aK cA D sc) (hd : decode cc pc = .ok (.ladd, 1)) (h : bk_op Ca (bk_X p l e R s m args below meth c ba b0 aK cA D sc nL mc ms Z) Q (.ladd) K b ls st M) (hk : ∀ b ls st M, K b ls st M → bk_X p l e R s m args below meth c ba b0 aK cA D sc nL mc ms Z b (pc + 1) ls st M) : bk_X p l e R s m args below meth c ba b0 aK cA D sc nL mc ms Z b pc ls st M := by
  obtain ⟨hx, hb, hml, hown, hts, hK, hSt, hR⟩ := C0
  simp only [bk_op] at h
  split at h
  · rename_i y x st'
    intro hs hl hn hM h13 H locs cells slots lsr hP hS hc hsl hL
    have hy : bk_r64 y := hs (.inr (.inl y)) (by simp)
    have hx0 : bk_r64 x := hs (.inr (.inl x)) (by simp)
    have hs' : ∀ w ∈ st', bk_okv w := fun w hw => hs w (by simp [hw])
    refine lv_ladd hx hb hd ?_
    rw [← Int64.ofInt_add]
    exact hk _ _ _ _ h.2 (bk_ocons h.1 hs') hl hn hM h13 H locs cells slots lsr hP hS hc hsl hL
  · exact h.elim
theorem bk_s_lsub (C0 : bk_Cx p R s m args c cc own nL ba b0 aK cA D sc) (hd : decode cc pc = .ok (.lsub, 1)) (h : bk_op Ca (bk_X p l e R s m args below meth c ba b0 aK cA D sc nL mc ms Z) Q (.lsub) K b ls st M) (hk : ∀ b ls st M, K b ls st M → bk_X p l e R s m args below meth c ba b0 aK cA D sc nL mc ms Z b (pc + 1) ls st M) : bk_X p l e R s m args below meth c ba b0 aK cA D sc nL mc ms Z b pc ls st M := by
  obtain ⟨hx, hb, hml, hown, hts, hK, hSt, hR⟩ := C0
  simp only [bk_op] at h
  split at h
  · rename_i y x st'
    intro hs hl hn hM h13 H locs cells slots lsr hP hS hc hsl hL
    have hy : bk_r64 y := hs (.inr (.inl y)) (by simp)
    have hx0 : bk_r64 x := hs (.inr (.inl x)) (by simp)
    have hs' : ∀ w ∈ st', bk_okv w := fun w hw => hs w (by simp [hw])
    refine lv_lsub hx hb hd ?_
    rw [← Int64.ofInt_sub]
    exact hk _ _ _ _ h.2 (bk_ocons h.1 hs') hl hn hM h13 H locs cells slots lsr hP hS hc hsl hL
  · exact h.elim
theorem bk_s_lmul (C0 : bk_Cx p R s m args c cc own nL ba b0 aK cA D sc) (hd : decode cc pc = .ok (.lmul, 1)) (h : bk_op Ca (bk_X p l e R s m args below meth c ba b0 aK cA D sc nL mc ms Z) Q (.lmul) K b ls st M) (hk : ∀ b ls st M, K b ls st M → bk_X p l e R s m args below meth c ba b0 aK cA D sc nL mc ms Z b (pc + 1) ls st M) : bk_X p l e R s m args below meth c ba b0 aK cA D sc nL mc ms Z b pc ls st M := by
  obtain ⟨hx, hb, hml, hown, hts, hK, hSt, hR⟩ := C0
  simp only [bk_op] at h
  split at h
  · rename_i y x st'
    intro hs hl hn hM h13 H locs cells slots lsr hP hS hc hsl hL
    have hy : bk_r64 y := hs (.inr (.inl y)) (by simp)
    have hx0 : bk_r64 x := hs (.inr (.inl x)) (by simp)
    have hs' : ∀ w ∈ st', bk_okv w := fun w hw => hs w (by simp [hw])
    refine lv_lmul hx hb hd ?_
    rw [← Int64.ofInt_mul]
    exact hk _ _ _ _ h.2 (bk_ocons h.1 hs') hl hn hM h13 H locs cells slots lsr hP hS hc hsl hL
  · exact h.elim
theorem bk_s_ldiv (C0 : bk_Cx p R s m args c cc own nL ba b0 aK cA D sc) (hd : decode cc pc = .ok (.ldiv, 1)) (h : bk_op Ca (bk_X p l e R s m args below meth c ba b0 aK cA D sc nL mc ms Z) Q (.ldiv) K b ls st M) (hk : ∀ b ls st M, K b ls st M → bk_X p l e R s m args below meth c ba b0 aK cA D sc nL mc ms Z b (pc + 1) ls st M) : bk_X p l e R s m args below meth c ba b0 aK cA D sc nL mc ms Z b pc ls st M := by
  obtain ⟨hx, hb, hml, hown, hts, hK, hSt, hR⟩ := C0
  simp only [bk_op] at h
  split at h
  · rename_i y x st'
    intro hs hl hn hM h13 H locs cells slots lsr hP hS hc hsl hL
    have hy : bk_r64 y := hs (.inr (.inl y)) (by simp)
    have hx0 : bk_r64 x := hs (.inr (.inl x)) (by simp)
    have hs' : ∀ w ∈ st', bk_okv w := fun w hw => hs w (by simp [hw])
    refine lv_ldiv hx hb hd (fun q => by have z := congrArg Int64.toInt q; rw [nb_l hy] at z; have z : y = 0 := z; omega) ?_
    rw [nl_div hx0 hy h.1.1 h.1.2]
    exact hk _ _ _ _ h.2 (bk_ocons (nl_div_r hx0 h.1.1 h.1.2) hs') hl hn hM h13 H locs cells slots lsr hP hS hc hsl hL
  · exact h.elim
theorem bk_s_lrem (C0 : bk_Cx p R s m args c cc own nL ba b0 aK cA D sc) (hd : decode cc pc = .ok (.lrem, 1)) (h : bk_op Ca (bk_X p l e R s m args below meth c ba b0 aK cA D sc nL mc ms Z) Q (.lrem) K b ls st M) (hk : ∀ b ls st M, K b ls st M → bk_X p l e R s m args below meth c ba b0 aK cA D sc nL mc ms Z b (pc + 1) ls st M) : bk_X p l e R s m args below meth c ba b0 aK cA D sc nL mc ms Z b pc ls st M := by
  obtain ⟨hx, hb, hml, hown, hts, hK, hSt, hR⟩ := C0
  simp only [bk_op] at h
  split at h
  · rename_i y x st'
    intro hs hl hn hM h13 H locs cells slots lsr hP hS hc hsl hL
    have hy : bk_r64 y := hs (.inr (.inl y)) (by simp)
    have hx0 : bk_r64 x := hs (.inr (.inl x)) (by simp)
    have hs' : ∀ w ∈ st', bk_okv w := fun w hw => hs w (by simp [hw])
    refine lv_lrem hx hb hd (fun q => by have z := congrArg Int64.toInt q; rw [nb_l hy] at z; have z : y = 0 := z; omega) ?_
    rw [nl_rem hx0 hy h.1.1 h.1.2]
    exact hk _ _ _ _ h.2 (bk_ocons (nl_rem_r hy h.1.2) hs') hl hn hM h13 H locs cells slots lsr hP hS hc hsl hL
  · exact h.elim
theorem bk_s_lshl (C0 : bk_Cx p R s m args c cc own nL ba b0 aK cA D sc) (hd : decode cc pc = .ok (.lshl, 1)) (h : bk_op Ca (bk_X p l e R s m args below meth c ba b0 aK cA D sc nL mc ms Z) Q (.lshl) K b ls st M) (hk : ∀ b ls st M, K b ls st M → bk_X p l e R s m args below meth c ba b0 aK cA D sc nL mc ms Z b (pc + 1) ls st M) : bk_X p l e R s m args below meth c ba b0 aK cA D sc nL mc ms Z b pc ls st M := by
  obtain ⟨hx, hb, hml, hown, hts, hK, hSt, hR⟩ := C0
  simp only [bk_op] at h
  split at h
  · rename_i y x st'
    intro hs hl hn hM h13 H locs cells slots lsr hP hS hc hsl hL
    have hy : bk_r32 y := hs (.inl y) (by simp)
    have hx0 : bk_r64 x := hs (.inr (.inl x)) (by simp)
    have hs' : ∀ w ∈ st', bk_okv w := fun w hw => hs w (by simp [hw])
    refine lv_lshl hx hb hd (nl_shl h.1.1 h.1.2.1) ?_
    exact hk _ _ _ _ h.2 (bk_ocons h.1.2.2 hs') hl hn hM h13 H locs cells slots lsr hP hS hc hsl hL
  · exact h.elim
theorem bk_s_lshr (C0 : bk_Cx p R s m args c cc own nL ba b0 aK cA D sc) (hd : decode cc pc = .ok (.lshr, 1)) (h : bk_op Ca (bk_X p l e R s m args below meth c ba b0 aK cA D sc nL mc ms Z) Q (.lshr) K b ls st M) (hk : ∀ b ls st M, K b ls st M → bk_X p l e R s m args below meth c ba b0 aK cA D sc nL mc ms Z b (pc + 1) ls st M) : bk_X p l e R s m args below meth c ba b0 aK cA D sc nL mc ms Z b pc ls st M := by
  obtain ⟨hx, hb, hml, hown, hts, hK, hSt, hR⟩ := C0
  simp only [bk_op] at h
  split at h
  · rename_i y x st'
    intro hs hl hn hM h13 H locs cells slots lsr hP hS hc hsl hL
    have hy : bk_r32 y := hs (.inl y) (by simp)
    have hx0 : bk_r64 x := hs (.inr (.inl x)) (by simp)
    have hs' : ∀ w ∈ st', bk_okv w := fun w hw => hs w (by simp [hw])
    refine lv_lshr hx hb hd (nl_shr hx0 h.1.1 h.1.2) ?_
    exact hk _ _ _ _ h.2 (bk_ocons (nl_shr_r hx0) hs') hl hn hM h13 H locs cells slots lsr hP hS hc hsl hL
  · exact h.elim
theorem bk_s_land (C0 : bk_Cx p R s m args c cc own nL ba b0 aK cA D sc) (hd : decode cc pc = .ok (.land, 1)) (h : bk_op Ca (bk_X p l e R s m args below meth c ba b0 aK cA D sc nL mc ms Z) Q (.land) K b ls st M) (hk : ∀ b ls st M, K b ls st M → bk_X p l e R s m args below meth c ba b0 aK cA D sc nL mc ms Z b (pc + 1) ls st M) : bk_X p l e R s m args below meth c ba b0 aK cA D sc nL mc ms Z b pc ls st M := by
  obtain ⟨hx, hb, hml, hown, hts, hK, hSt, hR⟩ := C0
  simp only [bk_op] at h
  split at h
  · rename_i y x st'
    intro hs hl hn hM h13 H locs cells slots lsr hP hS hc hsl hL
    have hy : bk_r64 y := hs (.inr (.inl y)) (by simp)
    have hx0 : bk_r64 x := hs (.inr (.inl x)) (by simp)
    have hs' : ∀ w ∈ st', bk_okv w := fun w hw => hs w (by simp [hw])
    refine lv_land hx hb hd ?_
    rw [nl_and]
    exact hk _ _ _ _ h (bk_ocons (nl_bvr _) hs') hl hn hM h13 H locs cells slots lsr hP hS hc hsl hL
  · exact h.elim
theorem bk_s_lor (C0 : bk_Cx p R s m args c cc own nL ba b0 aK cA D sc) (hd : decode cc pc = .ok (.lor, 1)) (h : bk_op Ca (bk_X p l e R s m args below meth c ba b0 aK cA D sc nL mc ms Z) Q (.lor) K b ls st M) (hk : ∀ b ls st M, K b ls st M → bk_X p l e R s m args below meth c ba b0 aK cA D sc nL mc ms Z b (pc + 1) ls st M) : bk_X p l e R s m args below meth c ba b0 aK cA D sc nL mc ms Z b pc ls st M := by
  obtain ⟨hx, hb, hml, hown, hts, hK, hSt, hR⟩ := C0
  simp only [bk_op] at h
  split at h
  · rename_i y x st'
    intro hs hl hn hM h13 H locs cells slots lsr hP hS hc hsl hL
    have hy : bk_r64 y := hs (.inr (.inl y)) (by simp)
    have hx0 : bk_r64 x := hs (.inr (.inl x)) (by simp)
    have hs' : ∀ w ∈ st', bk_okv w := fun w hw => hs w (by simp [hw])
    refine lv_lor hx hb hd ?_
    rw [nl_or]
    exact hk _ _ _ _ h (bk_ocons (nl_bvr _) hs') hl hn hM h13 H locs cells slots lsr hP hS hc hsl hL
  · exact h.elim
theorem bk_s_lcmp (C0 : bk_Cx p R s m args c cc own nL ba b0 aK cA D sc) (hd : decode cc pc = .ok (.lcmp, 1)) (h : bk_op Ca (bk_X p l e R s m args below meth c ba b0 aK cA D sc nL mc ms Z) Q (.lcmp) K b ls st M) (hk : ∀ b ls st M, K b ls st M → bk_X p l e R s m args below meth c ba b0 aK cA D sc nL mc ms Z b (pc + 1) ls st M) : bk_X p l e R s m args below meth c ba b0 aK cA D sc nL mc ms Z b pc ls st M := by
  obtain ⟨hx, hb, hml, hown, hts, hK, hSt, hR⟩ := C0
  simp only [bk_op] at h
  split at h
  · rename_i y x st'
    intro hs hl hn hM h13 H locs cells slots lsr hP hS hc hsl hL
    have hy : bk_r64 y := hs (.inr (.inl y)) (by simp)
    have hx0 : bk_r64 x := hs (.inr (.inl x)) (by simp)
    have hs' : ∀ w ∈ st', bk_okv w := fun w hw => hs w (by simp [hw])
    refine W.lcmp hx hb hd ?_
    rw [nl_lcmp hx0 hy]
    exact hk _ _ _ _ h (bk_ocons (nl_lcmp_r x y) hs') hl hn hM h13 H locs cells slots lsr hP hS hc hsl hL
  · exact h.elim
theorem bk_s_ineg (C0 : bk_Cx p R s m args c cc own nL ba b0 aK cA D sc) (hd : decode cc pc = .ok (.ineg, 1)) (h : bk_op Ca (bk_X p l e R s m args below meth c ba b0 aK cA D sc nL mc ms Z) Q (.ineg) K b ls st M) (hk : ∀ b ls st M, K b ls st M → bk_X p l e R s m args below meth c ba b0 aK cA D sc nL mc ms Z b (pc + 1) ls st M) : bk_X p l e R s m args below meth c ba b0 aK cA D sc nL mc ms Z b pc ls st M := by
  obtain ⟨hx, hb, hml, hown, hts, hK, hSt, hR⟩ := C0
  simp only [bk_op] at h
  split at h
  · rename_i x st'
    intro hs hl hn hM h13 H locs cells slots lsr hP hS hc hsl hL
    have hx0 : bk_r32 x := hs (.inl x) (by simp)
    have hs' : ∀ w ∈ st', bk_okv w := fun w hw => hs w (by simp [hw])
    refine lv_ineg hx hb hd ?_
    rw [← Int32.ofInt_neg]
    exact hk _ _ _ _ h.2 (bk_ocons h.1 hs') hl hn hM h13 H locs cells slots lsr hP hS hc hsl hL
  · exact h.elim
theorem bk_s_i2l (C0 : bk_Cx p R s m args c cc own nL ba b0 aK cA D sc) (hd : decode cc pc = .ok (.i2l, 1)) (h : bk_op Ca (bk_X p l e R s m args below meth c ba b0 aK cA D sc nL mc ms Z) Q (.i2l) K b ls st M) (hk : ∀ b ls st M, K b ls st M → bk_X p l e R s m args below meth c ba b0 aK cA D sc nL mc ms Z b (pc + 1) ls st M) : bk_X p l e R s m args below meth c ba b0 aK cA D sc nL mc ms Z b pc ls st M := by
  obtain ⟨hx, hb, hml, hown, hts, hK, hSt, hR⟩ := C0
  simp only [bk_op] at h
  split at h
  · rename_i x st'
    intro hs hl hn hM h13 H locs cells slots lsr hP hS hc hsl hL
    have hx0 : bk_r32 x := hs (.inl x) (by simp)
    have hs' : ∀ w ∈ st', bk_okv w := fun w hw => hs w (by simp [hw])
    refine lv_i2l hx hb hd (nb_i2l hx0) ?_
    exact hk _ _ _ _ h (bk_ocons (show bk_r64 x by unfold bk_r32 at hx0; unfold bk_r64; omega) hs') hl hn hM h13 H locs cells slots lsr hP hS hc hsl hL
  · exact h.elim
theorem bk_s_l2i (C0 : bk_Cx p R s m args c cc own nL ba b0 aK cA D sc) (hd : decode cc pc = .ok (.l2i, 1)) (h : bk_op Ca (bk_X p l e R s m args below meth c ba b0 aK cA D sc nL mc ms Z) Q (.l2i) K b ls st M) (hk : ∀ b ls st M, K b ls st M → bk_X p l e R s m args below meth c ba b0 aK cA D sc nL mc ms Z b (pc + 1) ls st M) : bk_X p l e R s m args below meth c ba b0 aK cA D sc nL mc ms Z b pc ls st M := by
  obtain ⟨hx, hb, hml, hown, hts, hK, hSt, hR⟩ := C0
  simp only [bk_op] at h
  split at h
  · rename_i x st'
    intro hs hl hn hM h13 H locs cells slots lsr hP hS hc hsl hL
    have hx0 : bk_r64 x := hs (.inr (.inl x)) (by simp)
    have hs' : ∀ w ∈ st', bk_okv w := fun w hw => hs w (by simp [hw])
    refine lv_l2i hx hb hd Int64.toInt32_ofInt ?_
    exact hk _ _ _ _ h.2 (bk_ocons h.1 hs') hl hn hM h13 H locs cells slots lsr hP hS hc hsl hL
  · exact h.elim
theorem bk_s_sipush (C0 : bk_Cx p R s m args c cc own nL ba b0 aK cA D sc) {v : Int} (hv : -32768 ≤ v ∧ v ≤ 32767) (hd : decode cc pc = .ok (.sipush v, 3)) (h : bk_op Ca (bk_X p l e R s m args below meth c ba b0 aK cA D sc nL mc ms Z) Q (.sipush v) K b ls st M) (hk : ∀ b ls st M, K b ls st M → bk_X p l e R s m args below meth c ba b0 aK cA D sc nL mc ms Z b (pc + 3) ls st M) : bk_X p l e R s m args below meth c ba b0 aK cA D sc nL mc ms Z b pc ls st M := by
  obtain ⟨hx, hb, hml, hown, hts, hK, hSt, hR⟩ := C0
  simp only [bk_op] at h
  intro hs hl hn hM h13 H locs cells slots lsr hP hS hc hsl hL
  refine lv_sipush hx hb hd (nb_16 hv.1 hv.2) ?_
  exact hk _ _ _ _ h (bk_ocons (show bk_r32 v by unfold bk_r32; omega) hs) hl hn hM h13 H locs cells slots lsr hP hS hc hsl hL
theorem bk_s_bipush (C0 : bk_Cx p R s m args c cc own nL ba b0 aK cA D sc) {v : Int} (hv : -128 ≤ v ∧ v ≤ 127) (hd : decode cc pc = .ok (.bipush v, 2)) (h : bk_op Ca (bk_X p l e R s m args below meth c ba b0 aK cA D sc nL mc ms Z) Q (.sipush v) K b ls st M) (hk : ∀ b ls st M, K b ls st M → bk_X p l e R s m args below meth c ba b0 aK cA D sc nL mc ms Z b (pc + 2) ls st M) : bk_X p l e R s m args below meth c ba b0 aK cA D sc nL mc ms Z b pc ls st M := by
  obtain ⟨hx, hb, hml, hown, hts, hK, hSt, hR⟩ := C0
  simp only [bk_op] at h
  intro hs hl hn hM h13 H locs cells slots lsr hP hS hc hsl hL
  refine lv_bipush hx hb hd (nb_8 hv.1 hv.2) ?_
  exact hk _ _ _ _ h (bk_ocons (show bk_r32 v by unfold bk_r32; omega) hs) hl hn hM h13 H locs cells slots lsr hP hS hc hsl hL
theorem bk_s_iconst (C0 : bk_Cx p R s m args c cc own nL ba b0 aK cA D sc) {v : Int} (hv : -1 ≤ v ∧ v ≤ 5) (hd : decode cc pc = .ok (.iconst v, 1)) (h : bk_op Ca (bk_X p l e R s m args below meth c ba b0 aK cA D sc nL mc ms Z) Q (.sipush v) K b ls st M) (hk : ∀ b ls st M, K b ls st M → bk_X p l e R s m args below meth c ba b0 aK cA D sc nL mc ms Z b (pc + 1) ls st M) : bk_X p l e R s m args below meth c ba b0 aK cA D sc nL mc ms Z b pc ls st M := by
  obtain ⟨hx, hb, hml, hown, hts, hK, hSt, hR⟩ := C0
  simp only [bk_op] at h
  intro hs hl hn hM h13 H locs cells slots lsr hP hS hc hsl hL
  refine lv_iconst hx hb hd rfl ?_
  exact hk _ _ _ _ h (bk_ocons (show bk_r32 v by unfold bk_r32; omega) hs) hl hn hM h13 H locs cells slots lsr hP hS hc hsl hL
theorem bk_s_ldc (C0 : bk_Cx p R s m args c cc own nL ba b0 aK cA D sc) {v : Int} {n : Nat} (hv : bk_r32 v) (hw : (Cond.constant (bk_R own) n (Int32.ofInt v)).before args s = true) (hd : decode cc pc = .ok (.ldc n, 2)) (h : bk_op Ca (bk_X p l e R s m args below meth c ba b0 aK cA D sc nL mc ms Z) Q (.sipush v) K b ls st M) (hk : ∀ b ls st M, K b ls st M → bk_X p l e R s m args below meth c ba b0 aK cA D sc nL mc ms Z b (pc + 2) ls st M) : bk_X p l e R s m args below meth c ba b0 aK cA D sc nL mc ms Z b pc ls st M := by
  obtain ⟨hx, hb, hml, hown, hts, hK, hSt, hR⟩ := C0
  simp only [bk_op] at h
  intro hs hl hn hM h13 H locs cells slots lsr hP hS hc hsl hL
  refine lv_ldc hx hb hown hw hd ?_
  exact hk _ _ _ _ h (bk_ocons hv hs) hl hn hM h13 H locs cells slots lsr hP hS hc hsl hL
theorem bk_s_ldcw (C0 : bk_Cx p R s m args c cc own nL ba b0 aK cA D sc) {v : Int} {n : Nat} (hv : bk_r32 v) (hw : (Cond.constant (bk_R own) n (Int32.ofInt v)).before args s = true) (hd : decode cc pc = .ok (.ldc_w n, 3)) (h : bk_op Ca (bk_X p l e R s m args below meth c ba b0 aK cA D sc nL mc ms Z) Q (.sipush v) K b ls st M) (hk : ∀ b ls st M, K b ls st M → bk_X p l e R s m args below meth c ba b0 aK cA D sc nL mc ms Z b (pc + 3) ls st M) : bk_X p l e R s m args below meth c ba b0 aK cA D sc nL mc ms Z b pc ls st M := by
  obtain ⟨hx, hb, hml, hown, hts, hK, hSt, hR⟩ := C0
  simp only [bk_op] at h
  intro hs hl hn hM h13 H locs cells slots lsr hP hS hc hsl hL
  refine lv_ldcw hx hb hown hw hd ?_
  exact hk _ _ _ _ h (bk_ocons hv hs) hl hn hM h13 H locs cells slots lsr hP hS hc hsl hL
theorem bk_s_lconst (C0 : bk_Cx p R s m args c cc own nL ba b0 aK cA D sc) {v : Int} {n : Fin 2} (hv : ((n : Nat) : Int) = v) (hd : decode cc pc = .ok (.lconst n, 1)) (h : bk_op Ca (bk_X p l e R s m args below meth c ba b0 aK cA D sc nL mc ms Z) Q (.bipush v) K b ls st M) (hk : ∀ b ls st M, K b ls st M → bk_X p l e R s m args below meth c ba b0 aK cA D sc nL mc ms Z b (pc + 1) ls st M) : bk_X p l e R s m args below meth c ba b0 aK cA D sc nL mc ms Z b pc ls st M := by
  obtain ⟨hx, hb, hml, hown, hts, hK, hSt, hR⟩ := C0
  simp only [bk_op] at h
  intro hs hl hn hM h13 H locs cells slots lsr hP hS hc hsl hL
  refine lv_lconst (v := Int64.ofInt v) hx hb hd (by rw [← hv]; exact nl_fin n) ?_
  exact hk _ _ _ _ h (bk_ocons (show bk_r64 v by unfold bk_r64; omega) hs) hl hn hM h13 H locs cells slots lsr hP hS hc hsl hL
theorem bk_s_ldc2 (C0 : bk_Cx p R s m args c cc own nL ba b0 aK cA D sc) {v : Int} {n : Nat} (hv : bk_r64 v) (hw : (Cond.constantLong (bk_R own) n (Int64.ofInt v)).before args s = true) (hd : decode cc pc = .ok (.ldc2_w n, 3)) (h : bk_op Ca (bk_X p l e R s m args below meth c ba b0 aK cA D sc nL mc ms Z) Q (.bipush v) K b ls st M) (hk : ∀ b ls st M, K b ls st M → bk_X p l e R s m args below meth c ba b0 aK cA D sc nL mc ms Z b (pc + 3) ls st M) : bk_X p l e R s m args below meth c ba b0 aK cA D sc nL mc ms Z b pc ls st M := by
  obtain ⟨hx, hb, hml, hown, hts, hK, hSt, hR⟩ := C0
  simp only [bk_op] at h
  intro hs hl hn hM h13 H locs cells slots lsr hP hS hc hsl hL
  refine lv_ldc2 hx hb hown hw hd ?_
  exact hk _ _ _ _ h (bk_ocons hv hs) hl hn hM h13 H locs cells slots lsr hP hS hc hsl hL
theorem bk_s_ldcs (C0 : bk_Cx p R s m args c cc own nL ba b0 aK cA D sc) {k n : Nat} (ho : own = 2) (hv : k < 4) (hn0 : (bk_tx k).1 = n) (hd : decode cc pc = .ok (.ldc n, 2)) (h : bk_op Ca (bk_X p l e R s m args below meth c ba b0 aK cA D sc nL mc ms Z) Q (.ldc k) K b ls st M) (hk : ∀ b ls st M, K b ls st M → bk_X p l e R s m args below meth c ba b0 aK cA D sc nL mc ms Z b (pc + 2) ls st M) : bk_X p l e R s m args below meth c ba b0 aK cA D sc nL mc ms Z b pc ls st M := by
  obtain ⟨hx, hb, hml, hown, hts, hK, hSt, hR⟩ := C0
  simp only [bk_op] at h
  intro hs hl hn hM h13 H locs cells slots lsr hP hS hc hsl hL
  refine va_ldcS hx hb (own := RX2) (tx := (bk_tx k).2) (by rw [ho] at hown; exact hown) (by have := hSt.2.2.1 k hv; rw [hn0] at this; exact this) hd ?_
  exact hk _ _ _ _ h (bk_ocons (show bk_okv (.inr (.inr (14, k))) from Or.inr (Or.inl ⟨rfl, hv⟩)) hs) hl hn hM h13 H locs cells slots lsr hP hS hc hsl hL
theorem bk_s_iload (C0 : bk_Cx p R s m args c cc own nL ba b0 aK cA D sc) {n : Nat} (hd : decode cc pc = .ok (.iload n, 2)) (h : bk_op Ca (bk_X p l e R s m args below meth c ba b0 aK cA D sc nL mc ms Z) Q (.iload n) K b ls st M) (hk : ∀ b ls st M, K b ls st M → bk_X p l e R s m args below meth c ba b0 aK cA D sc nL mc ms Z b (pc + 2) ls st M) : bk_X p l e R s m args below meth c ba b0 aK cA D sc nL mc ms Z b pc ls st M := by
  obtain ⟨hx, hb, hml, hown, hts, hK, hSt, hR⟩ := C0
  simp only [bk_op] at h
  split at h
  · rename_i x hv
    intro hs hl hn hM h13 H locs cells slots lsr hP hS hc hsl hL
    refine lv_iload hx hb hd (bk_at hL hv (by intro q; cases q)) ?_
    exact hk _ _ _ _ h (bk_ocons (hl _ (List.mem_of_getElem? (by rw [← bk_nth_eq]; exact hv)) (by intro q; cases q)) hs) hl hn hM h13 H locs cells slots lsr hP hS hc hsl hL
  · exact h.elim
theorem bk_s_iload_n (C0 : bk_Cx p R s m args c cc own nL ba b0 aK cA D sc) {n : Nat} {k : Fin 4} (hk0 : (k : Nat) = n) (hd : decode cc pc = .ok (.iload_n k, 1)) (h : bk_op Ca (bk_X p l e R s m args below meth c ba b0 aK cA D sc nL mc ms Z) Q (.iload n) K b ls st M) (hk : ∀ b ls st M, K b ls st M → bk_X p l e R s m args below meth c ba b0 aK cA D sc nL mc ms Z b (pc + 1) ls st M) : bk_X p l e R s m args below meth c ba b0 aK cA D sc nL mc ms Z b pc ls st M := by
  obtain ⟨hx, hb, hml, hown, hts, hK, hSt, hR⟩ := C0
  simp only [bk_op] at h
  split at h
  · rename_i x hv
    intro hs hl hn hM h13 H locs cells slots lsr hP hS hc hsl hL
    refine lv_iload_n hx hb hd hk0 (bk_at hL hv (by intro q; cases q)) ?_
    exact hk _ _ _ _ h (bk_ocons (hl _ (List.mem_of_getElem? (by rw [← bk_nth_eq]; exact hv)) (by intro q; cases q)) hs) hl hn hM h13 H locs cells slots lsr hP hS hc hsl hL
  · exact h.elim
theorem bk_s_lload (C0 : bk_Cx p R s m args c cc own nL ba b0 aK cA D sc) {n : Nat} (hd : decode cc pc = .ok (.lload n, 2)) (h : bk_op Ca (bk_X p l e R s m args below meth c ba b0 aK cA D sc nL mc ms Z) Q (.lload n) K b ls st M) (hk : ∀ b ls st M, K b ls st M → bk_X p l e R s m args below meth c ba b0 aK cA D sc nL mc ms Z b (pc + 2) ls st M) : bk_X p l e R s m args below meth c ba b0 aK cA D sc nL mc ms Z b pc ls st M := by
  obtain ⟨hx, hb, hml, hown, hts, hK, hSt, hR⟩ := C0
  simp only [bk_op] at h
  split at h
  · rename_i x hv
    intro hs hl hn hM h13 H locs cells slots lsr hP hS hc hsl hL
    refine lv_lload hx hb hd (bk_at hL hv (by intro q; cases q)) ?_
    exact hk _ _ _ _ h (bk_ocons (hl _ (List.mem_of_getElem? (by rw [← bk_nth_eq]; exact hv)) (by intro q; cases q)) hs) hl hn hM h13 H locs cells slots lsr hP hS hc hsl hL
  · exact h.elim
theorem bk_s_lload_n (C0 : bk_Cx p R s m args c cc own nL ba b0 aK cA D sc) {n : Nat} {k : Fin 4} (hk0 : (k : Nat) = n) (hd : decode cc pc = .ok (.lload_n k, 1)) (h : bk_op Ca (bk_X p l e R s m args below meth c ba b0 aK cA D sc nL mc ms Z) Q (.lload n) K b ls st M) (hk : ∀ b ls st M, K b ls st M → bk_X p l e R s m args below meth c ba b0 aK cA D sc nL mc ms Z b (pc + 1) ls st M) : bk_X p l e R s m args below meth c ba b0 aK cA D sc nL mc ms Z b pc ls st M := by
  obtain ⟨hx, hb, hml, hown, hts, hK, hSt, hR⟩ := C0
  simp only [bk_op] at h
  split at h
  · rename_i x hv
    intro hs hl hn hM h13 H locs cells slots lsr hP hS hc hsl hL
    refine lv_lload_n hx hb hd hk0 (bk_at hL hv (by intro q; cases q)) ?_
    exact hk _ _ _ _ h (bk_ocons (hl _ (List.mem_of_getElem? (by rw [← bk_nth_eq]; exact hv)) (by intro q; cases q)) hs) hl hn hM h13 H locs cells slots lsr hP hS hc hsl hL
  · exact h.elim
theorem bk_s_aload (C0 : bk_Cx p R s m args c cc own nL ba b0 aK cA D sc) {n : Nat} (hd : decode cc pc = .ok (.aload n, 2)) (h : bk_op Ca (bk_X p l e R s m args below meth c ba b0 aK cA D sc nL mc ms Z) Q (.aload n) K b ls st M) (hk : ∀ b ls st M, K b ls st M → bk_X p l e R s m args below meth c ba b0 aK cA D sc nL mc ms Z b (pc + 2) ls st M) : bk_X p l e R s m args below meth c ba b0 aK cA D sc nL mc ms Z b pc ls st M := by
  obtain ⟨hx, hb, hml, hown, hts, hK, hSt, hR⟩ := C0
  simp only [bk_op] at h
  split at h
  · rename_i kk ii hv
    have hne : kk ≠ 15 := by
      intro q
      rw [q] at h
      exact h
    have h : K b ls (.inr (.inr (kk, ii)) :: st) M := by
      rw [nb_beq hne] at h
      exact h
    have hnx : (.inr (.inr (kk, ii)) : bk_V) ≠ bk_x := by
      intro q
      have q : ((kk, ii) : Nat × Nat) = (15, 0) := Sum.inr.inj (Sum.inr.inj q)
      exact hne (congrArg Prod.fst q)
    intro hs hl hn hM h13 H locs cells slots lsr hP hS hc hsl hL
    refine lv_aload hx hb hd (bk_at hL hv hnx) ?_
    exact hk _ _ _ _ h (bk_ocons (hl _ (List.mem_of_getElem? (by rw [← bk_nth_eq]; exact hv)) hnx) hs) hl hn hM h13 H locs cells slots lsr hP hS hc hsl hL
  · exact h.elim
theorem bk_s_aload_n (C0 : bk_Cx p R s m args c cc own nL ba b0 aK cA D sc) {n : Nat} {k : Fin 4} (hk0 : (k : Nat) = n) (hd : decode cc pc = .ok (.aload_n k, 1)) (h : bk_op Ca (bk_X p l e R s m args below meth c ba b0 aK cA D sc nL mc ms Z) Q (.aload n) K b ls st M) (hk : ∀ b ls st M, K b ls st M → bk_X p l e R s m args below meth c ba b0 aK cA D sc nL mc ms Z b (pc + 1) ls st M) : bk_X p l e R s m args below meth c ba b0 aK cA D sc nL mc ms Z b pc ls st M := by
  obtain ⟨hx, hb, hml, hown, hts, hK, hSt, hR⟩ := C0
  simp only [bk_op] at h
  split at h
  · rename_i kk ii hv
    have hne : kk ≠ 15 := by
      intro q
      rw [q] at h
      exact h
    have h : K b ls (.inr (.inr (kk, ii)) :: st) M := by
      rw [nb_beq hne] at h
      exact h
    have hnx : (.inr (.inr (kk, ii)) : bk_V) ≠ bk_x := by
      intro q
      have q : ((kk, ii) : Nat × Nat) = (15, 0) := Sum.inr.inj (Sum.inr.inj q)
      exact hne (congrArg Prod.fst q)
    intro hs hl hn hM h13 H locs cells slots lsr hP hS hc hsl hL
    refine lv_aload_n hx hb hd hk0 (bk_at hL hv hnx) ?_
    exact hk _ _ _ _ h (bk_ocons (hl _ (List.mem_of_getElem? (by rw [← bk_nth_eq]; exact hv)) hnx) hs) hl hn hM h13 H locs cells slots lsr hP hS hc hsl hL
  · exact h.elim
theorem bk_s_istore (C0 : bk_Cx p R s m args c cc own nL ba b0 aK cA D sc) {n : Nat} (hn0 : n < nL) (hd : decode cc pc = .ok (.istore n, 2)) (h : bk_op Ca (bk_X p l e R s m args below meth c ba b0 aK cA D sc nL mc ms Z) Q (.istore n) K b ls st M) (hk : ∀ b ls st M, K b ls st M → bk_X p l e R s m args below meth c ba b0 aK cA D sc nL mc ms Z b (pc + 2) ls st M) : bk_X p l e R s m args below meth c ba b0 aK cA D sc nL mc ms Z b pc ls st M := by
  obtain ⟨hx, hb, hml, hown, hts, hK, hSt, hR⟩ := C0
  simp only [bk_op] at h
  split at h
  · rename_i x st'
    intro hs hl hn hM h13 H locs cells slots lsr hP hS hc hsl hL
    have hv0 : bk_okv (.inl x) := hs (.inl x) (by simp)
    have hs' : ∀ w ∈ st', bk_okv w := fun w hw => hs w (by simp [hw])
    refine lv_istore hx hb hd hL hn0 rfl (fun ls' hL' => ?_)
    exact hk _ _ _ _ h hs' (bk_set_mem (fun _ => hv0) hl) (by rw [bk_set_len]; exact hn) hM h13 H locs cells slots ls' hP hS hc hsl (bk_store1 (by intro z q; cases q) hL')
  · exact h.elim
theorem bk_s_istore_n (C0 : bk_Cx p R s m args c cc own nL ba b0 aK cA D sc) {n : Nat} {k : Fin 4} (hk0 : (k : Nat) = n) (hn0 : n < nL) (hd : decode cc pc = .ok (.istore_n k, 1)) (h : bk_op Ca (bk_X p l e R s m args below meth c ba b0 aK cA D sc nL mc ms Z) Q (.istore n) K b ls st M) (hk : ∀ b ls st M, K b ls st M → bk_X p l e R s m args below meth c ba b0 aK cA D sc nL mc ms Z b (pc + 1) ls st M) : bk_X p l e R s m args below meth c ba b0 aK cA D sc nL mc ms Z b pc ls st M := by
  obtain ⟨hx, hb, hml, hown, hts, hK, hSt, hR⟩ := C0
  simp only [bk_op] at h
  split at h
  · rename_i x st'
    intro hs hl hn hM h13 H locs cells slots lsr hP hS hc hsl hL
    have hv0 : bk_okv (.inl x) := hs (.inl x) (by simp)
    have hs' : ∀ w ∈ st', bk_okv w := fun w hw => hs w (by simp [hw])
    refine lv_istore_n hx hb hd hk0 hL hn0 rfl (fun ls' hL' => ?_)
    exact hk _ _ _ _ h hs' (bk_set_mem (fun _ => hv0) hl) (by rw [bk_set_len]; exact hn) hM h13 H locs cells slots ls' hP hS hc hsl (bk_store1 (by intro z q; cases q) hL')
  · exact h.elim
theorem bk_s_lstore (C0 : bk_Cx p R s m args c cc own nL ba b0 aK cA D sc) {n : Nat} (hn0 : n + 1 < nL) (hd : decode cc pc = .ok (.lstore n, 2)) (h : bk_op Ca (bk_X p l e R s m args below meth c ba b0 aK cA D sc nL mc ms Z) Q (.lstore n) K b ls st M) (hk : ∀ b ls st M, K b ls st M → bk_X p l e R s m args below meth c ba b0 aK cA D sc nL mc ms Z b (pc + 2) ls st M) : bk_X p l e R s m args below meth c ba b0 aK cA D sc nL mc ms Z b pc ls st M := by
  obtain ⟨hx, hb, hml, hown, hts, hK, hSt, hR⟩ := C0
  simp only [bk_op] at h
  split at h
  · rename_i x st'
    intro hs hl hn hM h13 H locs cells slots lsr hP hS hc hsl hL
    have hv0 : bk_okv (.inr (.inl x)) := hs (.inr (.inl x)) (by simp)
    have hs' : ∀ w ∈ st', bk_okv w := fun w hw => hs w (by simp [hw])
    refine lv_lstore hx hb hd hL hn0 rfl (fun ls' hL' => ?_)
    exact hk _ _ _ _ h hs' (bk_set_mem (fun _ => hv0) hl) (by rw [bk_set_len]; exact hn) hM h13 H locs cells slots ls' hP hS hc hsl (bk_store2 hL')
  · exact h.elim
theorem bk_s_lstore_n (C0 : bk_Cx p R s m args c cc own nL ba b0 aK cA D sc) {n : Nat} {k : Fin 4} (hk0 : (k : Nat) = n) (hn0 : n + 1 < nL) (hd : decode cc pc = .ok (.lstore_n k, 1)) (h : bk_op Ca (bk_X p l e R s m args below meth c ba b0 aK cA D sc nL mc ms Z) Q (.lstore n) K b ls st M) (hk : ∀ b ls st M, K b ls st M → bk_X p l e R s m args below meth c ba b0 aK cA D sc nL mc ms Z b (pc + 1) ls st M) : bk_X p l e R s m args below meth c ba b0 aK cA D sc nL mc ms Z b pc ls st M := by
  obtain ⟨hx, hb, hml, hown, hts, hK, hSt, hR⟩ := C0
  simp only [bk_op] at h
  split at h
  · rename_i x st'
    intro hs hl hn hM h13 H locs cells slots lsr hP hS hc hsl hL
    have hv0 : bk_okv (.inr (.inl x)) := hs (.inr (.inl x)) (by simp)
    have hs' : ∀ w ∈ st', bk_okv w := fun w hw => hs w (by simp [hw])
    refine lv_lstore_n hx hb hd hk0 hL hn0 rfl (fun ls' hL' => ?_)
    exact hk _ _ _ _ h hs' (bk_set_mem (fun _ => hv0) hl) (by rw [bk_set_len]; exact hn) hM h13 H locs cells slots ls' hP hS hc hsl (bk_store2 hL')
  · exact h.elim
theorem bk_s_astore (C0 : bk_Cx p R s m args c cc own nL ba b0 aK cA D sc) {n : Nat} (hn0 : n < nL) (hd : decode cc pc = .ok (.astore n, 2)) (h : bk_op Ca (bk_X p l e R s m args below meth c ba b0 aK cA D sc nL mc ms Z) Q (.astore n) K b ls st M) (hk : ∀ b ls st M, K b ls st M → bk_X p l e R s m args below meth c ba b0 aK cA D sc nL mc ms Z b (pc + 2) ls st M) : bk_X p l e R s m args below meth c ba b0 aK cA D sc nL mc ms Z b pc ls st M := by
  obtain ⟨hx, hb, hml, hown, hts, hK, hSt, hR⟩ := C0
  simp only [bk_op] at h
  split at h
  · rename_i x st'
    intro hs hl hn hM h13 H locs cells slots lsr hP hS hc hsl hL
    have hv0 : bk_okv (.inr (.inr x)) := hs (.inr (.inr x)) (by simp)
    have hs' : ∀ w ∈ st', bk_okv w := fun w hw => hs w (by simp [hw])
    refine lv_astore hx hb hd hL hn0 rfl (fun ls' hL' => ?_)
    exact hk _ _ _ _ h hs' (bk_set_mem (fun _ => hv0) hl) (by rw [bk_set_len]; exact hn) hM h13 H locs cells slots ls' hP hS hc hsl (bk_store1 (by intro z q; cases q) hL')
  · exact h.elim
theorem bk_s_astore_n (C0 : bk_Cx p R s m args c cc own nL ba b0 aK cA D sc) {n : Nat} {k : Fin 4} (hk0 : (k : Nat) = n) (hn0 : n < nL) (hd : decode cc pc = .ok (.astore_n k, 1)) (h : bk_op Ca (bk_X p l e R s m args below meth c ba b0 aK cA D sc nL mc ms Z) Q (.astore n) K b ls st M) (hk : ∀ b ls st M, K b ls st M → bk_X p l e R s m args below meth c ba b0 aK cA D sc nL mc ms Z b (pc + 1) ls st M) : bk_X p l e R s m args below meth c ba b0 aK cA D sc nL mc ms Z b pc ls st M := by
  obtain ⟨hx, hb, hml, hown, hts, hK, hSt, hR⟩ := C0
  simp only [bk_op] at h
  split at h
  · rename_i x st'
    intro hs hl hn hM h13 H locs cells slots lsr hP hS hc hsl hL
    have hv0 : bk_okv (.inr (.inr x)) := hs (.inr (.inr x)) (by simp)
    have hs' : ∀ w ∈ st', bk_okv w := fun w hw => hs w (by simp [hw])
    refine lv_astore_n hx hb hd hk0 hL hn0 rfl (fun ls' hL' => ?_)
    exact hk _ _ _ _ h hs' (bk_set_mem (fun _ => hv0) hl) (by rw [bk_set_len]; exact hn) hM h13 H locs cells slots ls' hP hS hc hsl (bk_store1 (by intro z q; cases q) hL')
  · exact h.elim
theorem bk_s_iinc (C0 : bk_Cx p R s m args c cc own nL ba b0 aK cA D sc) {n : Nat} {v : Int} (hn0 : n < nL) (hd : decode cc pc = .ok (.iinc n v, 3)) (h : bk_op Ca (bk_X p l e R s m args below meth c ba b0 aK cA D sc nL mc ms Z) Q (.iinc n v) K b ls st M) (hk : ∀ b ls st M, K b ls st M → bk_X p l e R s m args below meth c ba b0 aK cA D sc nL mc ms Z b (pc + 3) ls st M) : bk_X p l e R s m args below meth c ba b0 aK cA D sc nL mc ms Z b pc ls st M := by
  obtain ⟨hx, hb, hml, hown, hts, hK, hSt, hR⟩ := C0
  simp only [bk_op] at h
  split at h
  · rename_i x hv
    intro hs hl hn hM h13 H locs cells slots lsr hP hS hc hsl hL
    obtain ⟨q0, hq0⟩ := List.getElem?_of_mem (bk_al_mem.mpr ⟨.inl x, by rw [← bk_nth_eq]; exact hv, (by intro q; cases q), rfl⟩ : (n, bk_rv ba b0 aK (.inl x)) ∈ bk_al ba b0 aK ls)
    refine lv_iinc hx hb hd hL hq0 (Int32.ofInt_add x v).symm hn0 rfl (fun ls' hL' => ?_)
    exact hk _ _ _ _ h.2 hs (bk_set_mem (fun _ => h.1) hl) (by rw [bk_set_len]; exact hn) hM h13 H locs cells slots ls' hP hS hc hsl (bk_store1 (by intro z q; cases q) hL')
  · exact h.elim
theorem bk_s_dup (C0 : bk_Cx p R s m args c cc own nL ba b0 aK cA D sc) (hd : decode cc pc = .ok (.dup, 1)) (h : bk_op Ca (bk_X p l e R s m args below meth c ba b0 aK cA D sc nL mc ms Z) Q (.dup) K b ls st M) (hk : ∀ b ls st M, K b ls st M → bk_X p l e R s m args below meth c ba b0 aK cA D sc nL mc ms Z b (pc + 1) ls st M) : bk_X p l e R s m args below meth c ba b0 aK cA D sc nL mc ms Z b pc ls st M := by
  obtain ⟨hx, hb, hml, hown, hts, hK, hSt, hR⟩ := C0
  simp only [bk_op] at h
  split at h
  · rename_i x st'
    intro hs hl hn hM h13 H locs cells slots lsr hP hS hc hsl hL
    refine lv_dup hx hb hd rfl ?_
    exact hk _ _ _ _ h (bk_ocons (hs _ (by simp)) hs) hl hn hM h13 H locs cells slots lsr hP hS hc hsl hL
  · rename_i x st'
    intro hs hl hn hM h13 H locs cells slots lsr hP hS hc hsl hL
    refine lv_dup hx hb hd rfl ?_
    exact hk _ _ _ _ h (bk_ocons (hs _ (by simp)) hs) hl hn hM h13 H locs cells slots lsr hP hS hc hsl hL
  · exact h.elim
theorem bk_s_dup2 (C0 : bk_Cx p R s m args c cc own nL ba b0 aK cA D sc) (hd : decode cc pc = .ok (.dup2, 1)) (h : bk_op Ca (bk_X p l e R s m args below meth c ba b0 aK cA D sc nL mc ms Z) Q (.dup2) K b ls st M) (hk : ∀ b ls st M, K b ls st M → bk_X p l e R s m args below meth c ba b0 aK cA D sc nL mc ms Z b (pc + 1) ls st M) : bk_X p l e R s m args below meth c ba b0 aK cA D sc nL mc ms Z b pc ls st M := by
  obtain ⟨hx, hb, hml, hown, hts, hK, hSt, hR⟩ := C0
  simp only [bk_op] at h
  split at h
  · rename_i y x st'
    intro hs hl hn hM h13 H locs cells slots lsr hP hS hc hsl hL
    refine lv_dup2_11 hx hb hd rfl rfl ?_
    exact hk _ _ _ _ h (bk_ocons (hs _ (by simp)) (bk_ocons (hs _ (by simp)) hs)) hl hn hM h13 H locs cells slots lsr hP hS hc hsl hL
  · exact h.elim
theorem bk_s_pop (C0 : bk_Cx p R s m args c cc own nL ba b0 aK cA D sc) (hd : decode cc pc = .ok (.pop, 1)) (h : bk_op Ca (bk_X p l e R s m args below meth c ba b0 aK cA D sc nL mc ms Z) Q (.pop) K b ls st M) (hk : ∀ b ls st M, K b ls st M → bk_X p l e R s m args below meth c ba b0 aK cA D sc nL mc ms Z b (pc + 1) ls st M) : bk_X p l e R s m args below meth c ba b0 aK cA D sc nL mc ms Z b pc ls st M := by
  obtain ⟨hx, hb, hml, hown, hts, hK, hSt, hR⟩ := C0
  simp only [bk_op] at h
  split at h
  · rename_i x st'
    intro hs hl hn hM h13 H locs cells slots lsr hP hS hc hsl hL
    refine lv_pop hx hb hd rfl ?_
    exact hk _ _ _ _ h (fun w hw => hs w (by simp [hw])) hl hn hM h13 H locs cells slots lsr hP hS hc hsl hL
  · exact h.elim
theorem bk_s_if_icmp (C0 : bk_Cx p R s m args c cc own nL ba b0 aK cA D sc) {cm : Jvm.ClassFile.Cond} {t off : Int} (ht0 : (pc : Int) + off = t) (ht1 : 0 ≤ t) (hd : decode cc pc = .ok (.if_icmp cm off, 3)) (h : bk_op Ca (bk_X p l e R s m args below meth c ba b0 aK cA D sc nL mc ms Z) Q (.if_icmp cm t) K b ls st M) (hk : ∀ b ls st M, K b ls st M → bk_X p l e R s m args below meth c ba b0 aK cA D sc nL mc ms Z b (pc + 3) ls st M) : bk_X p l e R s m args below meth c ba b0 aK cA D sc nL mc ms Z b pc ls st M := by
  obtain ⟨hx, hb, hml, hown, hts, hK, hSt, hR⟩ := C0
  simp only [bk_op] at h
  split at h
  · rename_i y x st'
    intro hs hl hn hM h13 H locs cells slots lsr hP hS hc hsl hL
    have hy : bk_r32 y := hs (.inl y) (by simp)
    have hx0 : bk_r32 x := hs (.inl x) (by simp)
    have hs' : ∀ w ∈ st', bk_okv w := fun w hw => hs w (by simp [hw])
    have ht : (pc : Int) + off = (t.toNat : Int) := by omega
    cases cm
    case eq =>
      refine lv_icmp_eq hx hb hd ht (fun q => ?_) (fun q => ?_)
      · exact h.1 (by rw [nb_eq hx0 hy] at q; exact q) hs' hl hn hM h13 H locs cells slots lsr hP hS hc hsl hL
      · exact hk _ _ _ _ (h.2 (by rw [nb_eq hx0 hy] at q; exact q)) hs' hl hn hM h13 H locs cells slots lsr hP hS hc hsl hL
    case ne =>
      refine lv_icmp_ne hx hb hd ht (fun q => ?_) (fun q => ?_)
      · exact h.1 (by rw [nb_eq hx0 hy] at q; exact q) hs' hl hn hM h13 H locs cells slots lsr hP hS hc hsl hL
      · exact hk _ _ _ _ (h.2 (by rw [nb_eq hx0 hy] at q; exact fun z => z q)) hs' hl hn hM h13 H locs cells slots lsr hP hS hc hsl hL
    case lt =>
      refine lv_icmp_lt hx hb hd ht (fun q => ?_) (fun q => ?_)
      · exact h.1 (by rw [nb_lt hx0 hy] at q; exact q) hs' hl hn hM h13 H locs cells slots lsr hP hS hc hsl hL
      · exact hk _ _ _ _ (h.2 (by rw [nb_lt hx0 hy] at q; exact q)) hs' hl hn hM h13 H locs cells slots lsr hP hS hc hsl hL
    case ge =>
      refine lv_icmp_ge hx hb hd ht (fun q => ?_) (fun q => ?_)
      · exact h.1 (by rw [nb_le hy hx0] at q; exact q) hs' hl hn hM h13 H locs cells slots lsr hP hS hc hsl hL
      · exact hk _ _ _ _ (h.2 (by rw [nb_le hy hx0] at q; exact q)) hs' hl hn hM h13 H locs cells slots lsr hP hS hc hsl hL
    case gt =>
      refine lv_icmp_gt hx hb hd ht (fun q => ?_) (fun q => ?_)
      · exact h.1 (by rw [nb_lt hy hx0] at q; exact q) hs' hl hn hM h13 H locs cells slots lsr hP hS hc hsl hL
      · exact hk _ _ _ _ (h.2 (by rw [nb_lt hy hx0] at q; exact q)) hs' hl hn hM h13 H locs cells slots lsr hP hS hc hsl hL
    case le =>
      refine lv_icmp_le hx hb hd ht (fun q => ?_) (fun q => ?_)
      · exact h.1 (by rw [nb_le hx0 hy] at q; exact q) hs' hl hn hM h13 H locs cells slots lsr hP hS hc hsl hL
      · exact hk _ _ _ _ (h.2 (by rw [nb_le hx0 hy] at q; exact q)) hs' hl hn hM h13 H locs cells slots lsr hP hS hc hsl hL
  · exact h.elim
theorem bk_s_ifCond (C0 : bk_Cx p R s m args c cc own nL ba b0 aK cA D sc) {cm : Jvm.ClassFile.Cond} {t off : Int} (ht0 : (pc : Int) + off = t) (ht1 : 0 ≤ t) (hd : decode cc pc = .ok (.ifCond cm off, 3)) (h : bk_op Ca (bk_X p l e R s m args below meth c ba b0 aK cA D sc nL mc ms Z) Q (.ifCond cm t) K b ls st M) (hk : ∀ b ls st M, K b ls st M → bk_X p l e R s m args below meth c ba b0 aK cA D sc nL mc ms Z b (pc + 3) ls st M) : bk_X p l e R s m args below meth c ba b0 aK cA D sc nL mc ms Z b pc ls st M := by
  obtain ⟨hx, hb, hml, hown, hts, hK, hSt, hR⟩ := C0
  simp only [bk_op] at h
  split at h
  · rename_i x st'
    intro hs hl hn hM h13 H locs cells slots lsr hP hS hc hsl hL
    have hx0 : bk_r32 x := hs (.inl x) (by simp)
    have hs' : ∀ w ∈ st', bk_okv w := fun w hw => hs w (by simp [hw])
    have ht : (pc : Int) + off = (t.toNat : Int) := by omega
    cases cm
    case eq =>
      refine lv_if_eq hx hb hd ht (fun q => ?_) (fun q => ?_)
      · exact h.1 (by rw [nb_z] at q; rw [nb_eq hx0 nb_r0] at q; exact q) hs' hl hn hM h13 H locs cells slots lsr hP hS hc hsl hL
      · exact hk _ _ _ _ (h.2 (by rw [nb_z] at q; rw [nb_eq hx0 nb_r0] at q; exact q)) hs' hl hn hM h13 H locs cells slots lsr hP hS hc hsl hL
    case ne =>
      refine lv_if_ne hx hb hd ht (fun q => ?_) (fun q => ?_)
      · exact h.1 (by rw [nb_z] at q; rw [nb_eq hx0 nb_r0] at q; exact q) hs' hl hn hM h13 H locs cells slots lsr hP hS hc hsl hL
      · exact hk _ _ _ _ (h.2 (by rw [nb_z] at q; rw [nb_eq hx0 nb_r0] at q; exact fun z => z q)) hs' hl hn hM h13 H locs cells slots lsr hP hS hc hsl hL
    case lt =>
      refine lv_if_lt hx hb hd ht (fun q => ?_) (fun q => ?_)
      · exact h.1 (by rw [nb_z] at q; rw [nb_lt hx0 nb_r0] at q; exact q) hs' hl hn hM h13 H locs cells slots lsr hP hS hc hsl hL
      · exact hk _ _ _ _ (h.2 (by rw [nb_z] at q; rw [nb_lt hx0 nb_r0] at q; exact q)) hs' hl hn hM h13 H locs cells slots lsr hP hS hc hsl hL
    case ge =>
      refine lv_if_ge hx hb hd ht (fun q => ?_) (fun q => ?_)
      · exact h.1 (by rw [nb_z] at q; rw [nb_le nb_r0 hx0] at q; exact q) hs' hl hn hM h13 H locs cells slots lsr hP hS hc hsl hL
      · exact hk _ _ _ _ (h.2 (by rw [nb_z] at q; rw [nb_le nb_r0 hx0] at q; exact q)) hs' hl hn hM h13 H locs cells slots lsr hP hS hc hsl hL
    case gt =>
      refine lv_if_gt hx hb hd ht (fun q => ?_) (fun q => ?_)
      · exact h.1 (by rw [nb_z] at q; rw [nb_lt nb_r0 hx0] at q; exact q) hs' hl hn hM h13 H locs cells slots lsr hP hS hc hsl hL
      · exact hk _ _ _ _ (h.2 (by rw [nb_z] at q; rw [nb_lt nb_r0 hx0] at q; exact q)) hs' hl hn hM h13 H locs cells slots lsr hP hS hc hsl hL
    case le =>
      refine lv_if_le hx hb hd ht (fun q => ?_) (fun q => ?_)
      · exact h.1 (by rw [nb_z] at q; rw [nb_le hx0 nb_r0] at q; exact q) hs' hl hn hM h13 H locs cells slots lsr hP hS hc hsl hL
      · exact hk _ _ _ _ (h.2 (by rw [nb_z] at q; rw [nb_le hx0 nb_r0] at q; exact q)) hs' hl hn hM h13 H locs cells slots lsr hP hS hc hsl hL
  · exact h.elim
theorem bk_s_goto (C0 : bk_Cx p R s m args c cc own nL ba b0 aK cA D sc) {t off : Int} (ht0 : (pc : Int) + off = t) (ht1 : 0 ≤ t) (hd : decode cc pc = .ok (.goto off, 3)) (h : bk_op Ca (bk_X p l e R s m args below meth c ba b0 aK cA D sc nL mc ms Z) Q (.goto t) K b ls st M) (hk : ∀ b ls st M, K b ls st M → bk_X p l e R s m args below meth c ba b0 aK cA D sc nL mc ms Z b (pc + 3) ls st M) : bk_X p l e R s m args below meth c ba b0 aK cA D sc nL mc ms Z b pc ls st M := by
  obtain ⟨hx, hb, hml, hown, hts, hK, hSt, hR⟩ := C0
  simp only [bk_op] at h
  intro hs hl hn hM h13 H locs cells slots lsr hP hS hc hsl hL
  refine lv_goto hx hb hd (tgt := t.toNat) (by omega) ?_
  exact h hs hl hn hM h13 H locs cells slots lsr hP hS hc hsl hL
end SND
end
section
theorem bk_sub_mem : ∀ {ts ws : List Cond}, bk_sub ws ts = true → ∀ w ∈ ws, w ∈ ts
  | _, [], _, _, hw => nomatch hw
  | [], _ :: _, h, _, _ => by simp [bk_sub] at h
  | t :: ts, w :: ws, h, v, hv => by
    unfold bk_sub at h
    split at h
    · rename_i e
      rcases List.mem_cons.mp hv with rfl | hv
      · exact (beq_iff_eq.mp e) ▸ List.mem_cons_self
      · exact List.mem_cons_of_mem _ (bk_sub_mem h v hv)
    · exact List.mem_cons_of_mem _ (bk_sub_mem h v hv)
theorem bk_W_of {w : Cond} (h : w ∈ tables_1) (hg : goodWord w = true) : w ∈ bk_W := List.mem_filter.mpr ⟨List.mem_append_right _ h, hg⟩
theorem bk_W_of2 {w : Cond} (h : w ∈ k2_sels lw_privs) (hg : goodWord w = true) : w ∈ bk_W := List.mem_filter.mpr ⟨List.mem_append_left _ h, hg⟩
theorem bk_fw_in {x : Nat × Nat × Nat} (h : x ∈ bk_fl) : bk_fw x ∈ bk_W := bk_W_of (bk_sub_mem bk_fl_in _ (List.mem_map.mpr ⟨x, h, rfl⟩)) rfl
theorem bk_kw_in {x : Nat × Nat × Int} (h : x ∈ bk_kl) : bk_kw x ∈ bk_W := bk_W_of (bk_sub_mem bk_kl_in _ (List.mem_map.mpr ⟨x, h, rfl⟩)) rfl
theorem bk_kW_in {x : Nat × Nat × Int} (h : x ∈ bk_kL) : bk_kW x ∈ bk_W := bk_W_of (bk_sub_mem bk_kL_in _ (List.mem_map.mpr ⟨x, h, rfl⟩)) rfl
theorem bk_lay_gw : ∀ c, c < 13 → (u_ws (bk_R c) (bk_F c) (bk_n c)).all goodWord = true := by decide +kernel
theorem bk_lay_W {k : Nat} (h : k < 13) : ∀ w ∈ u_ws (bk_R k) (bk_F k) (bk_n k), w ∈ bk_W := fun w hw => bk_W_of (bk_sub_mem (bk_lay_in k h) w hw) (List.all_eq_true.mp (bk_lay_gw k h) w hw)
theorem bk_cl : ∀ k, k < 13 → vwCl[k]? = some (bk_R k, bk_F k, bk_n k) := lt_s (lt_s (lt_s (lt_s (lt_s (lt_s (lt_s (lt_s (lt_s (lt_s (lt_s (lt_s (lt_s lt_0 rfl) rfl) rfl) rfl) rfl) rfl) rfl) rfl) rfl) rfl) rfl) rfl) rfl
theorem bk_ty_ok : ∀ c, c < 13 → ∀ k, k < bk_n c → parseFieldDescriptor (bk_F c k).2.2.1 = some (bk_ty c k) := lt_s (lt_s (lt_s (lt_s (lt_s (lt_s (lt_s (lt_s (lt_s (lt_s (lt_s (lt_s (lt_s (lt_0) tyX0_ok) tyX1_ok) tyX2_ok) tyX3_ok) tyX4_ok) tyX5_ok) tyX6_ok) tyX7_ok) tyX8_ok) tyX9_ok) tyX10_ok) tyX11_ok) tyX12_ok
theorem bk_nm_ok : ∀ c, c < 13 → ∀ a, a < bk_n c → ∀ b, b < bk_n c → a ≠ b → (bk_F c a).2.1 ≠ (bk_F c b).2.1 := lt_s (lt_s (lt_s (lt_s (lt_s (lt_s (lt_s (lt_s (lt_s (lt_s (lt_s (lt_s (lt_s (lt_0) nmX0) nmX1) nmX2) nmX3) nmX4) nmX5) nmX6) nmX7) nmX8) nmX9) nmX10) nmX11) nmX12
theorem bk_lay_k : ∀ q ∈ bk_lay, q.1 < 13 ∨ 16 ≤ q.1 := by decide +kernel
theorem bk_sz_0 : ∀ k, k < 16 → bk_sz k = 0 := by decide +kernel
theorem bk_sz_ub (k : Nat) : bk_sz k < 1024 := by
  unfold bk_sz
  have := Nat.mod_lt (bk_szs >>> (10 * k)) (show 0 < 1024 by omega)
  show ((_ : Nat) : Int) < 1024
  omega
theorem bk_sz_nn (k : Nat) : 0 ≤ bk_sz k := Int.natCast_nonneg _
theorem bk_fd_ty : ∀ c, c < 13 → ∀ j, j < bk_n c → (bk_fd c j % 8 = 0 → bk_ty c j = .int) ∧ (bk_fd c j % 8 = 1 → bk_ty c j = .long) ∧ (bk_fd c j % 8 = 3 → bk_ty c j = .object "BanksDealt$Plain" ∨ bk_ty c j = .object "BanksDealt$Sentence") ∧ (bk_fd c j % 8 = 4 → bk_ty c j = .boolean) := by decide +kernel
theorem bk_fl_3 : ∀ x ∈ bk_fl, x.2.2 / 1024 % 8 = 3 → x.2.2 / 8192 % 128 < 13 := by decide +kernel
theorem bk_fd_ref : ∀ q ∈ bk_lay, q.1 < 13 → ∀ j, j < bk_n q.1 → bk_fd q.1 j % 8 = 2 → (bk_fd q.1 j / 8 % 128, q.2 + bk_fd q.1 j / 1024) ∈ bk_lay := by decide +kernel
theorem bk_aa_lay : ∀ q ∈ bk_lay, bk_so q.1 = 3 → 16 ≤ q.1 → ∀ j, j < (bk_sz q.1).toNat → ((bk_aa q.1).1, (bk_aa q.1).2 + j) ∈ bk_lay := by decide +kernel
theorem bk_aa_k : ∀ q ∈ bk_lay, bk_so q.1 = 3 → 16 ≤ q.1 → q.1 = 27 ∨ q.1 = 55 := by decide +kernel
/-- a cell that is an array, behind the look at its length -/
theorem bk_arr {k i : Nat} {j : Int} (h : bk_okv (.inr (.inr (k, i)))) (h0 : 0 ≤ j) (h1 : j < bk_sz k) : (k, i) ∈ bk_lay ∧ 16 ≤ k := by
  have hk : 16 ≤ k := by
    rcases Nat.lt_or_ge k 16 with q | q
    · have := bk_sz_0 k q; omega
    · exact q
  rcases h with h | h | h
  · omega
  · omega
  · exact ⟨h, hk⟩
theorem bk_arr2 {k i : Nat} (h : bk_okv (.inr (.inr (k, i)))) (hk : 16 ≤ k) : (k, i) ∈ bk_lay := by
  rcases h with h | h | h
  · omega
  · omega
  · exact h
theorem bk_ad_lay {ba b0 : Nat} {aK : Nat → Nat} {k i : Nat} (h : (k, i) ∈ bk_lay) : bk_ad ba b0 aK k i = ba + bk_off k i := by
  have := bk_lay_k _ h
  unfold bk_ad
  rw [if_neg (by show ¬ k = 13; have : k < 13 ∨ 16 ≤ k := this; omega), if_neg (by show ¬ k = 14; have : k < 13 ∨ 16 ≤ k := this; omega)]
theorem bk_obj {k i : Nat} (h : bk_okv (.inr (.inr (k, i)))) (hk : k < 13) : (k, i) ∈ bk_lay := by
  rcases h with h | h | h
  · omega
  · omega
  · exact h
theorem bk_en_o {ba : Nat} {cA : Nat → ClassId} {M : bk_M} {k i : Nat} (hk : k < 13) : bk_en ba cA M (k, i) = .inr (k, (List.range (bk_n k)).map (bk_fv ba M k i)) := by
  unfold bk_en; rw [if_pos hk]
theorem bk_en_i {ba : Nat} {cA : Nat → ClassId} {M : bk_M} {k i : Nat} (hk : 16 ≤ k) (hs : bk_so k = 0) : bk_en ba cA M (k, i) = .inl (cA 0, (bk_sz k).toNat, .inl (fun j => Int32.ofInt (M k i j))) := by
  unfold bk_en; rw [if_neg (by show ¬ k < 13; omega)]; simp only [hs]
theorem bk_en_l {ba : Nat} {cA : Nat → ClassId} {M : bk_M} {k i : Nat} (hk : 16 ≤ k) (hs : bk_so k = 1) : bk_en ba cA M (k, i) = .inl (cA 1, (bk_sz k).toNat, .inr (.inl (fun j => Int64.ofInt (M k i j)))) := by
  unfold bk_en; rw [if_neg (by show ¬ k < 13; omega)]; simp only [hs]
theorem bk_en_z {ba : Nat} {cA : Nat → ClassId} {M : bk_M} {k i : Nat} (hk : 16 ≤ k) (hs : bk_so k = 2) : bk_en ba cA M (k, i) = .inl (cA 2, (bk_sz k).toNat, .inl (fun j => Int32.ofInt (M k i j))) := by
  unfold bk_en; rw [if_neg (by show ¬ k < 13; omega)]; simp only [hs]
theorem bk_en_q {ba : Nat} {cA : Nat → ClassId} {M : bk_M} {k i : Nat} (hk : 16 ≤ k) (hs : bk_so k = 3) : bk_en ba cA M (k, i) = .inl (cA (if k = 27 then 3 else 4), (bk_sz k).toNat, .inr (.inr (.inr (.inr (fun j => some (ba + bk_off (bk_aa k).1 ((bk_aa k).2 + j))))))) := by
  unfold bk_en; rw [if_neg (by show ¬ k < 13; omega)]; simp only [hs]
theorem bk_up_at (M : bk_M) (k i : Nat) (j v : Int) : bk_up M k i j v k i j = v := by simp [bk_up]
theorem bk_up_j {M : bk_M} {k i : Nat} {j v j' : Int} (h : j' ≠ j) : bk_up M k i j v k i j' = M k i j' := by simp [bk_up, h]
theorem bk_up_ne {M : bk_M} {k i k' i' : Nat} {j v j' : Int} (h : (k', i') ≠ (k, i)) : bk_up M k i j v k' i' j' = M k' i' j' := by
  unfold bk_up
  rw [if_neg]
  rintro ⟨a, b, -⟩
  exact h (by rw [a, b])
theorem bk_up_13 {M : bk_M} {k i : Nat} {j v : Int} (h : k ≠ 13) : bk_up M k i j v 13 = M 13 := by
  funext i' j'
  exact bk_up_ne (fun q => h (congrArg Prod.fst q).symm)
theorem bk_okm_f {M : bk_M} (h : bk_okm M) {k i j : Nat} {v : Int} (hk : k < 13) (hv : match bk_fd k j % 8 with
    | 1 => bk_r64 v
    | 2 => True
    | 3 => (bk_fd k j / 8 % 128, v.toNat) ∈ bk_lay
    | _ => bk_r32 v) : bk_okm (bk_up M k i j v) := by
  refine ⟨fun k' i' j' h1 h2 h3 => ?_, fun k' i' j' h1 h2 h3 h4 => ?_, ?_⟩
  · have h5 := h.1 k' i' j' h1 h2 h3
    by_cases e : k' = k ∧ i' = i ∧ j' = j
    · obtain ⟨rfl, rfl, rfl⟩ := e
      rw [bk_up_at]; exact hv
    · have : bk_up M k i j v k' i' j' = M k' i' j' := by
        unfold bk_up
        rw [if_neg]
        rintro ⟨a, b, c⟩
        exact e ⟨a, b, by omega⟩
      rw [this]; exact h5
  · rw [bk_up_ne (fun q => by have := congrArg Prod.fst q; simp at this; omega)]
    exact h.2.1 k' i' j' h1 h2 h3 h4
  · rw [bk_up_13 (by omega)]; exact h.2.2
theorem bk_okm_a {M : bk_M} (h : bk_okm M) {k i : Nat} {j v : Int} (hk : 16 ≤ k) (hv : match bk_so k with
    | 1 => bk_r64 v
    | 3 => True
    | _ => bk_r32 v) : bk_okm (bk_up M k i j v) := by
  refine ⟨fun k' i' j' h1 h2 h3 => ?_, fun k' i' j' h1 h2 h3 h4 => ?_, ?_⟩
  · rw [bk_up_ne (fun q => by have := congrArg Prod.fst q; simp at this; omega)]
    exact h.1 k' i' j' h1 h2 h3
  · have h5 := h.2.1 k' i' j' h1 h2 h3 h4
    by_cases e : k' = k ∧ i' = i ∧ j' = j
    · obtain ⟨rfl, rfl, rfl⟩ := e
      rw [bk_up_at]; exact hv
    · have : bk_up M k i j v k' i' j' = M k' i' j' := by unfold bk_up; rw [if_neg e]
      rw [this]; exact h5
  · rw [bk_up_13 (by omega)]; exact h.2.2
theorem bk_upd {F : Int → Int32} {M : bk_M} {k i : Nat} {j v : Int} (h : 0 ≤ j) : upd (fun n : Nat => F (M k i n)) j.toNat (F v) = fun n : Nat => F (bk_up M k i j v k i n) := by
  funext n
  unfold upd
  by_cases e : n = j.toNat
  · rw [if_pos e, e, show ((j.toNat : Nat) : Int) = j by omega, bk_up_at]
  · rw [if_neg e, bk_up_j (by omega)]
theorem bk_updL {F : Int → Int64} {M : bk_M} {k i : Nat} {j v : Int} (h : 0 ≤ j) : vp_updL (fun n : Nat => F (M k i n)) j.toNat (F v) = fun n : Nat => F (bk_up M k i j v k i n) := by
  funext n
  unfold vp_updL
  by_cases e : n = j.toNat
  · rw [if_pos e, e, show ((j.toNat : Nat) : Int) = j by omega, bk_up_at]
  · rw [if_neg e, bk_up_j (by omega)]
section MEM
variable {p : Program} {l : Launch} {e : Env} {R : Room} {s : State} {m : MethodId} {args : Array Value} {below : List Frame} {meth : Method} {c : Code} {cc : ByteArray} {own : Nat}
variable {ba b0 : Nat} {aK : Nat → Nat} {cA : Nat → ClassId} {D : va_G} {sc : Nat → Int → Int} {nL mc ms : Nat} {Z : State → Prop}
variable {Ca : bk_Ca} {Q : bk_Q} {K : bk_K} {b pc : Nat} {ls st : List bk_V} {M : bk_M}
theorem bk_s_iaload (C0 : bk_Cx p R s m args c cc own nL ba b0 aK cA D sc) (hd : decode cc pc = .ok (.iaload, 1)) (h : bk_op Ca (bk_X p l e R s m args below meth c ba b0 aK cA D sc nL mc ms Z) Q (.iaload) K b ls st M) (hk : ∀ b ls st M, K b ls st M → bk_X p l e R s m args below meth c ba b0 aK cA D sc nL mc ms Z b (pc + 1) ls st M) : bk_X p l e R s m args below meth c ba b0 aK cA D sc nL mc ms Z b pc ls st M := by
  obtain ⟨hx, hb, hml, hown, hts, hK, hSt, hR⟩ := C0
  simp only [bk_op] at h
  split at h
  · rename_i j k i st'
    intro hs hl hn hM h13 H locs cells slots lsr hP hS hc hsl hL
    have hj : bk_r32 j := hs (.inl j) (by simp)
    obtain ⟨hq, hk16⟩ := bk_arr (hs (.inr (.inr (k, i))) (by simp)) h.1.1 h.1.2
    have hs' : ∀ w ∈ st', bk_okv w := fun w hw => hs w (by simp [hw])
    by_cases hso : bk_so k = 0
    · have h2 := h.2
      rw [hso] at h2
      have h2 : K b ls _ M := h2
      have hub := bk_sz_ub k
      have eW := bk_ws_at (ba := ba) (cA := cA) (M := M) hq
      rw [bk_en_i hk16 hso] at eW
      have had := bk_ad_lay (ba := ba) (b0 := b0) (aK := aK) hq
      show W p l e R s m args below meth c H locs cells slots Z (F0 m pc lsr (.int (Int32.ofInt j) :: .ref (bk_ad ba b0 aK k i) :: st'.map (bk_rv ba b0 aK)))
      rw [had]
      refine va_iald hx hb hK hP (bk_off k i) 0 eW rfl (nb_in hj h.1.1 (by omega)) hd ?_
      rw [nb_clamp hj]
      have hj2 : ((j.toNat : Nat) : Int) = j := by omega
      simp only [hj2]
      have hr := hM.2.1 k i j hq (by omega) h.1.1 h.1.2
      rw [hso] at hr
      exact hk _ _ _ _ h2 (bk_ocons hr hs') hl hn hM h13 H locs cells slots lsr hP hS hc hsl hL
    · have h2 := h.2
      rw [nb_beq hso] at h2
      exact h2.elim
  · exact h.elim
theorem bk_s_laload (C0 : bk_Cx p R s m args c cc own nL ba b0 aK cA D sc) (hd : decode cc pc = .ok (.laload, 1)) (h : bk_op Ca (bk_X p l e R s m args below meth c ba b0 aK cA D sc nL mc ms Z) Q (.laload) K b ls st M) (hk : ∀ b ls st M, K b ls st M → bk_X p l e R s m args below meth c ba b0 aK cA D sc nL mc ms Z b (pc + 1) ls st M) : bk_X p l e R s m args below meth c ba b0 aK cA D sc nL mc ms Z b pc ls st M := by
  obtain ⟨hx, hb, hml, hown, hts, hK, hSt, hR⟩ := C0
  simp only [bk_op] at h
  split at h
  · rename_i j k i st'
    intro hs hl hn hM h13 H locs cells slots lsr hP hS hc hsl hL
    have hj : bk_r32 j := hs (.inl j) (by simp)
    obtain ⟨hq, hk16⟩ := bk_arr (hs (.inr (.inr (k, i))) (by simp)) h.1.1 h.1.2
    have hs' : ∀ w ∈ st', bk_okv w := fun w hw => hs w (by simp [hw])
    by_cases hso : bk_so k = 1
    · have h2 := h.2
      rw [hso] at h2
      have h2 : K b ls _ M := h2
      have hub := bk_sz_ub k
      have eW := bk_ws_at (ba := ba) (cA := cA) (M := M) hq
      rw [bk_en_l hk16 hso] at eW
      have had := bk_ad_lay (ba := ba) (b0 := b0) (aK := aK) hq
      show W p l e R s m args below meth c H locs cells slots Z (F0 m pc lsr (.int (Int32.ofInt j) :: .ref (bk_ad ba b0 aK k i) :: st'.map (bk_rv ba b0 aK)))
      rw [had]
      refine va_lald hx hb hK hP (bk_off k i) 1 eW rfl (nb_in hj h.1.1 (by omega)) hd ?_
      rw [nb_clamp hj]
      have hj2 : ((j.toNat : Nat) : Int) = j := by omega
      simp only [hj2]
      have hr := hM.2.1 k i j hq (by omega) h.1.1 h.1.2
      rw [hso] at hr
      exact hk _ _ _ _ h2 (bk_ocons hr hs') hl hn hM h13 H locs cells slots lsr hP hS hc hsl hL
    · have h2 := h.2
      rw [nb_beq hso] at h2
      exact h2.elim
  · exact h.elim
theorem bk_s_baload (C0 : bk_Cx p R s m args c cc own nL ba b0 aK cA D sc) (hd : decode cc pc = .ok (.baload, 1)) (h : bk_op Ca (bk_X p l e R s m args below meth c ba b0 aK cA D sc nL mc ms Z) Q (.baload) K b ls st M) (hk : ∀ b ls st M, K b ls st M → bk_X p l e R s m args below meth c ba b0 aK cA D sc nL mc ms Z b (pc + 1) ls st M) : bk_X p l e R s m args below meth c ba b0 aK cA D sc nL mc ms Z b pc ls st M := by
  obtain ⟨hx, hb, hml, hown, hts, hK, hSt, hR⟩ := C0
  simp only [bk_op] at h
  split at h
  · rename_i j k i st'
    intro hs hl hn hM h13 H locs cells slots lsr hP hS hc hsl hL
    have hj : bk_r32 j := hs (.inl j) (by simp)
    obtain ⟨hq, hk16⟩ := bk_arr (hs (.inr (.inr (k, i))) (by simp)) h.1.1 h.1.2
    have hs' : ∀ w ∈ st', bk_okv w := fun w hw => hs w (by simp [hw])
    by_cases hso : bk_so k = 2
    · have h2 := h.2
      rw [hso] at h2
      have h2 : K b ls _ M := h2
      have hub := bk_sz_ub k
      have eW := bk_ws_at (ba := ba) (cA := cA) (M := M) hq
      rw [bk_en_z hk16 hso] at eW
      have had := bk_ad_lay (ba := ba) (b0 := b0) (aK := aK) hq
      show W p l e R s m args below meth c H locs cells slots Z (F0 m pc lsr (.int (Int32.ofInt j) :: .ref (bk_ad ba b0 aK k i) :: st'.map (bk_rv ba b0 aK)))
      rw [had]
      refine va_zald hx hb hK hP (bk_off k i) 2 eW rfl (nb_in hj h.1.1 (by omega)) hd ?_
      rw [nb_clamp hj]
      have hj2 : ((j.toNat : Nat) : Int) = j := by omega
      simp only [hj2]
      have hr := hM.2.1 k i j hq (by omega) h.1.1 h.1.2
      rw [hso] at hr
      exact hk _ _ _ _ h2 (bk_ocons hr hs') hl hn hM h13 H locs cells slots lsr hP hS hc hsl hL
    · have h2 := h.2
      rw [nb_beq hso] at h2
      exact h2.elim
  · exact h.elim
theorem bk_s_aaload (C0 : bk_Cx p R s m args c cc own nL ba b0 aK cA D sc) (hd : decode cc pc = .ok (.aaload, 1)) (h : bk_op Ca (bk_X p l e R s m args below meth c ba b0 aK cA D sc nL mc ms Z) Q (.aaload) K b ls st M) (hk : ∀ b ls st M, K b ls st M → bk_X p l e R s m args below meth c ba b0 aK cA D sc nL mc ms Z b (pc + 1) ls st M) : bk_X p l e R s m args below meth c ba b0 aK cA D sc nL mc ms Z b pc ls st M := by
  obtain ⟨hx, hb, hml, hown, hts, hK, hSt, hR⟩ := C0
  simp only [bk_op] at h
  split at h
  · rename_i j k i st'
    intro hs hl hn hM h13 H locs cells slots lsr hP hS hc hsl hL
    have hj : bk_r32 j := hs (.inl j) (by simp)
    obtain ⟨hq, hk16⟩ := bk_arr (hs (.inr (.inr (k, i))) (by simp)) h.1.1 h.1.2
    have hs' : ∀ w ∈ st', bk_okv w := fun w hw => hs w (by simp [hw])
    by_cases hso : bk_so k = 3
    · have h2 := h.2
      rw [hso] at h2
      have h2 : K b ls _ M := h2
      have hub := bk_sz_ub k
      have eW := bk_ws_at (ba := ba) (cA := cA) (M := M) hq
      rw [bk_en_q hk16 hso] at eW
      have had := bk_ad_lay (ba := ba) (b0 := b0) (aK := aK) hq
      have hz := bk_aa_lay _ hq hso hk16 j.toNat (by show j.toNat < (bk_sz k).toNat; omega)
      show W p l e R s m args below meth c H locs cells slots Z (F0 m pc lsr (.int (Int32.ofInt j) :: .ref (bk_ad ba b0 aK k i) :: st'.map (bk_rv ba b0 aK)))
      rw [had]
      have go : W p l e R s m args below meth c H locs cells slots Z (F0 m (pc + 1) lsr (va_rf (some (ba + bk_off (bk_aa k).1 ((bk_aa k).2 + (Int32.ofInt j).toNatClampNeg))) :: st'.map (bk_rv ba b0 aK))) := by
        rw [nb_clamp hj]
        have := hk _ _ _ _ h2 (bk_ocons (Or.inr (Or.inr hz)) hs') hl hn hM h13 H locs cells slots lsr hP hS hc hsl hL
        rw [List.map_cons] at this
        rw [show bk_rv ba b0 aK (.inr (.inr ((bk_aa k).1, (bk_aa k).2 + j.toNat))) = va_rf (some (ba + bk_off (bk_aa k).1 ((bk_aa k).2 + j.toNat))) from congrArg Value.ref (bk_ad_lay hz)] at this
        exact this
      rcases bk_aa_k _ hq hso hk16 with e27 | e55
      · have e27 : k = 27 := e27
        rw [if_pos e27] at eW
        exact va_aldq hx hb hK hP (bk_off k i) 3 (C := "BanksDealt$Plain") eW rfl (nb_in hj h.1.1 (by omega)) hd go
      · have e55 : k = 55 := e55
        rw [if_neg (by omega)] at eW
        exact va_aldq hx hb hK hP (bk_off k i) 4 (C := "BanksDealt$Image") eW rfl (nb_in hj h.1.1 (by omega)) hd go
    · have h2 := h.2
      rw [nb_beq hso] at h2
      exact h2.elim
  · exact h.elim
theorem bk_s_iastore (C0 : bk_Cx p R s m args c cc own nL ba b0 aK cA D sc) (hd : decode cc pc = .ok (.iastore, 1)) (h : bk_op Ca (bk_X p l e R s m args below meth c ba b0 aK cA D sc nL mc ms Z) Q (.iastore) K b ls st M) (hk : ∀ b ls st M, K b ls st M → bk_X p l e R s m args below meth c ba b0 aK cA D sc nL mc ms Z b (pc + 1) ls st M) : bk_X p l e R s m args below meth c ba b0 aK cA D sc nL mc ms Z b pc ls st M := by
  obtain ⟨hx, hb, hml, hown, hts, hK, hSt, hR⟩ := C0
  simp only [bk_op] at h
  split at h
  · rename_i z j k i st'
    intro hs hl hn hM h13 H locs cells slots lsr hP hS hc hsl hL
    have hj : bk_r32 j := hs (.inl j) (by simp)
    have hz : bk_okv (.inl z) := hs (.inl z) (by simp)
    obtain ⟨hq, hk16⟩ := bk_arr (hs (.inr (.inr (k, i))) (by simp)) h.1.1 h.1.2
    have hs' : ∀ w ∈ st', bk_okv w := fun w hw => hs w (by simp [hw])
    by_cases hso : bk_so k = 0
    · have h2 := h.2
      rw [hso] at h2
      simp only [Nat.beq, cond_true] at h2
      have hub := bk_sz_ub k
      have eW := bk_ws_at (ba := ba) (cA := cA) (M := M) hq
      rw [bk_en_i hk16 hso] at eW
      have had := bk_ad_lay (ba := ba) (b0 := b0) (aK := aK) hq
      show W p l e R s m args below meth c H locs cells slots Z (F0 m pc lsr (.int (Int32.ofInt z) :: .int (Int32.ofInt j) :: .ref (bk_ad ba b0 aK k i) :: st'.map (bk_rv ba b0 aK)))
      rw [had]
      refine va_iast hx hb hK hP bk_ws_D hS (bk_off k i) 0 eW rfl (nb_in hj h.1.1 (by omega)) hd (fun H1 locs1 hP1 hD1 hS1 => ?_)
      rw [nb_clamp hj, bk_upd (F := Int32.ofInt) h.1.1] at hP1
      rw [← bk_en_i (ba := ba) (cA := cA) (M := bk_up M k i j z) hk16 hso, bk_ws_set hq (fun k' i' j' hne => bk_up_ne hne)] at hP1
      exact hk _ _ _ _ (h2 _ rfl) hs' hl hn (bk_okm_a hM hk16 (by rw [hso]; exact hz)) ((bk_up_13 (by omega)).trans h13) H1 locs1 cells slots lsr hP1 hS1 hc hsl hL
    · have h2 := h.2
      rw [nb_beq hso] at h2
      exact h2.elim
  · exact h.elim
theorem bk_s_lastore (C0 : bk_Cx p R s m args c cc own nL ba b0 aK cA D sc) (hd : decode cc pc = .ok (.lastore, 1)) (h : bk_op Ca (bk_X p l e R s m args below meth c ba b0 aK cA D sc nL mc ms Z) Q (.lastore) K b ls st M) (hk : ∀ b ls st M, K b ls st M → bk_X p l e R s m args below meth c ba b0 aK cA D sc nL mc ms Z b (pc + 1) ls st M) : bk_X p l e R s m args below meth c ba b0 aK cA D sc nL mc ms Z b pc ls st M := by
  obtain ⟨hx, hb, hml, hown, hts, hK, hSt, hR⟩ := C0
  simp only [bk_op] at h
  split at h
  · rename_i z j k i st'
    intro hs hl hn hM h13 H locs cells slots lsr hP hS hc hsl hL
    have hj : bk_r32 j := hs (.inl j) (by simp)
    have hz : bk_okv (.inr (.inl z)) := hs (.inr (.inl z)) (by simp)
    obtain ⟨hq, hk16⟩ := bk_arr (hs (.inr (.inr (k, i))) (by simp)) h.1.1 h.1.2
    have hs' : ∀ w ∈ st', bk_okv w := fun w hw => hs w (by simp [hw])
    by_cases hso : bk_so k = 1
    · have h2 := h.2
      rw [hso] at h2
      simp only [Nat.beq, cond_true] at h2
      have hub := bk_sz_ub k
      have eW := bk_ws_at (ba := ba) (cA := cA) (M := M) hq
      rw [bk_en_l hk16 hso] at eW
      have had := bk_ad_lay (ba := ba) (b0 := b0) (aK := aK) hq
      show W p l e R s m args below meth c H locs cells slots Z (F0 m pc lsr (.long (Int64.ofInt z) :: .int (Int32.ofInt j) :: .ref (bk_ad ba b0 aK k i) :: st'.map (bk_rv ba b0 aK)))
      rw [had]
      refine va_last hx hb hK hP bk_ws_D hS (bk_off k i) 1 eW rfl (nb_in hj h.1.1 (by omega)) hd (fun H1 locs1 hP1 hD1 hS1 => ?_)
      rw [nb_clamp hj, bk_updL (F := Int64.ofInt) h.1.1] at hP1
      rw [← bk_en_l (ba := ba) (cA := cA) (M := bk_up M k i j z) hk16 hso, bk_ws_set hq (fun k' i' j' hne => bk_up_ne hne)] at hP1
      exact hk _ _ _ _ (h2 _ rfl) hs' hl hn (bk_okm_a hM hk16 (by rw [hso]; exact hz)) ((bk_up_13 (by omega)).trans h13) H1 locs1 cells slots lsr hP1 hS1 hc hsl hL
    · have h2 := h.2
      rw [nb_beq hso] at h2
      exact h2.elim
  · exact h.elim
theorem bk_s_bastore (C0 : bk_Cx p R s m args c cc own nL ba b0 aK cA D sc) (hd : decode cc pc = .ok (.bastore, 1)) (h : bk_op Ca (bk_X p l e R s m args below meth c ba b0 aK cA D sc nL mc ms Z) Q (.bastore) K b ls st M) (hk : ∀ b ls st M, K b ls st M → bk_X p l e R s m args below meth c ba b0 aK cA D sc nL mc ms Z b (pc + 1) ls st M) : bk_X p l e R s m args below meth c ba b0 aK cA D sc nL mc ms Z b pc ls st M := by
  obtain ⟨hx, hb, hml, hown, hts, hK, hSt, hR⟩ := C0
  simp only [bk_op] at h
  split at h
  · rename_i z j k i st'
    intro hs hl hn hM h13 H locs cells slots lsr hP hS hc hsl hL
    have hj : bk_r32 j := hs (.inl j) (by simp)
    have hz : bk_okv (.inl z) := hs (.inl z) (by simp)
    obtain ⟨hq, hk16⟩ := bk_arr (hs (.inr (.inr (k, i))) (by simp)) h.1.1 h.1.2
    have hs' : ∀ w ∈ st', bk_okv w := fun w hw => hs w (by simp [hw])
    by_cases hso : bk_so k = 2
    · have h2 := h.2
      rw [hso] at h2
      simp only [Nat.beq, cond_true] at h2
      have hz01 := h2.1
      have h2 := h2.2
      have hnar : vp_nar .boolean (Int32.ofInt z) = Int32.ofInt z := by rcases hz01 with rfl | rfl <;> decide
      have hub := bk_sz_ub k
      have eW := bk_ws_at (ba := ba) (cA := cA) (M := M) hq
      rw [bk_en_z hk16 hso] at eW
      have had := bk_ad_lay (ba := ba) (b0 := b0) (aK := aK) hq
      show W p l e R s m args below meth c H locs cells slots Z (F0 m pc lsr (.int (Int32.ofInt z) :: .int (Int32.ofInt j) :: .ref (bk_ad ba b0 aK k i) :: st'.map (bk_rv ba b0 aK)))
      rw [had]
      refine va_zast hx hb hK hP bk_ws_D hS (bk_off k i) 2 eW rfl (nb_in hj h.1.1 (by omega)) hd (fun H1 locs1 hP1 hD1 hS1 => ?_)
      rw [hnar] at hP1
      rw [nb_clamp hj, bk_upd (F := Int32.ofInt) h.1.1] at hP1
      rw [← bk_en_z (ba := ba) (cA := cA) (M := bk_up M k i j z) hk16 hso, bk_ws_set hq (fun k' i' j' hne => bk_up_ne hne)] at hP1
      exact hk _ _ _ _ (h2 _ rfl) hs' hl hn (bk_okm_a hM hk16 (by rw [hso]; exact hz)) ((bk_up_13 (by omega)).trans h13) H1 locs1 cells slots lsr hP1 hS1 hc hsl hL
    · have h2 := h.2
      rw [nb_beq hso] at h2
      exact h2.elim
  · exact h.elim
theorem bk_s_arraylength (C0 : bk_Cx p R s m args c cc own nL ba b0 aK cA D sc) (hd : decode cc pc = .ok (.arraylength, 1)) (h : bk_op Ca (bk_X p l e R s m args below meth c ba b0 aK cA D sc nL mc ms Z) Q (.arraylength) K b ls st M) (hk : ∀ b ls st M, K b ls st M → bk_X p l e R s m args below meth c ba b0 aK cA D sc nL mc ms Z b (pc + 1) ls st M) : bk_X p l e R s m args below meth c ba b0 aK cA D sc nL mc ms Z b pc ls st M := by
  obtain ⟨hx, hb, hml, hown, hts, hK, hSt, hR⟩ := C0
  simp only [bk_op] at h
  split at h
  · rename_i k i st'
    intro hs hl hn hM h13 H locs cells slots lsr hP hS hc hsl hL
    have hs' : ∀ w ∈ st', bk_okv w := fun w hw => hs w (by simp [hw])
    by_cases hk16 : 16 ≤ k
    · have h2 : K b ls (.inl (bk_sz k) :: st') M := by rw [Nat.ble_eq_true_of_le hk16] at h; exact h
      have hq := bk_arr2 (hs (.inr (.inr (k, i))) (by simp)) hk16
      have hnn := bk_sz_nn k
      have hub := bk_sz_ub k
      have eW := bk_ws_at (ba := ba) (cA := cA) (M := M) hq
      have had := bk_ad_lay (ba := ba) (b0 := b0) (aK := aK) hq
      show W p l e R s m args below meth c H locs cells slots Z (F0 m pc lsr (.ref (bk_ad ba b0 aK k i) :: st'.map (bk_rv ba b0 aK)))
      rw [had]
      have hv : Int32.ofNat (bk_sz k).toNat = Int32.ofInt (bk_sz k) := by
        rw [← Int32.toInt_inj, nb_i (by unfold bk_r32; omega), Int32.toInt_ofNat_of_lt (by omega)]
        omega
      have go := hk _ _ _ _ h2 (bk_ocons (show bk_r32 (bk_sz k) by unfold bk_r32; omega) hs') hl hn hM h13 H locs cells slots lsr hP hS hc hsl hL
      have hso : bk_so k = 0 ∨ bk_so k = 1 ∨ bk_so k = 2 ∨ bk_so k = 3 := by
        have : bk_so k < 4 := Nat.mod_lt _ (by omega)
        omega
      rcases hso with hso | hso | hso | hso
      · rw [bk_en_i hk16 hso] at eW
        exact va_alen hx hb hK hP (bk_off k i) 0 eW (ty := .int) rfl hv hd go
      · rw [bk_en_l hk16 hso] at eW
        exact va_alen hx hb hK hP (bk_off k i) 1 eW (ty := .long) rfl hv hd go
      · rw [bk_en_z hk16 hso] at eW
        exact va_alen hx hb hK hP (bk_off k i) 2 eW (ty := .boolean) rfl hv hd go
      · rw [bk_en_q hk16 hso] at eW
        rcases bk_aa_k _ hq hso hk16 with e27 | e55
        · have e27 : k = 27 := e27
          rw [if_pos e27] at eW
          exact va_alen hx hb hK hP (bk_off k i) 3 eW (ty := .object "BanksDealt$Plain") rfl hv hd go
        · have e55 : k = 55 := e55
          rw [if_neg (by omega)] at eW
          exact va_alen hx hb hK hP (bk_off k i) 4 eW (ty := .object "BanksDealt$Image") rfl hv hd go
    · rw [Bool.eq_false_iff.mpr (fun q => hk16 (Nat.le_of_ble_eq_true q))] at h
      exact h.elim
  · exact h.elim
theorem bk_s_saload (C0 : bk_Cx p R s m args c cc own nL ba b0 aK cA D sc) (hd : decode cc pc = .ok (.iaload, 1)) (h : bk_op Ca (bk_X p l e R s m args below meth c ba b0 aK cA D sc nL mc ms Z) Q (.saload) K b ls st M) (hk : ∀ b ls st M, K b ls st M → bk_X p l e R s m args below meth c ba b0 aK cA D sc nL mc ms Z b (pc + 1) ls st M) : bk_X p l e R s m args below meth c ba b0 aK cA D sc nL mc ms Z b pc ls st M := by
  obtain ⟨hx, hb, hml, hown, hts, hK, hSt, hR⟩ := C0
  simp only [bk_op] at h
  split at h
  · rename_i j k i st'
    intro hs hl hn hM h13 H locs cells slots lsr hP hS hc hsl hL
    have hj : bk_r32 j := hs (.inl j) (by simp)
    have hs' : ∀ w ∈ st', bk_okv w := fun w hw => hs w (by simp [hw])
    by_cases hk13 : k = 13
    · subst hk13
      have h2 : ((0 ≤ j ∧ j < M 13 1 0) ∧ K b ls (.inl (M 13 0 j) :: st') M) := h
      show W p l e R s m args below meth c H locs cells slots Z (F0 m pc lsr (.int (Int32.ofInt j) :: .ref b0 :: st'.map (bk_rv ba b0 aK)))
      have hlen := hM.2.2
      have hin : vp_in (Int32.ofInt j) (sc 1 0).toNat := nb_in hj h2.1.1 (by rw [← h13]; omega)
      refine va_sld hx hb hSt.1.1 hSt.1.2.1 (fun q => by have q1 := q.1; have := hSt.1.2.2; omega) hS hin hd ?_
      rw [nb_clamp hj, show ((j.toNat : Nat) : Int) = j by omega, ← h13]
      exact hk _ _ _ _ h2.2 (bk_ocons (hlen.2.2 j h2.1.1 h2.1.2) hs') hl hn hM h13 H locs cells slots lsr hP hS hc hsl hL
    · rw [nb_beq hk13] at h
      exact h.elim
  · exact h.elim
theorem bk_s_swap (C0 : bk_Cx p R s m args c cc own nL ba b0 aK cA D sc) (hd : decode cc pc = .ok (.arraylength, 1)) (h : bk_op Ca (bk_X p l e R s m args below meth c ba b0 aK cA D sc nL mc ms Z) Q (.swap) K b ls st M) (hk : ∀ b ls st M, K b ls st M → bk_X p l e R s m args below meth c ba b0 aK cA D sc nL mc ms Z b (pc + 1) ls st M) : bk_X p l e R s m args below meth c ba b0 aK cA D sc nL mc ms Z b pc ls st M := by
  obtain ⟨hx, hb, hml, hown, hts, hK, hSt, hR⟩ := C0
  simp only [bk_op] at h
  split at h
  · rename_i k i st'
    intro hs hl hn hM h13 H locs cells slots lsr hP hS hc hsl hL
    have hs' : ∀ w ∈ st', bk_okv w := fun w hw => hs w (by simp [hw])
    by_cases hk13 : k = 13
    · subst hk13
      have h2 : K b ls (.inl (M 13 1 0) :: st') M := h
      show W p l e R s m args below meth c H locs cells slots Z (F0 m pc lsr (.ref b0 :: st'.map (bk_rv ba b0 aK)))
      have hlen := hM.2.2
      refine va_slen hx hb hSt.1.1 hSt.1.2.1 (fun q => by have q1 := q.1; have := hSt.1.2.2; omega) hS hd ?_
      have hv : Int32.ofNat (sc 1 0).toNat = Int32.ofInt (M 13 1 0) := by
        rw [← h13, ← Int32.toInt_inj, nb_i (by unfold bk_r32; omega), Int32.toInt_ofNat_of_lt (by omega)]
        omega
      rw [hv]
      exact hk _ _ _ _ h2 (bk_ocons (show bk_r32 (M 13 1 0) by unfold bk_r32; omega) hs') hl hn hM h13 H locs cells slots lsr hP hS hc hsl hL
    · rw [nb_beq hk13] at h
      exact h.elim
  · exact h.elim
theorem bk_s_getfield (C0 : bk_Cx p R s m args c cc own nL ba b0 aK cA D sc) {f n : Nat} (hf : (own, n, f) ∈ bk_fl) (hd : decode cc pc = .ok (.getfield n, 3)) (h : bk_op Ca (bk_X p l e R s m args below meth c ba b0 aK cA D sc nL mc ms Z) Q (.getfield f) K b ls st M) (hk : ∀ b ls st M, K b ls st M → bk_X p l e R s m args below meth c ba b0 aK cA D sc nL mc ms Z b (pc + 3) ls st M) : bk_X p l e R s m args below meth c ba b0 aK cA D sc nL mc ms Z b pc ls st M := by
  obtain ⟨hx, hb, hml, hown, hts, hK, hSt, hR⟩ := C0
  simp only [bk_op] at h
  obtain ⟨f1, f2, f3, -⟩ := bk_fl_ok _ hf
  split at h
  · rename_i k i st'
    unfold bk_getf at h
    intro hs hl hn hM h13 H locs cells slots lsr hP hS hc hsl hL
    have hs' : ∀ w ∈ st', bk_okv w := fun w hw => hs w (by simp [hw])
    by_cases hkk : k = f / 64 % 16
    · have hk13 : k < 13 := by rw [hkk]; exact f1
      have hq := bk_obj (hs (.inr (.inr (k, i))) (by simp)) hk13
      have eW := bk_ws_at (ba := ba) (cA := cA) (M := M) hq
      rw [bk_en_o hk13] at eW
      have had := bk_ad_lay (ba := ba) (b0 := b0) (aK := aK) hq
      have hsl2 : f % 64 < bk_n k := by rw [hkk]; exact f2
      have hq3 : f / 1024 = bk_fd k (f % 64) := by rw [hkk]; exact f3
      have hfd : bk_fd k (f % 64) % 8 = f / 1024 % 8 := by rw [← hq3]
      have hk2 : bk_fd k (f % 64) / 8 % 128 = f / 8192 % 128 := by rw [← hq3]; omega
      have hb2 : bk_fd k (f % 64) / 1024 = f / 1048576 := by rw [← hq3]; omega
      have hlk : (Cond.fieldLink (bk_R own) n (bk_F k (f % 64)).1 (bk_F k (f % 64)).2.1 (bk_F k (f % 64)).2.2.1).before args s = true := by rw [hkk]; exact hts _ (bk_fw_in hf)
      show W p l e R s m args below meth c H locs cells slots Z (F0 m pc lsr (.ref (bk_ad ba b0 aK k i) :: st'.map (bk_rv ba b0 aK)))
      rw [had]
      refine va_get hx hb hts (bk_lay_W hk13) hown hK hP (bk_off k i) eW (bk_cl k hk13) (f % 64) hsl2 hlk (fun x hx => hx) (v := bk_fv ba M k i (f % 64)) (by simp [hsl2]) hd ?_
      have hM1 := hM.1 k i (f % 64) hq hk13 hsl2
      rw [hkk, show Nat.beq (f / 64 % 16) (f / 64 % 16) = true from Nat.beq_refl _] at h
      simp only [cond_true] at h
      rw [← hkk] at h
      unfold bk_fv
      rw [hfd, hk2] at hM1
      rw [hfd, hk2, hb2]
      split at h
      · rename_i e0
        rw [e0] at hM1 ⊢
        exact hk _ _ _ _ h (bk_ocons hM1 hs') hl hn hM h13 H locs cells slots lsr hP hS hc hsl hL
      · rename_i e0
        rw [e0] at hM1 ⊢
        exact hk _ _ _ _ h (bk_ocons hM1 hs') hl hn hM h13 H locs cells slots lsr hP hS hc hsl hL
      · rename_i e0
        rw [e0]
        have hz := bk_fd_ref _ hq hk13 (f % 64) hsl2 (by rw [hfd]; exact e0)
        have hz : (f / 8192 % 128, i + f / 1048576) ∈ bk_lay := by rw [← hk2, ← hb2]; exact hz
        have go := hk _ _ _ _ h (bk_ocons (Or.inr (Or.inr hz)) hs') hl hn hM h13 H locs cells slots lsr hP hS hc hsl hL
        rw [List.map_cons, show bk_rv ba b0 aK (.inr (.inr (f / 8192 % 128, i + f / 1048576))) = .ref (ba + bk_off (f / 8192 % 128) (i + f / 1048576)) from congrArg Value.ref (bk_ad_lay hz)] at go
        exact go
      · rename_i e0
        rw [e0] at hM1 ⊢
        have go := hk _ _ _ _ h (bk_ocons (Or.inr (Or.inr hM1)) hs') hl hn hM h13 H locs cells slots lsr hP hS hc hsl hL
        rw [List.map_cons, show bk_rv ba b0 aK (.inr (.inr (f / 8192 % 128, (M k i (Int.ofNat (f % 64))).toNat))) = .ref (ba + bk_off (f / 8192 % 128) (M k i (Int.ofNat (f % 64))).toNat) from congrArg Value.ref (bk_ad_lay hM1)] at go
        exact go
      · rename_i e0 e1 e2 e3
        have hM1 : bk_r32 (M k i (Int.ofNat (f % 64))) := by
          revert hM1
          split
          · rename_i q; exact absurd q e1
          · rename_i q; exact absurd q e2
          · rename_i q; exact absurd q e3
          · exact fun z => z
        have go := hk _ _ _ _ h (bk_ocons (show bk_okv (.inl (M k i (Int.ofNat (f % 64)))) from hM1) hs') hl hn hM h13 H locs cells slots lsr hP hS hc hsl hL
        split
        · rename_i q; exact absurd q e1
        · rename_i q; exact absurd q e2
        · rename_i q; exact absurd q e3
        · exact go
    · rw [nb_beq hkk] at h
      exact h.elim
  · exact h.elim
theorem bk_s_putfield (C0 : bk_Cx p R s m args c cc own nL ba b0 aK cA D sc) {f n : Nat} (hf : (own, n, f) ∈ bk_fl) (hfin : (bk_F (f / 64 % 16) (f % 64)).2.2.2 = false) (hd : decode cc pc = .ok (.putfield n, 3)) (h : bk_op Ca (bk_X p l e R s m args below meth c ba b0 aK cA D sc nL mc ms Z) Q (.putfield f) K b ls st M) (hk : ∀ b ls st M, K b ls st M → bk_X p l e R s m args below meth c ba b0 aK cA D sc nL mc ms Z b (pc + 3) ls st M) : bk_X p l e R s m args below meth c ba b0 aK cA D sc nL mc ms Z b pc ls st M := by
  obtain ⟨hx, hb, hml, hown, hts, hK, hSt, hR⟩ := C0
  simp only [bk_op] at h
  obtain ⟨f1, f2, f3, -⟩ := bk_fl_ok _ hf
  split at h
  · rename_i v k i st'
    unfold bk_putf at h
    intro hs hl hn hM h13 H locs cells slots lsr hP hS hc hsl hL
    have hv0 : bk_okv v := hs v (by simp)
    have hs' : ∀ w ∈ st', bk_okv w := fun w hw => hs w (by simp [hw])
    by_cases hkk : k = f / 64 % 16
    · have hk13 : k < 13 := by rw [hkk]; exact f1
      have hq := bk_obj (hs (.inr (.inr (k, i))) (by simp)) hk13
      have eW := bk_ws_at (ba := ba) (cA := cA) (M := M) hq
      rw [bk_en_o hk13] at eW
      have had := bk_ad_lay (ba := ba) (b0 := b0) (aK := aK) hq
      have hsl2 : f % 64 < bk_n k := by rw [hkk]; exact f2
      have hq3 : f / 1024 = bk_fd k (f % 64) := by rw [hkk]; exact f3
      have hfd : bk_fd k (f % 64) % 8 = f / 1024 % 8 := by rw [← hq3]
      have hk2 : bk_fd k (f % 64) / 8 % 128 = f / 8192 % 128 := by rw [← hq3]; omega
      have hlk : (Cond.fieldLink (bk_R own) n (bk_F k (f % 64)).1 (bk_F k (f % 64)).2.1 (bk_F k (f % 64)).2.2.1).before args s = true := by rw [hkk]; exact hts _ (bk_fw_in hf)
      have hfin' : (bk_F k (f % 64)).2.2.2 = false := by rw [hkk]; exact hfin
      rw [hkk, show Nat.beq (f / 64 % 16) (f / 64 % 16) = true from Nat.beq_refl _] at h
      simp only [cond_true] at h
      rw [← hkk] at h
      show W p l e R s m args below meth c H locs cells slots Z (F0 m pc lsr (bk_rv ba b0 aK v :: .ref (bk_ad ba b0 aK k i) :: st'.map (bk_rv ba b0 aK)))
      rw [had]
      have key : ∀ z : Int, narrow (bk_ty k (f % 64)) (bk_rv ba b0 aK v) = bk_rv ba b0 aK v → fits (bk_ty k (f % 64)) (bk_rv ba b0 aK v) = true →
          bk_fv ba (bk_up M k i (Int.ofNat (f % 64)) z) k i (f % 64) = bk_rv ba b0 aK v → bk_okm (bk_up M k i (Int.ofNat (f % 64)) z) → K b ls st' (bk_up M k i (Int.ofNat (f % 64)) z) →
          W p l e R s m args below meth c H locs cells slots Z (F0 m pc lsr (bk_rv ba b0 aK v :: .ref (ba + bk_off k i) :: st'.map (bk_rv ba b0 aK))) := by
        intro z g1 g2 g3 g4 g5
        refine va_put hx hb hts (bk_lay_W hk13) (bk_ty k) (bk_ty_ok k hk13) (bk_nm_ok k hk13) hown hK hP bk_ws_D hS (bk_off k i) eW (bk_cl k hk13) (f % 64) hsl2 hlk (fun x hx => hx) hfin' (bk_ty_ok k hk13 _ hsl2) g1 g2 (by simp [hsl2]) hd (fun H1 locs1 hP1 hD1 hS1 => ?_)
        have e2 : ((List.range (bk_n k)).map (bk_fv ba M k i)).set (f % 64) (bk_rv ba b0 aK v) = (List.range (bk_n k)).map (bk_fv ba (bk_up M k i (Int.ofNat (f % 64)) z) k i) := by
          apply List.ext_getElem?
          intro j
          rw [List.getElem?_set]
          by_cases ej : f % 64 = j
          · subst ej
            rw [if_pos rfl, if_pos (by simp [hsl2]), List.getElem?_map, List.getElem?_range hsl2, Option.map_some, g3]
          · rw [if_neg ej, List.getElem?_map, List.getElem?_map]
            rcases Nat.lt_or_ge j (bk_n k) with q | q
            · rw [List.getElem?_range q, Option.map_some, Option.map_some]
              congr 1
              unfold bk_fv
              rw [bk_up_j (M := M) (k := k) (i := i) (v := z) (j := Int.ofNat (f % 64)) (j' := (j : Int)) (fun z => ej (Int.ofNat.inj z).symm)]
            · rw [List.getElem?_eq_none (by simp [q])]
              rfl
        rw [e2, ← bk_en_o (ba := ba) (cA := cA) (M := bk_up M k i (Int.ofNat (f % 64)) z) hk13, bk_ws_set hq (fun k' i' j' hne => bk_up_ne hne)] at hP1
        exact hk _ _ _ _ g5 hs' hl hn g4 ((bk_up_13 (by omega)).trans h13) H1 locs1 cells slots lsr hP1 hS1 hc hsl hL
      obtain ⟨t1, t2, t3, t4⟩ := bk_fd_ty k hk13 _ hsl2
      rw [hfd] at t1 t2 t3 t4
      split at h
      · rename_i z e0
        exact key z (by rw [t1 e0]; rfl) (by rw [t1 e0]; rfl) (by unfold bk_fv; rw [hfd, e0]; show Value.int _ = _; rw [show (((f % 64 : Nat) : Int)) = Int.ofNat (f % 64) from rfl, bk_up_at]; rfl) (bk_okm_f hM hk13 (by rw [hfd, e0]; exact hv0)) (h _ rfl)
      · rename_i z e0
        exact key z (by rw [t2 e0]; rfl) (by rw [t2 e0]; rfl) (by unfold bk_fv; rw [hfd, e0]; show Value.long _ = _; rw [show (((f % 64 : Nat) : Int)) = Int.ofNat (f % 64) from rfl, bk_up_at]; rfl) (bk_okm_f hM hk13 (by rw [hfd, e0]; exact hv0)) (h _ rfl)
      · rename_i k2 i2 e0
        by_cases hk22 : k2 = f / 8192 % 128
        · rw [hk22, show Nat.beq (f / 8192 % 128) (f / 8192 % 128) = true from Nat.beq_refl _] at h
          have hz : (k2, i2) ∈ bk_lay := by
            rcases hv0 with q | q | q
            · have := bk_fl_3 _ hf e0; have : f / 8192 % 128 < 13 := this; omega
            · have := bk_fl_3 _ hf e0; have : f / 8192 % 128 < 13 := this; omega
            · exact q
          have hrv : bk_rv ba b0 aK (.inr (.inr (k2, i2))) = .ref (ba + bk_off k2 i2) := congrArg Value.ref (bk_ad_lay hz)
          exact key i2 (by rw [hrv]; rcases t3 e0 with q | q <;> rw [q] <;> rfl) (by rw [hrv]; rcases t3 e0 with q | q <;> rw [q] <;> rfl) (by rw [hrv]; unfold bk_fv; rw [hfd, e0]; show Value.ref _ = _; rw [show (((f % 64 : Nat) : Int)) = Int.ofNat (f % 64) from rfl, bk_up_at, hk2, hk22]; rfl) (bk_okm_f hM hk13 (by rw [hfd, e0, hk2, ← hk22]; exact hz)) (h _ rfl)
        · rw [nb_beq hk22] at h
          exact h.elim
      · rename_i z e0
        have hz01 := h.1
        exact key z (by rw [t4 e0]; rcases hz01 with rfl | rfl <;> rfl) (by rw [t4 e0]; rcases hz01 with rfl | rfl <;> rfl) (by unfold bk_fv; rw [hfd, e0]; show Value.int _ = _; rw [show (((f % 64 : Nat) : Int)) = Int.ofNat (f % 64) from rfl, bk_up_at]; rfl) (bk_okm_f hM hk13 (by rw [hfd, e0]; exact hv0)) (h.2 _ rfl)
      · exact h.elim
    · rw [nb_beq hkk] at h
      exact h.elim
  · exact h.elim
end MEM
end
section
theorem bk_sw_at {x : Int} {F : Int → Prop} : ∀ {os : List Int} {lo : Int}, bk_sw x F lo os → ∀ (n : Nat) (t : Int), os[n]? = some t → x = lo + n → F t
  | [], _, _, n, t, h, _ => by simp at h
  | w :: os, lo, h, 0, t, h1, h2 => by
    simp at h1
    subst h1
    exact h.1 (by omega)
  | w :: os, lo, h, n + 1, t, h1, h2 => bk_sw_at h.2 n t (by simpa using h1) (by push_cast at h2; omega)
theorem bk_lsw_at {x : Int} {F : Int → Prop} {d pc d' : Int} (hd : pc + d' = d) : ∀ {qs ps : List (Int × Int)}, qs.map (fun q => (q.1, pc + q.2)) = ps → bk_lsw x F d ps → ∃ t, pc + Op.lookupswitch.offset qs d' x = t ∧ F t ∧ (t = d ∨ t ∈ ps.map (·.2))
  | [], ps, h, h2 => by
    subst h
    exact ⟨d, hd, h2, Or.inl rfl⟩
  | (a, w) :: qs, ps, h, h2 => by
    subst h
    rw [Op.lookupswitch.offset_cons]
    by_cases e : a = x
    · rw [if_pos e]
      exact ⟨pc + w, rfl, h2.1 e.symm, Or.inr (by simp)⟩
    · rw [if_neg e]
      obtain ⟨t, t1, t2, t3⟩ := bk_lsw_at hd rfl (h2.2 (fun z => e z.symm))
      exact ⟨t, t1, t2, t3.elim Or.inl (fun z => Or.inr (by simp at z ⊢; exact Or.inr z))⟩
set_option maxRecDepth 20000 in
theorem bk_p_sys : bk_sub [.initialized "java/lang/System"] tables_1 = true ∧ bk_sub [.initialized "java/lang/Math"] tables_1 = true ∧ bk_sub [.static arraycopyName] tables_1 = true ∧ bk_sub [.native arraycopyName] tables_1 = true ∧ bk_sub [.static Lib.Math.min.name] tables_1 = true ∧ bk_sub [.static Lib.Math.max.name] tables_1 = true ∧ bk_sub [.static Lib.Math.abs.name] tables_1 = true := by decide +kernel
set_option maxRecDepth 20000 in
theorem bk_p_min : bk_sub [.code Lib.Math.min.name Lib.Math.min.code 2 (some .int)] tables_1 = true := by decide +kernel
set_option maxRecDepth 20000 in
theorem bk_p_max : bk_sub [.code Lib.Math.max.name Lib.Math.max.code 2 (some .int)] tables_1 = true := by decide +kernel
set_option maxRecDepth 20000 in
theorem bk_p_abs : bk_sub [.code Lib.Math.abs.name Lib.Math.abs.code 1 (some .int)] tables_1 = true := by decide +kernel
set_option maxRecDepth 20000 in
theorem bk_p_l : bk_sub (bk_pl0.map fun q => .methodLink (bk_R q.1) q.2 arraycopyName) tables_1 = true ∧ bk_sub (bk_pl1.map fun q => .methodLink (bk_R q.1) q.2 Lib.Math.min.name) tables_1 = true ∧ bk_sub (bk_pl2.map fun q => .methodLink (bk_R q.1) q.2 Lib.Math.max.name) tables_1 = true ∧ bk_sub (bk_pl3.map fun q => .methodLink (bk_R q.1) q.2 Lib.Math.abs.name) tables_1 = true := by decide +kernel
theorem bk_w1 {w : Cond} (h : bk_sub [w] tables_1 = true) (hg : goodWord w = true) : w ∈ bk_W := bk_W_of (bk_sub_mem h _ List.mem_cons_self) hg
theorem bk_wl {f : Nat × Nat → Cond} {L : List (Nat × Nat)} (h : bk_sub (L.map f) tables_1 = true) {q : Nat × Nat} (hq : q ∈ L) (hg : goodWord (f q) = true) : f q ∈ bk_W := bk_W_of (bk_sub_mem h _ (List.mem_map.mpr ⟨q, hq, rfl⟩)) hg
theorem bk_cats {ba b0 : Nat} {aK : Nat → Nat} : ∀ (st : List bk_V), ((st.map (bk_rv ba b0 aK)).map fun v => v.category).sum ≤ 2 * st.length
  | [] => Nat.zero_le _
  | v :: st => by
    have h := bk_cats (ba := ba) (b0 := b0) (aK := aK) st
    have h2 := lv_cat (bk_rv ba b0 aK v)
    simp only [List.map_cons, List.sum_cons, List.length_cons]
    omega
theorem bk_cpyI {F : Int → Int32} {M : bk_M} {sk si dk di : Nat} {sp dp n : Int} (h1 : 0 ≤ sp) (h2 : 0 ≤ dp) (h3 : 0 ≤ n) : va_cpy (fun j : Nat => F (M sk si j)) (fun j : Nat => F (M dk di j)) sp.toNat dp.toNat n.toNat = fun j : Nat => F (bk_cpy M sk si sp dk di dp n dk di j) := by
  funext j
  unfold va_cpy bk_cpy
  by_cases e : dp.toNat ≤ j ∧ j < dp.toNat + n.toNat
  · rw [if_pos e, if_pos ⟨rfl, rfl, by omega, by omega⟩]
    have e2 : ((sp.toNat + (j - dp.toNat) : Nat) : Int) = sp + ((j : Int) - dp) := by omega
    show F (M sk si ((sp.toNat + (j - dp.toNat) : Nat) : Int)) = _
    rw [e2]
  · rw [if_neg e, if_neg (by rintro ⟨-, -, a, b⟩; omega)]
theorem bk_cpyL {F : Int → Int64} {M : bk_M} {sk si dk di : Nat} {sp dp n : Int} (h1 : 0 ≤ sp) (h2 : 0 ≤ dp) (h3 : 0 ≤ n) : va_cpy (fun j : Nat => F (M sk si j)) (fun j : Nat => F (M dk di j)) sp.toNat dp.toNat n.toNat = fun j : Nat => F (bk_cpy M sk si sp dk di dp n dk di j) := by
  funext j
  unfold va_cpy bk_cpy
  by_cases e : dp.toNat ≤ j ∧ j < dp.toNat + n.toNat
  · rw [if_pos e, if_pos ⟨rfl, rfl, by omega, by omega⟩]
    have e2 : ((sp.toNat + (j - dp.toNat) : Nat) : Int) = sp + ((j : Int) - dp) := by omega
    show F (M sk si ((sp.toNat + (j - dp.toNat) : Nat) : Int)) = _
    rw [e2]
  · rw [if_neg e, if_neg (by rintro ⟨-, -, a, b⟩; omega)]
theorem bk_cpy_ne {M : bk_M} {sk si dk di : Nat} {sp dp n : Int} {k i : Nat} {j : Int} (h : (k, i) ≠ (dk, di)) : bk_cpy M sk si sp dk di dp n k i j = M k i j := by
  unfold bk_cpy
  rw [if_neg]
  rintro ⟨a, b, -⟩
  exact h (by rw [a, b])
theorem bk_okm_c {M : bk_M} (h : bk_okm M) {sk si dk di : Nat} {sp dp n : Int} (hs : (sk, si) ∈ bk_lay) (hk : 16 ≤ dk) (hk2 : 16 ≤ sk) (hso : bk_so sk = bk_so dk) (h1 : 0 ≤ sp) (h3 : sp + n ≤ bk_sz sk) : bk_okm (bk_cpy M sk si sp dk di dp n) := by
  refine ⟨fun k' i' j' q1 q2 q3 => ?_, fun k' i' j' q1 q2 q3 q4 => ?_, ?_⟩
  · rw [bk_cpy_ne (fun q => by have := congrArg Prod.fst q; simp at this; omega)]
    exact h.1 k' i' j' q1 q2 q3
  · unfold bk_cpy
    by_cases e : k' = dk ∧ i' = di ∧ dp ≤ j' ∧ j' < dp + n
    · rw [if_pos e]
      obtain ⟨rfl, rfl, e3, e4⟩ := e
      have := h.2.1 sk si (sp + (j' - dp)) hs (by omega) (by omega) (by omega)
      rw [hso] at this
      exact this
    · rw [if_neg e]; exact h.2.1 k' i' j' q1 q2 q3 q4
  · have : bk_cpy M sk si sp dk di dp n 13 = M 13 := by
      funext i' j'
      exact bk_cpy_ne (fun q => by have := congrArg Prod.fst q; simp at this; omega)
    rw [this]; exact h.2.2
section CALLS
variable {p : Program} {l : Launch} {e : Env} {R : Room} {s : State} {m : MethodId} {args : Array Value} {below : List Frame} {meth : Method} {c : Code} {cc : ByteArray} {own : Nat}
variable {ba b0 : Nat} {aK : Nat → Nat} {cA : Nat → ClassId} {D : va_G} {sc : Nat → Int → Int} {nL mc ms : Nat} {Z : State → Prop}
variable {Ca : bk_Ca} {Q : bk_Q} {K : bk_K} {b pc : Nat} {ls st : List bk_V} {M : bk_M}
theorem bk_s_tableswitch (C0 : bk_Cx p R s m args c cc own nL ba b0 aK cA D sc) {d lo hi d2 : Int} {ts offs : Array Int} {len : Nat} (hd0 : (pc : Int) + d2 = d) (hd1 : 0 ≤ d) (hoffs : offs.toList.map (fun t => (pc : Int) + t) = ts.toList) (hpos : ∀ t ∈ ts.toList, (0 : Int) ≤ t) (hhi : hi = lo + ts.toList.length - 1) (hd : decode cc pc = .ok (.tableswitch d2 lo hi offs, len)) (h : bk_op Ca (bk_X p l e R s m args below meth c ba b0 aK cA D sc nL mc ms Z) Q (.tableswitch d lo hi ts) K b ls st M) (hk : ∀ b ls st M, K b ls st M → bk_X p l e R s m args below meth c ba b0 aK cA D sc nL mc ms Z b (pc + len) ls st M) : bk_X p l e R s m args below meth c ba b0 aK cA D sc nL mc ms Z b pc ls st M := by
  obtain ⟨hx, hb, hml, hown, hts, hK, hSt, hR⟩ := C0
  simp only [bk_op] at h
  split at h
  · rename_i x st'
    intro hs hl hn hM h13 H locs cells slots lsr hP hS hc hsl hL
    have hx0 : bk_r32 x := hs (.inl x) (by simp)
    have hs' : ∀ w ∈ st', bk_okv w := fun w hw => hs w (by simp [hw])
    by_cases hin : x < lo ∨ hi < x
    · exact lv_tableOut hx hb hd (tgt := d.toNat) (by rw [nb_i hx0]; exact hin) (by omega) (h.2 hin hs' hl hn hM h13 H locs cells slots lsr hP hS hc hsl hL)
    · have hin1 : ¬ x < lo := fun q => hin (Or.inl q)
      have hin2 : ¬ hi < x := fun q => hin (Or.inr q)
      have hlen : (x - lo).toNat < ts.toList.length := by omega
      obtain ⟨o1, e1⟩ : ∃ o1, ts.toList[(x - lo).toNat]? = some o1 := ⟨_, List.getElem?_eq_getElem hlen⟩
      have e2 := e1
      rw [← hoffs, List.getElem?_map] at e2
      obtain ⟨off, g1, g2⟩ := Option.map_eq_some_iff.mp e2
      have g3 := hpos _ (List.mem_of_getElem? e1)
      refine lv_tableIn hx hb hd (tgt := o1.toNat) (off := off) (by rw [nb_i hx0]; exact hin1) (by rw [nb_i hx0]; exact hin2) (by rw [nb_i hx0, ← Array.getElem?_toList]; exact g1) (by omega) ?_
      exact bk_sw_at h.1 _ _ e1 (by omega) hs' hl hn hM h13 H locs cells slots lsr hP hS hc hsl hL
  · exact h.elim
theorem bk_s_lookupswitch (C0 : bk_Cx p R s m args c cc own nL ba b0 aK cA D sc) {d d2 : Int} {ps qs : Array (Int × Int)} {len : Nat} (hd0 : (pc : Int) + d2 = d) (hd1 : 0 ≤ d) (hqs : qs.toList.map (fun q => (q.1, (pc : Int) + q.2)) = ps.toList) (hpos : ∀ t ∈ ps.toList, (0 : Int) ≤ t.2) (hsort : (qs.toList.zip (qs.toList.drop 1)).all (fun (a, next) => a.1 < next.1) = true) (hd : decode cc pc = .ok (.lookupswitch d2 qs, len)) (h : bk_op Ca (bk_X p l e R s m args below meth c ba b0 aK cA D sc nL mc ms Z) Q (.lookupswitch d ps) K b ls st M) (hk : ∀ b ls st M, K b ls st M → bk_X p l e R s m args below meth c ba b0 aK cA D sc nL mc ms Z b (pc + len) ls st M) : bk_X p l e R s m args below meth c ba b0 aK cA D sc nL mc ms Z b pc ls st M := by
  obtain ⟨hx, hb, hml, hown, hts, hK, hSt, hR⟩ := C0
  simp only [bk_op] at h
  split at h
  · rename_i x st'
    intro hs hl hn hM h13 H locs cells slots lsr hP hS hc hsl hL
    have hx0 : bk_r32 x := hs (.inl x) (by simp)
    have hs' : ∀ w ∈ st', bk_okv w := fun w hw => hs w (by simp [hw])
    obtain ⟨t, t1, t2, t3⟩ := bk_lsw_at hd0 hqs h
    have ht : 0 ≤ t := by
      rcases t3 with rfl | t3
      · exact hd1
      · obtain ⟨q, q1, q2⟩ := List.mem_map.mp t3
        rw [← q2]; exact hpos q q1
    exact lv_lookup hx hb hd (tgt := t.toNat) (off := Op.lookupswitch.offset qs.toList d2 x) hsort (by rw [nb_i hx0]) (by omega) (t2 hs' hl hn hM h13 H locs cells slots lsr hP hS hc hsl hL)
  · exact h.elim
theorem bk_s_min (C0 : bk_Cx p R s m args c cc own nL ba b0 aK cA D sc) {k : Nat} (hpl : (own, k) ∈ bk_pl1) (hmc : mc ≤ R.cells ∧ ms ≤ R.slots) (hd : decode cc pc = .ok (.invokestatic k, 3)) (h : bk_op Ca (bk_X p l e R s m args below meth c ba b0 aK cA D sc nL mc ms Z) Q (.invokevirtual 1) K b ls st M) (hk : ∀ b ls st M, K b ls st M → bk_X p l e R s m args below meth c ba b0 aK cA D sc nL mc ms Z b (pc + 3) ls st M) : bk_X p l e R s m args below meth c ba b0 aK cA D sc nL mc ms Z b pc ls st M := by
  obtain ⟨hx, hb, hml, hown, hts, hK, hSt, hR⟩ := C0
  revert h
  cases st with
  | nil => intro h; exact h.elim
  | cons v1 st1 =>
  rcases v1 with y | v1
  rotate_left
  · intro h; exact h.elim
  cases st1 with
  | nil => intro h; exact h.elim
  | cons v2 st' =>
  rcases v2 with x | v2
  rotate_left
  · intro h; exact h.elim
  intro h
  by_cases hle : st'.length ≤ 4
  · have h : K b ls (.inl (if x ≤ y then x else y) :: st') M := by
      have h : (bif Nat.ble st'.length 4 then _ else False) := h
      rw [Nat.ble_eq_true_of_le hle] at h
      exact h
    intro hs hl hn hM h13 H locs cells slots lsr hP hS hc hsl hL
    have hy : bk_r32 y := hs (.inl y) (by simp)
    have hx0 : bk_r32 x := hs (.inl x) (by simp)
    have hs' : ∀ w ∈ st', bk_okv w := fun w hw => hs w (by simp [hw])
    have hv : (if Int32.ofInt y < Int32.ofInt x then Int32.ofInt y else Int32.ofInt x) = Int32.ofInt (if x ≤ y then x else y) := by
      by_cases q : y < x
      · rw [if_pos ((nb_lt hy hx0).mpr q), if_neg (by omega)]
      · rw [if_neg (fun z => q ((nb_lt hy hx0).mp z)), if_pos (by omega)]
    have hrg : bk_r32 (if x ≤ y then x else y) := by
      by_cases q : x ≤ y
      · rw [if_pos q]; exact hx0
      · rw [if_neg q]; exact hy
    have hcat := bk_cats (ba := ba) (b0 := b0) (aK := aK) st'
    have hts2 : ∀ w, w ∈ bk_W → w.before args s = true := hts
    refine va_mmin hx hb (hml.trans hL.1.symm) hown (hts2 _ (bk_wl (f := fun q => .methodLink (bk_R q.1) q.2 Lib.Math.min.name) bk_p_l.2.1 hpl rfl)) (hts2 _ (bk_w1 bk_p_sys.2.2.2.2.1 rfl)) (hts2 _ (bk_w1 bk_p_sys.2.1 rfl)) (hts2 _ (bk_w1 bk_p_min rfl)) hR.1 (by omega) (by omega) (by omega) hd ?_
    rw [hv]
    exact hk _ _ _ _ h (bk_ocons hrg hs') hl hn hM h13 H locs cells slots lsr hP hS hc hsl hL
  · have h : (bif Nat.ble st'.length 4 then _ else False) := h
    rw [Bool.eq_false_iff.mpr (fun q => hle (Nat.le_of_ble_eq_true q))] at h
    exact h.elim
theorem bk_s_max (C0 : bk_Cx p R s m args c cc own nL ba b0 aK cA D sc) {k : Nat} (hpl : (own, k) ∈ bk_pl2) (hmc : mc ≤ R.cells ∧ ms ≤ R.slots) (hd : decode cc pc = .ok (.invokestatic k, 3)) (h : bk_op Ca (bk_X p l e R s m args below meth c ba b0 aK cA D sc nL mc ms Z) Q (.invokevirtual 2) K b ls st M) (hk : ∀ b ls st M, K b ls st M → bk_X p l e R s m args below meth c ba b0 aK cA D sc nL mc ms Z b (pc + 3) ls st M) : bk_X p l e R s m args below meth c ba b0 aK cA D sc nL mc ms Z b pc ls st M := by
  obtain ⟨hx, hb, hml, hown, hts, hK, hSt, hR⟩ := C0
  revert h
  cases st with
  | nil => intro h; exact h.elim
  | cons v1 st1 =>
  rcases v1 with y | v1
  rotate_left
  · intro h; exact h.elim
  cases st1 with
  | nil => intro h; exact h.elim
  | cons v2 st' =>
  rcases v2 with x | v2
  rotate_left
  · intro h; exact h.elim
  intro h
  by_cases hle : st'.length ≤ 4
  · have h : K b ls (.inl (if y ≤ x then x else y) :: st') M := by
      have h : (bif Nat.ble st'.length 4 then _ else False) := h
      rw [Nat.ble_eq_true_of_le hle] at h
      exact h
    intro hs hl hn hM h13 H locs cells slots lsr hP hS hc hsl hL
    have hy : bk_r32 y := hs (.inl y) (by simp)
    have hx0 : bk_r32 x := hs (.inl x) (by simp)
    have hs' : ∀ w ∈ st', bk_okv w := fun w hw => hs w (by simp [hw])
    have hv : (if Int32.ofInt x < Int32.ofInt y then Int32.ofInt y else Int32.ofInt x) = Int32.ofInt (if y ≤ x then x else y) := by
      by_cases q : x < y
      · rw [if_pos ((nb_lt hx0 hy).mpr q), if_neg (by omega)]
      · rw [if_neg (fun z => q ((nb_lt hx0 hy).mp z)), if_pos (by omega)]
    have hrg : bk_r32 (if y ≤ x then x else y) := by
      by_cases q : y ≤ x
      · rw [if_pos q]; exact hx0
      · rw [if_neg q]; exact hy
    have hcat := bk_cats (ba := ba) (b0 := b0) (aK := aK) st'
    have hts2 : ∀ w, w ∈ bk_W → w.before args s = true := hts
    refine va_mmax hx hb (hml.trans hL.1.symm) hown (hts2 _ (bk_wl (f := fun q => .methodLink (bk_R q.1) q.2 Lib.Math.max.name) bk_p_l.2.2.1 hpl rfl)) (hts2 _ (bk_w1 bk_p_sys.2.2.2.2.2.1 rfl)) (hts2 _ (bk_w1 bk_p_sys.2.1 rfl)) (hts2 _ (bk_w1 bk_p_max rfl)) hR.1 (by omega) (by omega) (by omega) hd ?_
    rw [hv]
    exact hk _ _ _ _ h (bk_ocons hrg hs') hl hn hM h13 H locs cells slots lsr hP hS hc hsl hL
  · have h : (bif Nat.ble st'.length 4 then _ else False) := h
    rw [Bool.eq_false_iff.mpr (fun q => hle (Nat.le_of_ble_eq_true q))] at h
    exact h.elim
theorem bk_s_abs (C0 : bk_Cx p R s m args c cc own nL ba b0 aK cA D sc) {k : Nat} (hpl : (own, k) ∈ bk_pl3) (hmc : mc ≤ R.cells ∧ ms ≤ R.slots) (hd : decode cc pc = .ok (.invokestatic k, 3)) (h : bk_op Ca (bk_X p l e R s m args below meth c ba b0 aK cA D sc nL mc ms Z) Q (.invokevirtual 3) K b ls st M) (hk : ∀ b ls st M, K b ls st M → bk_X p l e R s m args below meth c ba b0 aK cA D sc nL mc ms Z b (pc + 3) ls st M) : bk_X p l e R s m args below meth c ba b0 aK cA D sc nL mc ms Z b pc ls st M := by
  obtain ⟨hx, hb, hml, hown, hts, hK, hSt, hR⟩ := C0
  revert h
  cases st with
  | nil => intro h; exact h.elim
  | cons v2 st' =>
  rcases v2 with x | v2
  rotate_left
  · intro h; exact h.elim
  intro h
  by_cases hle : st'.length ≤ 4
  · have h : bk_r32 (-x) ∧ K b ls (.inl (if x < 0 then -x else x) :: st') M := by
      have h : bk_r32 (-x) ∧ (bif Nat.ble st'.length 4 then _ else False) := h
      rw [Nat.ble_eq_true_of_le hle] at h
      exact h
    intro hs hl hn hM h13 H locs cells slots lsr hP hS hc hsl hL
    have hx0 : bk_r32 x := hs (.inl x) (by simp)
    have hs' : ∀ w ∈ st', bk_okv w := fun w hw => hs w (by simp [hw])
    have hv : (if 0 ≤ Int32.ofInt x then Int32.ofInt x else 0 - Int32.ofInt x) = Int32.ofInt (if x < 0 then -x else x) := by
      by_cases q : x < 0
      · rw [if_neg (fun z => by rw [nb_z, nb_le nb_r0 hx0] at z; omega), if_pos q, Int32.ofInt_neg, Int32.zero_sub]
      · rw [if_pos (by rw [nb_z, nb_le nb_r0 hx0]; omega), if_neg q]
    have hrg : bk_r32 (if x < 0 then -x else x) := by
      by_cases q : x < 0
      · rw [if_pos q]; exact h.1
      · rw [if_neg q]; exact hx0
    have hcat := bk_cats (ba := ba) (b0 := b0) (aK := aK) st'
    have hts2 : ∀ w, w ∈ bk_W → w.before args s = true := hts
    refine va_mabs hx hb (hml.trans hL.1.symm) hown (hts2 _ (bk_wl (f := fun q => .methodLink (bk_R q.1) q.2 Lib.Math.abs.name) bk_p_l.2.2.2 hpl rfl)) (hts2 _ (bk_w1 bk_p_sys.2.2.2.2.2.2 rfl)) (hts2 _ (bk_w1 bk_p_sys.2.1 rfl)) (hts2 _ (bk_w1 bk_p_abs rfl)) hR.1 (by omega) (by omega) (by omega) hd ?_
    rw [hv]
    exact hk _ _ _ _ h.2 (bk_ocons hrg hs') hl hn hM h13 H locs cells slots lsr hP hS hc hsl hL
  · have h : bk_r32 (-x) ∧ (bif Nat.ble st'.length 4 then _ else False) := h
    rw [Bool.eq_false_iff.mpr (fun q => hle (Nat.le_of_ble_eq_true q))] at h
    exact h.2.elim
end CALLS
end
section
set_option maxRecDepth 100000 in
theorem bk_ok_0 : bk_okP (bk_m 0) P_0 = true ∧ 2 = (bk_m 0).2.2.1 := by decide +kernel
set_option maxRecDepth 100000 in
theorem bk_ok_1 : bk_okP (bk_m 1) P_1 = true ∧ 6 = (bk_m 1).2.2.1 := by decide +kernel
set_option maxRecDepth 100000 in
theorem bk_ok_2 : bk_okP (bk_m 2) P_2 = true ∧ 3 = (bk_m 2).2.2.1 := by decide +kernel
set_option maxRecDepth 100000 in
theorem bk_ok_3 : bk_okP (bk_m 3) P_3 = true ∧ 2 = (bk_m 3).2.2.1 := by decide +kernel
set_option maxRecDepth 100000 in
theorem bk_ok_4 : bk_okP (bk_m 4) P_4 = true ∧ 3 = (bk_m 4).2.2.1 := by decide +kernel
set_option maxRecDepth 100000 in
theorem bk_ok_5 : bk_okP (bk_m 5) P_5 = true ∧ 4 = (bk_m 5).2.2.1 := by decide +kernel
set_option maxRecDepth 100000 in
theorem bk_ok_6 : bk_okP (bk_m 6) P_6 = true ∧ 2 = (bk_m 6).2.2.1 := by decide +kernel
set_option maxRecDepth 100000 in
theorem bk_ok_7 : bk_okP (bk_m 7) P_7 = true ∧ 2 = (bk_m 7).2.2.1 := by decide +kernel
set_option maxRecDepth 100000 in
theorem bk_ok_8 : bk_okP (bk_m 8) P_8 = true ∧ 1 = (bk_m 8).2.2.1 := by decide +kernel
set_option maxRecDepth 100000 in
theorem bk_ok_9 : bk_okP (bk_m 9) P_9 = true ∧ 1 = (bk_m 9).2.2.1 := by decide +kernel
set_option maxRecDepth 100000 in
theorem bk_ok_10 : bk_okP (bk_m 10) P_10 = true ∧ 8 = (bk_m 10).2.2.1 := by decide +kernel
set_option maxRecDepth 100000 in
theorem bk_ok_11 : bk_okP (bk_m 11) P_11 = true ∧ 5 = (bk_m 11).2.2.1 := by decide +kernel
set_option maxRecDepth 100000 in
theorem bk_ok_12 : bk_okP (bk_m 12) P_12 = true ∧ 1 = (bk_m 12).2.2.1 := by decide +kernel
set_option maxRecDepth 100000 in
theorem bk_ok_13 : bk_okP (bk_m 13) P_13 = true ∧ 3 = (bk_m 13).2.2.1 := by decide +kernel
set_option maxRecDepth 100000 in
theorem bk_ok_14 : bk_okP (bk_m 14) P_14 = true ∧ 3 = (bk_m 14).2.2.1 := by decide +kernel
set_option maxRecDepth 100000 in
theorem bk_ok_15 : bk_okP (bk_m 15) P_15 = true ∧ 3 = (bk_m 15).2.2.1 := by decide +kernel
set_option maxRecDepth 100000 in
theorem bk_ok_16 : bk_okP (bk_m 16) P_16 = true ∧ 2 = (bk_m 16).2.2.1 := by decide +kernel
set_option maxRecDepth 100000 in
theorem bk_ok_17 : bk_okP (bk_m 17) P_17 = true ∧ 3 = (bk_m 17).2.2.1 := by decide +kernel
set_option maxRecDepth 100000 in
theorem bk_ok_18 : bk_okP (bk_m 18) P_18 = true ∧ 4 = (bk_m 18).2.2.1 := by decide +kernel
set_option maxRecDepth 100000 in
theorem bk_ok_19 : bk_okP (bk_m 19) P_19 = true ∧ 4 = (bk_m 19).2.2.1 := by decide +kernel
set_option maxRecDepth 100000 in
theorem bk_ok_20 : bk_okP (bk_m 20) P_20 = true ∧ 3 = (bk_m 20).2.2.1 := by decide +kernel
set_option maxRecDepth 100000 in
theorem bk_ok_21 : bk_okP (bk_m 21) P_21 = true ∧ 3 = (bk_m 21).2.2.1 := by decide +kernel
set_option maxRecDepth 100000 in
theorem bk_ok_22 : bk_okP (bk_m 22) P_22 = true ∧ 5 = (bk_m 22).2.2.1 := by decide +kernel
set_option maxRecDepth 100000 in
theorem bk_ok_23 : bk_okP (bk_m 23) P_23 = true ∧ 4 = (bk_m 23).2.2.1 := by decide +kernel
set_option maxRecDepth 100000 in
theorem bk_ok_24 : bk_okP (bk_m 24) P_24 = true ∧ 1 = (bk_m 24).2.2.1 := by decide +kernel
set_option maxRecDepth 100000 in
theorem bk_ok_25 : bk_okP (bk_m 25) P_25 = true ∧ 3 = (bk_m 25).2.2.1 := by decide +kernel
set_option maxRecDepth 100000 in
theorem bk_ok_26 : bk_okP (bk_m 26) P_26 = true ∧ 5 = (bk_m 26).2.2.1 := by decide +kernel
set_option maxRecDepth 100000 in
theorem bk_ok_27 : bk_okP (bk_m 27) P_27 = true ∧ 4 = (bk_m 27).2.2.1 := by decide +kernel
set_option maxRecDepth 100000 in
theorem bk_ok_28 : bk_okP (bk_m 28) P_28 = true ∧ 2 = (bk_m 28).2.2.1 := by decide +kernel
set_option maxRecDepth 100000 in
theorem bk_ok_29 : bk_okP (bk_m 29) P_29 = true ∧ 3 = (bk_m 29).2.2.1 := by decide +kernel
set_option maxRecDepth 100000 in
theorem bk_ok_30 : bk_okP (bk_m 30) P_30 = true ∧ 2 = (bk_m 30).2.2.1 := by decide +kernel
set_option maxRecDepth 100000 in
theorem bk_ok_31 : bk_okP (bk_m 31) P_31 = true ∧ 1 = (bk_m 31).2.2.1 := by decide +kernel
set_option maxRecDepth 100000 in
theorem bk_ok_32 : bk_okP (bk_m 32) P_32 = true ∧ 2 = (bk_m 32).2.2.1 := by decide +kernel
set_option maxRecDepth 100000 in
theorem bk_ok_33 : bk_okP (bk_m 33) P_33 = true ∧ 2 = (bk_m 33).2.2.1 := by decide +kernel
set_option maxRecDepth 100000 in
theorem bk_ok_34 : bk_okP (bk_m 34) P_34 = true ∧ 2 = (bk_m 34).2.2.1 := by decide +kernel
set_option maxRecDepth 100000 in
theorem bk_ok_35 : bk_okP (bk_m 35) P_35 = true ∧ 7 = (bk_m 35).2.2.1 := by decide +kernel
set_option maxRecDepth 100000 in
theorem bk_ok_36 : bk_okP (bk_m 36) P_36 = true ∧ 6 = (bk_m 36).2.2.1 := by decide +kernel
set_option maxRecDepth 100000 in
theorem bk_ok_37 : bk_okP (bk_m 37) P_37 = true ∧ 1 = (bk_m 37).2.2.1 := by decide +kernel
set_option maxRecDepth 100000 in
theorem bk_ok_38 : bk_okP (bk_m 38) P_38 = true ∧ 1 = (bk_m 38).2.2.1 := by decide +kernel
set_option maxRecDepth 100000 in
theorem bk_ok_39 : bk_okP (bk_m 39) P_39 = true ∧ 1 = (bk_m 39).2.2.1 := by decide +kernel
set_option maxRecDepth 100000 in
theorem bk_ok_40 : bk_okP (bk_m 40) P_40 = true ∧ 4 = (bk_m 40).2.2.1 := by decide +kernel
set_option maxRecDepth 100000 in
theorem bk_ok_41 : bk_okP (bk_m 41) P_41 = true ∧ 4 = (bk_m 41).2.2.1 := by decide +kernel
set_option maxRecDepth 100000 in
theorem bk_ok_42 : bk_okP (bk_m 42) P_42 = true ∧ 4 = (bk_m 42).2.2.1 := by decide +kernel
set_option maxRecDepth 100000 in
theorem bk_ok_43 : bk_okP (bk_m 43) P_43 = true ∧ 4 = (bk_m 43).2.2.1 := by decide +kernel
set_option maxRecDepth 100000 in
theorem bk_ok_44 : bk_okP (bk_m 44) P_44 = true ∧ 2 = (bk_m 44).2.2.1 := by decide +kernel
set_option maxRecDepth 100000 in
theorem bk_ok_45 : bk_okP (bk_m 45) P_45 = true ∧ 2 = (bk_m 45).2.2.1 := by decide +kernel
set_option maxRecDepth 100000 in
theorem bk_ok_46 : bk_okP (bk_m 46) P_46 = true ∧ 3 = (bk_m 46).2.2.1 := by decide +kernel
set_option maxRecDepth 100000 in
theorem bk_ok_47 : bk_okP (bk_m 47) P_47 = true ∧ 1 = (bk_m 47).2.2.1 := by decide +kernel
set_option maxRecDepth 100000 in
theorem bk_ok_48 : bk_okP (bk_m 48) P_48 = true ∧ 5 = (bk_m 48).2.2.1 := by decide +kernel
set_option maxRecDepth 100000 in
theorem bk_ok_49 : bk_okP (bk_m 49) P_49 = true ∧ 5 = (bk_m 49).2.2.1 := by decide +kernel
set_option maxRecDepth 100000 in
theorem bk_ok_50 : bk_okP (bk_m 50) P_50 = true ∧ 2 = (bk_m 50).2.2.1 := by decide +kernel
set_option maxRecDepth 100000 in
theorem bk_ok_51 : bk_okP (bk_m 51) P_51 = true ∧ 3 = (bk_m 51).2.2.1 := by decide +kernel
set_option maxRecDepth 100000 in
theorem bk_ok_52 : bk_okP (bk_m 52) P_52 = true ∧ 3 = (bk_m 52).2.2.1 := by decide +kernel
set_option maxRecDepth 100000 in
theorem bk_ok_53 : bk_okP (bk_m 53) P_53 = true ∧ 3 = (bk_m 53).2.2.1 := by decide +kernel
set_option maxRecDepth 100000 in
theorem bk_ok_54 : bk_okP (bk_m 54) P_54 = true ∧ 4 = (bk_m 54).2.2.1 := by decide +kernel
set_option maxRecDepth 100000 in
theorem bk_ok_55 : bk_okP (bk_m 55) P_55 = true ∧ 7 = (bk_m 55).2.2.1 := by decide +kernel
set_option maxRecDepth 100000 in
theorem bk_ok_56 : bk_okP (bk_m 56) P_56 = true ∧ 5 = (bk_m 56).2.2.1 := by decide +kernel
set_option maxRecDepth 100000 in
theorem bk_ok_57 : bk_okP (bk_m 57) P_57 = true ∧ 2 = (bk_m 57).2.2.1 := by decide +kernel
set_option maxRecDepth 100000 in
theorem bk_ok_58 : bk_okP (bk_m 58) P_58 = true ∧ 2 = (bk_m 58).2.2.1 := by decide +kernel
set_option maxRecDepth 100000 in
theorem bk_ok_59 : bk_okP (bk_m 59) P_59 = true ∧ 4 = (bk_m 59).2.2.1 := by decide +kernel
theorem bk_okT_20 : ∀ a, a < 20 → bk_ok1 a := lt_s (lt_s (lt_s (lt_s (lt_s (lt_s (lt_s (lt_s (lt_s (lt_s (lt_s (lt_s (lt_s (lt_s (lt_s (lt_s (lt_s (lt_s (lt_s (lt_s (lt_0) bk_ok_0) bk_ok_1) bk_ok_2) bk_ok_3) bk_ok_4) bk_ok_5) bk_ok_6) bk_ok_7) bk_ok_8) bk_ok_9) bk_ok_10) bk_ok_11) bk_ok_12) bk_ok_13) bk_ok_14) bk_ok_15) bk_ok_16) bk_ok_17) bk_ok_18) bk_ok_19
theorem bk_okT_40 : ∀ a, a < 40 → bk_ok1 a := lt_s (lt_s (lt_s (lt_s (lt_s (lt_s (lt_s (lt_s (lt_s (lt_s (lt_s (lt_s (lt_s (lt_s (lt_s (lt_s (lt_s (lt_s (lt_s (lt_s (bk_okT_20) bk_ok_20) bk_ok_21) bk_ok_22) bk_ok_23) bk_ok_24) bk_ok_25) bk_ok_26) bk_ok_27) bk_ok_28) bk_ok_29) bk_ok_30) bk_ok_31) bk_ok_32) bk_ok_33) bk_ok_34) bk_ok_35) bk_ok_36) bk_ok_37) bk_ok_38) bk_ok_39
theorem bk_okT_60 : ∀ a, a < 60 → bk_ok1 a := lt_s (lt_s (lt_s (lt_s (lt_s (lt_s (lt_s (lt_s (lt_s (lt_s (lt_s (lt_s (lt_s (lt_s (lt_s (lt_s (lt_s (lt_s (lt_s (lt_s (bk_okT_40) bk_ok_40) bk_ok_41) bk_ok_42) bk_ok_43) bk_ok_44) bk_ok_45) bk_ok_46) bk_ok_47) bk_ok_48) bk_ok_49) bk_ok_50) bk_ok_51) bk_ok_52) bk_ok_53) bk_ok_54) bk_ok_55) bk_ok_56) bk_ok_57) bk_ok_58) bk_ok_59
end
section
set_option maxRecDepth 100000 in
theorem bk_ok_60 : bk_okP (bk_m 60) P_60 = true ∧ 4 = (bk_m 60).2.2.1 := by decide +kernel
set_option maxRecDepth 100000 in
theorem bk_ok_61 : bk_okP (bk_m 61) P_61 = true ∧ 6 = (bk_m 61).2.2.1 := by decide +kernel
set_option maxRecDepth 100000 in
theorem bk_ok_62 : bk_okP (bk_m 62) P_62 = true ∧ 5 = (bk_m 62).2.2.1 := by decide +kernel
set_option maxRecDepth 100000 in
theorem bk_ok_63 : bk_okP (bk_m 63) P_63 = true ∧ 3 = (bk_m 63).2.2.1 := by decide +kernel
set_option maxRecDepth 100000 in
theorem bk_ok_64 : bk_okP (bk_m 64) P_64 = true ∧ 2 = (bk_m 64).2.2.1 := by decide +kernel
set_option maxRecDepth 100000 in
theorem bk_ok_65 : bk_okP (bk_m 65) P_65 = true ∧ 5 = (bk_m 65).2.2.1 := by decide +kernel
set_option maxRecDepth 100000 in
theorem bk_ok_66 : bk_okP (bk_m 66) P_66 = true ∧ 2 = (bk_m 66).2.2.1 := by decide +kernel
set_option maxRecDepth 100000 in
theorem bk_ok_67 : bk_okP (bk_m 67) P_67 = true ∧ 4 = (bk_m 67).2.2.1 := by decide +kernel
set_option maxRecDepth 100000 in
theorem bk_ok_68 : bk_okP (bk_m 68) P_68 = true ∧ 4 = (bk_m 68).2.2.1 := by decide +kernel
set_option maxRecDepth 100000 in
theorem bk_ok_69 : bk_okP (bk_m 69) P_69 = true ∧ 3 = (bk_m 69).2.2.1 := by decide +kernel
set_option maxRecDepth 100000 in
theorem bk_ok_70 : bk_okP (bk_m 70) P_70 = true ∧ 5 = (bk_m 70).2.2.1 := by decide +kernel
set_option maxRecDepth 100000 in
theorem bk_ok_71 : bk_okP (bk_m 71) P_71 = true ∧ 1 = (bk_m 71).2.2.1 := by decide +kernel
set_option maxRecDepth 100000 in
theorem bk_ok_72 : bk_okP (bk_m 72) P_72 = true ∧ 2 = (bk_m 72).2.2.1 := by decide +kernel
set_option maxRecDepth 100000 in
theorem bk_ok_73 : bk_okP (bk_m 73) P_73 = true ∧ 1 = (bk_m 73).2.2.1 := by decide +kernel
set_option maxRecDepth 100000 in
theorem bk_ok_74 : bk_okP (bk_m 74) P_74 = true ∧ 2 = (bk_m 74).2.2.1 := by decide +kernel
set_option maxRecDepth 100000 in
theorem bk_ok_75 : bk_okP (bk_m 75) P_75 = true ∧ 2 = (bk_m 75).2.2.1 := by decide +kernel
set_option maxRecDepth 100000 in
theorem bk_ok_76 : bk_okP (bk_m 76) P_76 = true ∧ 4 = (bk_m 76).2.2.1 := by decide +kernel
set_option maxRecDepth 100000 in
theorem bk_ok_77 : bk_okP (bk_m 77) P_77 = true ∧ 2 = (bk_m 77).2.2.1 := by decide +kernel
set_option maxRecDepth 100000 in
theorem bk_ok_78 : bk_okP (bk_m 78) P_78 = true ∧ 7 = (bk_m 78).2.2.1 := by decide +kernel
set_option maxRecDepth 100000 in
theorem bk_ok_79 : bk_okP (bk_m 79) P_79 = true ∧ 6 = (bk_m 79).2.2.1 := by decide +kernel
set_option maxRecDepth 100000 in
theorem bk_ok_80 : bk_okP (bk_m 80) P_80 = true ∧ 7 = (bk_m 80).2.2.1 := by decide +kernel
set_option maxRecDepth 100000 in
theorem bk_ok_81 : bk_okP (bk_m 81) P_81 = true ∧ 7 = (bk_m 81).2.2.1 := by decide +kernel
set_option maxRecDepth 100000 in
theorem bk_ok_82 : bk_okP (bk_m 82) P_82 = true ∧ 2 = (bk_m 82).2.2.1 := by decide +kernel
set_option maxRecDepth 100000 in
theorem bk_ok_83 : bk_okP (bk_m 83) P_83 = true ∧ 2 = (bk_m 83).2.2.1 := by decide +kernel
set_option maxRecDepth 100000 in
theorem bk_ok_84 : bk_okP (bk_m 84) P_84 = true ∧ 2 = (bk_m 84).2.2.1 := by decide +kernel
set_option maxRecDepth 100000 in
theorem bk_ok_85 : bk_okP (bk_m 85) P_85 = true ∧ 2 = (bk_m 85).2.2.1 := by decide +kernel
set_option maxRecDepth 100000 in
theorem bk_ok_86 : bk_okP (bk_m 86) P_86 = true ∧ 3 = (bk_m 86).2.2.1 := by decide +kernel
set_option maxRecDepth 100000 in
theorem bk_ok_87 : bk_okP (bk_m 87) P_87 = true ∧ 6 = (bk_m 87).2.2.1 := by decide +kernel
set_option maxRecDepth 100000 in
theorem bk_ok_88 : bk_okP (bk_m 88) P_88 = true ∧ 6 = (bk_m 88).2.2.1 := by decide +kernel
set_option maxRecDepth 100000 in
theorem bk_ok_89 : bk_okP (bk_m 89) P_89 = true ∧ 2 = (bk_m 89).2.2.1 := by decide +kernel
set_option maxRecDepth 100000 in
theorem bk_ok_90 : bk_okP (bk_m 90) P_90 = true ∧ 3 = (bk_m 90).2.2.1 := by decide +kernel
set_option maxRecDepth 100000 in
theorem bk_ok_91 : bk_okP (bk_m 91) P_91 = true ∧ 8 = (bk_m 91).2.2.1 := by decide +kernel
set_option maxRecDepth 100000 in
theorem bk_ok_92 : bk_okP (bk_m 92) P_92 = true ∧ 2 = (bk_m 92).2.2.1 := by decide +kernel
set_option maxRecDepth 100000 in
theorem bk_ok_93 : bk_okP (bk_m 93) P_93 = true ∧ 2 = (bk_m 93).2.2.1 := by decide +kernel
set_option maxRecDepth 100000 in
theorem bk_ok_94 : bk_okP (bk_m 94) P_94 = true ∧ 4 = (bk_m 94).2.2.1 := by decide +kernel
set_option maxRecDepth 100000 in
theorem bk_ok_95 : bk_okP (bk_m 95) P_95 = true ∧ 8 = (bk_m 95).2.2.1 := by decide +kernel
set_option maxRecDepth 100000 in
theorem bk_ok_96 : bk_okP (bk_m 96) P_96 = true ∧ 6 = (bk_m 96).2.2.1 := by decide +kernel
set_option maxRecDepth 100000 in
theorem bk_ok_97 : bk_okP (bk_m 97) P_97 = true ∧ 6 = (bk_m 97).2.2.1 := by decide +kernel
set_option maxRecDepth 100000 in
theorem bk_ok_98 : bk_okP (bk_m 98) P_98 = true ∧ 5 = (bk_m 98).2.2.1 := by decide +kernel
set_option maxRecDepth 100000 in
theorem bk_ok_99 : bk_okP (bk_m 99) P_99 = true ∧ 6 = (bk_m 99).2.2.1 := by decide +kernel
set_option maxRecDepth 100000 in
theorem bk_ok_100 : bk_okP (bk_m 100) P_100 = true ∧ 5 = (bk_m 100).2.2.1 := by decide +kernel
set_option maxRecDepth 100000 in
theorem bk_ok_101 : bk_okP (bk_m 101) P_101 = true ∧ 2 = (bk_m 101).2.2.1 := by decide +kernel
set_option maxRecDepth 100000 in
theorem bk_ok_102 : bk_okP (bk_m 102) P_102 = true ∧ 2 = (bk_m 102).2.2.1 := by decide +kernel
set_option maxRecDepth 100000 in
theorem bk_ok_103 : bk_okP (bk_m 103) P_103 = true ∧ 8 = (bk_m 103).2.2.1 := by decide +kernel
set_option maxRecDepth 100000 in
theorem bk_ok_104 : bk_okP (bk_m 104) P_104 = true ∧ 5 = (bk_m 104).2.2.1 := by decide +kernel
set_option maxRecDepth 100000 in
theorem bk_ok_105 : bk_okP (bk_m 105) P_105 = true ∧ 2 = (bk_m 105).2.2.1 := by decide +kernel
set_option maxRecDepth 100000 in
theorem bk_ok_106 : bk_okP (bk_m 106) P_106 = true ∧ 5 = (bk_m 106).2.2.1 := by decide +kernel
set_option maxRecDepth 100000 in
theorem bk_ok_107 : bk_okP (bk_m 107) P_107 = true ∧ 5 = (bk_m 107).2.2.1 := by decide +kernel
set_option maxRecDepth 100000 in
theorem bk_ok_108 : bk_okP (bk_m 108) P_108 = true ∧ 2 = (bk_m 108).2.2.1 := by decide +kernel
set_option maxRecDepth 100000 in
theorem bk_ok_109 : bk_okP (bk_m 109) P_109 = true ∧ 3 = (bk_m 109).2.2.1 := by decide +kernel
set_option maxRecDepth 100000 in
theorem bk_ok_110 : bk_okP (bk_m 110) P_110 = true ∧ 2 = (bk_m 110).2.2.1 := by decide +kernel
set_option maxRecDepth 100000 in
theorem bk_ok_111 : bk_okP (bk_m 111) P_111 = true ∧ 4 = (bk_m 111).2.2.1 := by decide +kernel
set_option maxRecDepth 100000 in
theorem bk_ok_112 : bk_okP (bk_m 112) P_112 = true ∧ 4 = (bk_m 112).2.2.1 := by decide +kernel
set_option maxRecDepth 100000 in
theorem bk_ok_113 : bk_okP (bk_m 113) P_113 = true ∧ 5 = (bk_m 113).2.2.1 := by decide +kernel
set_option maxRecDepth 100000 in
theorem bk_ok_114 : bk_okP (bk_m 114) P_114 = true ∧ 1 = (bk_m 114).2.2.1 := by decide +kernel
set_option maxRecDepth 100000 in
theorem bk_ok_115 : bk_okP (bk_m 115) P_115 = true ∧ 4 = (bk_m 115).2.2.1 := by decide +kernel
set_option maxRecDepth 100000 in
theorem bk_ok_116 : bk_okP (bk_m 116) P_116 = true ∧ 2 = (bk_m 116).2.2.1 := by decide +kernel
set_option maxRecDepth 100000 in
theorem bk_ok_117 : bk_okP (bk_m 117) P_117 = true ∧ 4 = (bk_m 117).2.2.1 := by decide +kernel
set_option maxRecDepth 100000 in
theorem bk_ok_118 : bk_okP (bk_m 118) P_118 = true ∧ 4 = (bk_m 118).2.2.1 := by decide +kernel
set_option maxRecDepth 100000 in
theorem bk_ok_119 : bk_okP (bk_m 119) P_119 = true ∧ 7 = (bk_m 119).2.2.1 := by decide +kernel
theorem bk_okT_80 : ∀ a, a < 80 → bk_ok1 a := lt_s (lt_s (lt_s (lt_s (lt_s (lt_s (lt_s (lt_s (lt_s (lt_s (lt_s (lt_s (lt_s (lt_s (lt_s (lt_s (lt_s (lt_s (lt_s (lt_s (bk_okT_60) bk_ok_60) bk_ok_61) bk_ok_62) bk_ok_63) bk_ok_64) bk_ok_65) bk_ok_66) bk_ok_67) bk_ok_68) bk_ok_69) bk_ok_70) bk_ok_71) bk_ok_72) bk_ok_73) bk_ok_74) bk_ok_75) bk_ok_76) bk_ok_77) bk_ok_78) bk_ok_79
theorem bk_okT_100 : ∀ a, a < 100 → bk_ok1 a := lt_s (lt_s (lt_s (lt_s (lt_s (lt_s (lt_s (lt_s (lt_s (lt_s (lt_s (lt_s (lt_s (lt_s (lt_s (lt_s (lt_s (lt_s (lt_s (lt_s (bk_okT_80) bk_ok_80) bk_ok_81) bk_ok_82) bk_ok_83) bk_ok_84) bk_ok_85) bk_ok_86) bk_ok_87) bk_ok_88) bk_ok_89) bk_ok_90) bk_ok_91) bk_ok_92) bk_ok_93) bk_ok_94) bk_ok_95) bk_ok_96) bk_ok_97) bk_ok_98) bk_ok_99
theorem bk_okT_120 : ∀ a, a < 120 → bk_ok1 a := lt_s (lt_s (lt_s (lt_s (lt_s (lt_s (lt_s (lt_s (lt_s (lt_s (lt_s (lt_s (lt_s (lt_s (lt_s (lt_s (lt_s (lt_s (lt_s (lt_s (bk_okT_100) bk_ok_100) bk_ok_101) bk_ok_102) bk_ok_103) bk_ok_104) bk_ok_105) bk_ok_106) bk_ok_107) bk_ok_108) bk_ok_109) bk_ok_110) bk_ok_111) bk_ok_112) bk_ok_113) bk_ok_114) bk_ok_115) bk_ok_116) bk_ok_117) bk_ok_118) bk_ok_119
end
section
set_option maxRecDepth 100000 in
theorem bk_ok_120 : bk_okP (bk_m 120) P_120 = true ∧ 5 = (bk_m 120).2.2.1 := by decide +kernel
set_option maxRecDepth 100000 in
theorem bk_ok_121 : bk_okP (bk_m 121) P_121 = true ∧ 6 = (bk_m 121).2.2.1 := by decide +kernel
set_option maxRecDepth 100000 in
theorem bk_ok_122 : bk_okP (bk_m 122) P_122 = true ∧ 2 = (bk_m 122).2.2.1 := by decide +kernel
set_option maxRecDepth 100000 in
theorem bk_ok_123 : bk_okP (bk_m 123) P_123 = true ∧ 3 = (bk_m 123).2.2.1 := by decide +kernel
set_option maxRecDepth 100000 in
theorem bk_ok_124 : bk_okP (bk_m 124) P_124 = true ∧ 3 = (bk_m 124).2.2.1 := by decide +kernel
set_option maxRecDepth 100000 in
theorem bk_ok_125 : bk_okP (bk_m 125) P_125 = true ∧ 5 = (bk_m 125).2.2.1 := by decide +kernel
set_option maxRecDepth 100000 in
theorem bk_ok_126 : bk_okP (bk_m 126) P_126 = true ∧ 5 = (bk_m 126).2.2.1 := by decide +kernel
set_option maxRecDepth 100000 in
theorem bk_ok_127 : bk_okP (bk_m 127) P_127 = true ∧ 5 = (bk_m 127).2.2.1 := by decide +kernel
set_option maxRecDepth 100000 in
theorem bk_ok_128 : bk_okP (bk_m 128) P_128 = true ∧ 1 = (bk_m 128).2.2.1 := by decide +kernel
set_option maxRecDepth 100000 in
theorem bk_ok_129 : bk_okP (bk_m 129) P_129 = true ∧ 4 = (bk_m 129).2.2.1 := by decide +kernel
set_option maxRecDepth 100000 in
theorem bk_ok_130 : bk_okP (bk_m 130) P_130 = true ∧ 5 = (bk_m 130).2.2.1 := by decide +kernel
set_option maxRecDepth 100000 in
theorem bk_ok_131 : bk_okP (bk_m 131) P_131 = true ∧ 5 = (bk_m 131).2.2.1 := by decide +kernel
set_option maxRecDepth 100000 in
theorem bk_ok_132 : bk_okP (bk_m 132) P_132 = true ∧ 6 = (bk_m 132).2.2.1 := by decide +kernel
set_option maxRecDepth 100000 in
theorem bk_ok_133 : bk_okP (bk_m 133) P_133 = true ∧ 5 = (bk_m 133).2.2.1 := by decide +kernel
set_option maxRecDepth 100000 in
theorem bk_ok_134 : bk_okP (bk_m 134) P_134 = true ∧ 6 = (bk_m 134).2.2.1 := by decide +kernel
set_option maxRecDepth 100000 in
theorem bk_ok_135 : bk_okP (bk_m 135) P_135 = true ∧ 3 = (bk_m 135).2.2.1 := by decide +kernel
set_option maxRecDepth 100000 in
theorem bk_ok_136 : bk_okP (bk_m 136) P_136 = true ∧ 1 = (bk_m 136).2.2.1 := by decide +kernel
set_option maxRecDepth 100000 in
theorem bk_ok_137 : bk_okP (bk_m 137) P_137 = true ∧ 2 = (bk_m 137).2.2.1 := by decide +kernel
set_option maxRecDepth 100000 in
theorem bk_ok_138 : bk_okP (bk_m 138) P_138 = true ∧ 2 = (bk_m 138).2.2.1 := by decide +kernel
set_option maxRecDepth 100000 in
theorem bk_ok_139 : bk_okP (bk_m 139) P_139 = true ∧ 2 = (bk_m 139).2.2.1 := by decide +kernel
set_option maxRecDepth 100000 in
theorem bk_ok_140 : bk_okP (bk_m 140) P_140 = true ∧ 2 = (bk_m 140).2.2.1 := by decide +kernel
set_option maxRecDepth 100000 in
theorem bk_ok_141 : bk_okP (bk_m 141) P_141 = true ∧ 4 = (bk_m 141).2.2.1 := by decide +kernel
set_option maxRecDepth 100000 in
theorem bk_ok_142 : bk_okP (bk_m 142) P_142 = true ∧ 2 = (bk_m 142).2.2.1 := by decide +kernel
set_option maxRecDepth 100000 in
theorem bk_ok_143 : bk_okP (bk_m 143) P_143 = true ∧ 5 = (bk_m 143).2.2.1 := by decide +kernel
set_option maxRecDepth 100000 in
theorem bk_ok_144 : bk_okP (bk_m 144) P_144 = true ∧ 8 = (bk_m 144).2.2.1 := by decide +kernel
set_option maxRecDepth 100000 in
theorem bk_ok_145 : bk_okP (bk_m 145) P_145 = true ∧ 3 = (bk_m 145).2.2.1 := by decide +kernel
set_option maxRecDepth 100000 in
theorem bk_ok_146 : bk_okP (bk_m 146) P_146 = true ∧ 1 = (bk_m 146).2.2.1 := by decide +kernel
set_option maxRecDepth 100000 in
theorem bk_ok_147 : bk_okP (bk_m 147) P_147 = true ∧ 6 = (bk_m 147).2.2.1 := by decide +kernel
set_option maxRecDepth 100000 in
theorem bk_ok_148 : bk_okP (bk_m 148) P_148 = true ∧ 3 = (bk_m 148).2.2.1 := by decide +kernel
set_option maxRecDepth 100000 in
theorem bk_ok_149 : bk_okP (bk_m 149) P_149 = true ∧ 2 = (bk_m 149).2.2.1 := by decide +kernel
set_option maxRecDepth 100000 in
theorem bk_ok_150 : bk_okP (bk_m 150) P_150 = true ∧ 2 = (bk_m 150).2.2.1 := by decide +kernel
set_option maxRecDepth 100000 in
theorem bk_ok_151 : bk_okP (bk_m 151) P_151 = true ∧ 2 = (bk_m 151).2.2.1 := by decide +kernel
set_option maxRecDepth 100000 in
theorem bk_ok_152 : bk_okP (bk_m 152) P_152 = true ∧ 2 = (bk_m 152).2.2.1 := by decide +kernel
set_option maxRecDepth 100000 in
theorem bk_ok_153 : bk_okP (bk_m 153) P_153 = true ∧ 4 = (bk_m 153).2.2.1 := by decide +kernel
set_option maxRecDepth 100000 in
theorem bk_ok_154 : bk_okP (bk_m 154) P_154 = true ∧ 3 = (bk_m 154).2.2.1 := by decide +kernel
set_option maxRecDepth 100000 in
theorem bk_ok_155 : bk_okP (bk_m 155) P_155 = true ∧ 3 = (bk_m 155).2.2.1 := by decide +kernel
set_option maxRecDepth 100000 in
theorem bk_ok_156 : bk_okP (bk_m 156) P_156 = true ∧ 3 = (bk_m 156).2.2.1 := by decide +kernel
set_option maxRecDepth 100000 in
theorem bk_ok_157 : bk_okP (bk_m 157) P_157 = true ∧ 3 = (bk_m 157).2.2.1 := by decide +kernel
set_option maxRecDepth 100000 in
theorem bk_ok_158 : bk_okP (bk_m 158) P_158 = true ∧ 2 = (bk_m 158).2.2.1 := by decide +kernel
set_option maxRecDepth 100000 in
theorem bk_ok_159 : bk_okP (bk_m 159) P_159 = true ∧ 3 = (bk_m 159).2.2.1 := by decide +kernel
set_option maxRecDepth 100000 in
theorem bk_ok_160 : bk_okP (bk_m 160) P_160 = true ∧ 2 = (bk_m 160).2.2.1 := by decide +kernel
set_option maxRecDepth 100000 in
theorem bk_ok_161 : bk_okP (bk_m 161) P_161 = true ∧ 2 = (bk_m 161).2.2.1 := by decide +kernel
set_option maxRecDepth 100000 in
theorem bk_ok_162 : bk_okP (bk_m 162) P_162 = true ∧ 5 = (bk_m 162).2.2.1 := by decide +kernel
set_option maxRecDepth 100000 in
theorem bk_ok_163 : bk_okP (bk_m 163) P_163 = true ∧ 1 = (bk_m 163).2.2.1 := by decide +kernel
set_option maxRecDepth 100000 in
theorem bk_ok_164 : bk_okP (bk_m 164) P_164 = true ∧ 1 = (bk_m 164).2.2.1 := by decide +kernel
set_option maxRecDepth 100000 in
theorem bk_ok_165 : bk_okP (bk_m 165) P_165 = true ∧ 2 = (bk_m 165).2.2.1 := by decide +kernel
set_option maxRecDepth 100000 in
theorem bk_ok_166 : bk_okP (bk_m 166) P_166 = true ∧ 1 = (bk_m 166).2.2.1 := by decide +kernel
set_option maxRecDepth 100000 in
theorem bk_ok_167 : bk_okP (bk_m 167) P_167 = true ∧ 2 = (bk_m 167).2.2.1 := by decide +kernel
set_option maxRecDepth 100000 in
theorem bk_ok_168 : bk_okP (bk_m 168) P_168 = true ∧ 1 = (bk_m 168).2.2.1 := by decide +kernel
set_option maxRecDepth 100000 in
theorem bk_ok_169 : bk_okP (bk_m 169) P_169 = true ∧ 9 = (bk_m 169).2.2.1 := by decide +kernel
set_option maxRecDepth 100000 in
theorem bk_ok_170 : bk_okP (bk_m 170) P_170 = true ∧ 1 = (bk_m 170).2.2.1 := by decide +kernel
set_option maxRecDepth 100000 in
theorem bk_ok_171 : bk_okP (bk_m 171) P_171 = true ∧ 2 = (bk_m 171).2.2.1 := by decide +kernel
set_option maxRecDepth 100000 in
theorem bk_ok_172 : bk_okP (bk_m 172) P_172 = true ∧ 2 = (bk_m 172).2.2.1 := by decide +kernel
set_option maxRecDepth 100000 in
theorem bk_ok_173 : bk_okP (bk_m 173) P_173 = true ∧ 3 = (bk_m 173).2.2.1 := by decide +kernel
set_option maxRecDepth 100000 in
theorem bk_ok_174 : bk_okP (bk_m 174) P_174 = true ∧ 3 = (bk_m 174).2.2.1 := by decide +kernel
set_option maxRecDepth 100000 in
theorem bk_ok_175 : bk_okP (bk_m 175) P_175 = true ∧ 3 = (bk_m 175).2.2.1 := by decide +kernel
set_option maxRecDepth 100000 in
theorem bk_ok_176 : bk_okP (bk_m 176) P_176 = true ∧ 3 = (bk_m 176).2.2.1 := by decide +kernel
set_option maxRecDepth 100000 in
theorem bk_ok_177 : bk_okP (bk_m 177) P_177 = true ∧ 1 = (bk_m 177).2.2.1 := by decide +kernel
set_option maxRecDepth 100000 in
theorem bk_ok_178 : bk_okP (bk_m 178) P_178 = true ∧ 2 = (bk_m 178).2.2.1 := by decide +kernel
set_option maxRecDepth 100000 in
theorem bk_ok_179 : bk_okP (bk_m 179) P_179 = true ∧ 2 = (bk_m 179).2.2.1 := by decide +kernel
theorem bk_okT_140 : ∀ a, a < 140 → bk_ok1 a := lt_s (lt_s (lt_s (lt_s (lt_s (lt_s (lt_s (lt_s (lt_s (lt_s (lt_s (lt_s (lt_s (lt_s (lt_s (lt_s (lt_s (lt_s (lt_s (lt_s (bk_okT_120) bk_ok_120) bk_ok_121) bk_ok_122) bk_ok_123) bk_ok_124) bk_ok_125) bk_ok_126) bk_ok_127) bk_ok_128) bk_ok_129) bk_ok_130) bk_ok_131) bk_ok_132) bk_ok_133) bk_ok_134) bk_ok_135) bk_ok_136) bk_ok_137) bk_ok_138) bk_ok_139
theorem bk_okT_160 : ∀ a, a < 160 → bk_ok1 a := lt_s (lt_s (lt_s (lt_s (lt_s (lt_s (lt_s (lt_s (lt_s (lt_s (lt_s (lt_s (lt_s (lt_s (lt_s (lt_s (lt_s (lt_s (lt_s (lt_s (bk_okT_140) bk_ok_140) bk_ok_141) bk_ok_142) bk_ok_143) bk_ok_144) bk_ok_145) bk_ok_146) bk_ok_147) bk_ok_148) bk_ok_149) bk_ok_150) bk_ok_151) bk_ok_152) bk_ok_153) bk_ok_154) bk_ok_155) bk_ok_156) bk_ok_157) bk_ok_158) bk_ok_159
theorem bk_okT_180 : ∀ a, a < 180 → bk_ok1 a := lt_s (lt_s (lt_s (lt_s (lt_s (lt_s (lt_s (lt_s (lt_s (lt_s (lt_s (lt_s (lt_s (lt_s (lt_s (lt_s (lt_s (lt_s (lt_s (lt_s (bk_okT_160) bk_ok_160) bk_ok_161) bk_ok_162) bk_ok_163) bk_ok_164) bk_ok_165) bk_ok_166) bk_ok_167) bk_ok_168) bk_ok_169) bk_ok_170) bk_ok_171) bk_ok_172) bk_ok_173) bk_ok_174) bk_ok_175) bk_ok_176) bk_ok_177) bk_ok_178) bk_ok_179
end
section
set_option maxRecDepth 100000 in
theorem bk_ok_180 : bk_okP (bk_m 180) P_180 = true ∧ 3 = (bk_m 180).2.2.1 := by decide +kernel
set_option maxRecDepth 100000 in
theorem bk_ok_181 : bk_okP (bk_m 181) P_181 = true ∧ 2 = (bk_m 181).2.2.1 := by decide +kernel
set_option maxRecDepth 100000 in
theorem bk_ok_182 : bk_okP (bk_m 182) P_182 = true ∧ 2 = (bk_m 182).2.2.1 := by decide +kernel
set_option maxRecDepth 100000 in
theorem bk_ok_183 : bk_okP (bk_m 183) P_183 = true ∧ 6 = (bk_m 183).2.2.1 := by decide +kernel
set_option maxRecDepth 100000 in
theorem bk_ok_184 : bk_okP (bk_m 184) P_184 = true ∧ 4 = (bk_m 184).2.2.1 := by decide +kernel
set_option maxRecDepth 100000 in
theorem bk_ok_185 : bk_okP (bk_m 185) P_185 = true ∧ 2 = (bk_m 185).2.2.1 := by decide +kernel
set_option maxRecDepth 100000 in
theorem bk_ok_186 : bk_okP (bk_m 186) P_186 = true ∧ 2 = (bk_m 186).2.2.1 := by decide +kernel
set_option maxRecDepth 100000 in
theorem bk_ok_187 : bk_okP (bk_m 187) P_187 = true ∧ 1 = (bk_m 187).2.2.1 := by decide +kernel
set_option maxRecDepth 100000 in
theorem bk_ok_188 : bk_okP (bk_m 188) P_188 = true ∧ 1 = (bk_m 188).2.2.1 := by decide +kernel
set_option maxRecDepth 100000 in
theorem bk_ok_189 : bk_okP (bk_m 189) P_189 = true ∧ 2 = (bk_m 189).2.2.1 := by decide +kernel
set_option maxRecDepth 100000 in
theorem bk_ok_190 : bk_okP (bk_m 190) P_190 = true ∧ 1 = (bk_m 190).2.2.1 := by decide +kernel
set_option maxRecDepth 100000 in
theorem bk_ok_191 : bk_okP (bk_m 191) P_191 = true ∧ 3 = (bk_m 191).2.2.1 := by decide +kernel
set_option maxRecDepth 100000 in
theorem bk_ok_192 : bk_okP (bk_m 192) P_192 = true ∧ 2 = (bk_m 192).2.2.1 := by decide +kernel
set_option maxRecDepth 100000 in
theorem bk_ok_193 : bk_okP (bk_m 193) P_193 = true ∧ 1 = (bk_m 193).2.2.1 := by decide +kernel
set_option maxRecDepth 100000 in
theorem bk_ok_194 : bk_okP (bk_m 194) P_194 = true ∧ 2 = (bk_m 194).2.2.1 := by decide +kernel
set_option maxRecDepth 100000 in
theorem bk_ok_195 : bk_okP (bk_m 195) P_195 = true ∧ 3 = (bk_m 195).2.2.1 := by decide +kernel
set_option maxRecDepth 100000 in
theorem bk_ok_196 : bk_okP (bk_m 196) P_196 = true ∧ 2 = (bk_m 196).2.2.1 := by decide +kernel
set_option maxRecDepth 100000 in
theorem bk_ok_197 : bk_okP (bk_m 197) P_197 = true ∧ 3 = (bk_m 197).2.2.1 := by decide +kernel
set_option maxRecDepth 100000 in
theorem bk_ok_198 : bk_okP (bk_m 198) P_198 = true ∧ 2 = (bk_m 198).2.2.1 := by decide +kernel
set_option maxRecDepth 100000 in
theorem bk_ok_199 : bk_okP (bk_m 199) P_199 = true ∧ 3 = (bk_m 199).2.2.1 := by decide +kernel
set_option maxRecDepth 100000 in
theorem bk_ok_200 : bk_okP (bk_m 200) P_200 = true ∧ 3 = (bk_m 200).2.2.1 := by decide +kernel
set_option maxRecDepth 100000 in
theorem bk_ok_201 : bk_okP (bk_m 201) P_201 = true ∧ 2 = (bk_m 201).2.2.1 := by decide +kernel
set_option maxRecDepth 100000 in
theorem bk_ok_202 : bk_okP (bk_m 202) P_202 = true ∧ 2 = (bk_m 202).2.2.1 := by decide +kernel
set_option maxRecDepth 100000 in
theorem bk_ok_203 : bk_okP (bk_m 203) P_203 = true ∧ 3 = (bk_m 203).2.2.1 := by decide +kernel
set_option maxRecDepth 100000 in
theorem bk_ok_204 : bk_okP (bk_m 204) P_204 = true ∧ 4 = (bk_m 204).2.2.1 := by decide +kernel
set_option maxRecDepth 100000 in
theorem bk_ok_205 : bk_okP (bk_m 205) P_205 = true ∧ 4 = (bk_m 205).2.2.1 := by decide +kernel
set_option maxRecDepth 100000 in
theorem bk_ok_206 : bk_okP (bk_m 206) P_206 = true ∧ 2 = (bk_m 206).2.2.1 := by decide +kernel
set_option maxRecDepth 100000 in
theorem bk_ok_207 : bk_okP (bk_m 207) P_207 = true ∧ 4 = (bk_m 207).2.2.1 := by decide +kernel
set_option maxRecDepth 100000 in
theorem bk_ok_208 : bk_okP (bk_m 208) P_208 = true ∧ 4 = (bk_m 208).2.2.1 := by decide +kernel
set_option maxRecDepth 100000 in
theorem bk_ok_209 : bk_okP (bk_m 209) P_209 = true ∧ 6 = (bk_m 209).2.2.1 := by decide +kernel
set_option maxRecDepth 100000 in
theorem bk_ok_210 : bk_okP (bk_m 210) P_210 = true ∧ 5 = (bk_m 210).2.2.1 := by decide +kernel
set_option maxRecDepth 100000 in
theorem bk_ok_211 : bk_okP (bk_m 211) P_211 = true ∧ 1 = (bk_m 211).2.2.1 := by decide +kernel
set_option maxRecDepth 100000 in
theorem bk_ok_212 : bk_okP (bk_m 212) P_212 = true ∧ 5 = (bk_m 212).2.2.1 := by decide +kernel
set_option maxRecDepth 100000 in
theorem bk_ok_213 : bk_okP (bk_m 213) P_213 = true ∧ 2 = (bk_m 213).2.2.1 := by decide +kernel
set_option maxRecDepth 100000 in
theorem bk_ok_214 : bk_okP (bk_m 214) P_214 = true ∧ 5 = (bk_m 214).2.2.1 := by decide +kernel
set_option maxRecDepth 100000 in
theorem bk_ok_215 : bk_okP (bk_m 215) P_215 = true ∧ 4 = (bk_m 215).2.2.1 := by decide +kernel
set_option maxRecDepth 100000 in
theorem bk_ok_216 : bk_okP (bk_m 216) P_216 = true ∧ 4 = (bk_m 216).2.2.1 := by decide +kernel
set_option maxRecDepth 100000 in
theorem bk_ok_217 : bk_okP (bk_m 217) P_217 = true ∧ 2 = (bk_m 217).2.2.1 := by decide +kernel
set_option maxRecDepth 100000 in
theorem bk_ok_218 : bk_okP (bk_m 218) P_218 = true ∧ 2 = (bk_m 218).2.2.1 := by decide +kernel
set_option maxRecDepth 100000 in
theorem bk_ok_219 : bk_okP (bk_m 219) P_219 = true ∧ 3 = (bk_m 219).2.2.1 := by decide +kernel
set_option maxRecDepth 100000 in
theorem bk_ok_220 : bk_okP (bk_m 220) P_220 = true ∧ 2 = (bk_m 220).2.2.1 := by decide +kernel
set_option maxRecDepth 100000 in
theorem bk_ok_221 : bk_okP (bk_m 221) P_221 = true ∧ 2 = (bk_m 221).2.2.1 := by decide +kernel
set_option maxRecDepth 100000 in
theorem bk_ok_222 : bk_okP (bk_m 222) P_222 = true ∧ 2 = (bk_m 222).2.2.1 := by decide +kernel
set_option maxRecDepth 100000 in
theorem bk_ok_223 : bk_okP (bk_m 223) P_223 = true ∧ 4 = (bk_m 223).2.2.1 := by decide +kernel
set_option maxRecDepth 100000 in
theorem bk_ok_224 : bk_okP (bk_m 224) P_224 = true ∧ 3 = (bk_m 224).2.2.1 := by decide +kernel
set_option maxRecDepth 100000 in
theorem bk_ok_225 : bk_okP (bk_m 225) P_225 = true ∧ 5 = (bk_m 225).2.2.1 := by decide +kernel
set_option maxRecDepth 100000 in
theorem bk_ok_226 : bk_okP (bk_m 226) P_226 = true ∧ 3 = (bk_m 226).2.2.1 := by decide +kernel
set_option maxRecDepth 100000 in
theorem bk_ok_227 : bk_okP (bk_m 227) P_227 = true ∧ 1 = (bk_m 227).2.2.1 := by decide +kernel
set_option maxRecDepth 100000 in
theorem bk_ok_228 : bk_okP (bk_m 228) P_228 = true ∧ 2 = (bk_m 228).2.2.1 := by decide +kernel
set_option maxRecDepth 100000 in
theorem bk_ok_229 : bk_okP (bk_m 229) P_229 = true ∧ 2 = (bk_m 229).2.2.1 := by decide +kernel
set_option maxRecDepth 100000 in
theorem bk_ok_230 : bk_okP (bk_m 230) P_230 = true ∧ 4 = (bk_m 230).2.2.1 := by decide +kernel
set_option maxRecDepth 100000 in
theorem bk_ok_231 : bk_okP (bk_m 231) P_231 = true ∧ 6 = (bk_m 231).2.2.1 := by decide +kernel
set_option maxRecDepth 100000 in
theorem bk_ok_232 : bk_okP (bk_m 232) P_232 = true ∧ 12 = (bk_m 232).2.2.1 := by decide +kernel
set_option maxRecDepth 100000 in
theorem bk_ok_233 : bk_okP (bk_m 233) P_233 = true ∧ 2 = (bk_m 233).2.2.1 := by decide +kernel
set_option maxRecDepth 100000 in
theorem bk_ok_234 : bk_okP (bk_m 234) P_234 = true ∧ 5 = (bk_m 234).2.2.1 := by decide +kernel
set_option maxRecDepth 100000 in
theorem bk_ok_235 : bk_okP (bk_m 235) P_235 = true ∧ 5 = (bk_m 235).2.2.1 := by decide +kernel
set_option maxRecDepth 100000 in
theorem bk_ok_236 : bk_okP (bk_m 236) P_236 = true ∧ 2 = (bk_m 236).2.2.1 := by decide +kernel
set_option maxRecDepth 100000 in
theorem bk_ok_237 : bk_okP (bk_m 237) P_237 = true ∧ 4 = (bk_m 237).2.2.1 := by decide +kernel
set_option maxRecDepth 100000 in
theorem bk_ok_238 : bk_okP (bk_m 238) P_238 = true ∧ 1 = (bk_m 238).2.2.1 := by decide +kernel
set_option maxRecDepth 100000 in
theorem bk_ok_239 : bk_okP (bk_m 239) P_239 = true ∧ 2 = (bk_m 239).2.2.1 := by decide +kernel
theorem bk_okT_200 : ∀ a, a < 200 → bk_ok1 a := lt_s (lt_s (lt_s (lt_s (lt_s (lt_s (lt_s (lt_s (lt_s (lt_s (lt_s (lt_s (lt_s (lt_s (lt_s (lt_s (lt_s (lt_s (lt_s (lt_s (bk_okT_180) bk_ok_180) bk_ok_181) bk_ok_182) bk_ok_183) bk_ok_184) bk_ok_185) bk_ok_186) bk_ok_187) bk_ok_188) bk_ok_189) bk_ok_190) bk_ok_191) bk_ok_192) bk_ok_193) bk_ok_194) bk_ok_195) bk_ok_196) bk_ok_197) bk_ok_198) bk_ok_199
theorem bk_okT_220 : ∀ a, a < 220 → bk_ok1 a := lt_s (lt_s (lt_s (lt_s (lt_s (lt_s (lt_s (lt_s (lt_s (lt_s (lt_s (lt_s (lt_s (lt_s (lt_s (lt_s (lt_s (lt_s (lt_s (lt_s (bk_okT_200) bk_ok_200) bk_ok_201) bk_ok_202) bk_ok_203) bk_ok_204) bk_ok_205) bk_ok_206) bk_ok_207) bk_ok_208) bk_ok_209) bk_ok_210) bk_ok_211) bk_ok_212) bk_ok_213) bk_ok_214) bk_ok_215) bk_ok_216) bk_ok_217) bk_ok_218) bk_ok_219
theorem bk_okT_240 : ∀ a, a < 240 → bk_ok1 a := lt_s (lt_s (lt_s (lt_s (lt_s (lt_s (lt_s (lt_s (lt_s (lt_s (lt_s (lt_s (lt_s (lt_s (lt_s (lt_s (lt_s (lt_s (lt_s (lt_s (bk_okT_220) bk_ok_220) bk_ok_221) bk_ok_222) bk_ok_223) bk_ok_224) bk_ok_225) bk_ok_226) bk_ok_227) bk_ok_228) bk_ok_229) bk_ok_230) bk_ok_231) bk_ok_232) bk_ok_233) bk_ok_234) bk_ok_235) bk_ok_236) bk_ok_237) bk_ok_238) bk_ok_239
end
section
set_option maxRecDepth 100000 in
theorem bk_ok_240 : bk_okP (bk_m 240) P_240 = true ∧ 4 = (bk_m 240).2.2.1 := by decide +kernel
set_option maxRecDepth 100000 in
theorem bk_ok_241 : bk_okP (bk_m 241) P_241 = true ∧ 7 = (bk_m 241).2.2.1 := by decide +kernel
set_option maxRecDepth 100000 in
theorem bk_ok_242 : bk_okP (bk_m 242) P_242 = true ∧ 2 = (bk_m 242).2.2.1 := by decide +kernel
set_option maxRecDepth 100000 in
theorem bk_ok_243 : bk_okP (bk_m 243) P_243 = true ∧ 8 = (bk_m 243).2.2.1 := by decide +kernel
set_option maxRecDepth 100000 in
theorem bk_ok_244 : bk_okP (bk_m 244) P_244 = true ∧ 2 = (bk_m 244).2.2.1 := by decide +kernel
set_option maxRecDepth 100000 in
theorem bk_ok_245 : bk_okP (bk_m 245) P_245 = true ∧ 2 = (bk_m 245).2.2.1 := by decide +kernel
set_option maxRecDepth 100000 in
theorem bk_ok_246 : bk_okP (bk_m 246) P_246 = true ∧ 8 = (bk_m 246).2.2.1 := by decide +kernel
set_option maxRecDepth 100000 in
theorem bk_ok_247 : bk_okP (bk_m 247) P_247 = true ∧ 3 = (bk_m 247).2.2.1 := by decide +kernel
set_option maxRecDepth 100000 in
theorem bk_ok_248 : bk_okP (bk_m 248) P_248 = true ∧ 6 = (bk_m 248).2.2.1 := by decide +kernel
set_option maxRecDepth 100000 in
theorem bk_ok_249 : bk_okP (bk_m 249) P_249 = true ∧ 5 = (bk_m 249).2.2.1 := by decide +kernel
set_option maxRecDepth 100000 in
theorem bk_ok_250 : bk_okP (bk_m 250) P_250 = true ∧ 2 = (bk_m 250).2.2.1 := by decide +kernel
set_option maxRecDepth 100000 in
theorem bk_ok_251 : bk_okP (bk_m 251) P_251 = true ∧ 2 = (bk_m 251).2.2.1 := by decide +kernel
set_option maxRecDepth 100000 in
theorem bk_ok_252 : bk_okP (bk_m 252) P_252 = true ∧ 4 = (bk_m 252).2.2.1 := by decide +kernel
set_option maxRecDepth 100000 in
theorem bk_ok_253 : bk_okP (bk_m 253) P_253 = true ∧ 2 = (bk_m 253).2.2.1 := by decide +kernel
set_option maxRecDepth 100000 in
theorem bk_ok_254 : bk_okP (bk_m 254) P_254 = true ∧ 3 = (bk_m 254).2.2.1 := by decide +kernel
set_option maxRecDepth 100000 in
theorem bk_ok_255 : bk_okP (bk_m 255) P_255 = true ∧ 2 = (bk_m 255).2.2.1 := by decide +kernel
set_option maxRecDepth 100000 in
theorem bk_ok_256 : bk_okP (bk_m 256) P_256 = true ∧ 3 = (bk_m 256).2.2.1 := by decide +kernel
set_option maxRecDepth 100000 in
theorem bk_ok_257 : bk_okP (bk_m 257) P_257 = true ∧ 2 = (bk_m 257).2.2.1 := by decide +kernel
set_option maxRecDepth 100000 in
theorem bk_ok_258 : bk_okP (bk_m 258) P_258 = true ∧ 4 = (bk_m 258).2.2.1 := by decide +kernel
set_option maxRecDepth 100000 in
theorem bk_ok_259 : bk_okP (bk_m 259) P_259 = true ∧ 4 = (bk_m 259).2.2.1 := by decide +kernel
set_option maxRecDepth 100000 in
theorem bk_ok_260 : bk_okP (bk_m 260) P_260 = true ∧ 2 = (bk_m 260).2.2.1 := by decide +kernel
set_option maxRecDepth 100000 in
theorem bk_ok_261 : bk_okP (bk_m 261) P_261 = true ∧ 2 = (bk_m 261).2.2.1 := by decide +kernel
set_option maxRecDepth 100000 in
theorem bk_ok_262 : bk_okP (bk_m 262) P_262 = true ∧ 3 = (bk_m 262).2.2.1 := by decide +kernel
set_option maxRecDepth 100000 in
theorem bk_ok_263 : bk_okP (bk_m 263) P_263 = true ∧ 3 = (bk_m 263).2.2.1 := by decide +kernel
set_option maxRecDepth 100000 in
theorem bk_ok_264 : bk_okP (bk_m 264) P_264 = true ∧ 2 = (bk_m 264).2.2.1 := by decide +kernel
set_option maxRecDepth 100000 in
theorem bk_ok_265 : bk_okP (bk_m 265) P_265 = true ∧ 6 = (bk_m 265).2.2.1 := by decide +kernel
set_option maxRecDepth 100000 in
theorem bk_ok_266 : bk_okP (bk_m 266) P_266 = true ∧ 4 = (bk_m 266).2.2.1 := by decide +kernel
set_option maxRecDepth 100000 in
theorem bk_ok_267 : bk_okP (bk_m 267) P_267 = true ∧ 2 = (bk_m 267).2.2.1 := by decide +kernel
set_option maxRecDepth 100000 in
theorem bk_ok_268 : bk_okP (bk_m 268) P_268 = true ∧ 2 = (bk_m 268).2.2.1 := by decide +kernel
set_option maxRecDepth 100000 in
theorem bk_ok_269 : bk_okP (bk_m 269) P_269 = true ∧ 2 = (bk_m 269).2.2.1 := by decide +kernel
set_option maxRecDepth 100000 in
theorem bk_ok_270 : bk_okP (bk_m 270) P_270 = true ∧ 2 = (bk_m 270).2.2.1 := by decide +kernel
set_option maxRecDepth 100000 in
theorem bk_ok_271 : bk_okP (bk_m 271) P_271 = true ∧ 4 = (bk_m 271).2.2.1 := by decide +kernel
set_option maxRecDepth 100000 in
theorem bk_ok_272 : bk_okP (bk_m 272) P_272 = true ∧ 1 = (bk_m 272).2.2.1 := by decide +kernel
set_option maxRecDepth 100000 in
theorem bk_ok_273 : bk_okP (bk_m 273) P_273 = true ∧ 1 = (bk_m 273).2.2.1 := by decide +kernel
set_option maxRecDepth 100000 in
theorem bk_ok_274 : bk_okP (bk_m 274) P_274 = true ∧ 6 = (bk_m 274).2.2.1 := by decide +kernel
set_option maxRecDepth 100000 in
theorem bk_ok_275 : bk_okP (bk_m 275) P_275 = true ∧ 2 = (bk_m 275).2.2.1 := by decide +kernel
set_option maxRecDepth 100000 in
theorem bk_ok_276 : bk_okP (bk_m 276) P_276 = true ∧ 1 = (bk_m 276).2.2.1 := by decide +kernel
set_option maxRecDepth 100000 in
theorem bk_ok_277 : bk_okP (bk_m 277) P_277 = true ∧ 3 = (bk_m 277).2.2.1 := by decide +kernel
set_option maxRecDepth 100000 in
theorem bk_ok_278 : bk_okP (bk_m 278) P_278 = true ∧ 4 = (bk_m 278).2.2.1 := by decide +kernel
set_option maxRecDepth 100000 in
theorem bk_ok_279 : bk_okP (bk_m 279) P_279 = true ∧ 8 = (bk_m 279).2.2.1 := by decide +kernel
set_option maxRecDepth 100000 in
theorem bk_ok_280 : bk_okP (bk_m 280) P_280 = true ∧ 2 = (bk_m 280).2.2.1 := by decide +kernel
set_option maxRecDepth 100000 in
theorem bk_ok_281 : bk_okP (bk_m 281) P_281 = true ∧ 3 = (bk_m 281).2.2.1 := by decide +kernel
set_option maxRecDepth 100000 in
theorem bk_ok_282 : bk_okP (bk_m 282) P_282 = true ∧ 3 = (bk_m 282).2.2.1 := by decide +kernel
set_option maxRecDepth 100000 in
theorem bk_ok_283 : bk_okP (bk_m 283) P_283 = true ∧ 2 = (bk_m 283).2.2.1 := by decide +kernel
theorem bk_okT_260 : ∀ a, a < 260 → bk_ok1 a := lt_s (lt_s (lt_s (lt_s (lt_s (lt_s (lt_s (lt_s (lt_s (lt_s (lt_s (lt_s (lt_s (lt_s (lt_s (lt_s (lt_s (lt_s (lt_s (lt_s (bk_okT_240) bk_ok_240) bk_ok_241) bk_ok_242) bk_ok_243) bk_ok_244) bk_ok_245) bk_ok_246) bk_ok_247) bk_ok_248) bk_ok_249) bk_ok_250) bk_ok_251) bk_ok_252) bk_ok_253) bk_ok_254) bk_ok_255) bk_ok_256) bk_ok_257) bk_ok_258) bk_ok_259
theorem bk_okT_280 : ∀ a, a < 280 → bk_ok1 a := lt_s (lt_s (lt_s (lt_s (lt_s (lt_s (lt_s (lt_s (lt_s (lt_s (lt_s (lt_s (lt_s (lt_s (lt_s (lt_s (lt_s (lt_s (lt_s (lt_s (bk_okT_260) bk_ok_260) bk_ok_261) bk_ok_262) bk_ok_263) bk_ok_264) bk_ok_265) bk_ok_266) bk_ok_267) bk_ok_268) bk_ok_269) bk_ok_270) bk_ok_271) bk_ok_272) bk_ok_273) bk_ok_274) bk_ok_275) bk_ok_276) bk_ok_277) bk_ok_278) bk_ok_279
theorem bk_okT_284 : ∀ a, a < 284 → bk_ok1 a := lt_s (lt_s (lt_s (lt_s (bk_okT_280) bk_ok_280) bk_ok_281) bk_ok_282) bk_ok_283
end
section
/-- what a method gives back -/
def bk_rval (rt : Option FieldType) (r : Int) : Option Value := match rt with
  | none => none
  | some .long => some (.long (Int64.ofInt r))
  | _ => some (.int (Int32.ofInt r))
def bk_rok (rt : Option FieldType) (r : Int) : Prop := match rt with
  | none => True
  | some .long => bk_r64 r
  | _ => bk_r32 r
/-- a method's end: the answer, and the memory behind it -/
def bk_Qc (rt : Option FieldType) (ba : Nat) (cA : Nat → ClassId) (D : va_G) (sc : Nat → Int → Int) (Q : bk_Q) : Array Value → State → Outcome → State → Prop := fun _ st o t =>
  ∃ (r : Int) (M : bk_M), Q 0 r M ∧ bk_rok rt r ∧ bk_okm M ∧ M 13 = sc ∧ o = .returned (bk_rval rt r) ∧ va_P D vwCl (bk_ws ba cA M) t.heap ∧ va_F (bk_A ba) st t
/-- .. by a throw -/
def bk_XC (ba : Nat) (cA : Nat → ClassId) (D : va_G) (sc : Nat → Int → Int) (Q : bk_Q) : String → State → State → Prop := fun E st t =>
  E = "java/util/NoSuchElementException" ∧ ∃ (M : bk_M), Q 1 0 M ∧ bk_okm M ∧ M 13 = sc ∧ va_P D vwCl (bk_ws ba cA M) t.heap ∧ va_F (bk_A ba) st t
/-- a method's start -/
def bk_Pic (ba b0 : Nat) (aK : Nat → Nat) (cA : Nat → ClassId) (D : va_G) (sc : Nat → Int → Int) (M : bk_M) (U : State) : Prop :=
  va_P D vwCl (bk_ws ba cA M) U.heap ∧ va_K D vwCl (bk_tys cA) U ∧ bk_okm M ∧ M 13 = sc ∧ bk_St ba b0 aK sc U U.heap ∧ U.heap.size ≥ ba
def bk_Pc (ba b0 : Nat) (aK : Nat → Nat) (cA : Nat → ClassId) (D : va_G) (sc : Nat → Int → Int) (as : List bk_V) (M : bk_M) : Array Value → State → Prop := fun v U =>
  v = (as.map (bk_rv ba b0 aK)).toArray ∧ bk_Pic ba b0 aK cA D sc M U
theorem bk_St.same {ba b0 : Nat} {aK : Nat → Nat} {sc : Nat → Int → Int} {u U : State} {H : Heap} (hv : u.vm = U.vm) (h : bk_St ba b0 aK sc u H) : bk_St ba b0 aK sc U H := by
  have ha : u.vm.Alike U.vm := hv ▸ Vm.Alike.refl u.vm
  obtain ⟨⟨h1, h2, h3⟩, h4, h5, ⟨aV, h6⟩, h7, h8⟩ := h
  exact ⟨⟨va_X.moved ha h1, h2, h3⟩, fun x hx => va_Nw.same rfl hv (h4 x hx), fun i hi => vk_R.same hv.symm (h5 i hi), ⟨aV, vk_S.moved ha h6⟩, vx_Zq.moved ha h7, vx_Zq.moved ha h8⟩
theorem bk_St.warm {ba b0 : Nat} {aK : Nat → Nat} {sc : Nat → Int → Int} {s U : State} {H : Heap} (hW : s.WarmedH U.vm) (h : bk_St ba b0 aK sc s H) : bk_St ba b0 aK sc U H := by
  have ha : s.vm.Alike U.vm := hW.alike
  obtain ⟨⟨h1, h2, h3⟩, h4, h5, ⟨aV, h6⟩, h7, h8⟩ := h
  exact ⟨⟨va_X.moved ha h1, h2, h3⟩, fun x hx => va_Nw.warmM hW (h4 x hx), fun i hi => vk_R.warm hW (h5 i hi), ⟨aV, vk_S.moved ha h6⟩, vx_Zq.moved ha h7, vx_Zq.moved ha h8⟩
theorem bk_St.kept {ba b0 : Nat} {aK : Nat → Nat} {sc : Nat → Int → Int} {U : State} {H H1 : Heap} (h : bk_St ba b0 aK sc U H) (hz : H.size ≤ H1.size) (hq : ∀ a : Nat, a < H.size → ¬ bk_A ba a → H1[a]? = H[a]?) : bk_St ba b0 aK sc U H1 := by
  obtain ⟨⟨h1, h2, h3⟩, h4, h5, ⟨aV, h6⟩, h7, h8⟩ := h
  exact ⟨⟨va_X.kept h1 (hq b0 h2 (fun q => by have := q.1; omega)), by omega, h3⟩, h4, h5, ⟨aV, vk_S.kept h6 hq⟩, vx_Zq.kept h7 hq, vx_Zq.kept h8 hq⟩
theorem bk_Pc_blind {ba b0 : Nat} {aK : Nat → Nat} {cA : Nat → ClassId} {D : va_G} {sc : Nat → Int → Int} {as : List bk_V} {M : bk_M} : FrameBlind (bk_Pc ba b0 aK cA D sc as M) := by
  rintro a U g mk ⟨h0, h1, h2, h3, h4, h5, h6⟩
  exact ⟨h0, h1, va_K.moved (u := U) (U := U.calling g mk a) (Vm.Alike.refl U.vm) h2, h3, h4, bk_St.same (u := U) (U := U.calling g mk a) rfl h5, h6⟩
section RUN
variable {p : Program} {l : Launch} {e : Env} {R : Room} {s : State} {m : MethodId} {args : Array Value} {below : List Frame} {meth : Method} {c : Code} {cc : ByteArray} {own : Nat}
variable {ba b0 : Nat} {aK : Nat → Nat} {cA : Nat → ClassId} {D : va_G} {sc : Nat → Int → Int} {nL mc ms : Nat} {Z : State → Prop}
variable {Ca : bk_Ca} {Q : bk_Q} {K : bk_K} {b pc : Nat} {ls st : List bk_V} {M : bk_M}
theorem bk_s_copy (C0 : bk_Cx p R s m args c cc own nL ba b0 aK cA D sc) {kx : Nat} (hpl : (own, kx) ∈ bk_pl0) (hd : decode cc pc = .ok (.invokestatic kx, 3)) (h : bk_op Ca (bk_X p l e R s m args below meth c ba b0 aK cA D sc nL mc ms Z) Q (.invokevirtual 0) K b ls st M) (hk : ∀ b ls st M, K b ls st M → bk_X p l e R s m args below meth c ba b0 aK cA D sc nL mc ms Z b (pc + 3) ls st M) : bk_X p l e R s m args below meth c ba b0 aK cA D sc nL mc ms Z b pc ls st M := by
  obtain ⟨hx, hb, hml, hown, hts, hK, hSt, hR⟩ := C0
  simp only [bk_op] at h
  split at h
  · rename_i len dp dk di sp sk si st' _
    intro hs hl hn hM h13 H locs cells slots lsr hP hS hc hsl hL
    obtain ⟨⟨g1, g2, g3, g4, g5⟩, h2⟩ := h
    have hts2 : ∀ w, w ∈ bk_W → w.before args s = true := hts
    have hlen : bk_r32 len := hs (.inl len) (by simp)
    have hdp : bk_r32 dp := hs (.inl dp) (by simp)
    have hsp : bk_r32 sp := hs (.inl sp) (by simp)
    have hs' : ∀ w ∈ st', bk_okv w := fun w hw => hs w (by simp [hw])
    have hcat := bk_cats (ba := ba) (b0 := b0) (aK := aK) st'
    by_cases hcond : (Nat.beq (bk_so sk) (bk_so dk) && Nat.ble (bk_so sk) 1 && Nat.ble st'.length 4 && Nat.ble 16 sk && Nat.ble 16 dk) = true
    · rw [hcond] at h2
      simp only [cond_true] at h2
      simp only [Bool.and_eq_true] at hcond
      obtain ⟨⟨⟨⟨c1, c2⟩, c3⟩, c4⟩, c5⟩ := hcond
      have hso := nb_beqT c1
      have c2 := Nat.le_of_ble_eq_true c2
      have c3 := Nat.le_of_ble_eq_true c3
      have h16s := Nat.le_of_ble_eq_true c4
      have h16d := Nat.le_of_ble_eq_true c5
      have hqs := bk_arr2 (hs (.inr (.inr (sk, si))) (by simp)) h16s
      have hqd := bk_arr2 (hs (.inr (.inr (dk, di))) (by simp)) h16d
      show W p l e R s m args below meth c H locs cells slots Z (F0 m pc lsr (.int (Int32.ofInt len) :: .int (Int32.ofInt dp) :: .ref (bk_ad ba b0 aK dk di) :: .int (Int32.ofInt sp) :: .ref (bk_ad ba b0 aK sk si) :: st'.map (bk_rv ba b0 aK)))
      rw [bk_ad_lay hqs, bk_ad_lay hqd]
      rcases (show bk_so sk = 0 ∨ bk_so sk = 1 by omega) with hs0 | hs0
      · have eS := bk_ws_at (ba := ba) (cA := cA) (M := M) hqs
        have eD := bk_ws_at (ba := ba) (cA := cA) (M := M) hqd
        have hsod : bk_so dk = 0 := by rw [← hso, hs0]
        rw [bk_en_i h16s hs0] at eS
        rw [bk_en_i h16d hsod] at eD
        refine va_copyi hx hb (hml.trans hL.1.symm) hown (hts2 _ (bk_wl (f := fun q => .methodLink (bk_R q.1) q.2 arraycopyName) bk_p_l.1 hpl rfl)) (hts2 _ (bk_w1 bk_p_sys.2.2.2.1 rfl)) (hts2 _ (bk_w1 bk_p_sys.2.2.1 rfl)) (hts2 _ (bk_w1 bk_p_sys.1 rfl)) hK hP bk_ws_D hS (bk_off sk si) (bk_off dk di) 0 0 eS eD (ty := .int) rfl rfl rfl (n := Int32.ofInt len) (by rw [nb_z, nb_lt hsp nb_r0]; omega) (by rw [nb_z, nb_lt hdp nb_r0]; omega) (by rw [nb_z, nb_lt hlen nb_r0]; omega) (by rw [nb_clamp hsp, nb_clamp hlen]; omega) (by rw [nb_clamp hdp, nb_clamp hlen]; omega) (fun _ _ => rfl) hR.1 (by rw [show nativeFrameWords "java/lang/System" "arraycopy" 5 = 7 from rfl]; omega) hd (fun H1 locs1 hP1 hD1 hS1 => ?_)
        rw [nb_clamp hsp, nb_clamp hdp, nb_clamp hlen, bk_cpyI (F := Int32.ofInt) g2 g4 g1, ← bk_en_i (ba := ba) (cA := cA) (M := bk_cpy M sk si sp dk di dp len) h16d hsod, bk_ws_set hqd (fun k' i' j' hne => bk_cpy_ne hne)] at hP1
        exact hk _ _ _ _ (h2 _ rfl) hs' hl hn (bk_okm_c hM hqs h16d h16s hso g2 g3) ((show bk_cpy M sk si sp dk di dp len 13 = M 13 by funext i' j'; exact bk_cpy_ne (fun q => by have := congrArg Prod.fst q; simp at this; omega)).trans h13) H1 locs1 cells slots lsr hP1 hS1 hc hsl hL
      · have eS := bk_ws_at (ba := ba) (cA := cA) (M := M) hqs
        have eD := bk_ws_at (ba := ba) (cA := cA) (M := M) hqd
        have hsod : bk_so dk = 1 := by rw [← hso, hs0]
        rw [bk_en_l h16s hs0] at eS
        rw [bk_en_l h16d hsod] at eD
        refine va_copyl hx hb (hml.trans hL.1.symm) hown (hts2 _ (bk_wl (f := fun q => .methodLink (bk_R q.1) q.2 arraycopyName) bk_p_l.1 hpl rfl)) (hts2 _ (bk_w1 bk_p_sys.2.2.2.1 rfl)) (hts2 _ (bk_w1 bk_p_sys.2.2.1 rfl)) (hts2 _ (bk_w1 bk_p_sys.1 rfl)) hK hP bk_ws_D hS (bk_off sk si) (bk_off dk di) 1 1 eS eD (ty := .long) rfl rfl rfl (n := Int32.ofInt len) (by rw [nb_z, nb_lt hsp nb_r0]; omega) (by rw [nb_z, nb_lt hdp nb_r0]; omega) (by rw [nb_z, nb_lt hlen nb_r0]; omega) (by rw [nb_clamp hsp, nb_clamp hlen]; omega) (by rw [nb_clamp hdp, nb_clamp hlen]; omega) (fun _ _ => rfl) hR.1 (by rw [show nativeFrameWords "java/lang/System" "arraycopy" 5 = 7 from rfl]; omega) hd (fun H1 locs1 hP1 hD1 hS1 => ?_)
        rw [nb_clamp hsp, nb_clamp hdp, nb_clamp hlen, bk_cpyL (F := Int64.ofInt) g2 g4 g1, ← bk_en_l (ba := ba) (cA := cA) (M := bk_cpy M sk si sp dk di dp len) h16d hsod, bk_ws_set hqd (fun k' i' j' hne => bk_cpy_ne hne)] at hP1
        exact hk _ _ _ _ (h2 _ rfl) hs' hl hn (bk_okm_c hM hqs h16d h16s hso g2 g3) ((show bk_cpy M sk si sp dk di dp len 13 = M 13 by funext i' j'; exact bk_cpy_ne (fun q => by have := congrArg Prod.fst q; simp at this; omega)).trans h13) H1 locs1 cells slots lsr hP1 hS1 hc hsl hL
    · rw [Bool.eq_false_iff.mpr hcond] at h2
      exact h2.elim
  all_goals first | exact h.elim | (exfalso; omega)
/-- how a method ends, on the machine -/
def bk_Zs (p : Program) (l : Launch) (e : Env) (R : Room) (s : State) (m : MethodId) (args : Array Value) (below : List Frame) (meth : Method) (c : Code) (cc : ByteArray) (rt : Option FieldType) (ba : Nat) (cA : Nat → ClassId) (D : va_G) (sc : Nat → Int → Int) (nL mc ms : Nat) (Q : bk_Q) (Z : State → Prop) : Prop :=
  ∀ (r : Int) (M : bk_M), bk_okm M → M 13 = sc → ∀ (H : Heap) (locs : List Loc) (cells slots pc : Nat) (lsr : Array Slot), va_P D vwCl (bk_ws ba cA M) H → va_S (bk_A ba) s.heap H locs → cells ≤ mc → slots ≤ ms →
    (bk_rok rt r → Q 0 r M →
      (rt = some .int → decode cc pc = .ok (.ireturn, 1) → W p l e R s m args below meth c H locs cells slots Z (F0 m pc lsr [.int (Int32.ofInt r)])) ∧
      (rt = some .boolean → r = 0 ∨ r = 1 → decode cc pc = .ok (.ireturn, 1) → W p l e R s m args below meth c H locs cells slots Z (F0 m pc lsr [.int (Int32.ofInt r)])) ∧
      (rt = some .long → decode cc pc = .ok (.lreturn, 1) → W p l e R s m args below meth c H locs cells slots Z (F0 m pc lsr [.long (Int64.ofInt r)])) ∧
      (rt = none → decode cc pc = .ok (.return_, 1) → W p l e R s m args below meth c H locs cells slots Z (F0 m pc lsr []))) ∧
    (Q 1 0 M → lsr.size = nL → cells + 1 ≤ mc → slots + 6 ≤ ms → decode cc pc = .ok (.new 133, 3) → decode cc (pc + 3) = .ok (.dup, 1) → decode cc (pc + 4) = .ok (.invokespecial 135, 3) → decode cc (pc + 7) = .ok (.athrow, 1) → W p l e R s m args below meth c H locs cells slots Z (F0 m pc lsr []))
theorem bk_s_ireturn {rt : Option FieldType} (hZ : bk_Zs p l e R s m args below meth c cc rt ba cA D sc nL mc ms Q Z) (hrt : rt = some .int) (hd : decode cc pc = .ok (.ireturn, 1)) (h : bk_op Ca (bk_X p l e R s m args below meth c ba b0 aK cA D sc nL mc ms Z) Q (.ireturn) K b ls st M) : bk_X p l e R s m args below meth c ba b0 aK cA D sc nL mc ms Z b pc ls st M := by
  simp only [bk_op] at h
  split at h
  · rename_i x
    intro hs hl hn hM h13 H locs cells slots lsr hP hS hc hsl hL
    subst hrt
    exact ((hZ x M hM h13 H locs cells slots pc lsr hP hS (by omega) (by omega)).1 (hs (.inl x) (by simp)) h).1 rfl hd
  · exact h.elim
theorem bk_s_freturn {rt : Option FieldType} (hZ : bk_Zs p l e R s m args below meth c cc rt ba cA D sc nL mc ms Q Z) (hrt : rt = some .boolean) (hd : decode cc pc = .ok (.ireturn, 1)) (h : bk_op Ca (bk_X p l e R s m args below meth c ba b0 aK cA D sc nL mc ms Z) Q (.freturn) K b ls st M) : bk_X p l e R s m args below meth c ba b0 aK cA D sc nL mc ms Z b pc ls st M := by
  simp only [bk_op] at h
  split at h
  · rename_i x
    intro hs hl hn hM h13 H locs cells slots lsr hP hS hc hsl hL
    subst hrt
    exact ((hZ x M hM h13 H locs cells slots pc lsr hP hS (by omega) (by omega)).1 (hs (.inl x) (by simp)) h.2).2.1 rfl h.1 hd
  · exact h.elim
theorem bk_s_lreturn {rt : Option FieldType} (hZ : bk_Zs p l e R s m args below meth c cc rt ba cA D sc nL mc ms Q Z) (hrt : rt = some .long) (hd : decode cc pc = .ok (.lreturn, 1)) (h : bk_op Ca (bk_X p l e R s m args below meth c ba b0 aK cA D sc nL mc ms Z) Q (.lreturn) K b ls st M) : bk_X p l e R s m args below meth c ba b0 aK cA D sc nL mc ms Z b pc ls st M := by
  simp only [bk_op] at h
  split at h
  · rename_i x
    intro hs hl hn hM h13 H locs cells slots lsr hP hS hc hsl hL
    subst hrt
    exact ((hZ x M hM h13 H locs cells slots pc lsr hP hS (by omega) (by omega)).1 (hs (.inr (.inl x)) (by simp)) h).2.2.1 rfl hd
  · exact h.elim
theorem bk_s_return_ {rt : Option FieldType} (hZ : bk_Zs p l e R s m args below meth c cc rt ba cA D sc nL mc ms Q Z) (hrt : rt = none) (hd : decode cc pc = .ok (.return_, 1)) (h : bk_op Ca (bk_X p l e R s m args below meth c ba b0 aK cA D sc nL mc ms Z) Q (.return_) K b ls st M) : bk_X p l e R s m args below meth c ba b0 aK cA D sc nL mc ms Z b pc ls st M := by
  simp only [bk_op] at h
  split at h
  · intro hs hl hn hM h13 H locs cells slots lsr hP hS hc hsl hL
    subst hrt
    exact ((hZ 0 M hM h13 H locs cells slots pc lsr hP hS (by omega) (by omega)).1 trivial h).2.2.2 rfl hd
  · exact h.elim
theorem bk_s_athrow {rt : Option FieldType} (hZ : bk_Zs p l e R s m args below meth c cc rt ba cA D sc nL mc ms Q Z) (hd : decode cc pc = .ok (.new 133, 3) ∧ decode cc (pc + 3) = .ok (.dup, 1) ∧ decode cc (pc + 4) = .ok (.invokespecial 135, 3) ∧ decode cc (pc + 7) = .ok (.athrow, 1)) (h : bk_op Ca (bk_X p l e R s m args below meth c ba b0 aK cA D sc nL mc ms Z) Q (.athrow) K b ls st M) : bk_X p l e R s m args below meth c ba b0 aK cA D sc nL mc ms Z b pc ls st M := by
  simp only [bk_op] at h
  split at h
  · intro hs hl hn hM h13 H locs cells slots lsr hP hS hc hsl hL
    exact (hZ 0 M hM h13 H locs cells slots pc lsr hP hS (by omega) (by omega)).2 h hL.1 (by omega) (by omega) hd.1 hd.2.1 hd.2.2.1 hd.2.2.2
  · exact h.elim
end RUN
end
section
def bk_rm (d b : Nat) : Room := { frames := d + 10, cells := b, slots := 6 * b, locals := 100 * (d + 10) }
theorem bk_me_len : bk_me.length = 284 := by decide +kernel
theorem bk_m_in {μ : Nat} (h : μ < 284) : bk_m μ ∈ bk_me := by
  have h2 : μ < bk_me.length := by rw [bk_me_len]; exact h
  unfold bk_m
  rw [List.getD_eq_getElem?_getD, List.getElem?_eq_getElem h2]
  exact List.getElem_mem h2
theorem bk_in_mem {w : Cond} {P : List bk_Me} {T : List Cond} (hf : T.filter bk_isC = P.map bk_mw) {x : bk_Me} (hx : x ∈ P) (hw : w = bk_mw x) : w ∈ T := by
  have h1 : w ∈ P.map bk_mw := List.mem_map.mpr ⟨x, hx, hw.symm⟩
  rw [← hf] at h1
  exact (List.mem_filter.mp h1).1
theorem bk_mw_t {x : bk_Me} (h : x ∈ bk_me) : bk_mw x ∈ tables_1 := by
  unfold bk_me at h
  simp only [List.mem_append] at h
  unfold tables_1
  rcases h with ((((((h | h) | h) | h) | h) | h) | h) | h
  · exact List.mem_append_left _ (bk_in_mem bk_me1_in h rfl)
  · exact List.mem_append_right _ (List.mem_append_right _ (List.mem_append_left _ (bk_in_mem bk_me3_in h rfl)))
  · exact List.mem_append_right _ (List.mem_append_right _ (List.mem_append_right _ (List.mem_append_left _ (bk_in_mem bk_me4_in h rfl))))
  · exact List.mem_append_right _ (List.mem_append_right _ (List.mem_append_right _ (List.mem_append_right _ (List.mem_append_left _ (bk_in_mem bk_me5_in h rfl)))))
  · exact List.mem_append_right _ (List.mem_append_right _ (List.mem_append_right _ (List.mem_append_right _ (List.mem_append_right _ (List.mem_append_left _ (bk_in_mem bk_me6_in h rfl))))))
  · exact List.mem_append_right _ (List.mem_append_right _ (List.mem_append_right _ (List.mem_append_right _ (List.mem_append_right _ (List.mem_append_right _ (List.mem_append_left _ (bk_in_mem bk_me7_in h rfl)))))))
  · exact List.mem_append_right _ (List.mem_append_right _ (List.mem_append_right _ (List.mem_append_right _ (List.mem_append_right _ (List.mem_append_right _ (List.mem_append_right _ (List.mem_append_left _ (bk_in_mem bk_me8_in h rfl))))))))
  · exact List.mem_append_right _ (List.mem_append_right _ (List.mem_append_right _ (List.mem_append_right _ (List.mem_append_right _ (List.mem_append_right _ (List.mem_append_right _ (List.mem_append_right _ (bk_in_mem bk_me9_in h rfl))))))))
theorem bk_mw_W {μ : Nat} (h : μ < 284) : bk_mw (bk_m μ) ∈ bk_W := bk_W_of (bk_mw_t (bk_m_in h)) rfl
theorem bk_W_good {w : Cond} (h : w ∈ bk_W) : (w.onTables && w.keeps) = true ∨ ∃ ty, w = .arrayClass ty := good_of_word (List.mem_filter.mp h).2
theorem bk_good {ws : List Cond} (h : ∀ w ∈ ws, w ∈ bk_W) : GoodIn bk_W ws := fun w hw => ⟨h w hw, bk_W_good (h w hw)⟩
/-- a method's words: its own code, and the tables' -/
def bk_wsm (μ : Nat) : List Cond := bk_mw (bk_m μ) :: bk_W
theorem bk_wsm_in {μ : Nat} (h : μ < 284) : ∀ w ∈ bk_wsm μ, w ∈ bk_W := fun w hw => (List.mem_cons.mp hw).elim (fun q => q ▸ bk_mw_W h) fun q => q
set_option maxRecDepth 20000 in
theorem bk_me_ok : ∀ x ∈ bk_me, x.1.cls = bk_R x.2.2.2.2.2.1 ∧ plainName x.1.cls = true ∧ (x.1.cls ≠ "java/lang/invoke/MethodHandle" ∧ x.1.cls ≠ "java/lang/invoke/VarHandle") ∧ (parseMethodDescriptor x.1.desc).map (fun d => d.parameters.length) = some (x.2.2.2.2.2.2 - (if x.2.2.2.2.1 = true then 0 else 1)) ∧ x.2.2.1 ≤ 50 ∧ x.2.2.2.2.2.1 ∈ bk_ini ∧ (x.2.2.2.2.1 = false → 1 ≤ x.2.2.2.2.2.2 ∧ x.2.2.2.2.2.1 < 13) := by decide +kernel
theorem bk_ini_W {c : Nat} (h : c ∈ bk_ini) : Cond.initialized (bk_R c) ∈ bk_W := bk_W_of (bk_sub_mem bk_ini_in _ (List.mem_map.mpr ⟨c, h, rfl⟩)) rfl
theorem bk_lw_W {x : Nat × Nat × Nat} (h : x ∈ bk_ml) : bk_lw x ∈ bk_W := bk_W_of (bk_sub_mem bk_ml_in _ (List.mem_map.mpr ⟨x, h, rfl⟩)) rfl
theorem bk_i_W {μ : Nat} (h : μ ∈ bk_iT) : Cond.instanceMethod (bk_m μ).1 ∈ bk_W := bk_W_of (bk_sub_mem bk_iT_in _ (List.mem_map.mpr ⟨μ, h, rfl⟩)) rfl
theorem bk_t_W {μ : Nat} (h : μ ∈ bk_tT) : Cond.static (bk_m μ).1 ∈ bk_W := bk_W_of (bk_sub_mem bk_tT_in _ (List.mem_map.mpr ⟨μ, h, rfl⟩)) rfl
theorem bk_s_W {μ : Nat} (h : μ ∈ bk_sT ∨ μ ∈ bk_sP) : bk_ms (bk_m μ) ∈ bk_W := by
  rcases h with h | h
  · exact bk_W_of (bk_sub_mem bk_sT_in _ (List.mem_map.mpr ⟨μ, h, rfl⟩)) rfl
  · exact bk_W_of2 (bk_sub_mem bk_sP_in _ (List.mem_map.mpr ⟨μ, h, rfl⟩)) rfl
theorem bk_rt_ok : ∀ x ∈ bk_me, x.2.2.2.1 = none ∨ x.2.2.2.1 = some .int ∨ x.2.2.2.1 = some .boolean ∨ x.2.2.2.1 = some .long := by decide +kernel
section SNDC
variable {p : Program} {l : Launch} {e : Env} {R : Room} {s : State} {m : MethodId} {args : Array Value} {below : List Frame} {meth : Method} {c : Code} {cc : ByteArray} {own : Nat}
variable {ba b0 : Nat} {aK : Nat → Nat} {cA : Nat → ClassId} {D : va_G} {sc : Nat → Int → Int} {nL mc ms : Nat} {Z : State → Prop}
variable {Q : bk_Q} {K : bk_K} {b pc : Nat} {ls st : List bk_V} {M : bk_M}
/-- behind a call -/
theorem bk_call {H : Heap} {locs : List Loc} {cells slots : Nat} {lsr : Array Slot} {st0 rest : List Value} {rt : Option FieldType} {a : Array Value} {Q' : bk_Q}
    (hr : va_Run p l e R s m args below meth c H locs cells slots 0 0 (F0 m pc lsr st0) rest (bk_Qc rt ba cA D sc Q' a) (bk_A ba)) (hS : va_S (bk_A ba) s.heap H locs)
    (kk : ∀ (r : Int) (M' : bk_M) (H1 : Heap) (locs1 : List Loc), Q' 0 r M' → bk_rok rt r → bk_okm M' → M' 13 = sc → va_P D vwCl (bk_ws ba cA M') H1 → va_S (bk_A ba) s.heap H1 locs1 →
      W p l e R s m args below meth c H1 locs1 cells slots Z (F0 m (pc + 3) lsr ((bk_rval rt r).toList ++ rest))) : W p l e R s m args below meth c H locs cells slots Z (F0 m pc lsr st0) := by
  intro T hT X
  obtain ⟨v, st₀, t, T', L, h0, X', hL, e1, e2, ⟨r, M', q1, q2, q3, q4, q5, q6, hz, hk⟩, stp⟩ := hr T hT X
  cases q5
  rw [h0] at hz hk
  obtain ⟨t2, a1, b1⟩ := kk r M' T'.heap (locs ++ L) q1 q2 q3 q4 (by rw [e1]; exact q6)
    ⟨Nat.le_trans hS.1 (by rw [e1]; exact hz), fun q h1 h2 => by rw [e1, hk q (Nat.lt_of_lt_of_le h1 hS.1) h2]; exact hS.2.1 q h1 h2, fun q hq => by
      rcases List.mem_append.mp hq with h | h
      · exact hS.2.2 q h
      · exact hL q h⟩ T' rfl X'
  exact ⟨t2, stp t2 a1, b1⟩
/-- the contracts of all methods, so deep -/
def bk_S (l : Launch) (ba b0 : Nat) (aK : Nat → Nat) (cA : Nat → ClassId) (D : va_G) (sc : Nat → Int → Int) (d : Nat) : Prop :=
  ∀ (μ : Nat) (as : List bk_V) (M : bk_M) (Q : bk_Q), μ < 284 → bk_C d 0 μ as M Q → bk_wd as ≤ (bk_m μ).2.2.1 → (∀ v ∈ as, bk_okv v) → bk_okm M → M 13 = sc →
    Met l (bk_m μ).1 (bk_wsm μ) (bk_rm d 0) (bk_Pc ba b0 aK cA D sc as M) (bk_Qc (bk_m μ).2.2.2.1 ba cA D sc Q) 0 0 (bk_A ba)
theorem bk_push_rv {rt : Option FieldType} {r : Int} {n : Nat} {st : List bk_V} (h : n = (match rt with | none => 0 | some .int => 1 | some .boolean => 1 | some .long => 2 | _ => 3)) (hn : n < 3) :
    (bk_rval rt r).toList ++ st.map (bk_rv ba b0 aK) = (bk_push n r st).map (bk_rv ba b0 aK) ∧ (bk_rok rt r → (∀ v ∈ st, bk_okv v) → ∀ v ∈ bk_push n r st, bk_okv v) := by
  cases rt with
  | none => subst h; exact ⟨rfl, fun _ h => h⟩
  | some ty =>
    cases ty <;> simp only at h <;> first
    | omega
    | (subst h; exact ⟨rfl, fun h1 h2 => bk_ocons h1 h2⟩)
/-- a call of a method of the class or the reference -/
theorem bk_s_call {d : Nat} (hI : bk_S l ba b0 aK cA D sc d) {n : Nat} {r : Instr} {rt0 : Option FieldType} {nL0 : Nat} (C0 : bk_Cx p R s m args c cc own nL ba b0 aK cA D sc) (hRd : R.frames = d + 11 ∧ R.locals = 100 * (d + 11)) (hmc : mc ≤ R.cells ∧ ms ≤ R.slots)
    (hck : bk_ck own rt0 nL0 pc r 3 (.invokestatic n) = true) (hd : decode cc pc = .ok (r, 3)) (h : bk_op (bk_C d) (bk_X p l e R s m args below meth c ba b0 aK cA D sc nL mc ms Z) Q (.invokestatic n) K b ls st M) (hk : ∀ b ls st M, K b ls st M → bk_X p l e R s m args below meth c ba b0 aK cA D sc nL mc ms Z b (pc + 3) ls st M) : bk_X p l e R s m args below meth c ba b0 aK cA D sc nL mc ms Z b pc ls st M := by
  have C1 := C0
  obtain ⟨hx, hb, hml, hown, hts, hK, hSt, hR⟩ := C0
  simp only [bk_op] at h
  split at h
  · rename_i as st' htk
    obtain ⟨l0, hl1, hl2, hl3⟩ := bk_take_eq _ _ _ _ _ htk
    simp only [List.append_nil] at hl2
    by_cases hcond : (Nat.ble st'.length 4 && bk_rcv (n / 32768 % 16) as && Nat.beq (bk_wd as) (n / 524288)) = true
    rotate_left
    · rw [Bool.eq_false_iff.mpr hcond] at h
      exact h.elim
    rw [hcond] at h
    simp only [cond_true] at h
    rw [Bool.and_eq_true, Bool.and_eq_true] at hcond
    have hle := Nat.le_of_ble_eq_true hcond.1.1
    have hrc := hcond.1.2
    have hwd := nb_beqT hcond.2
    simp only [bk_ck, Bool.and_eq_true, decide_eq_true_eq] at hck
    obtain ⟨⟨-, k1, k0, k2, k3, k4⟩, hck2⟩ := hck
    generalize hμ : n / 64 % 512 = μ at *
    have hμ1 : μ < 284 := by rw [← bk_me_len]; exact k2
    obtain ⟨m1, m2, m3, m4, m5, m6, m7⟩ := bk_me_ok _ (bk_m_in hμ1)
    intro hs hl hn hM h13 H locs cells slots lsr hP hS hc hsl hL
    have hst : st.map (bk_rv ba b0 aK) = (as.map (bk_rv ba b0 aK)).reverse ++ st'.map (bk_rv ba b0 aK) := by rw [hl1, hl2, List.map_append, ← List.map_reverse, List.reverse_reverse]
    have has : ∀ v ∈ as, bk_okv v := fun v hv => hs v (by rw [hl1]; exact List.mem_append_left _ (by rw [hl2] at hv; exact List.mem_reverse.mp hv))
    have hs' : ∀ w ∈ st', bk_okv w := fun w hw => hs w (by rw [hl1]; exact List.mem_append_right _ hw)
    have hasl : as.length = (bk_m μ).2.2.2.2.2.2 := by rw [hl2, List.length_reverse, hl3, k3]
    have hM1 := hI μ as M _ hμ1 h (by rw [hwd]; exact k0) has hM h13
    have hcat := bk_cats (ba := ba) (b0 := b0) (aK := aK) st'
    have hn3 : n % 4 < 3 := by
      have h5 : n % 4 < 4 := Nat.mod_lt _ (by omega)
      have h6 : n % 4 ≠ 3 := by
        intro q
        rw [q] at k4
        have h7 := bk_rt_ok _ (bk_m_in hμ1)
        rcases h7 with z | z | z | z <;> rw [z] at k4 <;> simp at k4
      omega
    have hpush := fun r => bk_push_rv (ba := ba) (b0 := b0) (aK := aK) (r := r) (st := st') k4 hn3
    have hroom : (bk_rm d 0).frames + 1 ≤ R.frames ∧ 8 + ((bk_m μ).2.2.1 + 11) + (bk_rm d 0).locals ≤ R.locals := by
      show d + 10 + 1 ≤ R.frames ∧ 8 + ((bk_m μ).2.2.1 + 11) + 100 * (d + 10) ≤ R.locals
      omega
    have hini : Cond.initialized (bk_m μ).1.cls ∈ bk_W := by rw [m1]; exact bk_ini_W m6
    have go : ∀ {a : Array Value} {st0 : List Value}, va_Run p l e R s m args below meth c H locs cells slots 0 0 (F0 m pc lsr st0) (st'.map (bk_rv ba b0 aK)) (bk_Qc (bk_m μ).2.2.2.1 ba cA D sc (fun t r M' => t = 0 ∧ K b ls (bk_push (n % 4) r st') M') a) (bk_A ba) → W p l e R s m args below meth c H locs cells slots Z (F0 m pc lsr st0) := by
      intro a st0 hr
      refine bk_call hr hS (fun r M' H1 locs1 q1 q2 q3 q4 q5 q6 => ?_)
      rw [(hpush r).1]
      exact hk _ _ _ _ q1.2 ((hpush r).2 q2 hs') hl hn q3 q4 H1 locs1 cells slots lsr q5 q6 hc hsl hL
    have hPic : ∀ U : State, U.heap = H → s.WarmedH U.vm → bk_Pic ba b0 aK cA D sc M U := by
      intro U hU hW
      refine ⟨by rw [hU]; exact hP, va_K.moved hW.alike hK, hM, h13, ?_, ?_⟩
      · rw [hU]; exact bk_St.warm hW (bk_St.kept hSt hS.1 hS.2.1)
      · have := hR.2.2; have := hS.1; rw [hU]; omega
    rw [hst]
    have hF : CallFix p m c cc nL s args bk_W (bk_R own) := ⟨hx, hb, hml, hown, hts⟩
    cases r <;> simp only [Bool.false_eq_true, decide_eq_true_eq] at hck2
    case invokestatic k =>
      obtain ⟨s1, s2, s3⟩ := hck2
      rw [if_pos s1] at m4
      rcases s3 with s3 | s3
      · refine go (va_runS (As := as.map (bk_rv ba b0 aK)) hF hM1 (va_cwS _ hts (bk_good fun w hw => ?_) rfl rfl rfl ⟨m3.1, m3.2, m4⟩ hroom) ⟨bk_Pc_blind, fun U hU hW => ⟨rfl, hPic U hU hW⟩⟩ rfl (by rw [List.length_map, hasl]; omega) hL.1 rfl (lv_room (by omega)) hd ⟨by omega, by omega⟩)
        unfold va_wsS at hw
        rcases List.mem_append.mp hw with hw | hw
        · simp only [List.mem_cons, List.not_mem_nil, or_false] at hw
          rcases hw with rfl | rfl | rfl
          · exact bk_lw_W s3
          · exact bk_t_W s2
          · exact hini
        · exact bk_wsm_in hμ1 w hw
      · refine go (va_runSN (As := as.map (bk_rv ba b0 aK)) (host := "BanksDealt") hF hM1 ⟨va_cnB _ hts (bk_good (bk_wsm_in hμ1)) rfl rfl rfl (hSt.2.1 _ s3) (hts _ hini) ⟨m3.1, m3.2, m4⟩ hroom, hts _ (bk_t_W s2), trivial⟩ ⟨bk_Pc_blind, fun U hU hW => ⟨rfl, hPic U hU hW⟩⟩ rfl (by rw [List.length_map, hasl]; omega) hL.1 rfl (lv_room (by omega)) hd ⟨by omega, by omega⟩)
    case invokevirtual k =>
      obtain ⟨s1, s2, s3, s4⟩ := hck2
      rw [if_neg (by rw [s1]; decide)] at m4
      obtain ⟨m8, m9⟩ := m7 s1
      rw [if_neg (by rw [s1]; decide)] at k1
      rw [k1] at hrc
      cases as with
      | nil => rw [← hasl] at m8; exact absurd m8 (by decide)
      | cons v0 as' =>
        rcases v0 with z | z | ⟨k0, i0⟩
        · cases hrc
        · cases hrc
        · have hk0 : k0 = (bk_m μ).2.2.2.2.2.1 := nb_beqT hrc
          have hk13 : k0 < 13 := by rw [hk0]; exact m9
          have hq := bk_obj (has (.inr (.inr (k0, i0))) (by simp)) hk13
          have eW := bk_ws_at (ba := ba) (cA := cA) (M := M) hq
          rw [bk_en_o hk13] at eW
          have hrecv := va_recv hK hP (bk_cl k0 hk13) eW
          rw [List.map_cons, List.reverse_cons, List.append_assoc]
          show W p l e R s m args below meth c H locs cells slots Z (F0 m pc lsr ((as'.map (bk_rv ba b0 aK)).reverse ++ (.ref (bk_ad ba b0 aK k0 i0) :: st'.map (bk_rv ba b0 aK))))
          rw [bk_ad_lay hq]
          have hcls : (bk_m μ).1.cls = bk_R k0 := by rw [m1, hk0]
          refine go (va_runV (C := bk_R k0) (b := ba + bk_off k0 i0) (As := as'.map (bk_rv ba b0 aK)) hF hM1 (cwV _ hts (bk_good fun w hw => ?_) rfl rfl rfl ⟨hcls, m3.1, m3.2, m4⟩ hroom) ⟨bk_Pc_blind, hrecv, fun U hU hW => ⟨by rw [List.map_cons]; exact congrArg (fun z => (Value.ref z :: as'.map (bk_rv ba b0 aK)).toArray) (bk_ad_lay hq).symm, hPic U hU hW⟩⟩ rfl (by rw [List.length_map]; simp only [List.length_cons] at hasl; omega) hL.1 rfl (lv_room (by omega)) hd ⟨by omega, by omega⟩)
          unfold wsV at hw
          rcases List.mem_append.mp hw with hw | hw
          · simp only [List.mem_cons, List.not_mem_nil, or_false] at hw
            rcases hw with rfl | rfl | rfl | rfl
            · exact bk_lw_W s4
            · exact bk_i_W s2
            · have := bk_s_W s3; unfold bk_ms at this; rw [hcls] at this; exact this
            · rw [← hcls]; exact hini
          · exact bk_wsm_in hμ1 w hw
  · exact h.elim
end SNDC
end
section
/-- what is asked of the texts' length and charAt -/
def bk_Tx (l : Launch) (ba b0 : Nat) (aK : Nat → Nat) (cA : Nat → ClassId) (D : va_G) (sc : Nat → Int → Int) : Prop := ∀ (p : Program) (e : Env) (R : Room) (s : State) (m : MethodId) (args : Array Value) (below : List Frame) (meth : Method) (c : Code) (cc : ByteArray) (own nL mc ms : Nat) (Z : State → Prop) (Ca : bk_Ca) (Q : bk_Q) (K : bk_K) (b pc : Nat) (ls st : List bk_V) (M : bk_M) (j k : Nat),
  bk_Cx p R s m args c cc own nL ba b0 aK cA D sc → 10 ≤ R.frames → 1000 ≤ R.locals → mc ≤ R.cells ∧ ms ≤ R.slots → (j = 4 ∧ (own, k) ∈ bk_pl4 ∨ j = 5 ∧ (own, k) ∈ bk_pl5) → decode cc pc = .ok (.invokevirtual k, 3) → bk_op Ca (bk_X p l e R s m args below meth c ba b0 aK cA D sc nL mc ms Z) Q (.invokevirtual j) K b ls st M → (∀ b ls st M, K b ls st M → bk_X p l e R s m args below meth c ba b0 aK cA D sc nL mc ms Z b (pc + 3) ls st M) → bk_X p l e R s m args below meth c ba b0 aK cA D sc nL mc ms Z b pc ls st M
section FIN
variable {p : Program} {l : Launch} {e : Env} {R : Room} {s : State} {m : MethodId} {args : Array Value} {below : List Frame} {meth : Method} {c : Code} {cc : ByteArray} {own : Nat}
variable {ba b0 : Nat} {aK : Nat → Nat} {cA : Nat → ClassId} {D : va_G} {sc : Nat → Int → Int} {nL mc ms : Nat} {Z : State → Prop}
variable {Q : bk_Q}
/-- one instruction of a table -/
theorem bk_one {d : Nat} (hI : bk_S l ba b0 aK cA D sc d) (hTx : bk_Tx l ba b0 aK cA D sc) {rt : Option FieldType} (C0 : bk_Cx p R s m args c cc own nL ba b0 aK cA D sc) (hZ : bk_Zs p l e R s m args below meth c cc rt ba cA D sc nL mc ms Q Z) (hRd : R.frames = d + 11 ∧ R.locals = 100 * (d + 11)) (hmc : mc ≤ R.cells ∧ ms ≤ R.slots)
    {i r : Instr} {len pc b : Nat} {ls st : List bk_V} {M : bk_M} {K : bk_K} (hck : bk_ck own rt nL pc r len i = true) (hd : decode cc pc = .ok (r, len)) (h : bk_op (bk_C d) (bk_X p l e R s m args below meth c ba b0 aK cA D sc nL mc ms Z) Q i K b ls st M) (hk : ∀ b ls st M, K b ls st M → bk_X p l e R s m args below meth c ba b0 aK cA D sc nL mc ms Z b (pc + len) ls st M) : bk_X p l e R s m args below meth c ba b0 aK cA D sc nL mc ms Z b pc ls st M := by
  cases i
  case iadd =>
    simp only [bk_ck, decide_eq_true_eq] at hck
    obtain ⟨rfl, rfl⟩ := hck
    exact bk_s_iadd C0 hd h hk
  case isub =>
    simp only [bk_ck, decide_eq_true_eq] at hck
    obtain ⟨rfl, rfl⟩ := hck
    exact bk_s_isub C0 hd h hk
  case imul =>
    simp only [bk_ck, decide_eq_true_eq] at hck
    obtain ⟨rfl, rfl⟩ := hck
    exact bk_s_imul C0 hd h hk
  case dadd =>
    simp only [bk_ck, decide_eq_true_eq] at hck
    obtain ⟨rfl, rfl⟩ := hck
    exact bk_s_dadd C0 hd h hk
  case dmul =>
    simp only [bk_ck, decide_eq_true_eq] at hck
    obtain ⟨rfl, rfl⟩ := hck
    exact bk_s_dmul C0 hd h hk
  case idiv =>
    simp only [bk_ck, decide_eq_true_eq] at hck
    obtain ⟨rfl, rfl⟩ := hck
    exact bk_s_idiv C0 hd h hk
  case irem =>
    simp only [bk_ck, decide_eq_true_eq] at hck
    obtain ⟨rfl, rfl⟩ := hck
    exact bk_s_irem C0 hd h hk
  case ineg =>
    simp only [bk_ck, decide_eq_true_eq] at hck
    obtain ⟨rfl, rfl⟩ := hck
    exact bk_s_ineg C0 hd h hk
  case ishl =>
    simp only [bk_ck, decide_eq_true_eq] at hck
    obtain ⟨rfl, rfl⟩ := hck
    exact bk_s_ishl C0 hd h hk
  case ishr =>
    simp only [bk_ck, decide_eq_true_eq] at hck
    obtain ⟨rfl, rfl⟩ := hck
    exact bk_s_ishr C0 hd h hk
  case iushr =>
    simp only [bk_ck, decide_eq_true_eq] at hck
    obtain ⟨rfl, rfl⟩ := hck
    exact bk_s_iushr C0 hd h hk
  case iand =>
    simp only [bk_ck, decide_eq_true_eq] at hck
    obtain ⟨rfl, rfl⟩ := hck
    exact bk_s_iand C0 hd h hk
  case ior =>
    simp only [bk_ck, decide_eq_true_eq] at hck
    obtain ⟨rfl, rfl⟩ := hck
    exact bk_s_ior C0 hd h hk
  case ixor =>
    simp only [bk_ck, decide_eq_true_eq] at hck
    obtain ⟨rfl, rfl⟩ := hck
    exact bk_s_ixor C0 hd h hk
  case ladd =>
    simp only [bk_ck, decide_eq_true_eq] at hck
    obtain ⟨rfl, rfl⟩ := hck
    exact bk_s_ladd C0 hd h hk
  case lsub =>
    simp only [bk_ck, decide_eq_true_eq] at hck
    obtain ⟨rfl, rfl⟩ := hck
    exact bk_s_lsub C0 hd h hk
  case lmul =>
    simp only [bk_ck, decide_eq_true_eq] at hck
    obtain ⟨rfl, rfl⟩ := hck
    exact bk_s_lmul C0 hd h hk
  case ldiv =>
    simp only [bk_ck, decide_eq_true_eq] at hck
    obtain ⟨rfl, rfl⟩ := hck
    exact bk_s_ldiv C0 hd h hk
  case lrem =>
    simp only [bk_ck, decide_eq_true_eq] at hck
    obtain ⟨rfl, rfl⟩ := hck
    exact bk_s_lrem C0 hd h hk
  case lshl =>
    simp only [bk_ck, decide_eq_true_eq] at hck
    obtain ⟨rfl, rfl⟩ := hck
    exact bk_s_lshl C0 hd h hk
  case lshr =>
    simp only [bk_ck, decide_eq_true_eq] at hck
    obtain ⟨rfl, rfl⟩ := hck
    exact bk_s_lshr C0 hd h hk
  case land =>
    simp only [bk_ck, decide_eq_true_eq] at hck
    obtain ⟨rfl, rfl⟩ := hck
    exact bk_s_land C0 hd h hk
  case lor =>
    simp only [bk_ck, decide_eq_true_eq] at hck
    obtain ⟨rfl, rfl⟩ := hck
    exact bk_s_lor C0 hd h hk
  case lcmp =>
    simp only [bk_ck, decide_eq_true_eq] at hck
    obtain ⟨rfl, rfl⟩ := hck
    exact bk_s_lcmp C0 hd h hk
  case i2l =>
    simp only [bk_ck, decide_eq_true_eq] at hck
    obtain ⟨rfl, rfl⟩ := hck
    exact bk_s_i2l C0 hd h hk
  case l2i =>
    simp only [bk_ck, decide_eq_true_eq] at hck
    obtain ⟨rfl, rfl⟩ := hck
    exact bk_s_l2i C0 hd h hk
  case dup =>
    simp only [bk_ck, decide_eq_true_eq] at hck
    obtain ⟨rfl, rfl⟩ := hck
    exact bk_s_dup C0 hd h hk
  case dup2 =>
    simp only [bk_ck, decide_eq_true_eq] at hck
    obtain ⟨rfl, rfl⟩ := hck
    exact bk_s_dup2 C0 hd h hk
  case pop =>
    simp only [bk_ck, decide_eq_true_eq] at hck
    obtain ⟨rfl, rfl⟩ := hck
    exact bk_s_pop C0 hd h hk
  case iaload =>
    simp only [bk_ck, decide_eq_true_eq] at hck
    obtain ⟨rfl, rfl⟩ := hck
    exact bk_s_iaload C0 hd h hk
  case laload =>
    simp only [bk_ck, decide_eq_true_eq] at hck
    obtain ⟨rfl, rfl⟩ := hck
    exact bk_s_laload C0 hd h hk
  case baload =>
    simp only [bk_ck, decide_eq_true_eq] at hck
    obtain ⟨rfl, rfl⟩ := hck
    exact bk_s_baload C0 hd h hk
  case aaload =>
    simp only [bk_ck, decide_eq_true_eq] at hck
    obtain ⟨rfl, rfl⟩ := hck
    exact bk_s_aaload C0 hd h hk
  case iastore =>
    simp only [bk_ck, decide_eq_true_eq] at hck
    obtain ⟨rfl, rfl⟩ := hck
    exact bk_s_iastore C0 hd h hk
  case lastore =>
    simp only [bk_ck, decide_eq_true_eq] at hck
    obtain ⟨rfl, rfl⟩ := hck
    exact bk_s_lastore C0 hd h hk
  case bastore =>
    simp only [bk_ck, decide_eq_true_eq] at hck
    obtain ⟨rfl, rfl⟩ := hck
    exact bk_s_bastore C0 hd h hk
  case arraylength =>
    simp only [bk_ck, decide_eq_true_eq] at hck
    obtain ⟨rfl, rfl⟩ := hck
    exact bk_s_arraylength C0 hd h hk
  case saload =>
    simp only [bk_ck, decide_eq_true_eq] at hck
    obtain ⟨rfl, rfl⟩ := hck
    exact bk_s_saload C0 hd h hk
  case swap =>
    simp only [bk_ck, decide_eq_true_eq] at hck
    obtain ⟨rfl, rfl⟩ := hck
    exact bk_s_swap C0 hd h hk
  case ireturn =>
    simp only [bk_ck, decide_eq_true_eq] at hck
    obtain ⟨rfl, rfl, q⟩ := hck
    exact bk_s_ireturn hZ q hd h
  case freturn =>
    simp only [bk_ck, decide_eq_true_eq] at hck
    obtain ⟨rfl, rfl, q⟩ := hck
    exact bk_s_freturn hZ q hd h
  case lreturn =>
    simp only [bk_ck, decide_eq_true_eq] at hck
    obtain ⟨rfl, rfl, q⟩ := hck
    exact bk_s_lreturn hZ q hd h
  case return_ =>
    simp only [bk_ck, decide_eq_true_eq] at hck
    obtain ⟨rfl, rfl, q⟩ := hck
    exact bk_s_return_ hZ q hd h
  case iload n =>
    simp only [bk_ck] at hck
    split at hck
    · simp only [decide_eq_true_eq] at hck
      obtain ⟨rfl, rfl⟩ := hck
      exact bk_s_iload C0 hd h hk
    · simp only [decide_eq_true_eq] at hck
      obtain ⟨q, rfl⟩ := hck
      exact bk_s_iload_n C0 q hd h hk
    · cases hck
  case lload n =>
    simp only [bk_ck] at hck
    split at hck
    · simp only [decide_eq_true_eq] at hck
      obtain ⟨rfl, rfl⟩ := hck
      exact bk_s_lload C0 hd h hk
    · simp only [decide_eq_true_eq] at hck
      obtain ⟨q, rfl⟩ := hck
      exact bk_s_lload_n C0 q hd h hk
    · cases hck
  case aload n =>
    simp only [bk_ck] at hck
    split at hck
    · simp only [decide_eq_true_eq] at hck
      obtain ⟨rfl, rfl⟩ := hck
      exact bk_s_aload C0 hd h hk
    · simp only [decide_eq_true_eq] at hck
      obtain ⟨q, rfl⟩ := hck
      exact bk_s_aload_n C0 q hd h hk
    · cases hck
  case istore n =>
    simp only [bk_ck] at hck
    split at hck
    · simp only [decide_eq_true_eq] at hck
      obtain ⟨rfl, rfl, q2⟩ := hck
      exact bk_s_istore C0 q2 hd h hk
    · simp only [decide_eq_true_eq] at hck
      obtain ⟨q, rfl, q2⟩ := hck
      exact bk_s_istore_n C0 q q2 hd h hk
    · cases hck
  case lstore n =>
    simp only [bk_ck] at hck
    split at hck
    · simp only [decide_eq_true_eq] at hck
      obtain ⟨rfl, rfl, q2⟩ := hck
      exact bk_s_lstore C0 q2 hd h hk
    · simp only [decide_eq_true_eq] at hck
      obtain ⟨q, rfl, q2⟩ := hck
      exact bk_s_lstore_n C0 q q2 hd h hk
    · cases hck
  case astore n =>
    simp only [bk_ck] at hck
    split at hck
    · simp only [decide_eq_true_eq] at hck
      obtain ⟨rfl, rfl, q2⟩ := hck
      exact bk_s_astore C0 q2 hd h hk
    · simp only [decide_eq_true_eq] at hck
      obtain ⟨q, rfl, q2⟩ := hck
      exact bk_s_astore_n C0 q q2 hd h hk
    · cases hck
  case sipush v =>
    simp only [bk_ck] at hck
    split at hck
    · simp only [decide_eq_true_eq] at hck
      obtain ⟨rfl, rfl, q⟩ := hck
      exact bk_s_sipush C0 q hd h hk
    · simp only [decide_eq_true_eq] at hck
      obtain ⟨rfl, rfl, q⟩ := hck
      exact bk_s_bipush C0 q hd h hk
    · simp only [decide_eq_true_eq] at hck
      obtain ⟨rfl, rfl, q⟩ := hck
      exact bk_s_iconst C0 q hd h hk
    · simp only [decide_eq_true_eq] at hck
      obtain ⟨q1, rfl, q⟩ := hck
      exact bk_s_ldc C0 q (C0.2.2.2.2.1 _ (bk_kw_in q1)) hd h hk
    · simp only [decide_eq_true_eq] at hck
      obtain ⟨q1, rfl, q⟩ := hck
      exact bk_s_ldcw C0 q (C0.2.2.2.2.1 _ (bk_kw_in q1)) hd h hk
    · cases hck
  case bipush v =>
    simp only [bk_ck] at hck
    split at hck
    · simp only [decide_eq_true_eq] at hck
      obtain ⟨q, rfl⟩ := hck
      exact bk_s_lconst C0 q hd h hk
    · simp only [decide_eq_true_eq] at hck
      obtain ⟨q1, rfl, q⟩ := hck
      exact bk_s_ldc2 C0 q (C0.2.2.2.2.1 _ (bk_kW_in q1)) hd h hk
    · cases hck
  case ldc k =>
    simp only [bk_ck] at hck
    split at hck
    · simp only [decide_eq_true_eq] at hck
      obtain ⟨q1, rfl, q⟩ := hck
      have hk4 : k < 4 := (List.getElem?_eq_some_iff.mp q).1
      refine bk_s_ldcs C0 q1 hk4 ?_ hd h hk
      match k, hk4, q with
      | 0, _, q => exact Option.some.inj q
      | 1, _, q => exact Option.some.inj q
      | 2, _, q => exact Option.some.inj q
      | 3, _, q => exact Option.some.inj q
    · cases hck
  case iinc n v =>
    by_cases hn0 : n < nL
    · simp only [bk_ck] at hck
      split at hck
      · simp only [decide_eq_true_eq] at hck
        obtain ⟨rfl, rfl, rfl, q⟩ := hck
        exact bk_s_iinc C0 hn0 hd h hk
      · cases hck
    · intro hs hl hn
      simp only [bk_op] at h
      rw [bk_nth_eq, List.getElem?_eq_none (by omega)] at h
      exact h.elim
  case getfield f =>
    simp only [bk_ck] at hck
    split at hck
    · simp only [decide_eq_true_eq] at hck
      obtain ⟨q, rfl⟩ := hck
      exact bk_s_getfield C0 q hd h hk
    · cases hck
  case putfield f =>
    simp only [bk_ck] at hck
    split at hck
    · simp only [decide_eq_true_eq] at hck
      obtain ⟨q, rfl, q2⟩ := hck
      exact bk_s_putfield C0 q q2 hd h hk
    · cases hck
  case if_icmp cm t =>
    simp only [bk_ck] at hck
    split at hck
    · simp only [decide_eq_true_eq] at hck
      obtain ⟨rfl, q1, q2, rfl⟩ := hck
      exact bk_s_if_icmp C0 q1 q2 hd h hk
    · cases hck
  case ifCond cm t =>
    simp only [bk_ck] at hck
    split at hck
    · simp only [decide_eq_true_eq] at hck
      obtain ⟨rfl, q1, q2, rfl⟩ := hck
      exact bk_s_ifCond C0 q1 q2 hd h hk
    · cases hck
  case tableswitch d lo hi ts =>
    simp only [bk_ck] at hck
    split at hck
    · simp only [decide_eq_true_eq] at hck
      obtain ⟨q1, q2, rfl, rfl, q3, q4, q5⟩ := hck
      exact bk_s_tableswitch C0 q1 q2 q3 q4 q5 hd h hk
    · cases hck
  case lookupswitch d ps =>
    simp only [bk_ck] at hck
    split at hck
    · simp only [Bool.and_eq_true, decide_eq_true_eq] at hck
      obtain ⟨⟨q1, q2, q3, q4⟩, q5⟩ := hck
      exact bk_s_lookupswitch C0 q1 q2 q3 q4 q5 hd h hk
    · cases hck
  case invokestatic n =>
    have h3 : len = 3 := by
      have q := hck
      simp only [bk_ck, Bool.and_eq_true, decide_eq_true_eq] at q
      exact q.1.1
    subst h3
    exact bk_s_call hI C0 hRd hmc hck hd h hk
  case invokevirtual n =>
    simp only [bk_ck, Bool.and_eq_true, decide_eq_true_eq] at hck
    obtain ⟨rfl, hck⟩ := hck
    split at hck
    · simp only [decide_eq_true_eq] at hck
      rw [hck.2] at hd
      exact bk_s_copy C0 hck.1 hd h hk
    · simp only [decide_eq_true_eq] at hck
      rw [hck.2] at hd
      exact bk_s_min C0 hck.1 hmc hd h hk
    · simp only [decide_eq_true_eq] at hck
      rw [hck.2] at hd
      exact bk_s_max C0 hck.1 hmc hd h hk
    · simp only [decide_eq_true_eq] at hck
      rw [hck.2] at hd
      exact bk_s_abs C0 hck.1 hmc hd h hk
    · simp only [decide_eq_true_eq] at hck
      rw [hck.2] at hd
      exact hTx p e R s m args below meth c cc own nL mc ms Z _ Q K b pc ls st M 4 _ C0 (by omega) (by omega) hmc (Or.inl ⟨rfl, hck.1⟩) hd h hk
    · simp only [decide_eq_true_eq] at hck
      rw [hck.2] at hd
      exact hTx p e R s m args below meth c cc own nL mc ms Z _ Q K b pc ls st M 5 _ C0 (by omega) (by omega) hmc (Or.inr ⟨rfl, hck.1⟩) hd h hk
    · cases hck
  all_goals cases hck
/-- a stretch of a table -/
theorem bk_all {d : Nat} (hI : bk_S l ba b0 aK cA D sc d) (hTx : bk_Tx l ba b0 aK cA D sc) {rt : Option FieldType} (C0 : bk_Cx p R s m args c cc own nL ba b0 aK cA D sc) (hZ : bk_Zs p l e R s m args below meth c cc rt ba cA D sc nL mc ms Q Z) (hRd : R.frames = d + 11 ∧ R.locals = 100 * (d + 11)) (hmc : mc ≤ R.cells ∧ ms ≤ R.slots) :
    ∀ (is : List Instr) (pc : Nat), bk_chk own rt nL cc pc is = true → ∀ (b : Nat) (ls st : List bk_V) (M : bk_M), bk_run (bk_C d) (bk_X p l e R s m args below meth c ba b0 aK cA D sc nL mc ms Z) Q is b ls st M → bk_X p l e R s m args below meth c ba b0 aK cA D sc nL mc ms Z b pc ls st M := by
  intro is
  induction is with
  | nil => intro pc _ b ls st M h; exact h.elim
  | cons i is ih =>
    intro pc hch b ls st M h
    have h : bk_op (bk_C d) (bk_X p l e R s m args below meth c ba b0 aK cA D sc nL mc ms Z) Q i (bk_run (bk_C d) (bk_X p l e R s m args below meth c ba b0 aK cA D sc nL mc ms Z) Q is) b ls st M := h
    unfold bk_chk at hch
    split at hch
    · rename_i t h0
      rw [Bool.or_eq_true] at hch
      by_cases e0 : (pc : Int) = t
      · have h : bk_X p l e R s m args below meth c ba b0 aK cA D sc nL mc ms Z b t.toNat ls st M := h
        rw [show t.toNat = pc by omega] at h
        exact h
      · rcases hch with q | q
        · exact absurd (of_decide_eq_true q) e0
        · split at q
          · rename_i off hdec
            have q := of_decide_eq_true q
            exact bk_s_goto (Ca := bk_C d) (Q := Q) (K := fun _ _ _ _ => False) C0 q.1 q.2 hdec h (fun _ _ _ _ z => z.elim)
          · cases q
    · have q := of_decide_eq_true hch
      exact bk_s_athrow hZ q.2 h
    · split at hch
      · rename_i r len hdec
        rw [Bool.and_eq_true] at hch
        exact bk_one hI hTx C0 hZ hRd hmc hch.1 hdec h (ih _ hch.2)
      · cases hch
theorem bk_lk_mem : ∀ {P : bk_P} {k : Nat}, bk_lk k P = [] ∨ (k, bk_lk k P) ∈ P
  | [], _ => Or.inl rfl
  | (k2, is) :: P, k => by
    unfold bk_lk
    cases hb : Nat.beq k2 k with
    | true => right; rw [nb_beqT hb]; exact List.mem_cons_self
    | false => exact (bk_lk_mem (P := P) (k := k)).elim Or.inl (fun z => Or.inr (List.mem_cons_of_mem _ z))
/-- a method, from its entry -/
theorem bk_walk {d : Nat} (hI : bk_S l ba b0 aK cA D sc d) (hTx : bk_Tx l ba b0 aK cA D sc) {rt : Option FieldType} (C0 : bk_Cx p R s m args c cc own nL ba b0 aK cA D sc) (hZ : bk_Zs p l e R s m args below meth c cc rt ba cA D sc nL mc ms Q Z) (hRd : R.frames = d + 11 ∧ R.locals = 100 * (d + 11)) (hmc : mc ≤ R.cells ∧ ms ≤ R.slots)
    {P : bk_P} (hP : P.all (fun q => bk_chk own rt nL cc q.1 q.2) = true) {b k : Nat} {ls st : List bk_V} {M : bk_M} (h : bk_wp (bk_C d) P Q b k ls st M) : bk_X p l e R s m args below meth c ba b0 aK cA D sc nL mc ms Z b k ls st M := by
  refine h _ (fun b k ls st M hr => ?_)
  rcases bk_lk_mem (P := P) (k := k) with q | q
  · rw [q] at hr; exact hr.elim
  · exact bk_all hI hTx C0 hZ hRd hmc _ _ (List.all_eq_true.mp hP _ q) b ls st M hr
/-- the entry's locals -/
theorem bk_entry {ba b0 : Nat} {aK : Nat → Nat} : ∀ (n i : Nat) (as : List bk_V), ∀ q ∈ bk_al ba b0 aK (bk_args n as), (i + q.1, q.2) ∈ lv_args i (as.map (bk_rv ba b0 aK))
  | 0, i, as, q, h => by simp [bk_args, bk_al] at h
  | n + 1, i, [], q, h => by
    obtain ⟨v, h1, h2, h3⟩ := bk_al_mem.mp h
    have key : ∀ (n j : Nat) (v : bk_V), (bk_args n [])[j]? = some v → v = bk_x := by
      intro n
      induction n with
      | zero => intro j v h; simp [bk_args] at h
      | succ n ih =>
        intro j v h
        cases j with
        | zero => simp [bk_args] at h; exact h.symm
        | succ j => exact ih j v (by simpa [bk_args] using h)
    exact absurd (key _ _ _ h1) h2
  | 1, i, w :: as, q, h => by
    obtain ⟨v, h1, h2, h3⟩ := bk_al_mem.mp h
    have h1 : ([w] : List bk_V)[q.1]? = some v := h1
    match hq : q.1, h1 with
    | 0, h1 =>
      simp at h1
      subst h1
      rw [List.map_cons]
      unfold lv_args
      rw [h3]
      exact List.mem_cons_self
    | j + 1, h1 => simp at h1
  | n + 2, i, w :: as, q, h => by
    obtain ⟨v, h1, h2, h3⟩ := bk_al_mem.mp h
    rcases w with z | z | z
    · have h1 : ((.inl z : bk_V) :: bk_args (n + 1) as)[q.1]? = some v := h1
      rw [List.map_cons]
      unfold lv_args
      match hq : q.1, h1 with
      | 0, h1 =>
        simp at h1
        subst h1
        rw [h3]
        exact List.mem_cons_self
      | j + 1, h1 =>
        have h4 := bk_entry (ba := ba) (b0 := b0) (aK := aK) (n + 1) (i + 1) as (j, q.2) (bk_al_mem.mpr ⟨v, by simpa using h1, h2, h3⟩)
        rw [show i + (j + 1) = i + 1 + j by omega]
        exact List.mem_cons_of_mem _ h4
    · have h1 : ((.inr (.inl z) : bk_V) :: bk_x :: bk_args n as)[q.1]? = some v := h1
      rw [List.map_cons]
      unfold lv_args
      match hq : q.1, h1 with
      | 0, h1 =>
        simp at h1
        subst h1
        rw [h3]
        exact List.mem_cons_self
      | 1, h1 => simp at h1; exact absurd h1.symm h2
      | j + 2, h1 =>
        have h4 := bk_entry (ba := ba) (b0 := b0) (aK := aK) n (i + 2) as (j, q.2) (bk_al_mem.mpr ⟨v, by simpa using h1, h2, h3⟩)
        rw [show i + (j + 2) = i + 2 + j by omega]
        exact List.mem_cons_of_mem _ h4
    · have h1 : ((.inr (.inr z) : bk_V) :: bk_args (n + 1) as)[q.1]? = some v := h1
      rw [List.map_cons]
      unfold lv_args
      match hq : q.1, h1 with
      | 0, h1 =>
        simp at h1
        subst h1
        rw [h3]
        exact List.mem_cons_self
      | j + 1, h1 =>
        have h4 := bk_entry (ba := ba) (b0 := b0) (aK := aK) (n + 1) (i + 1) as (j, q.2) (bk_al_mem.mpr ⟨v, by simpa using h1, h2, h3⟩)
        rw [show i + (j + 1) = i + 1 + j by omega]
        exact List.mem_cons_of_mem _ h4
theorem bk_args_len : ∀ (n : Nat) (as : List bk_V), (bk_args n as).length = n
  | 0, _ => rfl
  | n + 1, [] => by
    show (bk_args n []).length + 1 = n + 1
    rw [bk_args_len n []]
  | 1, _ :: _ => rfl
  | n + 2, w :: as => by
    rcases w with z | z | z
    · show (bk_args (n + 1) as).length + 1 = n + 2
      rw [bk_args_len (n + 1) as]
    · show (bk_args n as).length + 1 + 1 = n + 2
      rw [bk_args_len n as]
    · show (bk_args (n + 1) as).length + 1 = n + 2
      rw [bk_args_len (n + 1) as]
theorem bk_args_mem : ∀ (n : Nat) (as : List bk_V) (v : bk_V), v ∈ bk_args n as → v ≠ bk_x → v ∈ as
  | 0, _, v, h, _ => by simp [bk_args] at h
  | n + 1, [], v, h, hx => by
    have h : v ∈ bk_x :: bk_args n [] := h
    exact (List.mem_cons.mp h).elim (fun q => absurd q hx) (fun q => bk_args_mem n [] v q hx)
  | 1, w :: as, v, h, _ => by
    have h : v ∈ [w] := h
    rw [List.mem_singleton.mp h]
    exact List.mem_cons_self
  | n + 2, w :: as, v, h, hx => by
    rcases w with z | z | z
    · have h : v ∈ (.inl z : bk_V) :: bk_args (n + 1) as := h
      exact (List.mem_cons.mp h).elim (fun q => q ▸ List.mem_cons_self) (fun q => List.mem_cons_of_mem _ (bk_args_mem (n + 1) as v q hx))
    · have h : v ∈ (.inr (.inl z) : bk_V) :: bk_x :: bk_args n as := h
      exact (List.mem_cons.mp h).elim (fun q => q ▸ List.mem_cons_self) (fun q => (List.mem_cons.mp q).elim (fun q => absurd q hx) (fun q => List.mem_cons_of_mem _ (bk_args_mem n as v q hx)))
    · have h : v ∈ (.inr (.inr z) : bk_V) :: bk_args (n + 1) as := h
      exact (List.mem_cons.mp h).elim (fun q => q ▸ List.mem_cons_self) (fun q => List.mem_cons_of_mem _ (bk_args_mem (n + 1) as v q hx))
end FIN
end
section
theorem bk_wd_sl {ba b0 : Nat} {aK : Nat → Nat} : ∀ as : List bk_V, (lg_sl (as.map (bk_rv ba b0 aK))).length = bk_wd as
  | [] => rfl
  | v :: as => by
    have h := bk_wd_sl (ba := ba) (b0 := b0) (aK := aK) as
    rcases v with z | z | z
    · show (Slot.val _ :: lg_sl (as.map (bk_rv ba b0 aK))).length = bk_wd as + 1
      rw [List.length_cons, h]
    · show (Slot.val _ :: Slot.second :: lg_sl (as.map (bk_rv ba b0 aK))).length = bk_wd as + 2
      rw [List.length_cons, List.length_cons, h]
    · show (Slot.val _ :: lg_sl (as.map (bk_rv ba b0 aK))).length = bk_wd as + 1
      rw [List.length_cons, h]
section MET
variable {l : Launch} {ba b0 : Nat} {aK : Nat → Nat} {cA : Nat → ClassId} {D : va_G} {sc : Nat → Int → Int}
/-- the method's own context, at its entry -/
theorem bk_ctx {d bb μ : Nat} (hμ : μ < 284) {p : Program} {e : Env} {s : State} {m : MethodId} {args : Array Value} {below : List Frame} {meth : Method} {c : Code} {s₁ : State} {M : bk_M}
    (B : BodyLoose p l (bk_m μ).1 (headSpec (bk_wsm μ) (bk_rm (d + 1) bb)) (bk_m μ).2.1 (bk_m μ).2.2.1 (bk_m μ).2.2.2.1 e s m args below meth c s₁) (hml : c.maxLocals = (bk_m μ).2.2.1) (hv : bk_Pic ba b0 aK cA D sc M s) :
    bk_Cx p (headSpec (bk_wsm μ) (bk_rm (d + 1) bb)).room s m args c (bk_m μ).2.1 (bk_m μ).2.2.2.2.2.1 (bk_m μ).2.2.1 ba b0 aK cA D sc := by
  obtain ⟨h1, h2, h3, h4, h5, h6⟩ := hv
  have hts := atoms_spec (ws := bk_wsm μ) B.pre
  have hown := findClass_of_methodNamed B.named
  rw [(bk_me_ok _ (bk_m_in hμ)).1] at hown
  refine ⟨B.exec, B.bytes, hml, hown, fun w hw => hts w (List.mem_cons_of_mem _ hw), h2, h5, ?_⟩
  show 1 ≤ d + 1 + 10 ∧ 100 ≤ 100 * (d + 1 + 10) ∧ s.heap.size ≥ ba
  exact ⟨by omega, by omega, h6⟩
theorem bk_start {p : Program} {e : Env} {R : Room} {s : State} {m : MethodId} {below : List Frame} {meth : Method} {c : Code} {nL mc ms : Nat} {Z : State → Prop} {b : Nat} {as : List bk_V} {M : bk_M} {args : Array Value}
    (hw : bk_wd as ≤ nL) (has : ∀ v ∈ as, bk_okv v) (hv : bk_Pic ba b0 aK cA D sc M s) (hb : b ≤ mc ∧ 6 * b ≤ ms) (h : bk_X p l e R s m args below meth c ba b0 aK cA D sc nL mc ms Z b 0 (bk_args nL as) [] M) :
    W p l e R s m args below meth c s.heap [] 0 0 Z (entryFrame m (as.map (bk_rv ba b0 aK)).toArray nL) := by
  rw [lg_entry_eq]
  have hlen : (lg_sl (as.map (bk_rv ba b0 aK))).length ≤ nL := by rw [bk_wd_sl]; exact hw
  have hl := lv_entry (as.map (bk_rv ba b0 aK)) hlen
  obtain ⟨h1, h2, h3, h4, h5, h6⟩ := hv
  exact h (fun v hv => nomatch hv) (fun v hv hx => has v (bk_args_mem _ _ v hv hx)) (bk_args_len _ _) h3 h4 s.heap [] 0 0 _ h1 va_S.rf (by omega) (by omega)
    ⟨hl.1, hl.2.1, fun q hq => by have := bk_entry (ba := ba) (b0 := b0) (aK := aK) nL 0 as q hq; rw [Nat.zero_add] at this; exact hl.2.2 _ this⟩
theorem bk_sound_open (hTx : bk_Tx l ba b0 aK cA D sc) (hok : ∀ a, a < 284 → bk_ok1 a) : ∀ d, bk_S l ba b0 aK cA D sc d := by
  intro d
  induction d with
  | zero => intro μ as M Q _ h; exact h.elim
  | succ d ih =>
    intro μ as M Q hμ h hw has hM h13
    refine Met.ofW (cc := (bk_m μ).2.1) (maxL := (bk_m μ).2.2.1) (ret := (bk_m μ).2.2.2.1) (bk_me_ok _ (bk_m_in hμ)).2.1 rfl ?_
    intro p e s m args below meth c s₁ B hml hv
    obtain ⟨rfl, hPic⟩ := hv
    obtain ⟨ok1, ok2⟩ := hok μ hμ
    have C0 := bk_ctx hμ B hml hPic
    have hlocks := B.notSynchronized
    refine bk_start hw has hPic (mc := 0) (ms := 0) (b := 0) ⟨Nat.le_refl _, Nat.le_refl _⟩ ?_
    have h : bk_wp (bk_C d) (bk_prog μ).1 Q 0 0 (bk_args (bk_prog μ).2 as) [] M := h
    rw [ok2] at h
    refine bk_walk ih hTx (mc := 0) (ms := 0) (cc := (bk_m μ).2.1) (own := (bk_m μ).2.2.2.2.2.1) (rt := (bk_m μ).2.2.2.1) (Q := Q) C0 ?_ ⟨rfl, rfl⟩ ⟨Nat.le_refl _, Nat.le_refl _⟩ ok1 h
    intro r M' hM' h13' H locs cells slots pc lsr hP hS hc hsl
    obtain rfl : cells = 0 := by omega
    obtain rfl : slots = 0 := by omega
    refine ⟨fun hrk hQ => ?_, fun _ _ z => absurd z (by omega)⟩
    have hq : ∀ (v : Option Value), v = bk_rval (bk_m μ).2.2.2.1 r → ∀ t : State, t.heap = H → s.WarmedH t.vm → bk_Qc (bk_m μ).2.2.2.1 ba cA D sc Q (as.map (bk_rv ba b0 aK)).toArray s (.returned v) t := by
      intro v hv t ht _
      exact ⟨r, M', hQ, hrk, hM', h13', by rw [hv], by rw [ht]; exact hP, hS.F ht⟩
    refine ⟨fun e0 hd => ?_, fun e0 hr hd => ?_, fun e0 hd => ?_, fun e0 hd => ?_⟩
    · exact W.iret C0.1 C0.2.1 (B.returns.trans e0) (hq _ (by rw [e0]; rfl)) hS.2.2 hd
    · exact W.zret (ty := .boolean) C0.1 C0.2.1 (B.returns.trans e0) (by rcases hr with rfl | rfl <;> rfl) (hq _ (by rw [e0]; rfl)) hS.2.2 hd
    · exact W.lret C0.1 C0.2.1 (B.returns.trans e0) (hq _ (by rw [e0]; rfl)) hS.2.2 hd
    · exact W.vret C0.1 C0.2.1 (B.returns.trans e0) (hq _ (by rw [e0]; rfl)) hS.2.2 hd
end MET
end
