section
/-- a private method of a class that the tables say can be made, by its rows of tables_1 -/
def lw_okq (q : MethodName × Nat) : Prop := (q.1.cls ≠ "java/lang/invoke/MethodHandle" ∧ q.1.cls ≠ "java/lang/invoke/VarHandle") ∧ Cond.instantiable q.1.cls q.2 ∈ tables_1 ∧ Cond.privateMethod q.1 ∈ tables_1 ∧ Cond.instanceMethod q.1 ∈ tables_1
theorem lw_p0 : lw_okq (⟨"PaperTown$Text", "isOrderAhead", "()Z"⟩, 6) := ⟨⟨by decide +kernel, by decide +kernel⟩, List.mem_of_getElem? (i := 28) (by decide +kernel), List.mem_of_getElem? (i := 200) (by decide +kernel), List.mem_of_getElem? (i := 201) (by decide +kernel)⟩
theorem lw_p1 : lw_okq (⟨"PaperTown$Text", "skipBlanks", "()V"⟩, 6) := ⟨⟨by decide +kernel, by decide +kernel⟩, List.mem_of_getElem? (i := 28) (by decide +kernel), List.mem_of_getElem? (i := 204) (by decide +kernel), List.mem_of_getElem? (i := 205) (by decide +kernel)⟩
theorem lw_p2 : lw_okq (⟨"PaperTown$Text", "byteAt", "(I)I"⟩, 6) := ⟨⟨by decide +kernel, by decide +kernel⟩, List.mem_of_getElem? (i := 28) (by decide +kernel), List.mem_of_getElem? (i := 208) (by decide +kernel), List.mem_of_getElem? (i := 209) (by decide +kernel)⟩
theorem lw_p3 : lw_okq (⟨"PaperTown$Text", "readOrder", "(LPaperTown$Plat;)V"⟩, 6) := ⟨⟨by decide +kernel, by decide +kernel⟩, List.mem_of_getElem? (i := 28) (by decide +kernel), List.mem_of_getElem? (i := 212) (by decide +kernel), List.mem_of_getElem? (i := 213) (by decide +kernel)⟩
theorem lw_p4 : lw_okq (⟨"PaperTown$Text", "readNumbers", "([I[I)Z"⟩, 6) := ⟨⟨by decide +kernel, by decide +kernel⟩, List.mem_of_getElem? (i := 28) (by decide +kernel), List.mem_of_getElem? (i := 220) (by decide +kernel), List.mem_of_getElem? (i := 221) (by decide +kernel)⟩
theorem lw_p5 : lw_okq (⟨"PaperTown$Text", "fail", "(II)V"⟩, 6) := ⟨⟨by decide +kernel, by decide +kernel⟩, List.mem_of_getElem? (i := 28) (by decide +kernel), List.mem_of_getElem? (i := 224) (by decide +kernel), List.mem_of_getElem? (i := 225) (by decide +kernel)⟩
theorem lw_p6 : lw_okq (⟨"PaperTown$Text", "readNumber", "(II)I"⟩, 6) := ⟨⟨by decide +kernel, by decide +kernel⟩, List.mem_of_getElem? (i := 28) (by decide +kernel), List.mem_of_getElem? (i := 228) (by decide +kernel), List.mem_of_getElem? (i := 229) (by decide +kernel)⟩
theorem lw_p7 : lw_okq (⟨"PaperTown$Text", "layLots", "(LPaperTown$Plat;IIZ)V"⟩, 6) := ⟨⟨by decide +kernel, by decide +kernel⟩, List.mem_of_getElem? (i := 28) (by decide +kernel), List.mem_of_getElem? (i := 235) (by decide +kernel), List.mem_of_getElem? (i := 236) (by decide +kernel)⟩
theorem lw_p8 : lw_okq (⟨"java/util/ArrayList", "add", "(Ljava/lang/Object;[Ljava/lang/Object;I)V"⟩, 3) := ⟨⟨by decide +kernel, by decide +kernel⟩, List.mem_of_getElem? (i := 69) (by decide +kernel), List.mem_of_getElem? (i := 346) (by decide +kernel), List.mem_of_getElem? (i := 347) (by decide +kernel)⟩
theorem lw_p9 : lw_okq (⟨"java/util/ArrayList", "grow", "()[Ljava/lang/Object;"⟩, 3) := ⟨⟨by decide +kernel, by decide +kernel⟩, List.mem_of_getElem? (i := 69) (by decide +kernel), List.mem_of_getElem? (i := 350) (by decide +kernel), List.mem_of_getElem? (i := 351) (by decide +kernel)⟩
theorem lw_p10 : lw_okq (⟨"java/util/ArrayList", "grow", "(I)[Ljava/lang/Object;"⟩, 3) := ⟨⟨by decide +kernel, by decide +kernel⟩, List.mem_of_getElem? (i := 69) (by decide +kernel), List.mem_of_getElem? (i := 354) (by decide +kernel), List.mem_of_getElem? (i := 355) (by decide +kernel)⟩
theorem lw_p11 : lw_okq (⟨"PaperTown$Plat", "markFree", "(IIIII)V"⟩, 5) := ⟨⟨by decide +kernel, by decide +kernel⟩, List.mem_of_getElem? (i := 63) (by decide +kernel), List.mem_of_getElem? (i := 399) (by decide +kernel), List.mem_of_getElem? (i := 400) (by decide +kernel)⟩
theorem lw_p12 : lw_okq (⟨"PaperTown$Text", "layStreet", "(LPaperTown$Plat;I)V"⟩, 6) := ⟨⟨by decide +kernel, by decide +kernel⟩, List.mem_of_getElem? (i := 28) (by decide +kernel), List.mem_of_getElem? (i := 407) (by decide +kernel), List.mem_of_getElem? (i := 408) (by decide +kernel)⟩
theorem lw_p13 : lw_okq (⟨"java/util/ArrayList", "fastRemove", "([Ljava/lang/Object;I)V"⟩, 3) := ⟨⟨by decide +kernel, by decide +kernel⟩, List.mem_of_getElem? (i := 69) (by decide +kernel), List.mem_of_getElem? (i := 433) (by decide +kernel), List.mem_of_getElem? (i := 434) (by decide +kernel)⟩
theorem lw_p14 : lw_okq (⟨"PaperTown$Plat", "livedBeside", "(LPaperTown$Lot;)I"⟩, 5) := ⟨⟨by decide +kernel, by decide +kernel⟩, List.mem_of_getElem? (i := 63) (by decide +kernel), List.mem_of_getElem? (i := 478) (by decide +kernel), List.mem_of_getElem? (i := 479) (by decide +kernel)⟩
theorem lw_p15 : lw_okq (⟨"PaperTown$Plat", "isOpenStreetBeside", "(LPaperTown$Lot;)Z"⟩, 5) := ⟨⟨by decide +kernel, by decide +kernel⟩, List.mem_of_getElem? (i := 63) (by decide +kernel), List.mem_of_getElem? (i := 486) (by decide +kernel), List.mem_of_getElem? (i := 487) (by decide +kernel)⟩
def lw_privs_1 : List (MethodName × Nat) := [(⟨"PaperTown$Text", "isOrderAhead", "()Z"⟩, 6), (⟨"PaperTown$Text", "skipBlanks", "()V"⟩, 6), (⟨"PaperTown$Text", "byteAt", "(I)I"⟩, 6), (⟨"PaperTown$Text", "readOrder", "(LPaperTown$Plat;)V"⟩, 6), (⟨"PaperTown$Text", "readNumbers", "([I[I)Z"⟩, 6), (⟨"PaperTown$Text", "fail", "(II)V"⟩, 6), (⟨"PaperTown$Text", "readNumber", "(II)I"⟩, 6), (⟨"PaperTown$Text", "layLots", "(LPaperTown$Plat;IIZ)V"⟩, 6), (⟨"java/util/ArrayList", "add", "(Ljava/lang/Object;[Ljava/lang/Object;I)V"⟩, 3), (⟨"java/util/ArrayList", "grow", "()[Ljava/lang/Object;"⟩, 3), (⟨"java/util/ArrayList", "grow", "(I)[Ljava/lang/Object;"⟩, 3), (⟨"PaperTown$Plat", "markFree", "(IIIII)V"⟩, 5), (⟨"PaperTown$Text", "layStreet", "(LPaperTown$Plat;I)V"⟩, 6), (⟨"java/util/ArrayList", "fastRemove", "([Ljava/lang/Object;I)V"⟩, 3), (⟨"PaperTown$Plat", "livedBeside", "(LPaperTown$Lot;)I"⟩, 5), (⟨"PaperTown$Plat", "isOpenStreetBeside", "(LPaperTown$Lot;)Z"⟩, 5)]
theorem lw_r1 : ∀ q ∈ lw_privs_1, lw_okq q := List.forall_mem_cons.mpr ⟨lw_p0, List.forall_mem_cons.mpr ⟨lw_p1, List.forall_mem_cons.mpr ⟨lw_p2, List.forall_mem_cons.mpr ⟨lw_p3, List.forall_mem_cons.mpr ⟨lw_p4, List.forall_mem_cons.mpr ⟨lw_p5, List.forall_mem_cons.mpr ⟨lw_p6, List.forall_mem_cons.mpr ⟨lw_p7, List.forall_mem_cons.mpr ⟨lw_p8, List.forall_mem_cons.mpr ⟨lw_p9, List.forall_mem_cons.mpr ⟨lw_p10, List.forall_mem_cons.mpr ⟨lw_p11, List.forall_mem_cons.mpr ⟨lw_p12, List.forall_mem_cons.mpr ⟨lw_p13, List.forall_mem_cons.mpr ⟨lw_p14, List.forall_mem_cons.mpr ⟨lw_p15, fun _ h => absurd h List.not_mem_nil⟩⟩⟩⟩⟩⟩⟩⟩⟩⟩⟩⟩⟩⟩⟩⟩
theorem lw_p16 : lw_okq (⟨"PaperTown$Plat", "shareOut", "(II)Z"⟩, 5) := ⟨⟨by decide +kernel, by decide +kernel⟩, List.mem_of_getElem? (i := 63) (by decide +kernel), List.mem_of_getElem? (i := 506) (by decide +kernel), List.mem_of_getElem? (i := 507) (by decide +kernel)⟩
theorem lw_p17 : lw_okq (⟨"PaperTown$Office", "bestBid", "(LPaperTown$Lot;)LPaperTown$Bid;"⟩, 9) := ⟨⟨by decide +kernel, by decide +kernel⟩, List.mem_of_getElem? (i := 57) (by decide +kernel), List.mem_of_getElem? (i := 581) (by decide +kernel), List.mem_of_getElem? (i := 582) (by decide +kernel)⟩
theorem lw_p18 : lw_okq (⟨"PaperTown$Office", "collectParts", "()V"⟩, 9) := ⟨⟨by decide +kernel, by decide +kernel⟩, List.mem_of_getElem? (i := 57) (by decide +kernel), List.mem_of_getElem? (i := 659) (by decide +kernel), List.mem_of_getElem? (i := 660) (by decide +kernel)⟩
theorem lw_p19 : lw_okq (⟨"PaperTown$Office", "collectPart", "(LPaperTown$Lot;)V"⟩, 9) := ⟨⟨by decide +kernel, by decide +kernel⟩, List.mem_of_getElem? (i := 57) (by decide +kernel), List.mem_of_getElem? (i := 664) (by decide +kernel), List.mem_of_getElem? (i := 665) (by decide +kernel)⟩
theorem lw_p20 : lw_okq (⟨"PaperTown$Office", "collectTaxes", "()V"⟩, 9) := ⟨⟨by decide +kernel, by decide +kernel⟩, List.mem_of_getElem? (i := 57) (by decide +kernel), List.mem_of_getElem? (i := 677) (by decide +kernel), List.mem_of_getElem? (i := 678) (by decide +kernel)⟩
theorem lw_p21 : lw_okq (⟨"PaperTown$Office", "collectTax", "(LPaperTown$Lot;)V"⟩, 9) := ⟨⟨by decide +kernel, by decide +kernel⟩, List.mem_of_getElem? (i := 57) (by decide +kernel), List.mem_of_getElem? (i := 681) (by decide +kernel), List.mem_of_getElem? (i := 682) (by decide +kernel)⟩
theorem lw_p22 : lw_okq (⟨"PaperTown$Office", "settleComers", "()V"⟩, 9) := ⟨⟨by decide +kernel, by decide +kernel⟩, List.mem_of_getElem? (i := 57) (by decide +kernel), List.mem_of_getElem? (i := 686) (by decide +kernel), List.mem_of_getElem? (i := 687) (by decide +kernel)⟩
theorem lw_p23 : lw_okq (⟨"PaperTown$Office", "judgeConditions", "()V"⟩, 9) := ⟨⟨by decide +kernel, by decide +kernel⟩, List.mem_of_getElem? (i := 57) (by decide +kernel), List.mem_of_getElem? (i := 699) (by decide +kernel), List.mem_of_getElem? (i := 700) (by decide +kernel)⟩
theorem lw_p24 : lw_okq (⟨"PaperTownModel", "readAll", "()I"⟩, 41) := ⟨⟨by decide +kernel, by decide +kernel⟩, List.mem_of_getElem? (i := 744) (by decide +kernel), List.mem_of_getElem? (i := 887) (by decide +kernel), List.mem_of_getElem? (i := 888) (by decide +kernel)⟩
theorem lw_p25 : lw_okq (⟨"PaperTownModel", "blanks", "()V"⟩, 41) := ⟨⟨by decide +kernel, by decide +kernel⟩, List.mem_of_getElem? (i := 744) (by decide +kernel), List.mem_of_getElem? (i := 891) (by decide +kernel), List.mem_of_getElem? (i := 892) (by decide +kernel)⟩
theorem lw_p26 : lw_okq (⟨"PaperTownModel", "readOrder", "()I"⟩, 41) := ⟨⟨by decide +kernel, by decide +kernel⟩, List.mem_of_getElem? (i := 744) (by decide +kernel), List.mem_of_getElem? (i := 895) (by decide +kernel), List.mem_of_getElem? (i := 896) (by decide +kernel)⟩
theorem lw_p27 : lw_okq (⟨"PaperTownModel", "fails", "(II)I"⟩, 41) := ⟨⟨by decide +kernel, by decide +kernel⟩, List.mem_of_getElem? (i := 744) (by decide +kernel), List.mem_of_getElem? (i := 899) (by decide +kernel), List.mem_of_getElem? (i := 900) (by decide +kernel)⟩
theorem lw_p28 : lw_okq (⟨"PaperTownModel", "readNumbers", "(II)I"⟩, 41) := ⟨⟨by decide +kernel, by decide +kernel⟩, List.mem_of_getElem? (i := 744) (by decide +kernel), List.mem_of_getElem? (i := 903) (by decide +kernel), List.mem_of_getElem? (i := 904) (by decide +kernel)⟩
theorem lw_p29 : lw_okq (⟨"PaperTownModel", "drawStreet", "()Z"⟩, 41) := ⟨⟨by decide +kernel, by decide +kernel⟩, List.mem_of_getElem? (i := 744) (by decide +kernel), List.mem_of_getElem? (i := 915) (by decide +kernel), List.mem_of_getElem? (i := 916) (by decide +kernel)⟩
theorem lw_p30 : lw_okq (⟨"PaperTownModel", "drawBlock", "(I)Z"⟩, 41) := ⟨⟨by decide +kernel, by decide +kernel⟩, List.mem_of_getElem? (i := 744) (by decide +kernel), List.mem_of_getElem? (i := 919) (by decide +kernel), List.mem_of_getElem? (i := 920) (by decide +kernel)⟩
theorem lw_p31 : lw_okq (⟨"PaperTownModel", "drawLot", "(IIIII)Z"⟩, 41) := ⟨⟨by decide +kernel, by decide +kernel⟩, List.mem_of_getElem? (i := 744) (by decide +kernel), List.mem_of_getElem? (i := 923) (by decide +kernel), List.mem_of_getElem? (i := 924) (by decide +kernel)⟩
def lw_privs_2 : List (MethodName × Nat) := [(⟨"PaperTown$Plat", "shareOut", "(II)Z"⟩, 5), (⟨"PaperTown$Office", "bestBid", "(LPaperTown$Lot;)LPaperTown$Bid;"⟩, 9), (⟨"PaperTown$Office", "collectParts", "()V"⟩, 9), (⟨"PaperTown$Office", "collectPart", "(LPaperTown$Lot;)V"⟩, 9), (⟨"PaperTown$Office", "collectTaxes", "()V"⟩, 9), (⟨"PaperTown$Office", "collectTax", "(LPaperTown$Lot;)V"⟩, 9), (⟨"PaperTown$Office", "settleComers", "()V"⟩, 9), (⟨"PaperTown$Office", "judgeConditions", "()V"⟩, 9), (⟨"PaperTownModel", "readAll", "()I"⟩, 41), (⟨"PaperTownModel", "blanks", "()V"⟩, 41), (⟨"PaperTownModel", "readOrder", "()I"⟩, 41), (⟨"PaperTownModel", "fails", "(II)I"⟩, 41), (⟨"PaperTownModel", "readNumbers", "(II)I"⟩, 41), (⟨"PaperTownModel", "drawStreet", "()Z"⟩, 41), (⟨"PaperTownModel", "drawBlock", "(I)Z"⟩, 41), (⟨"PaperTownModel", "drawLot", "(IIIII)Z"⟩, 41)]
theorem lw_r2 : ∀ q ∈ lw_privs_2, lw_okq q := List.forall_mem_cons.mpr ⟨lw_p16, List.forall_mem_cons.mpr ⟨lw_p17, List.forall_mem_cons.mpr ⟨lw_p18, List.forall_mem_cons.mpr ⟨lw_p19, List.forall_mem_cons.mpr ⟨lw_p20, List.forall_mem_cons.mpr ⟨lw_p21, List.forall_mem_cons.mpr ⟨lw_p22, List.forall_mem_cons.mpr ⟨lw_p23, List.forall_mem_cons.mpr ⟨lw_p24, List.forall_mem_cons.mpr ⟨lw_p25, List.forall_mem_cons.mpr ⟨lw_p26, List.forall_mem_cons.mpr ⟨lw_p27, List.forall_mem_cons.mpr ⟨lw_p28, List.forall_mem_cons.mpr ⟨lw_p29, List.forall_mem_cons.mpr ⟨lw_p30, List.forall_mem_cons.mpr ⟨lw_p31, fun _ h => absurd h List.not_mem_nil⟩⟩⟩⟩⟩⟩⟩⟩⟩⟩⟩⟩⟩⟩⟩⟩
theorem lw_p32 : lw_okq (⟨"PaperTownModel", "isLot", "(I)Z"⟩, 41) := ⟨⟨by decide +kernel, by decide +kernel⟩, List.mem_of_getElem? (i := 744) (by decide +kernel), List.mem_of_getElem? (i := 944) (by decide +kernel), List.mem_of_getElem? (i := 945) (by decide +kernel)⟩
theorem lw_p33 : lw_okq (⟨"PaperTownModel", "worth", "(I)I"⟩, 41) := ⟨⟨by decide +kernel, by decide +kernel⟩, List.mem_of_getElem? (i := 744) (by decide +kernel), List.mem_of_getElem? (i := 948) (by decide +kernel), List.mem_of_getElem? (i := 949) (by decide +kernel)⟩
theorem lw_p34 : lw_okq (⟨"PaperTownModel", "firstCell", "(I)I"⟩, 41) := ⟨⟨by decide +kernel, by decide +kernel⟩, List.mem_of_getElem? (i := 744) (by decide +kernel), List.mem_of_getElem? (i := 952) (by decide +kernel), List.mem_of_getElem? (i := 953) (by decide +kernel)⟩
theorem lw_p35 : lw_okq (⟨"PaperTownModel", "beside", "(II)I"⟩, 41) := ⟨⟨by decide +kernel, by decide +kernel⟩, List.mem_of_getElem? (i := 744) (by decide +kernel), List.mem_of_getElem? (i := 959) (by decide +kernel), List.mem_of_getElem? (i := 960) (by decide +kernel)⟩
theorem lw_p36 : lw_okq (⟨"PaperTownModel", "residentOf", "(I)I"⟩, 41) := ⟨⟨by decide +kernel, by decide +kernel⟩, List.mem_of_getElem? (i := 744) (by decide +kernel), List.mem_of_getElem? (i := 963) (by decide +kernel), List.mem_of_getElem? (i := 964) (by decide +kernel)⟩
theorem lw_p37 : lw_okq (⟨"PaperTownModel", "owedOn", "(I)I"⟩, 41) := ⟨⟨by decide +kernel, by decide +kernel⟩, List.mem_of_getElem? (i := 744) (by decide +kernel), List.mem_of_getElem? (i := 967) (by decide +kernel), List.mem_of_getElem? (i := 968) (by decide +kernel)⟩
theorem lw_p38 : lw_okq (⟨"PaperTownModel", "isPerson", "(I)Z"⟩, 41) := ⟨⟨by decide +kernel, by decide +kernel⟩, List.mem_of_getElem? (i := 744) (by decide +kernel), List.mem_of_getElem? (i := 988) (by decide +kernel), List.mem_of_getElem? (i := 989) (by decide +kernel)⟩
theorem lw_p39 : lw_okq (⟨"PaperTownModel", "become", "(II)V"⟩, 41) := ⟨⟨by decide +kernel, by decide +kernel⟩, List.mem_of_getElem? (i := 744) (by decide +kernel), List.mem_of_getElem? (i := 1001) (by decide +kernel), List.mem_of_getElem? (i := 1002) (by decide +kernel)⟩
theorem lw_p40 : lw_okq (⟨"PaperTownModel", "oneDay", "()V"⟩, 41) := ⟨⟨by decide +kernel, by decide +kernel⟩, List.mem_of_getElem? (i := 744) (by decide +kernel), List.mem_of_getElem? (i := 1024) (by decide +kernel), List.mem_of_getElem? (i := 1025) (by decide +kernel)⟩
theorem lw_p41 : lw_okq (⟨"PaperTownModel", "payParts", "()V"⟩, 41) := ⟨⟨by decide +kernel, by decide +kernel⟩, List.mem_of_getElem? (i := 744) (by decide +kernel), List.mem_of_getElem? (i := 1028) (by decide +kernel), List.mem_of_getElem? (i := 1029) (by decide +kernel)⟩
theorem lw_p42 : lw_okq (⟨"PaperTownModel", "goBack", "(I)V"⟩, 41) := ⟨⟨by decide +kernel, by decide +kernel⟩, List.mem_of_getElem? (i := 744) (by decide +kernel), List.mem_of_getElem? (i := 1032) (by decide +kernel), List.mem_of_getElem? (i := 1033) (by decide +kernel)⟩
theorem lw_p43 : lw_okq (⟨"PaperTownModel", "payTaxes", "()V"⟩, 41) := ⟨⟨by decide +kernel, by decide +kernel⟩, List.mem_of_getElem? (i := 744) (by decide +kernel), List.mem_of_getElem? (i := 1036) (by decide +kernel), List.mem_of_getElem? (i := 1037) (by decide +kernel)⟩
theorem lw_p44 : lw_okq (⟨"PaperTownModel", "come", "()V"⟩, 41) := ⟨⟨by decide +kernel, by decide +kernel⟩, List.mem_of_getElem? (i := 744) (by decide +kernel), List.mem_of_getElem? (i := 1040) (by decide +kernel), List.mem_of_getElem? (i := 1041) (by decide +kernel)⟩
theorem lw_p45 : lw_okq (⟨"PaperTownModel", "owns", "(I)I"⟩, 41) := ⟨⟨by decide +kernel, by decide +kernel⟩, List.mem_of_getElem? (i := 744) (by decide +kernel), List.mem_of_getElem? (i := 1052) (by decide +kernel), List.mem_of_getElem? (i := 1053) (by decide +kernel)⟩
theorem lw_p46 : lw_okq (⟨"PaperTownModel", "living", "()I"⟩, 41) := ⟨⟨by decide +kernel, by decide +kernel⟩, List.mem_of_getElem? (i := 744) (by decide +kernel), List.mem_of_getElem? (i := 1060) (by decide +kernel), List.mem_of_getElem? (i := 1061) (by decide +kernel)⟩
def lw_privs_3 : List (MethodName × Nat) := [(⟨"PaperTownModel", "isLot", "(I)Z"⟩, 41), (⟨"PaperTownModel", "worth", "(I)I"⟩, 41), (⟨"PaperTownModel", "firstCell", "(I)I"⟩, 41), (⟨"PaperTownModel", "beside", "(II)I"⟩, 41), (⟨"PaperTownModel", "residentOf", "(I)I"⟩, 41), (⟨"PaperTownModel", "owedOn", "(I)I"⟩, 41), (⟨"PaperTownModel", "isPerson", "(I)Z"⟩, 41), (⟨"PaperTownModel", "become", "(II)V"⟩, 41), (⟨"PaperTownModel", "oneDay", "()V"⟩, 41), (⟨"PaperTownModel", "payParts", "()V"⟩, 41), (⟨"PaperTownModel", "goBack", "(I)V"⟩, 41), (⟨"PaperTownModel", "payTaxes", "()V"⟩, 41), (⟨"PaperTownModel", "come", "()V"⟩, 41), (⟨"PaperTownModel", "owns", "(I)I"⟩, 41), (⟨"PaperTownModel", "living", "()I"⟩, 41)]
theorem lw_r3 : ∀ q ∈ lw_privs_3, lw_okq q := List.forall_mem_cons.mpr ⟨lw_p32, List.forall_mem_cons.mpr ⟨lw_p33, List.forall_mem_cons.mpr ⟨lw_p34, List.forall_mem_cons.mpr ⟨lw_p35, List.forall_mem_cons.mpr ⟨lw_p36, List.forall_mem_cons.mpr ⟨lw_p37, List.forall_mem_cons.mpr ⟨lw_p38, List.forall_mem_cons.mpr ⟨lw_p39, List.forall_mem_cons.mpr ⟨lw_p40, List.forall_mem_cons.mpr ⟨lw_p41, List.forall_mem_cons.mpr ⟨lw_p42, List.forall_mem_cons.mpr ⟨lw_p43, List.forall_mem_cons.mpr ⟨lw_p44, List.forall_mem_cons.mpr ⟨lw_p45, List.forall_mem_cons.mpr ⟨lw_p46, fun _ h => absurd h List.not_mem_nil⟩⟩⟩⟩⟩⟩⟩⟩⟩⟩⟩⟩⟩⟩⟩
def lw_privs : List (MethodName × Nat) := lw_privs_1 ++ (lw_privs_2 ++ (lw_privs_3))
def lw_tbl : List Cond := k2_sels lw_privs ++ tables_1
theorem lw_privs_ok : ∀ q ∈ lw_privs, lw_okq q := by
  show ∀ q ∈ lw_privs_1 ++ (lw_privs_2 ++ (lw_privs_3)), lw_okq q
  exact List.forall_mem_append.mpr ⟨lw_r1, List.forall_mem_append.mpr ⟨lw_r2, lw_r3⟩⟩
end
section
def RJx4a65c : String := "java/util/ArrayList"
def TJx4a65c : u_T := fun k => match k with
  | 0 => ("java/util/AbstractList", "modCount", "I", false)
  | 1 => ("java/util/ArrayList", "elementData", "[Ljava/lang/Object;", false)
  | _ => ("java/util/ArrayList", "size", "I", false)
def tyJx4a65c : Nat → FieldType := fun k => match k with
  | 0 => .int
  | 1 => .array (.object "java/lang/Object")
  | _ => .int
abbrev wsJx4a65c0 : List Cond := u_ws RJx4a65c TJx4a65c 3
theorem nmJx4a65c : ∀ a, a < 3 → ∀ b, b < 3 → a ≠ b → (TJx4a65c a).2.1 ≠ (TJx4a65c b).2.1 := by decide +kernel
theorem tyJx4a65c_ok : ∀ k, k < 3 → parseFieldDescriptor (TJx4a65c k).2.2.1 = some (tyJx4a65c k) := by decide +kernel
def RX0 : String := "PaperTown$Bid"
def TX0 : u_T := fun k => match k with
  | 0 => ("PaperTown$Bid", "bidder", "I", true)
  | _ => ("PaperTown$Bid", "sum", "I", true)
def tyX0 : Nat → FieldType := fun k => match k with
  | 0 => .int
  | _ => .int
abbrev wsX00 : List Cond := u_ws RX0 TX0 2
theorem nmX0 : ∀ a, a < 2 → ∀ b, b < 2 → a ≠ b → (TX0 a).2.1 ≠ (TX0 b).2.1 := by decide +kernel
theorem tyX0_ok : ∀ k, k < 2 → parseFieldDescriptor (TX0 k).2.2.1 = some (tyX0 k) := by decide +kernel
def RX1 : String := "PaperTown$Lot"
def TX1 : u_T := fun k => match k with
  | 0 => ("PaperTown$Lot", "x", "I", true)
  | 1 => ("PaperTown$Lot", "y", "I", true)
  | 2 => ("PaperTown$Lot", "w", "I", true)
  | 3 => ("PaperTown$Lot", "h", "I", true)
  | 4 => ("PaperTown$Lot", "gift", "Z", true)
  | 5 => ("PaperTown$Lot", "halvesFromStreets", "I", false)
  | 6 => ("PaperTown$Lot", "bids", "Ljava/util/ArrayList;", true)
  | 7 => ("PaperTown$Lot", "owner", "I", false)
  | 8 => ("PaperTown$Lot", "since", "I", false)
  | 9 => ("PaperTown$Lot", "past", "LPaperTown$Title;", false)
  | 10 => ("PaperTown$Lot", "lived", "Z", false)
  | 11 => ("PaperTown$Lot", "owed", "I", false)
  | 12 => ("PaperTown$Lot", "partsLeft", "I", false)
  | 13 => ("PaperTown$Lot", "part", "I", false)
  | 14 => ("PaperTown$Lot", "due", "I", false)
  | 15 => ("PaperTown$Lot", "yearsOut", "I", false)
  | _ => ("PaperTown$Lot", "condition", "I", false)
def tyX1 : Nat → FieldType := fun k => match k with
  | 0 => .int
  | 1 => .int
  | 2 => .int
  | 3 => .int
  | 4 => .boolean
  | 5 => .int
  | 6 => .object "java/util/ArrayList"
  | 7 => .int
  | 8 => .int
  | 9 => .object "PaperTown$Title"
  | 10 => .boolean
  | 11 => .int
  | 12 => .int
  | 13 => .int
  | 14 => .int
  | 15 => .int
  | _ => .int
abbrev wsX10 : List Cond := u_ws RX1 TX1 17
theorem nmX1 : ∀ a, a < 17 → ∀ b, b < 17 → a ≠ b → (TX1 a).2.1 ≠ (TX1 b).2.1 := by decide +kernel
theorem tyX1_ok : ∀ k, k < 17 → parseFieldDescriptor (TX1 k).2.2.1 = some (tyX1 k) := by decide +kernel
def RX2 : String := "PaperTown$Office"
def TX2 : u_T := fun k => match k with
  | 0 => ("PaperTown$Office", "plat", "LPaperTown$Plat;", true)
  | 1 => ("PaperTown$Office", "people", "LPaperTown$People;", true)
  | 2 => ("PaperTown$Office", "now", "I", false)
  | 3 => ("PaperTown$Office", "taxRate", "I", false)
  | 4 => ("PaperTown$Office", "forfeits", "I", false)
  | 5 => ("PaperTown$Office", "takenForTaxes", "I", false)
  | 6 => ("PaperTown$Office", "income", "I", false)
  | 7 => ("PaperTown$Office", "taxesPaid", "I", false)
  | _ => ("PaperTown$Office", "changes", "I", false)
def tyX2 : Nat → FieldType := fun k => match k with
  | 0 => .object "PaperTown$Plat"
  | 1 => .object "PaperTown$People"
  | 2 => .int
  | 3 => .int
  | 4 => .int
  | 5 => .int
  | 6 => .int
  | 7 => .int
  | _ => .int
abbrev wsX20 : List Cond := u_ws RX2 TX2 9
theorem nmX2 : ∀ a, a < 9 → ∀ b, b < 9 → a ≠ b → (TX2 a).2.1 ≠ (TX2 b).2.1 := by decide +kernel
theorem tyX2_ok : ∀ k, k < 9 → parseFieldDescriptor (TX2 k).2.2.1 = some (tyX2 k) := by decide +kernel
def RX3 : String := "PaperTown$People"
def TX3 : u_T := fun k => match k with
  | 0 => ("PaperTown$People", "purses", "[I", true)
  | _ => ("PaperTown$People", "size", "I", false)
def tyX3 : Nat → FieldType := fun k => match k with
  | 0 => .array .int
  | _ => .int
abbrev wsX30 : List Cond := u_ws RX3 TX3 2
theorem nmX3 : ∀ a, a < 2 → ∀ b, b < 2 → a ≠ b → (TX3 a).2.1 ≠ (TX3 b).2.1 := by decide +kernel
theorem tyX3_ok : ∀ k, k < 2 → parseFieldDescriptor (TX3 k).2.2.1 = some (tyX3 k) := by decide +kernel
def RX4 : String := "PaperTown$Plat"
def TX4 : u_T := fun k => match k with
  | 0 => ("PaperTown$Plat", "cells", "[I", true)
  | 1 => ("PaperTown$Plat", "vacated", "[Z", true)
  | 2 => ("PaperTown$Plat", "lots", "Ljava/util/ArrayList;", true)
  | 3 => ("PaperTown$Plat", "streets", "I", false)
  | _ => ("PaperTown$Plat", "haltCell", "I", false)
def tyX4 : Nat → FieldType := fun k => match k with
  | 0 => .array .int
  | 1 => .array .boolean
  | 2 => .object "java/util/ArrayList"
  | 3 => .int
  | _ => .int
abbrev wsX40 : List Cond := u_ws RX4 TX4 5
theorem nmX4 : ∀ a, a < 5 → ∀ b, b < 5 → a ≠ b → (TX4 a).2.1 ≠ (TX4 b).2.1 := by decide +kernel
theorem tyX4_ok : ∀ k, k < 5 → parseFieldDescriptor (TX4 k).2.2.1 = some (tyX4 k) := by decide +kernel
def RX5 : String := "PaperTown$Text"
def TX5 : u_T := fun k => match k with
  | 0 => ("PaperTown$Text", "bytes", "[B", true)
  | 1 => ("PaperTown$Text", "numbers", "[I", true)
  | 2 => ("PaperTown$Text", "length", "I", false)
  | 3 => ("PaperTown$Text", "faultAt", "I", false)
  | 4 => ("PaperTown$Text", "fault", "I", false)
  | _ => ("PaperTown$Text", "pos", "I", false)
def tyX5 : Nat → FieldType := fun k => match k with
  | 0 => .array .byte
  | 1 => .array .int
  | 2 => .int
  | 3 => .int
  | 4 => .int
  | _ => .int
abbrev wsX50 : List Cond := u_ws RX5 TX5 6
theorem nmX5 : ∀ a, a < 6 → ∀ b, b < 6 → a ≠ b → (TX5 a).2.1 ≠ (TX5 b).2.1 := by decide +kernel
theorem tyX5_ok : ∀ k, k < 6 → parseFieldDescriptor (TX5 k).2.2.1 = some (tyX5 k) := by decide +kernel
def RX6 : String := "PaperTown$Title"
def TX6 : u_T := fun k => match k with
  | 0 => ("PaperTown$Title", "owner", "I", true)
  | 1 => ("PaperTown$Title", "since", "I", true)
  | _ => ("PaperTown$Title", "past", "LPaperTown$Title;", true)
def tyX6 : Nat → FieldType := fun k => match k with
  | 0 => .int
  | 1 => .int
  | _ => .object "PaperTown$Title"
abbrev wsX60 : List Cond := u_ws RX6 TX6 3
theorem nmX6 : ∀ a, a < 3 → ∀ b, b < 3 → a ≠ b → (TX6 a).2.1 ≠ (TX6 b).2.1 := by decide +kernel
theorem tyX6_ok : ∀ k, k < 3 → parseFieldDescriptor (TX6 k).2.2.1 = some (tyX6 k) := by decide +kernel
def RX7 : String := "PaperTown"
def TX7 : u_T := fun k => match k with
  | 0 => ("PaperTown", "text", "LPaperTown$Text;", true)
  | _ => ("PaperTown", "office", "LPaperTown$Office;", true)
def tyX7 : Nat → FieldType := fun k => match k with
  | 0 => .object "PaperTown$Text"
  | _ => .object "PaperTown$Office"
abbrev wsX70 : List Cond := u_ws RX7 TX7 2
theorem nmX7 : ∀ a, a < 2 → ∀ b, b < 2 → a ≠ b → (TX7 a).2.1 ≠ (TX7 b).2.1 := by decide +kernel
theorem tyX7_ok : ∀ k, k < 2 → parseFieldDescriptor (TX7 k).2.2.1 = some (tyX7 k) := by decide +kernel
def RX8 : String := "PaperTownModel"
def TX8 : u_T := fun k => match k with
  | 0 => ("PaperTownModel", "text", "[I", true)
  | 1 => ("PaperTownModel", "texted", "I", false)
  | 2 => ("PaperTownModel", "faultPlace", "I", false)
  | 3 => ("PaperTownModel", "cells", "[I", true)
  | 4 => ("PaperTownModel", "draft", "[I", true)
  | 5 => ("PaperTownModel", "lots", "I", false)
  | 6 => ("PaperTownModel", "halves", "[I", true)
  | 7 => ("PaperTownModel", "owners", "[I", true)
  | 8 => ("PaperTownModel", "isGift", "[Z", true)
  | 9 => ("PaperTownModel", "part", "[I", true)
  | 10 => ("PaperTownModel", "lastPart", "[I", true)
  | 11 => ("PaperTownModel", "partsLeft", "[I", true)
  | 12 => ("PaperTownModel", "dueDay", "[I", true)
  | 13 => ("PaperTownModel", "yearsOut", "[I", true)
  | 14 => ("PaperTownModel", "gotDay", "[I", true)
  | 15 => ("PaperTownModel", "condition", "[I", true)
  | 16 => ("PaperTownModel", "streets", "I", false)
  | 17 => ("PaperTownModel", "vacated", "[Z", true)
  | 18 => ("PaperTownModel", "persons", "I", false)
  | 19 => ("PaperTownModel", "money", "[I", true)
  | 20 => ("PaperTownModel", "home", "[I", true)
  | 21 => ("PaperTownModel", "bidMany", "[I", true)
  | 22 => ("PaperTownModel", "bidders", "[I", true)
  | 23 => ("PaperTownModel", "bids", "[I", true)
  | 24 => ("PaperTownModel", "now", "I", false)
  | 25 => ("PaperTownModel", "halt", "I", false)
  | 26 => ("PaperTownModel", "rate", "I", false)
  | 27 => ("PaperTownModel", "forfeits", "I", false)
  | 28 => ("PaperTownModel", "taken", "I", false)
  | 29 => ("PaperTownModel", "got", "I", false)
  | 30 => ("PaperTownModel", "taxes", "I", false)
  | 31 => ("PaperTownModel", "changes", "I", false)
  | 32 => ("PaperTownModel", "changeLot", "[I", true)
  | 33 => ("PaperTownModel", "changeDay", "[I", true)
  | 34 => ("PaperTownModel", "changeOwner", "[I", true)
  | 35 => ("PaperTownModel", "at", "I", false)
  | 36 => ("PaperTownModel", "newLots", "I", false)
  | 37 => ("PaperTownModel", "newStreets", "I", false)
  | 38 => ("PaperTownModel", "numbers", "[I", true)
  | 39 => ("PaperTownModel", "newCells", "[I", true)
  | _ => ("PaperTownModel", "newGift", "[Z", true)
def tyX8 : Nat → FieldType := fun k => match k with
  | 0 => .array .int
  | 1 => .int
  | 2 => .int
  | 3 => .array .int
  | 4 => .array .int
  | 5 => .int
  | 6 => .array .int
  | 7 => .array .int
  | 8 => .array .boolean
  | 9 => .array .int
  | 10 => .array .int
  | 11 => .array .int
  | 12 => .array .int
  | 13 => .array .int
  | 14 => .array .int
  | 15 => .array .int
  | 16 => .int
  | 17 => .array .boolean
  | 18 => .int
  | 19 => .array .int
  | 20 => .array .int
  | 21 => .array .int
  | 22 => .array .int
  | 23 => .array .int
  | 24 => .int
  | 25 => .int
  | 26 => .int
  | 27 => .int
  | 28 => .int
  | 29 => .int
  | 30 => .int
  | 31 => .int
  | 32 => .array .int
  | 33 => .array .int
  | 34 => .array .int
  | 35 => .int
  | 36 => .int
  | 37 => .int
  | 38 => .array .int
  | 39 => .array .int
  | _ => .array .boolean
abbrev wsX80 : List Cond := u_ws RX8 TX8 41
theorem nmX8 : ∀ a, a < 41 → ∀ b, b < 41 → a ≠ b → (TX8 a).2.1 ≠ (TX8 b).2.1 := by decide +kernel
theorem tyX8_ok : ∀ k, k < 41 → parseFieldDescriptor (TX8 k).2.2.1 = some (tyX8 k) := by decide +kernel
abbrev zCl : List vw_C := [(RJx4a65c, TJx4a65c, 3), (RX0, TX0, 2), (RX1, TX1, 17), (RX2, TX2, 9), (RX3, TX3, 2), (RX4, TX4, 5), (RX5, TX5, 6), (RX6, TX6, 3), (RX7, TX7, 2), (RX8, TX8, 41)]
/-- class number t: name, fields, how many -/
def zcl (t : Nat) : vw_C := zCl.getD t (RX0, TX0, 2)
def ztyl : List (Nat → FieldType) := [tyJx4a65c, tyX0, tyX1, tyX2, tyX3, tyX4, tyX5, tyX6, tyX7, tyX8]
def ztf (t : Nat) : Nat → FieldType := ztyl.getD t tyX0
def zG : List Cond := lw_tbl.filter goodWord
theorem zG_in {w : Cond} {i : Nat} (h : lw_tbl[i]? = some w) (hg : goodWord w = true) : w ∈ zG := List.mem_filter.mpr ⟨List.mem_of_getElem? h, hg⟩
theorem zG_good {w : Cond} (h : w ∈ zG) : goodWord w = true := (List.mem_filter.mp h).2
theorem zG_tbl {w : Cond} (h : w ∈ zG) : w ∈ lw_tbl := (List.mem_filter.mp h).1
theorem zlt10 {P : Nat → Prop} (h0 : P 0) (h1 : P 1) (h2 : P 2) (h3 : P 3) (h4 : P 4) (h5 : P 5) (h6 : P 6) (h7 : P 7) (h8 : P 8) (h9 : P 9) : ∀ t, t < 10 → P t := by
  intro t ht
  match t, ht with
  | 0, _ => exact h0
  | 1, _ => exact h1
  | 2, _ => exact h2
  | 3, _ => exact h3
  | 4, _ => exact h4
  | 5, _ => exact h5
  | 6, _ => exact h6
  | 7, _ => exact h7
  | 8, _ => exact h8
  | 9, _ => exact h9
  | n + 10, h => exact absurd h (by omega)
/-- where the words of class t's fields stand -/
def zlayp : List (List Nat) := [[138, 134, 136], [609, 611], [353, 355, 357, 359, 361, 363, 365, 367, 369, 371, 373, 375, 377, 379, 381, 383, 385], [200, 202, 204, 206, 208, 210, 212, 214, 216], [177, 179], [156, 158, 160, 162, 164], [88, 90, 92, 94, 96, 98], [673, 675, 677], [221, 223], [837, 839, 841, 843, 845, 847, 849, 851, 853, 855, 857, 859, 861, 863, 865, 867, 869, 871, 873, 875, 877, 879, 881, 883, 885, 887, 889, 891, 893, 895, 897, 899, 901, 903, 905, 907, 909, 911, 913, 915, 917]]
def zlayok (t : Nat) : Bool := (List.range (zcl t).2.2).all fun k => decide (lw_tbl[(zlayp.getD t []).getD k 0]? = some (u_lay (zcl t).1 (zcl t).2.1 k)) && goodWord (u_lay (zcl t).1 (zcl t).2.1 k)
theorem zlay0 : zlayok 0 = true := by decide +kernel
theorem zlay1 : zlayok 1 = true := by decide +kernel
theorem zlay2 : zlayok 2 = true := by decide +kernel
theorem zlay3 : zlayok 3 = true := by decide +kernel
theorem zlay4 : zlayok 4 = true := by decide +kernel
theorem zlay5 : zlayok 5 = true := by decide +kernel
theorem zlay6 : zlayok 6 = true := by decide +kernel
theorem zlay7 : zlayok 7 = true := by decide +kernel
theorem zlay8 : zlayok 8 = true := by decide +kernel
theorem zlay9 : zlayok 9 = true := by decide +kernel
theorem zlay : ∀ t, t < 10 → zlayok t = true := zlt10 zlay0 zlay1 zlay2 zlay3 zlay4 zlay5 zlay6 zlay7 zlay8 zlay9
theorem zuw {t : Nat} (ht : t < 10) : ∀ w ∈ u_ws (zcl t).1 (zcl t).2.1 (zcl t).2.2, w ∈ zG := by
  intro w hw
  obtain ⟨k, hk, rfl⟩ := List.mem_map.mp hw
  have h := List.all_eq_true.mp (zlay t ht) k hk
  simp only [Bool.and_eq_true, decide_eq_true_eq] at h
  exact zG_in h.1 h.2
theorem ztf_ok : ∀ t, t < 10 → ∀ k, k < (zcl t).2.2 → parseFieldDescriptor ((zcl t).2.1 k).2.2.1 = some (ztf t k) := zlt10 tyJx4a65c_ok tyX0_ok tyX1_ok tyX2_ok tyX3_ok tyX4_ok tyX5_ok tyX6_ok tyX7_ok tyX8_ok
theorem znm_ok : ∀ t, t < 10 → ∀ a, a < (zcl t).2.2 → ∀ b, b < (zcl t).2.2 → a ≠ b → ((zcl t).2.1 a).2.1 ≠ ((zcl t).2.1 b).2.1 := zlt10 nmJx4a65c nmX0 nmX1 nmX2 nmX3 nmX4 nmX5 nmX6 nmX7 nmX8
def zinsp : List (Nat × Nat) := [(116, 54), (599, 64), (302, 58), (104, 50), (168, 56), (110, 51), (75, 49), (662, 65), (67, 48), (791, 57)]
def zinsok (t : Nat) : Bool := decide (lw_tbl[(zinsp.getD t (0, 0)).1]? = some (.instantiable (zcl t).1 (zcl t).2.2)) && decide (lw_tbl[(zinsp.getD t (0, 0)).2]? = some (.initialized (zcl t).1))
theorem zins : ∀ t, t < 10 → zinsok t = true := zlt10 (by decide +kernel) (by decide +kernel) (by decide +kernel) (by decide +kernel) (by decide +kernel) (by decide +kernel) (by decide +kernel) (by decide +kernel) (by decide +kernel) (by decide +kernel)
theorem zins1 {t : Nat} (ht : t < 10) : Cond.instantiable (zcl t).1 (zcl t).2.2 ∈ zG ∧ Cond.initialized (zcl t).1 ∈ zG := by
  have h := zins t ht
  simp only [zinsok, Bool.and_eq_true, decide_eq_true_eq] at h
  exact ⟨zG_in h.1 rfl, zG_in h.2 rfl⟩
end
section
abbrev zI : Type := Nat × Instr × Nat × Nat × Nat × Nat × Int
/-- a method: name, code, locals, answer; 0 static, 1 of an object, 2 a constructor; where its words stand; frames, locals that it needs -/
abbrev zMt : Type := MethodName × ByteArray × Nat × Option FieldType × Nat × (Nat × Nat × Nat × Nat) × Nat × Nat
def zmts0 : List zMt := [(⟨"PaperTown", "<init>", "()V"⟩, prog_1_method_1_code, 1, none, 2, (70, 69, 0, 48), 6, 120),
  (⟨"java/lang/Object", "<init>", "()V"⟩, object_method_1_code, 1, none, 2, (73, 72, 0, 0), 0, 0),
  (⟨"PaperTown$Text", "<init>", "()V"⟩, prog_7_method_1_code, 1, none, 2, (78, 77, 0, 49), 1, 20),
  (⟨"PaperTown$Office", "<init>", "()V"⟩, prog_4_method_1_code, 1, none, 2, (107, 106, 0, 50), 5, 100),
  (⟨"PaperTown$Plat", "<init>", "()V"⟩, prog_6_method_1_code, 1, none, 2, (113, 112, 0, 51), 4, 80),
  (⟨"java/util/ArrayList", "<init>", "()V"⟩, prog_18_method_2_code, 1, none, 2, (119, 118, 0, 54), 3, 60),
  (⟨"java/util/AbstractList", "<init>", "()V"⟩, prog_17_method_1_code, 1, none, 2, (122, 121, 0, 53), 2, 40),
  (⟨"java/util/AbstractCollection", "<init>", "()V"⟩, prog_16_method_1_code, 1, none, 2, (125, 124, 0, 52), 1, 20),
  (⟨"java/util/Arrays", "fill", "([II)V"⟩, prog_19_method_103_code, 4, none, 0, (144, 143, 0, 55), 0, 0),
  (⟨"PaperTown$People", "<init>", "()V"⟩, prog_5_method_1_code, 1, none, 2, (171, 170, 0, 56), 1, 20),
  (⟨"PaperTown", "feed", "(IJ)I"⟩, prog_1_method_2_code, 4, (some .int), 1, (229, 227, 228, 48), 1, 24),
  (⟨"PaperTown$Text", "append", "(IJ)Z"⟩, prog_7_method_2_code, 5, (some .boolean), 1, (233, 231, 232, 49), 0, 0),
  (⟨"PaperTown", "draw", "()I"⟩, prog_1_method_3_code, 2, (some .int), 1, (237, 235, 236, 48), 11, 261),
  (⟨"PaperTown$Text", "drawOn", "(LPaperTown$Plat;)I"⟩, prog_7_method_3_code, 5, (some .int), 1, (241, 239, 240, 49), 10, 237),
  (⟨"java/util/ArrayList", "size", "()I"⟩, prog_18_method_8_code, 1, (some .int), 1, (245, 243, 244, 54), 0, 0),
  (⟨"PaperTown$Text", "isOrderAhead", "()Z"⟩, prog_7_method_4_code, 1, (some .boolean), 1, (249, 248, 0, 49), 2, 41),
  (⟨"PaperTown$Text", "skipBlanks", "()V"⟩, prog_7_method_10_code, 1, none, 1, (253, 252, 1, 49), 1, 21),
  (⟨"PaperTown$Text", "byteAt", "(I)I"⟩, prog_7_method_11_code, 2, (some .int), 1, (257, 256, 2, 49), 0, 0),
  (⟨"PaperTown$Text", "readOrder", "(LPaperTown$Plat;)V"⟩, prog_7_method_5_code, 3, none, 1, (261, 260, 3, 49), 9, 215),
  (⟨"PaperTown$Text", "readNumbers", "([I[I)Z"⟩, prog_7_method_6_code, 4, (some .boolean), 1, (269, 268, 4, 49), 2, 46)]
def zmts1 : List zMt := [(⟨"PaperTown$Text", "fail", "(II)V"⟩, prog_7_method_13_code, 3, none, 1, (273, 272, 5, 49), 0, 0),
  (⟨"PaperTown$Text", "readNumber", "(II)I"⟩, prog_7_method_7_code, 5, (some .int), 1, (277, 276, 6, 49), 1, 22),
  (⟨"PaperTown$Text", "isFigure", "(I)Z"⟩, prog_7_method_12_code, 1, (some .boolean), 0, (280, 279, 0, 49), 0, 0),
  (⟨"PaperTown$Text", "layLots", "(LPaperTown$Plat;IIZ)V"⟩, prog_7_method_8_code, 10, none, 1, (284, 283, 7, 49), 8, 186),
  (⟨"PaperTown$Plat", "isFree", "(IIIIZ)Z"⟩, prog_6_method_6_code, 9, (some .boolean), 1, (288, 286, 287, 51), 2, 43),
  (⟨"PaperTown$Plat", "at", "(II)I"⟩, prog_6_method_2_code, 3, (some .int), 1, (292, 290, 291, 51), 1, 21),
  (⟨"PaperTown", "isOnGrass", "(II)Z"⟩, prog_1_method_21_code, 2, (some .boolean), 0, (295, 294, 0, 48), 0, 0),
  (⟨"PaperTown$Plat", "addLot", "(IIIIZ)V"⟩, prog_6_method_7_code, 7, none, 1, (299, 297, 298, 51), 7, 160),
  (⟨"PaperTown$Lot", "<init>", "(IIIIZ)V"⟩, prog_3_method_1_code, 6, none, 2, (305, 304, 0, 58), 4, 80),
  (⟨"java/util/ArrayList", "add", "(Ljava/lang/Object;)Z"⟩, prog_18_method_25_code, 2, (some .boolean), 1, (391, 389, 390, 54), 6, 139),
  (⟨"java/util/ArrayList", "add", "(Ljava/lang/Object;[Ljava/lang/Object;I)V"⟩, prog_18_method_24_code, 4, none, 1, (395, 394, 8, 54), 5, 116),
  (⟨"java/util/ArrayList", "grow", "()[Ljava/lang/Object;"⟩, prog_18_method_7_code, 1, (some (.array (.object "java/lang/Object"))), 1, (399, 398, 9, 54), 4, 96),
  (⟨"java/util/ArrayList", "grow", "(I)[Ljava/lang/Object;"⟩, prog_18_method_6_code, 4, (some (.array (.object "java/lang/Object"))), 1, (403, 402, 10, 54), 3, 73),
  (⟨"jdk/internal/util/ArraysSupport", "newLength", "(III)I"⟩, prog_25_method_27_code, 4, (some .int), 0, (406, 405, 0, 59), 1, 22),
  (⟨"java/lang/Math", "max", "(II)I"⟩, prog_14_method_65_code, 2, (some .int), 0, (409, 408, 0, 60), 0, 0),
  (⟨"jdk/internal/util/ArraysSupport", "hugeLength", "(II)I"⟩, prog_25_method_28_code, 3, (some .int), 0, (413, 412, 0, 59), 0, 0),
  (⟨"java/util/Arrays", "copyOf", "([Ljava/lang/Object;I)[Ljava/lang/Object;"⟩, prog_19_method_119_code, 2, (some (.array (.object "java/lang/Object"))), 0, (416, 415, 0, 55), 2, 52),
  (⟨"java/util/Arrays", "copyOf", "([Ljava/lang/Object;ILjava/lang/Class;)[Ljava/lang/Object;"⟩, prog_19_method_120_code, 4, (some (.array (.object "java/lang/Object"))), 0, (433, 432, 0, 55), 0, 0),
  (⟨"java/lang/Math", "min", "(II)I"⟩, prog_14_method_69_code, 2, (some .int), 0, (439, 438, 0, 60), 0, 0),
  (⟨"PaperTown$Plat", "markFree", "(IIIII)V"⟩, prog_6_method_9_code, 8, none, 1, (448, 447, 11, 51), 1, 21)]
def zmts2 : List zMt := [(⟨"PaperTown$Text", "layStreet", "(LPaperTown$Plat;I)V"⟩, prog_7_method_9_code, 7, none, 1, (456, 455, 12, 49), 3, 73),
  (⟨"PaperTown$Plat", "addStreet", "(IIII)V"⟩, prog_6_method_8_code, 6, none, 1, (460, 458, 459, 51), 2, 48),
  (⟨"PaperTown$Plat", "cutBack", "(II)V"⟩, prog_6_method_10_code, 7, none, 1, (468, 466, 467, 51), 3, 72),
  (⟨"java/util/ArrayList", "remove", "(I)Ljava/lang/Object;"⟩, prog_18_method_29_code, 4, (some (.object "java/lang/Object")), 1, (472, 470, 471, 54), 2, 49),
  (⟨"java/util/Objects", "checkIndex", "(II)I"⟩, prog_22_method_17_code, 2, (some .int), 0, (475, 474, 0, 62), 1, 22),
  (⟨"jdk/internal/util/Preconditions", "checkIndex", "(IILjava/util/function/BiFunction;)I"⟩, prog_26_method_11_code, 3, (some .int), 0, (478, 477, 0, 63), 0, 0),
  (⟨"java/util/ArrayList", "fastRemove", "([Ljava/lang/Object;I)V"⟩, prog_18_method_39_code, 4, none, 1, (482, 481, 13, 54), 1, 26),
  (⟨"PaperTown", "place", "()I"⟩, prog_1_method_4_code, 1, (some .int), 1, (488, 486, 487, 48), 0, 0),
  (⟨"PaperTown", "cell", "(II)I"⟩, prog_1_method_5_code, 3, (some .int), 1, (492, 490, 491, 48), 2, 43),
  (⟨"PaperTown", "lot", "(II)I"⟩, prog_1_method_6_code, 4, (some .int), 1, (498, 496, 497, 48), 5, 111),
  (⟨"PaperTown$Plat", "lotAt", "(I)LPaperTown$Lot;"⟩, prog_6_method_3_code, 2, (some (.object "PaperTown$Lot")), 1, (502, 500, 501, 51), 3, 64),
  (⟨"java/util/ArrayList", "get", "(I)Ljava/lang/Object;"⟩, prog_18_method_20_code, 2, (some (.object "java/lang/Object")), 1, (506, 504, 505, 54), 2, 43),
  (⟨"java/util/ArrayList", "elementData", "(I)Ljava/lang/Object;"⟩, prog_18_method_18_code, 2, (some (.object "java/lang/Object")), 1, (510, 508, 509, 54), 0, 0),
  (⟨"PaperTown$Lot", "area", "()I"⟩, prog_3_method_2_code, 1, (some .int), 1, (514, 512, 513, 58), 0, 0),
  (⟨"PaperTown$Plat", "worthOf", "(LPaperTown$Lot;)I"⟩, prog_6_method_13_code, 4, (some .int), 1, (518, 516, 517, 51), 4, 88),
  (⟨"java/lang/Math", "abs", "(I)I"⟩, prog_14_method_59_code, 1, (some .int), 0, (521, 520, 0, 60), 0, 0),
  (⟨"PaperTown$Plat", "livedBeside", "(LPaperTown$Lot;)I"⟩, prog_6_method_14_code, 5, (some .int), 1, (527, 526, 14, 51), 3, 64),
  (⟨"PaperTown$Lot", "isBeside", "(IIII)Z"⟩, prog_3_method_3_code, 9, (some .boolean), 1, (531, 529, 530, 58), 0, 0),
  (⟨"PaperTown$Plat", "isOpenStreetBeside", "(LPaperTown$Lot;)Z"⟩, prog_6_method_15_code, 5, (some .boolean), 1, (535, 534, 15, 51), 1, 28),
  (⟨"PaperTown", "vacate", "(I)I"⟩, prog_1_method_7_code, 2, (some .int), 1, (539, 537, 538, 48), 5, 113)]
def zmts3 : List zMt := [(⟨"PaperTown$Plat", "hasStreet", "(I)Z"⟩, prog_6_method_4_code, 2, (some .boolean), 1, (543, 541, 542, 51), 0, 0),
  (⟨"PaperTown$Plat", "isVacated", "(I)Z"⟩, prog_6_method_5_code, 2, (some .boolean), 1, (547, 545, 546, 51), 0, 0),
  (⟨"PaperTown$Plat", "giveUpStreet", "(I)I"⟩, prog_6_method_11_code, 4, (some .int), 1, (551, 549, 550, 51), 4, 90),
  (⟨"PaperTown$Plat", "shareOut", "(II)Z"⟩, prog_6_method_12_code, 7, (some .boolean), 1, (555, 554, 16, 51), 3, 64),
  (⟨"PaperTown", "halt", "(II)I"⟩, prog_1_method_8_code, 4, (some .int), 1, (559, 557, 558, 48), 1, 21),
  (⟨"PaperTown", "person", "(I)I"⟩, prog_1_method_9_code, 2, (some .int), 1, (563, 561, 562, 48), 1, 22),
  (⟨"PaperTown$People", "add", "(I)I"⟩, prog_5_method_2_code, 3, (some .int), 1, (568, 566, 567, 56), 0, 0),
  (⟨"PaperTown", "money", "(II)I"⟩, prog_1_method_10_code, 4, (some .int), 1, (572, 570, 571, 48), 2, 43),
  (⟨"PaperTown$People", "has", "(I)Z"⟩, prog_5_method_3_code, 2, (some .boolean), 1, (576, 574, 575, 56), 0, 0),
  (⟨"PaperTown$People", "purse", "(I)I"⟩, prog_5_method_4_code, 2, (some .int), 1, (581, 579, 580, 56), 1, 21),
  (⟨"PaperTown$People", "fillPurse", "(II)V"⟩, prog_5_method_5_code, 3, none, 1, (586, 584, 585, 56), 1, 21),
  (⟨"PaperTown", "bid", "(III)I"⟩, prog_1_method_11_code, 5, (some .int), 1, (590, 588, 589, 48), 8, 183),
  (⟨"PaperTown$Lot", "takeBid", "(II)V"⟩, prog_3_method_4_code, 4, none, 1, (594, 592, 593, 58), 7, 160),
  (⟨"PaperTown$Bid", "<init>", "(II)V"⟩, prog_2_method_1_code, 3, none, 2, (602, 601, 0, 64), 1, 20),
  (⟨"PaperTown", "close", "(I)I"⟩, prog_1_method_12_code, 3, (some .int), 1, (618, 616, 617, 48), 5, 112),
  (⟨"java/util/ArrayList", "isEmpty", "()Z"⟩, prog_18_method_9_code, 1, (some .boolean), 1, (622, 620, 621, 54), 0, 0),
  (⟨"PaperTown$Office", "sell", "(LPaperTown$Lot;)I"⟩, prog_4_method_3_code, 4, (some .int), 1, (626, 624, 625, 50), 4, 89),
  (⟨"PaperTown$Office", "bestBid", "(LPaperTown$Lot;)LPaperTown$Bid;"⟩, prog_4_method_4_code, 6, (some (.object "PaperTown$Bid")), 1, (630, 629, 17, 50), 3, 64),
  (⟨"java/util/ArrayList", "clear", "()V"⟩, prog_18_method_40_code, 4, none, 1, (638, 636, 637, 54), 0, 0),
  (⟨"PaperTown$People", "pay", "(II)Z"⟩, prog_5_method_6_code, 3, (some .boolean), 1, (642, 640, 641, 56), 2, 43)]
def zmts4 : List zMt := [(⟨"PaperTown$Lot", "owe", "(II)V"⟩, prog_3_method_8_code, 3, none, 1, (648, 646, 647, 58), 0, 0),
  (⟨"PaperTown$Office", "changeTitle", "(LPaperTown$Lot;I)V"⟩, prog_4_method_2_code, 3, none, 1, (652, 650, 651, 50), 3, 63),
  (⟨"PaperTown$Lot", "forgetDebts", "()V"⟩, prog_3_method_11_code, 1, none, 1, (656, 654, 655, 58), 0, 0),
  (⟨"PaperTown$Lot", "keepTitle", "()V"⟩, prog_3_method_5_code, 1, none, 1, (660, 658, 659, 58), 2, 43),
  (⟨"PaperTown$Title", "<init>", "(IILPaperTown$Title;)V"⟩, prog_8_method_1_code, 4, none, 2, (665, 664, 0, 65), 1, 20),
  (⟨"PaperTown$Lot", "passTo", "(II)V"⟩, prog_3_method_6_code, 3, none, 1, (683, 681, 682, 58), 0, 0),
  (⟨"PaperTown", "pass", "(II)I"⟩, prog_1_method_13_code, 4, (some .int), 1, (687, 685, 686, 48), 4, 85),
  (⟨"PaperTown", "give", "(III)I"⟩, prog_1_method_14_code, 5, (some .int), 1, (692, 690, 691, 48), 4, 85),
  (⟨"PaperTown", "rate", "(I)I"⟩, prog_1_method_15_code, 3, (some .int), 1, (696, 694, 695, 48), 0, 0),
  (⟨"PaperTown", "days", "(I)I"⟩, prog_1_method_16_code, 3, (some .int), 1, (700, 698, 699, 48), 8, 179),
  (⟨"PaperTown$Office", "endDay", "()V"⟩, prog_4_method_5_code, 1, none, 1, (704, 702, 703, 50), 7, 159),
  (⟨"PaperTown$Office", "collectParts", "()V"⟩, prog_4_method_6_code, 3, none, 1, (708, 707, 18, 50), 5, 107),
  (⟨"PaperTown$Office", "collectPart", "(LPaperTown$Lot;)V"⟩, prog_4_method_7_code, 3, none, 1, (713, 712, 19, 50), 4, 85),
  (⟨"PaperTown$Lot", "nextPart", "()I"⟩, prog_3_method_9_code, 1, (some .int), 1, (717, 715, 716, 58), 0, 0),
  (⟨"PaperTown$Lot", "tickOffPart", "()V"⟩, prog_3_method_10_code, 1, none, 1, (721, 719, 720, 58), 1, 20),
  (⟨"PaperTown$Office", "collectTaxes", "()V"⟩, prog_4_method_8_code, 3, none, 1, (726, 725, 20, 50), 6, 133),
  (⟨"PaperTown$Office", "collectTax", "(LPaperTown$Lot;)V"⟩, prog_4_method_9_code, 3, none, 1, (730, 729, 21, 50), 5, 111),
  (⟨"PaperTown$Office", "settleComers", "()V"⟩, prog_4_method_10_code, 3, none, 1, (735, 734, 22, 50), 6, 137),
  (⟨"PaperTown$Plat", "homeOf", "(I)I"⟩, prog_6_method_20_code, 4, (some .int), 1, (739, 737, 738, 51), 3, 64),
  (⟨"PaperTown$Plat", "bestOf", "(I)LPaperTown$Lot;"⟩, prog_6_method_21_code, 7, (some (.object "PaperTown$Lot")), 1, (743, 741, 742, 51), 5, 111)]
def zmts5 : List zMt := [(⟨"PaperTown$Office", "judgeConditions", "()V"⟩, prog_4_method_11_code, 3, none, 1, (748, 747, 23, 50), 4, 85),
  (⟨"PaperTown", "title", "(II)I"⟩, prog_1_method_17_code, 4, (some .int), 1, (752, 750, 751, 48), 4, 85),
  (⟨"PaperTown$Lot", "ownerOn", "(I)I"⟩, prog_3_method_7_code, 3, (some .int), 1, (756, 754, 755, 58), 0, 0),
  (⟨"PaperTown", "told", "(II)I"⟩, prog_1_method_18_code, 3, (some .int), 1, (760, 758, 759, 48), 4, 88),
  (⟨"PaperTown$Plat", "ownedBy", "(I)I"⟩, prog_6_method_18_code, 4, (some .int), 1, (764, 762, 763, 51), 3, 64),
  (⟨"PaperTown$Plat", "owedBy", "(I)I"⟩, prog_6_method_19_code, 5, (some .int), 1, (769, 767, 768, 51), 3, 64),
  (⟨"PaperTown", "count", "(I)I"⟩, prog_1_method_19_code, 2, (some .int), 1, (773, 771, 772, 48), 4, 87),
  (⟨"PaperTown$Plat", "livedOn", "()I"⟩, prog_6_method_17_code, 3, (some .int), 1, (777, 775, 776, 51), 3, 64),
  (⟨"PaperTown$Plat", "areaOfAll", "()I"⟩, prog_6_method_16_code, 3, (some .int), 1, (781, 779, 780, 51), 3, 64),
  (⟨"PaperTown", "bond", "(II)I"⟩, prog_1_method_20_code, 5, (some .int), 1, (785, 783, 784, 48), 4, 90),
  (⟨"PaperTown$Office", "votesFor", "(II)I"⟩, prog_4_method_12_code, 7, (some .int), 1, (789, 787, 788, 50), 3, 64),
  (⟨"PaperTownModel", "<init>", "()V"⟩, prog_10_method_1_code, 2, none, 2, (794, 793, 0, 57), 1, 20),
  (⟨"PaperTownModel", "feed", "(IJ)I"⟩, prog_10_method_4_code, 5, (some .int), 1, (923, 921, 922, 57), 1, 25),
  (⟨"PaperTownModel", "in", "(JJJ)Z"⟩, prog_10_method_3_code, 6, (some .boolean), 0, (927, 926, 0, 57), 0, 0),
  (⟨"PaperTownModel", "draw", "()I"⟩, prog_10_method_15_code, 3, (some .int), 1, (932, 930, 931, 57), 4, 98),
  (⟨"PaperTownModel", "readAll", "()I"⟩, prog_10_method_14_code, 2, (some .int), 1, (936, 935, 24, 57), 3, 77),
  (⟨"PaperTownModel", "blanks", "()V"⟩, prog_10_method_6_code, 1, none, 1, (940, 939, 25, 57), 0, 0),
  (⟨"PaperTownModel", "readOrder", "()I"⟩, prog_10_method_13_code, 7, (some .int), 1, (944, 943, 26, 57), 2, 51),
  (⟨"PaperTownModel", "fails", "(II)I"⟩, prog_10_method_5_code, 3, (some .int), 1, (948, 947, 27, 57), 0, 0),
  (⟨"PaperTownModel", "readNumbers", "(II)I"⟩, prog_10_method_9_code, 6, (some .int), 1, (952, 951, 28, 57), 1, 25)]
def zmts6 : List zMt := [(⟨"PaperTownModel", "leastOf", "(II)I"⟩, prog_10_method_7_code, 2, (some .int), 0, (957, 956, 0, 57), 0, 0),
  (⟨"PaperTownModel", "mostOf", "(II)I"⟩, prog_10_method_8_code, 2, (some .int), 0, (960, 959, 0, 57), 0, 0),
  (⟨"PaperTownModel", "drawStreet", "()Z"⟩, prog_10_method_12_code, 5, (some .boolean), 1, (964, 963, 29, 57), 0, 0),
  (⟨"PaperTownModel", "drawBlock", "(I)Z"⟩, prog_10_method_11_code, 4, (some .boolean), 1, (968, 967, 30, 57), 1, 28),
  (⟨"PaperTownModel", "drawLot", "(IIIII)Z"⟩, prog_10_method_10_code, 9, (some .boolean), 1, (972, 971, 31, 57), 0, 0),
  (⟨"PaperTownModel", "place", "()I"⟩, prog_10_method_16_code, 1, (some .int), 1, (976, 974, 975, 57), 0, 0),
  (⟨"PaperTownModel", "cell", "(II)I"⟩, prog_10_method_18_code, 4, (some .int), 1, (980, 978, 979, 57), 2, 46),
  (⟨"PaperTownModel", "isCell", "(II)Z"⟩, prog_10_method_17_code, 2, (some .boolean), 0, (983, 982, 0, 57), 1, 25),
  (⟨"PaperTownModel", "lot", "(II)I"⟩, prog_10_method_27_code, 3, (some .int), 1, (989, 987, 988, 57), 4, 100),
  (⟨"PaperTownModel", "isLot", "(I)Z"⟩, prog_10_method_19_code, 2, (some .boolean), 1, (993, 992, 32, 57), 1, 25),
  (⟨"PaperTownModel", "worth", "(I)I"⟩, prog_10_method_25_code, 11, (some .int), 1, (997, 996, 33, 57), 3, 70),
  (⟨"PaperTownModel", "firstCell", "(I)I"⟩, prog_10_method_22_code, 3, (some .int), 1, (1001, 1000, 34, 57), 0, 0),
  (⟨"PaperTownModel", "size", "(I)I"⟩, prog_10_method_24_code, 1, (some .int), 0, (1004, 1003, 0, 57), 0, 0),
  (⟨"PaperTownModel", "beside", "(II)I"⟩, prog_10_method_21_code, 5, (some .int), 1, (1008, 1007, 35, 57), 2, 46),
  (⟨"PaperTownModel", "residentOf", "(I)I"⟩, prog_10_method_23_code, 4, (some .int), 1, (1012, 1011, 36, 57), 0, 0),
  (⟨"PaperTownModel", "owedOn", "(I)I"⟩, prog_10_method_26_code, 2, (some .int), 1, (1016, 1015, 37, 57), 0, 0),
  (⟨"PaperTownModel", "vacate", "(I)I"⟩, prog_10_method_28_code, 8, (some .int), 1, (1020, 1018, 1019, 57), 3, 70),
  (⟨"PaperTownModel", "halt", "(II)I"⟩, prog_10_method_29_code, 4, (some .int), 1, (1024, 1022, 1023, 57), 2, 46),
  (⟨"PaperTownModel", "person", "(I)I"⟩, prog_10_method_30_code, 2, (some .int), 1, (1028, 1026, 1027, 57), 1, 25),
  (⟨"PaperTownModel", "money", "(II)I"⟩, prog_10_method_31_code, 3, (some .int), 1, (1033, 1031, 1032, 57), 2, 46)]
def zmts7 : List zMt := [(⟨"PaperTownModel", "isPerson", "(I)Z"⟩, prog_10_method_20_code, 2, (some .boolean), 1, (1037, 1036, 38, 57), 1, 25),
  (⟨"PaperTownModel", "bid", "(III)I"⟩, prog_10_method_34_code, 6, (some .int), 1, (1042, 1040, 1041, 57), 2, 46),
  (⟨"PaperTownModel", "close", "(I)I"⟩, prog_10_method_35_code, 6, (some .int), 1, (1046, 1044, 1045, 57), 2, 46),
  (⟨"PaperTownModel", "become", "(II)V"⟩, prog_10_method_32_code, 4, none, 1, (1050, 1049, 39, 57), 1, 23),
  (⟨"PaperTownModel", "pass", "(II)I"⟩, prog_10_method_36_code, 3, (some .int), 1, (1054, 1052, 1053, 57), 2, 46),
  (⟨"PaperTownModel", "give", "(III)I"⟩, prog_10_method_37_code, 4, (some .int), 1, (1058, 1056, 1057, 57), 2, 46),
  (⟨"PaperTownModel", "rate", "(I)I"⟩, prog_10_method_38_code, 3, (some .int), 1, (1063, 1061, 1062, 57), 1, 25),
  (⟨"PaperTownModel", "days", "(I)I"⟩, prog_10_method_43_code, 3, (some .int), 1, (1068, 1066, 1067, 57), 6, 144),
  (⟨"PaperTownModel", "oneDay", "()V"⟩, prog_10_method_42_code, 2, none, 1, (1073, 1072, 40, 57), 5, 123),
  (⟨"PaperTownModel", "payParts", "()V"⟩, prog_10_method_39_code, 3, none, 1, (1077, 1076, 41, 57), 3, 67),
  (⟨"PaperTownModel", "goBack", "(I)V"⟩, prog_10_method_33_code, 2, none, 1, (1081, 1080, 42, 57), 2, 46),
  (⟨"PaperTownModel", "payTaxes", "()V"⟩, prog_10_method_40_code, 4, none, 1, (1085, 1084, 43, 57), 4, 100),
  (⟨"PaperTownModel", "come", "()V"⟩, prog_10_method_41_code, 4, none, 1, (1089, 1088, 44, 57), 4, 100),
  (⟨"PaperTownModel", "title", "(II)I"⟩, prog_10_method_44_code, 5, (some .int), 1, (1093, 1091, 1092, 57), 2, 46),
  (⟨"PaperTownModel", "told", "(II)I"⟩, prog_10_method_46_code, 5, (some .int), 1, (1097, 1095, 1096, 57), 2, 46),
  (⟨"PaperTownModel", "owns", "(I)I"⟩, prog_10_method_45_code, 4, (some .int), 1, (1101, 1100, 45, 57), 0, 0),
  (⟨"PaperTownModel", "count", "(I)I"⟩, prog_10_method_48_code, 4, (some .int), 1, (1105, 1103, 1104, 57), 1, 23),
  (⟨"PaperTownModel", "living", "()I"⟩, prog_10_method_47_code, 3, (some .int), 1, (1109, 1108, 46, 57), 0, 0),
  (⟨"PaperTownModel", "bond", "(II)I"⟩, prog_10_method_49_code, 6, (some .int), 1, (1113, 1111, 1112, 57), 1, 25),
  (⟨"PaperTownLaw", "law", "([I)Z"⟩, code, 4, (some .boolean), 0, (0, 0, 0, 47), 12, 282)]
def zmts : List zMt := zmts0 ++ (zmts1 ++ (zmts2 ++ (zmts3 ++ (zmts4 ++ (zmts5 ++ (zmts6 ++ (zmts7)))))))
def zmt (m : Nat) : zMt := zmts.getD m (⟨"", "", ""⟩, ByteArray.empty, 0, none, 0, (0, 0, 0, 0), 0, 0)
def zY (m : Nat) : MethodName := (zmt m).1
def zB (m : Nat) : ByteArray := (zmt m).2.1
def zL (m : Nat) : Nat := (zmt m).2.2.1
def zRt (m : Nat) : Option FieldType := (zmt m).2.2.2.1
def zKi (m : Nat) : Nat := (zmt m).2.2.2.2.1
def zPo (m : Nat) : Nat × Nat × Nat × Nat := (zmt m).2.2.2.2.2.1
def zFr (m : Nat) : Nat := (zmt m).2.2.2.2.2.2.1
def zLo (m : Nat) : Nat := (zmt m).2.2.2.2.2.2.2
/-- the words of a method that is called -/
def zmok (m : Nat) : Bool :=
  decide (lw_tbl[(zPo m).1]? = some (.code (zY m) (zB m) (zL m) (zRt m))) && decide (lw_tbl[(zPo m).2.2.2]? = some (.initialized (zY m).cls)) && plainFor (zY m)
  && decide ((zY m).cls ≠ "java/lang/invoke/MethodHandle" ∧ (zY m).cls ≠ "java/lang/invoke/VarHandle")
  && (match zKi m with
    | 0 => decide (lw_tbl[(zPo m).2.1]? = some (.static (zY m)))
    | 1 => decide (lw_tbl[(zPo m).2.1]? = some (.instanceMethod (zY m))) && decide (lw_tbl[(zPo m).2.2.1]? = some (.selects (zY m).cls (zY m) (zY m)))
    | _ => decide (lw_tbl[(zPo m).2.1]? = some (.instanceMethod (zY m))) && decide ((zY m).name = "<init>") && decide (zRt m = none))
end
section
def zco0 : List zI := [(0, .aload_n 0, 1, 0, 0, 0, 0), (1, .invokespecial 3, 3, 1, 0, 71, 0), (4, .aload_n 0, 1, 0, 0, 0, 0), (5, .new 9, 3, 6, 0, 74, 0), (8, .dup, 1, 0, 0, 0, 0), (9, .invokespecial 11, 3, 2, 0, 76, 1), (12, .putfield 12, 3, 8, 0, 219, 0), (15, .aload_n 0, 1, 0, 0, 0, 0), (16, .new 16, 3, 3, 0, 103, 0), (19, .dup, 1, 0, 0, 0, 0), (20, .invokespecial 18, 3, 3, 0, 105, 1), (23, .putfield 19, 3, 8, 1, 220, 0), (26, .return_, 1, 0, 0, 0, 0)]
def zco1 : List zI := []
def zco2 : List zI := [(0, .aload_n 0, 1, 0, 0, 0, 0), (1, .invokespecial 3, 3, 1, 0, 79, 0), (4, .aload_n 0, 1, 0, 0, 0, 0), (5, .sipush 200, 3, 0, 0, 0, 0), (8, .newarray .byte, 2, 101, 0, 0, 0), (10, .putfield 9, 3, 6, 0, 80, 0), (13, .aload_n 0, 1, 0, 0, 0, 0), (14, .iconst 5, 1, 0, 0, 0, 0), (15, .newarray .int, 2, 100, 0, 0, 0), (17, .putfield 15, 3, 6, 1, 81, 0), (20, .aload_n 0, 1, 0, 0, 0, 0), (21, .iconst (-1), 1, 0, 0, 0, 0), (22, .putfield 19, 3, 6, 3, 84, 0), (25, .return_, 1, 0, 0, 0, 0)]
def zco3 : List zI := [(0, .aload_n 0, 1, 0, 0, 0, 0), (1, .invokespecial 3, 3, 1, 0, 108, 0), (4, .aload_n 0, 1, 0, 0, 0, 0), (5, .new 9, 3, 5, 0, 109, 0), (8, .dup, 1, 0, 0, 0, 0), (9, .invokespecial 11, 3, 4, 0, 111, 0), (12, .putfield 12, 3, 3, 0, 182, 0), (15, .aload_n 0, 1, 0, 0, 0, 0), (16, .new 18, 3, 4, 0, 167, 0), (19, .dup, 1, 0, 0, 0, 0), (20, .invokespecial 20, 3, 9, 0, 169, 1), (23, .putfield 21, 3, 3, 1, 184, 0), (26, .return_, 1, 0, 0, 0, 0)]
def zco4 : List zI := [(0, .aload_n 0, 1, 0, 0, 0, 0), (1, .invokespecial 3, 3, 1, 0, 114, 0), (4, .aload_n 0, 1, 0, 0, 0, 0), (5, .sipush 320, 3, 0, 0, 0, 0), (8, .newarray .int, 2, 100, 0, 0, 0), (10, .putfield 9, 3, 5, 0, 145, 0), (13, .aload_n 0, 1, 0, 0, 0, 0), (14, .bipush 12, 2, 0, 0, 0, 0), (16, .newarray .boolean, 2, 102, 0, 0, 0), (18, .putfield 15, 3, 5, 1, 146, 0), (21, .aload_n 0, 1, 0, 0, 0, 0), (22, .new 19, 3, 0, 0, 115, 0), (25, .dup, 1, 0, 0, 0, 0), (26, .invokespecial 21, 3, 5, 0, 117, 0), (29, .putfield 22, 3, 5, 2, 147, 0), (32, .aload_n 0, 1, 0, 0, 0, 0), (33, .getfield 9, 3, 5, 0, 145, 0), (36, .iconst (-1), 1, 0, 0, 0, 0), (37, .invokestatic 26, 3, 8, 2, 142, 0), (40, .return_, 1, 0, 0, 0, 0)]
def zco5 : List zI := [(0, .aload_n 0, 1, 0, 0, 0, 0), (1, .invokespecial 1, 3, 6, 0, 120, 0), (4, .aload_n 0, 1, 0, 0, 0, 0), (5, .getstatic 39, 3, 7, 0, 127, 0), (8, .putfield 9, 3, 0, 1, 129, 0), (11, .return_, 1, 0, 0, 0, 0)]
def zco6 : List zI := [(0, .aload_n 0, 1, 0, 0, 0, 0), (1, .invokespecial 1, 3, 7, 0, 123, 0), (4, .aload_n 0, 1, 0, 0, 0, 0), (5, .iconst 0, 1, 0, 0, 0, 0), (6, .putfield 7, 3, 0, 0, 131, 0), (9, .return_, 1, 0, 0, 0, 0)]
def zco7 : List zI := [(0, .aload_n 0, 1, 0, 0, 0, 0), (1, .invokespecial 1, 3, 1, 0, 126, 0), (4, .return_, 1, 0, 0, 0, 0)]
def zco8 : List zI := [(0, .iconst 0, 1, 0, 0, 0, 0), (1, .istore_n 2, 1, 0, 0, 0, 0), (2, .aload_n 0, 1, 0, 0, 0, 0), (3, .arraylength, 1, 0, 0, 0, 0), (4, .istore_n 3, 1, 0, 0, 0, 0), (5, .iload_n 2, 1, 0, 0, 0, 0), (6, .iload_n 3, 1, 0, 0, 0, 0), (7, .if_icmp .ge 13, 3, 20, 0, 0, 0), (10, .aload_n 0, 1, 0, 0, 0, 0), (11, .iload_n 2, 1, 0, 0, 0, 0), (12, .iload_n 1, 1, 0, 0, 0, 0), (13, .iastore, 1, 0, 0, 0, 0), (14, .iinc 2 1, 3, 0, 0, 0, 0), (17, .goto (-12), 3, 5, 0, 0, 0), (20, .return_, 1, 0, 0, 0, 0)]
def zco9 : List zI := [(0, .aload_n 0, 1, 0, 0, 0, 0), (1, .invokespecial 3, 3, 1, 0, 172, 0), (4, .aload_n 0, 1, 0, 0, 0, 0), (5, .bipush 20, 2, 0, 0, 0, 0), (7, .newarray .int, 2, 100, 0, 0, 0), (9, .putfield 9, 3, 4, 0, 173, 0), (12, .return_, 1, 0, 0, 0, 0)]
def zco10 : List zI := [(0, .iload_n 1, 1, 0, 0, 0, 0), (1, .iconst 1, 1, 0, 0, 0, 0), (2, .if_icmp .lt 9, 3, 11, 0, 0, 0), (5, .iload_n 1, 1, 0, 0, 0, 0), (6, .bipush 8, 2, 0, 0, 0, 0), (8, .if_icmp .le 7, 3, 15, 0, 0, 0), (11, .sipush (-1002), 3, 0, 0, 0, 0), (14, .ireturn, 1, 0, 0, 0, 0), (15, .aload_n 0, 1, 0, 0, 0, 0), (16, .getfield 12, 3, 8, 0, 219, 0), (19, .iload_n 1, 1, 0, 0, 0, 0), (20, .lload_n 2, 1, 0, 0, 0, 0), (21, .invokevirtual 23, 3, 11, 2, 230, 0), (24, .ifCond .eq 13, 3, 37, 0, 0, 0), (27, .aload_n 0, 1, 0, 0, 0, 0), (28, .getfield 12, 3, 8, 0, 219, 0), (31, .getfield 27, 3, 6, 2, 83, 0), (34, .goto 6, 3, 40, 0, 0, 0), (37, .sipush (-1004), 3, 0, 0, 0, 0), (40, .ireturn, 1, 0, 0, 0, 0)]
def zco11_0 : List zI := [(0, .aload_n 0, 1, 0, 0, 0, 0), (1, .getfield 23, 3, 6, 2, 82, 0), (4, .iload_n 1, 1, 0, 0, 0, 0), (5, .iadd, 1, 0, 0, 0, 0), (6, .aload_n 0, 1, 0, 0, 0, 0), (7, .getfield 9, 3, 6, 0, 80, 0), (10, .arraylength, 1, 0, 0, 0, 0), (11, .if_icmp .le 5, 3, 16, 0, 0, 0), (14, .iconst 0, 1, 0, 0, 0, 0), (15, .ireturn, 1, 0, 0, 0, 0), (16, .iload_n 1, 1, 0, 0, 0, 0), (17, .iconst 1, 1, 0, 0, 0, 0), (18, .isub, 1, 0, 0, 0, 0), (19, .istore 4, 2, 0, 0, 0, 0), (21, .iload 4, 2, 0, 0, 0, 0), (23, .ifCond .lt 49, 3, 72, 0, 0, 0), (26, .aload_n 0, 1, 0, 0, 0, 0), (27, .getfield 23, 3, 6, 2, 82, 0), (30, .aload_n 0, 1, 0, 0, 0, 0), (31, .getfield 9, 3, 6, 0, 80, 0), (34, .arraylength, 1, 0, 0, 0, 0), (35, .if_icmp .ge 37, 3, 72, 0, 0, 0), (38, .aload_n 0, 1, 0, 0, 0, 0), (39, .getfield 9, 3, 6, 0, 80, 0), (42, .aload_n 0, 1, 0, 0, 0, 0), (43, .getfield 23, 3, 6, 2, 82, 0), (46, .lload_n 2, 1, 0, 0, 0, 0), (47, .bipush 8, 2, 0, 0, 0, 0), (49, .iload 4, 2, 0, 0, 0, 0), (51, .imul, 1, 0, 0, 0, 0), (52, .lshr, 1, 0, 0, 0, 0), (53, .l2i, 1, 0, 0, 0, 0), (54, .i2b, 1, 0, 0, 0, 0), (55, .bastore, 1, 0, 0, 0, 0), (56, .aload_n 0, 1, 0, 0, 0, 0), (57, .dup, 1, 0, 0, 0, 0), (58, .getfield 23, 3, 6, 2, 82, 0), (61, .iconst 1, 1, 0, 0, 0, 0), (62, .iadd, 1, 0, 0, 0, 0), (63, .putfield 23, 3, 6, 2, 82, 0)]
def zco11_1 : List zI := [(66, .iinc 4 (-1), 3, 0, 0, 0, 0), (69, .goto (-48), 3, 21, 0, 0, 0), (72, .iconst 1, 1, 0, 0, 0, 0), (73, .ireturn, 1, 0, 0, 0, 0)]
def zco11 : List zI := zco11_0 ++ (zco11_1)
def zco12 : List zI := [(0, .aload_n 0, 1, 0, 0, 0, 0), (1, .getfield 12, 3, 8, 0, 219, 0), (4, .aload_n 0, 1, 0, 0, 0, 0), (5, .getfield 19, 3, 8, 1, 220, 0), (8, .getfield 31, 3, 3, 0, 183, 0), (11, .invokevirtual 35, 3, 13, 1, 238, 0), (14, .istore_n 1, 1, 0, 0, 0, 0), (15, .iload_n 1, 1, 0, 0, 0, 0), (16, .ifCond .ne 19, 3, 35, 0, 0, 0), (19, .aload_n 0, 1, 0, 0, 0, 0), (20, .getfield 19, 3, 8, 1, 220, 0), (23, .getfield 31, 3, 3, 0, 183, 0), (26, .getfield 39, 3, 5, 2, 149, 0), (29, .invokevirtual 45, 3, 14, 0, 484, 0), (32, .goto 7, 3, 39, 0, 0, 0), (35, .bipush (-10), 2, 0, 0, 0, 0), (37, .iload_n 1, 1, 0, 0, 0, 0), (38, .isub, 1, 0, 0, 0, 0), (39, .ireturn, 1, 0, 0, 0, 0)]
def zco13_0 : List zI := [(0, .aload_n 1, 1, 0, 0, 0, 0), (1, .getfield 26, 3, 5, 2, 148, 0), (4, .invokevirtual 32, 3, 14, 0, 242, 0), (7, .istore_n 2, 1, 0, 0, 0, 0), (8, .aload_n 1, 1, 0, 0, 0, 0), (9, .getfield 38, 3, 5, 3, 151, 0), (12, .istore_n 3, 1, 0, 0, 0, 0), (13, .aload_n 0, 1, 0, 0, 0, 0), (14, .iconst 0, 1, 0, 0, 0, 0), (15, .putfield 41, 3, 6, 5, 87, 0), (18, .aload_n 0, 1, 0, 0, 0, 0), (19, .iconst 0, 1, 0, 0, 0, 0), (20, .putfield 44, 3, 6, 4, 86, 0), (23, .aload_n 0, 1, 0, 0, 0, 0), (24, .iconst (-1), 1, 0, 0, 0, 0), (25, .putfield 19, 3, 6, 3, 84, 0), (28, .iconst 0, 1, 0, 0, 0, 0), (29, .istore 4, 2, 0, 0, 0, 0), (31, .iload 4, 2, 0, 0, 0, 0), (33, .sipush 200, 3, 0, 0, 0, 0), (36, .if_icmp .ge 21, 3, 57, 0, 0, 0), (39, .aload_n 0, 1, 0, 0, 0, 0), (40, .invokevirtual 47, 3, 15, 0, 246, 0), (43, .ifCond .eq 14, 3, 57, 0, 0, 0), (46, .aload_n 0, 1, 0, 0, 0, 0), (47, .aload_n 1, 1, 0, 0, 0, 0), (48, .invokevirtual 51, 3, 18, 1, 258, 0), (51, .iinc 4 1, 3, 0, 0, 0, 0), (54, .goto (-23), 3, 31, 0, 0, 0), (57, .aload_n 0, 1, 0, 0, 0, 0), (58, .getfield 44, 3, 6, 4, 86, 0), (61, .ifCond .eq 9, 3, 70, 0, 0, 0), (64, .aload_n 1, 1, 0, 0, 0, 0), (65, .iload_n 2, 1, 0, 0, 0, 0), (66, .iload_n 3, 1, 0, 0, 0, 0), (67, .invokevirtual 55, 3, 42, 2, 465, 0), (70, .aload_n 0, 1, 0, 0, 0, 0), (71, .iconst 0, 1, 0, 0, 0, 0), (72, .putfield 23, 3, 6, 2, 82, 0), (75, .aload_n 0, 1, 0, 0, 0, 0)]
def zco13_1 : List zI := [(76, .getfield 44, 3, 6, 4, 86, 0), (79, .ireturn, 1, 0, 0, 0, 0)]
def zco13 : List zI := zco13_0 ++ (zco13_1)
def zco14 : List zI := [(0, .aload_n 0, 1, 0, 0, 0, 0), (1, .getfield 48, 3, 0, 2, 130, 0), (4, .ireturn, 1, 0, 0, 0, 0)]
def zco15 : List zI := [(0, .aload_n 0, 1, 0, 0, 0, 0), (1, .getfield 44, 3, 6, 4, 86, 0), (4, .ifCond .eq 5, 3, 9, 0, 0, 0), (7, .iconst 0, 1, 0, 0, 0, 0), (8, .ireturn, 1, 0, 0, 0, 0), (9, .aload_n 0, 1, 0, 0, 0, 0), (10, .invokevirtual 59, 3, 16, 0, 250, 0), (13, .aload_n 0, 1, 0, 0, 0, 0), (14, .getfield 41, 3, 6, 5, 87, 0), (17, .aload_n 0, 1, 0, 0, 0, 0), (18, .getfield 23, 3, 6, 2, 82, 0), (21, .if_icmp .ge 7, 3, 28, 0, 0, 0), (24, .iconst 1, 1, 0, 0, 0, 0), (25, .goto 4, 3, 29, 0, 0, 0), (28, .iconst 0, 1, 0, 0, 0, 0), (29, .ireturn, 1, 0, 0, 0, 0)]
def zco16 : List zI := [(0, .aload_n 0, 1, 0, 0, 0, 0), (1, .getfield 41, 3, 6, 5, 87, 0), (4, .aload_n 0, 1, 0, 0, 0, 0), (5, .getfield 23, 3, 6, 2, 82, 0), (8, .if_icmp .ge 29, 3, 37, 0, 0, 0), (11, .aload_n 0, 1, 0, 0, 0, 0), (12, .aload_n 0, 1, 0, 0, 0, 0), (13, .getfield 41, 3, 6, 5, 87, 0), (16, .invokevirtual 62, 3, 17, 1, 254, 0), (19, .bipush 32, 2, 0, 0, 0, 0), (21, .if_icmp .ne 16, 3, 37, 0, 0, 0), (24, .aload_n 0, 1, 0, 0, 0, 0), (25, .dup, 1, 0, 0, 0, 0), (26, .getfield 41, 3, 6, 5, 87, 0), (29, .iconst 1, 1, 0, 0, 0, 0), (30, .iadd, 1, 0, 0, 0, 0), (31, .putfield 41, 3, 6, 5, 87, 0), (34, .goto (-34), 3, 0, 0, 0, 0), (37, .return_, 1, 0, 0, 0, 0)]
def zco17 : List zI := [(0, .iload_n 1, 1, 0, 0, 0, 0), (1, .ifCond .lt 33, 3, 34, 0, 0, 0), (4, .iload_n 1, 1, 0, 0, 0, 0), (5, .aload_n 0, 1, 0, 0, 0, 0), (6, .getfield 23, 3, 6, 2, 82, 0), (9, .if_icmp .ge 25, 3, 34, 0, 0, 0), (12, .iload_n 1, 1, 0, 0, 0, 0), (13, .aload_n 0, 1, 0, 0, 0, 0), (14, .getfield 9, 3, 6, 0, 80, 0), (17, .arraylength, 1, 0, 0, 0, 0), (18, .if_icmp .ge 16, 3, 34, 0, 0, 0), (21, .aload_n 0, 1, 0, 0, 0, 0), (22, .getfield 9, 3, 6, 0, 80, 0), (25, .iload_n 1, 1, 0, 0, 0, 0), (26, .baload, 1, 0, 0, 0, 0), (27, .sipush 255, 3, 0, 0, 0, 0), (30, .iand, 1, 0, 0, 0, 0), (31, .goto 4, 3, 35, 0, 0, 0), (34, .iconst (-1), 1, 0, 0, 0, 0), (35, .ireturn, 1, 0, 0, 0, 0)]
def zco18_0 : List zI := [(0, .aload_n 0, 1, 0, 0, 0, 0), (1, .getfield 41, 3, 6, 5, 87, 0), (4, .istore_n 2, 1, 0, 0, 0, 0), (5, .aload_n 0, 1, 0, 0, 0, 0), (6, .dup, 1, 0, 0, 0, 0), (7, .getfield 41, 3, 6, 5, 87, 0), (10, .iconst 1, 1, 0, 0, 0, 0), (11, .iadd, 1, 0, 0, 0, 0), (12, .putfield 41, 3, 6, 5, 87, 0), (15, .aload_n 0, 1, 0, 0, 0, 0), (16, .iload_n 2, 1, 0, 0, 0, 0), (17, .invokevirtual 62, 3, 17, 1, 254, 0), (20, .lookupswitch 111 #[(98, 36), (103, 87), (115, 65)], 36, 0, 0, 0, 0), (56, .aload_n 0, 1, 0, 0, 0, 0), (57, .getstatic 66, 3, 1, 0, 262, 0), (60, .getstatic 69, 3, 2, 0, 264, 0), (63, .invokevirtual 72, 3, 19, 2, 266, 0), (66, .ifCond .eq 71, 3, 137, 0, 0, 0), (69, .aload_n 0, 1, 0, 0, 0, 0), (70, .aload_n 1, 1, 0, 0, 0, 0), (71, .iload_n 2, 1, 0, 0, 0, 0), (72, .aload_n 0, 1, 0, 0, 0, 0), (73, .getfield 15, 3, 6, 1, 81, 0), (76, .iconst 4, 1, 0, 0, 0, 0), (77, .iaload, 1, 0, 0, 0, 0), (78, .iconst 0, 1, 0, 0, 0, 0), (79, .invokevirtual 76, 3, 23, 4, 281, 0), (82, .goto 55, 3, 137, 0, 0, 0), (85, .aload_n 0, 1, 0, 0, 0, 0), (86, .getstatic 80, 3, 3, 0, 449, 0), (89, .getstatic 83, 3, 4, 0, 451, 0), (92, .invokevirtual 72, 3, 19, 2, 266, 0), (95, .ifCond .eq 42, 3, 137, 0, 0, 0), (98, .aload_n 0, 1, 0, 0, 0, 0), (99, .aload_n 1, 1, 0, 0, 0, 0), (100, .iload_n 2, 1, 0, 0, 0, 0), (101, .invokevirtual 86, 3, 40, 2, 453, 0), (104, .goto 33, 3, 137, 0, 0, 0), (107, .aload_n 0, 1, 0, 0, 0, 0), (108, .getstatic 90, 3, 5, 0, 461, 0)]
def zco18_1 : List zI := [(111, .getstatic 93, 3, 6, 0, 463, 0), (114, .invokevirtual 72, 3, 19, 2, 266, 0), (117, .ifCond .eq 20, 3, 137, 0, 0, 0), (120, .aload_n 0, 1, 0, 0, 0, 0), (121, .aload_n 1, 1, 0, 0, 0, 0), (122, .iload_n 2, 1, 0, 0, 0, 0), (123, .iconst 1, 1, 0, 0, 0, 0), (124, .iconst 1, 1, 0, 0, 0, 0), (125, .invokevirtual 76, 3, 23, 4, 281, 0), (128, .goto 9, 3, 137, 0, 0, 0), (131, .aload_n 0, 1, 0, 0, 0, 0), (132, .iconst 1, 1, 0, 0, 0, 0), (133, .iload_n 2, 1, 0, 0, 0, 0), (134, .invokevirtual 96, 3, 20, 2, 270, 0), (137, .aload_n 0, 1, 0, 0, 0, 0), (138, .getfield 44, 3, 6, 4, 86, 0), (141, .ifCond .ne 36, 3, 177, 0, 0, 0), (144, .aload_n 0, 1, 0, 0, 0, 0), (145, .getfield 41, 3, 6, 5, 87, 0), (148, .aload_n 0, 1, 0, 0, 0, 0), (149, .getfield 23, 3, 6, 2, 82, 0), (152, .if_icmp .ge 25, 3, 177, 0, 0, 0), (155, .aload_n 0, 1, 0, 0, 0, 0), (156, .aload_n 0, 1, 0, 0, 0, 0), (157, .getfield 41, 3, 6, 5, 87, 0), (160, .invokevirtual 62, 3, 17, 1, 254, 0), (163, .bipush 32, 2, 0, 0, 0, 0), (165, .if_icmp .eq 12, 3, 177, 0, 0, 0), (168, .aload_n 0, 1, 0, 0, 0, 0), (169, .iconst 1, 1, 0, 0, 0, 0), (170, .aload_n 0, 1, 0, 0, 0, 0), (171, .getfield 41, 3, 6, 5, 87, 0), (174, .invokevirtual 96, 3, 20, 2, 270, 0), (177, .return_, 1, 0, 0, 0, 0)]
def zco18 : List zI := zco18_0 ++ (zco18_1)
def zco19_0 : List zI := [(0, .iconst 0, 1, 0, 0, 0, 0), (1, .istore_n 3, 1, 0, 0, 0, 0), (2, .iload_n 3, 1, 0, 0, 0, 0), (3, .aload_n 1, 1, 0, 0, 0, 0), (4, .arraylength, 1, 0, 0, 0, 0), (5, .if_icmp .ge 81, 3, 86, 0, 0, 0), (8, .iload_n 3, 1, 0, 0, 0, 0), (9, .aload_n 2, 1, 0, 0, 0, 0), (10, .arraylength, 1, 0, 0, 0, 0), (11, .if_icmp .ge 75, 3, 86, 0, 0, 0), (14, .iload_n 3, 1, 0, 0, 0, 0), (15, .aload_n 0, 1, 0, 0, 0, 0), (16, .getfield 15, 3, 6, 1, 81, 0), (19, .arraylength, 1, 0, 0, 0, 0), (20, .if_icmp .ge 66, 3, 86, 0, 0, 0), (23, .iload_n 3, 1, 0, 0, 0, 0), (24, .ifCond .le 27, 3, 51, 0, 0, 0), (27, .aload_n 0, 1, 0, 0, 0, 0), (28, .aload_n 0, 1, 0, 0, 0, 0), (29, .getfield 41, 3, 6, 5, 87, 0), (32, .invokevirtual 62, 3, 17, 1, 254, 0), (35, .bipush 32, 2, 0, 0, 0, 0), (37, .if_icmp .eq 14, 3, 51, 0, 0, 0), (40, .aload_n 0, 1, 0, 0, 0, 0), (41, .iconst 1, 1, 0, 0, 0, 0), (42, .aload_n 0, 1, 0, 0, 0, 0), (43, .getfield 41, 3, 6, 5, 87, 0), (46, .invokevirtual 96, 3, 20, 2, 270, 0), (49, .iconst 0, 1, 0, 0, 0, 0), (50, .ireturn, 1, 0, 0, 0, 0), (51, .aload_n 0, 1, 0, 0, 0, 0), (52, .invokevirtual 59, 3, 16, 0, 250, 0), (55, .aload_n 0, 1, 0, 0, 0, 0), (56, .getfield 15, 3, 6, 1, 81, 0), (59, .iload_n 3, 1, 0, 0, 0, 0), (60, .aload_n 0, 1, 0, 0, 0, 0), (61, .aload_n 1, 1, 0, 0, 0, 0), (62, .iload_n 3, 1, 0, 0, 0, 0), (63, .iaload, 1, 0, 0, 0, 0), (64, .aload_n 2, 1, 0, 0, 0, 0)]
def zco19_1 : List zI := [(65, .iload_n 3, 1, 0, 0, 0, 0), (66, .iaload, 1, 0, 0, 0, 0), (67, .invokevirtual 99, 3, 21, 2, 274, 0), (70, .iastore, 1, 0, 0, 0, 0), (71, .aload_n 0, 1, 0, 0, 0, 0), (72, .getfield 44, 3, 6, 4, 86, 0), (75, .ifCond .eq 5, 3, 80, 0, 0, 0), (78, .iconst 0, 1, 0, 0, 0, 0), (79, .ireturn, 1, 0, 0, 0, 0), (80, .iinc 3 1, 3, 0, 0, 0, 0), (83, .goto (-81), 3, 2, 0, 0, 0), (86, .iconst 1, 1, 0, 0, 0, 0), (87, .ireturn, 1, 0, 0, 0, 0)]
def zco19 : List zI := zco19_0 ++ (zco19_1)
def zco20 : List zI := [(0, .aload_n 0, 1, 0, 0, 0, 0), (1, .iload_n 1, 1, 0, 0, 0, 0), (2, .putfield 44, 3, 6, 4, 86, 0), (5, .aload_n 0, 1, 0, 0, 0, 0), (6, .iload_n 2, 1, 0, 0, 0, 0), (7, .putfield 19, 3, 6, 3, 84, 0), (10, .return_, 1, 0, 0, 0, 0)]
def zco21_0 : List zI := [(0, .aload_n 0, 1, 0, 0, 0, 0), (1, .getfield 41, 3, 6, 5, 87, 0), (4, .istore_n 3, 1, 0, 0, 0, 0), (5, .iconst 0, 1, 0, 0, 0, 0), (6, .istore 4, 2, 0, 0, 0, 0), (8, .aload_n 0, 1, 0, 0, 0, 0), (9, .getfield 41, 3, 6, 5, 87, 0), (12, .aload_n 0, 1, 0, 0, 0, 0), (13, .getfield 23, 3, 6, 2, 82, 0), (16, .if_icmp .ge 49, 3, 65, 0, 0, 0), (19, .aload_n 0, 1, 0, 0, 0, 0), (20, .aload_n 0, 1, 0, 0, 0, 0), (21, .getfield 41, 3, 6, 5, 87, 0), (24, .invokevirtual 62, 3, 17, 1, 254, 0), (27, .invokestatic 103, 3, 22, 1, 278, 0), (30, .ifCond .eq 35, 3, 65, 0, 0, 0), (33, .bipush 10, 2, 0, 0, 0, 0), (35, .iload 4, 2, 0, 0, 0, 0), (37, .imul, 1, 0, 0, 0, 0), (38, .aload_n 0, 1, 0, 0, 0, 0), (39, .aload_n 0, 1, 0, 0, 0, 0), (40, .getfield 41, 3, 6, 5, 87, 0), (43, .invokevirtual 62, 3, 17, 1, 254, 0), (46, .iadd, 1, 0, 0, 0, 0), (47, .bipush 48, 2, 0, 0, 0, 0), (49, .isub, 1, 0, 0, 0, 0), (50, .istore 4, 2, 0, 0, 0, 0), (52, .aload_n 0, 1, 0, 0, 0, 0), (53, .dup, 1, 0, 0, 0, 0), (54, .getfield 41, 3, 6, 5, 87, 0), (57, .iconst 1, 1, 0, 0, 0, 0), (58, .iadd, 1, 0, 0, 0, 0), (59, .putfield 41, 3, 6, 5, 87, 0), (62, .goto (-54), 3, 8, 0, 0, 0), (65, .aload_n 0, 1, 0, 0, 0, 0), (66, .getfield 41, 3, 6, 5, 87, 0), (69, .iload_n 3, 1, 0, 0, 0, 0), (70, .if_icmp .ne 15, 3, 85, 0, 0, 0), (73, .aload_n 0, 1, 0, 0, 0, 0), (74, .iconst 1, 1, 0, 0, 0, 0)]
def zco21_1 : List zI := [(75, .aload_n 0, 1, 0, 0, 0, 0), (76, .getfield 41, 3, 6, 5, 87, 0), (79, .invokevirtual 96, 3, 20, 2, 270, 0), (82, .goto 31, 3, 113, 0, 0, 0), (85, .aload_n 0, 1, 0, 0, 0, 0), (86, .getfield 41, 3, 6, 5, 87, 0), (89, .iload_n 3, 1, 0, 0, 0, 0), (90, .isub, 1, 0, 0, 0, 0), (91, .iconst 2, 1, 0, 0, 0, 0), (92, .if_icmp .gt 15, 3, 107, 0, 0, 0), (95, .iload 4, 2, 0, 0, 0, 0), (97, .iload_n 1, 1, 0, 0, 0, 0), (98, .if_icmp .lt 9, 3, 107, 0, 0, 0), (101, .iload 4, 2, 0, 0, 0, 0), (103, .iload_n 2, 1, 0, 0, 0, 0), (104, .if_icmp .le 9, 3, 113, 0, 0, 0), (107, .aload_n 0, 1, 0, 0, 0, 0), (108, .iconst 2, 1, 0, 0, 0, 0), (109, .iload_n 3, 1, 0, 0, 0, 0), (110, .invokevirtual 96, 3, 20, 2, 270, 0), (113, .iload 4, 2, 0, 0, 0, 0), (115, .ireturn, 1, 0, 0, 0, 0)]
def zco21 : List zI := zco21_0 ++ (zco21_1)
def zco22 : List zI := [(0, .iload_n 0, 1, 0, 0, 0, 0), (1, .bipush 48, 2, 0, 0, 0, 0), (3, .if_icmp .lt 13, 3, 16, 0, 0, 0), (6, .iload_n 0, 1, 0, 0, 0, 0), (7, .bipush 57, 2, 0, 0, 0, 0), (9, .if_icmp .gt 7, 3, 16, 0, 0, 0), (12, .iconst 1, 1, 0, 0, 0, 0), (13, .goto 4, 3, 17, 0, 0, 0), (16, .iconst 0, 1, 0, 0, 0, 0), (17, .ireturn, 1, 0, 0, 0, 0)]
def zco23_0 : List zI := [(0, .aload_n 0, 1, 0, 0, 0, 0), (1, .getfield 15, 3, 6, 1, 81, 0), (4, .iconst 0, 1, 0, 0, 0, 0), (5, .iaload, 1, 0, 0, 0, 0), (6, .istore 5, 2, 0, 0, 0, 0), (8, .aload_n 0, 1, 0, 0, 0, 0), (9, .getfield 15, 3, 6, 1, 81, 0), (12, .iconst 1, 1, 0, 0, 0, 0), (13, .iaload, 1, 0, 0, 0, 0), (14, .istore 6, 2, 0, 0, 0, 0), (16, .aload_n 0, 1, 0, 0, 0, 0), (17, .getfield 15, 3, 6, 1, 81, 0), (20, .iconst 2, 1, 0, 0, 0, 0), (21, .iaload, 1, 0, 0, 0, 0), (22, .istore 7, 2, 0, 0, 0, 0), (24, .aload_n 0, 1, 0, 0, 0, 0), (25, .getfield 15, 3, 6, 1, 81, 0), (28, .iconst 3, 1, 0, 0, 0, 0), (29, .iaload, 1, 0, 0, 0, 0), (30, .istore 8, 2, 0, 0, 0, 0), (32, .aload_n 1, 1, 0, 0, 0, 0), (33, .iload 5, 2, 0, 0, 0, 0), (35, .iload 6, 2, 0, 0, 0, 0), (37, .iload_n 3, 1, 0, 0, 0, 0), (38, .iload 7, 2, 0, 0, 0, 0), (40, .imul, 1, 0, 0, 0, 0), (41, .iload 8, 2, 0, 0, 0, 0), (43, .iconst 0, 1, 0, 0, 0, 0), (44, .invokevirtual 107, 3, 24, 5, 285, 0), (47, .ifCond .ne 12, 3, 59, 0, 0, 0), (50, .aload_n 0, 1, 0, 0, 0, 0), (51, .iconst 3, 1, 0, 0, 0, 0), (52, .iload_n 2, 1, 0, 0, 0, 0), (53, .invokevirtual 96, 3, 20, 2, 270, 0), (56, .goto 61, 3, 117, 0, 0, 0), (59, .aload_n 1, 1, 0, 0, 0, 0), (60, .getfield 26, 3, 5, 2, 148, 0), (63, .invokevirtual 32, 3, 14, 0, 242, 0), (66, .iload_n 3, 1, 0, 0, 0, 0), (67, .iadd, 1, 0, 0, 0, 0)]
def zco23_1 : List zI := [(68, .bipush 40, 2, 0, 0, 0, 0), (70, .if_icmp .le 12, 3, 82, 0, 0, 0), (73, .aload_n 0, 1, 0, 0, 0, 0), (74, .iconst 4, 1, 0, 0, 0, 0), (75, .iload_n 2, 1, 0, 0, 0, 0), (76, .invokevirtual 96, 3, 20, 2, 270, 0), (79, .goto 38, 3, 117, 0, 0, 0), (82, .iconst 0, 1, 0, 0, 0, 0), (83, .istore 9, 2, 0, 0, 0, 0), (85, .iload 9, 2, 0, 0, 0, 0), (87, .iload_n 3, 1, 0, 0, 0, 0), (88, .if_icmp .ge 29, 3, 117, 0, 0, 0), (91, .aload_n 1, 1, 0, 0, 0, 0), (92, .iload 5, 2, 0, 0, 0, 0), (94, .iload 9, 2, 0, 0, 0, 0), (96, .iload 7, 2, 0, 0, 0, 0), (98, .imul, 1, 0, 0, 0, 0), (99, .iadd, 1, 0, 0, 0, 0), (100, .iload 6, 2, 0, 0, 0, 0), (102, .iload 7, 2, 0, 0, 0, 0), (104, .iload 8, 2, 0, 0, 0, 0), (106, .iload 4, 2, 0, 0, 0, 0), (108, .invokevirtual 111, 3, 27, 5, 296, 0), (111, .iinc 9 1, 3, 0, 0, 0, 0), (114, .goto (-29), 3, 85, 0, 0, 0), (117, .return_, 1, 0, 0, 0, 0)]
def zco23 : List zI := zco23_0 ++ (zco23_1)
def zco24_0 : List zI := [(0, .iload_n 1, 1, 0, 0, 0, 0), (1, .ifCond .lt 24, 3, 25, 0, 0, 0), (4, .iload_n 2, 1, 0, 0, 0, 0), (5, .ifCond .lt 20, 3, 25, 0, 0, 0), (8, .iload_n 1, 1, 0, 0, 0, 0), (9, .iload_n 3, 1, 0, 0, 0, 0), (10, .iadd, 1, 0, 0, 0, 0), (11, .bipush 20, 2, 0, 0, 0, 0), (13, .if_icmp .gt 12, 3, 25, 0, 0, 0), (16, .iload_n 2, 1, 0, 0, 0, 0), (17, .iload 4, 2, 0, 0, 0, 0), (19, .iadd, 1, 0, 0, 0, 0), (20, .bipush 16, 2, 0, 0, 0, 0), (22, .if_icmp .le 5, 3, 27, 0, 0, 0), (25, .iconst 0, 1, 0, 0, 0, 0), (26, .ireturn, 1, 0, 0, 0, 0), (27, .iload_n 2, 1, 0, 0, 0, 0), (28, .istore 6, 2, 0, 0, 0, 0), (30, .iload 6, 2, 0, 0, 0, 0), (32, .iload_n 2, 1, 0, 0, 0, 0), (33, .iload 4, 2, 0, 0, 0, 0), (35, .iadd, 1, 0, 0, 0, 0), (36, .if_icmp .ge 56, 3, 92, 0, 0, 0), (39, .iload_n 1, 1, 0, 0, 0, 0), (40, .istore 7, 2, 0, 0, 0, 0), (42, .iload 7, 2, 0, 0, 0, 0), (44, .iload_n 1, 1, 0, 0, 0, 0), (45, .iload_n 3, 1, 0, 0, 0, 0), (46, .iadd, 1, 0, 0, 0, 0), (47, .if_icmp .ge 39, 3, 86, 0, 0, 0), (50, .aload_n 0, 1, 0, 0, 0, 0), (51, .iload 7, 2, 0, 0, 0, 0), (53, .iload 6, 2, 0, 0, 0, 0), (55, .invokevirtual 50, 3, 25, 2, 289, 0), (58, .istore 8, 2, 0, 0, 0, 0), (60, .iload 8, 2, 0, 0, 0, 0), (62, .iconst (-1), 1, 0, 0, 0, 0), (63, .if_icmp .eq 17, 3, 80, 0, 0, 0), (66, .iload 5, 2, 0, 0, 0, 0), (68, .ifCond .eq 10, 3, 78, 0, 0, 0)]
def zco24_1 : List zI := [(71, .iload 8, 2, 0, 0, 0, 0), (73, .bipush 100, 2, 0, 0, 0, 0), (75, .if_icmp .ge 5, 3, 80, 0, 0, 0), (78, .iconst 0, 1, 0, 0, 0, 0), (79, .ireturn, 1, 0, 0, 0, 0), (80, .iinc 7 1, 3, 0, 0, 0, 0), (83, .goto (-41), 3, 42, 0, 0, 0), (86, .iinc 6 1, 3, 0, 0, 0, 0), (89, .goto (-59), 3, 30, 0, 0, 0), (92, .iconst 1, 1, 0, 0, 0, 0), (93, .ireturn, 1, 0, 0, 0, 0)]
def zco24 : List zI := zco24_0 ++ (zco24_1)
def zco25 : List zI := [(0, .iload_n 1, 1, 0, 0, 0, 0), (1, .iload_n 2, 1, 0, 0, 0, 0), (2, .invokestatic 32, 3, 26, 2, 293, 1), (5, .ifCond .eq 17, 3, 22, 0, 0, 0), (8, .aload_n 0, 1, 0, 0, 0, 0), (9, .getfield 9, 3, 5, 0, 145, 0), (12, .iload_n 2, 1, 0, 0, 0, 0), (13, .bipush 20, 2, 0, 0, 0, 0), (15, .imul, 1, 0, 0, 0, 0), (16, .iload_n 1, 1, 0, 0, 0, 0), (17, .iadd, 1, 0, 0, 0, 0), (18, .iaload, 1, 0, 0, 0, 0), (19, .goto 4, 3, 23, 0, 0, 0), (22, .iconst (-1), 1, 0, 0, 0, 0), (23, .ireturn, 1, 0, 0, 0, 0)]
def zco26 : List zI := [(0, .iload_n 0, 1, 0, 0, 0, 0), (1, .ifCond .lt 23, 3, 24, 0, 0, 0), (4, .iload_n 0, 1, 0, 0, 0, 0), (5, .bipush 20, 2, 0, 0, 0, 0), (7, .if_icmp .ge 17, 3, 24, 0, 0, 0), (10, .iload_n 1, 1, 0, 0, 0, 0), (11, .ifCond .lt 13, 3, 24, 0, 0, 0), (14, .iload_n 1, 1, 0, 0, 0, 0), (15, .bipush 16, 2, 0, 0, 0, 0), (17, .if_icmp .ge 7, 3, 24, 0, 0, 0), (20, .iconst 1, 1, 0, 0, 0, 0), (21, .goto 4, 3, 25, 0, 0, 0), (24, .iconst 0, 1, 0, 0, 0, 0), (25, .ireturn, 1, 0, 0, 0, 0)]
def zco27 : List zI := [(0, .aload_n 0, 1, 0, 0, 0, 0), (1, .getfield 22, 3, 5, 2, 147, 0), (4, .invokevirtual 36, 3, 14, 0, 300, 0), (7, .istore 6, 2, 0, 0, 0, 0), (9, .aload_n 0, 1, 0, 0, 0, 0), (10, .getfield 22, 3, 5, 2, 147, 0), (13, .new 44, 3, 2, 0, 301, 0), (16, .dup, 1, 0, 0, 0, 0), (17, .iload_n 1, 1, 0, 0, 0, 0), (18, .iload_n 2, 1, 0, 0, 0, 0), (19, .iload_n 3, 1, 0, 0, 0, 0), (20, .iload 4, 2, 0, 0, 0, 0), (22, .iload 5, 2, 0, 0, 0, 0), (24, .invokespecial 54, 3, 28, 5, 303, 0), (27, .invokevirtual 57, 3, 29, 1, 388, 0), (30, .pop, 1, 0, 0, 0, 0), (31, .aload_n 0, 1, 0, 0, 0, 0), (32, .iload_n 1, 1, 0, 0, 0, 0), (33, .iload_n 2, 1, 0, 0, 0, 0), (34, .iload_n 3, 1, 0, 0, 0, 0), (35, .iload 4, 2, 0, 0, 0, 0), (37, .iload 6, 2, 0, 0, 0, 0), (39, .invokevirtual 61, 3, 39, 5, 445, 0), (42, .return_, 1, 0, 0, 0, 0)]
def zco28 : List zI := [(0, .aload_n 0, 1, 0, 0, 0, 0), (1, .invokespecial 3, 3, 1, 0, 306, 0), (4, .aload_n 0, 1, 0, 0, 0, 0), (5, .new 9, 3, 0, 0, 307, 0), (8, .dup, 1, 0, 0, 0, 0), (9, .invokespecial 11, 3, 5, 0, 308, 0), (12, .putfield 12, 3, 2, 6, 323, 0), (15, .aload_n 0, 1, 0, 0, 0, 0), (16, .iconst (-1), 1, 0, 0, 0, 0), (17, .putfield 18, 3, 2, 7, 326, 0), (20, .aload_n 0, 1, 0, 0, 0, 0), (21, .iconst (-1), 1, 0, 0, 0, 0), (22, .putfield 22, 3, 2, 8, 330, 0), (25, .aload_n 0, 1, 0, 0, 0, 0), (26, .iconst (-1), 1, 0, 0, 0, 0), (27, .putfield 25, 3, 2, 16, 350, 0), (30, .aload_n 0, 1, 0, 0, 0, 0), (31, .iload_n 1, 1, 0, 0, 0, 0), (32, .putfield 28, 3, 2, 0, 309, 0), (35, .aload_n 0, 1, 0, 0, 0, 0), (36, .iload_n 2, 1, 0, 0, 0, 0), (37, .putfield 31, 3, 2, 1, 312, 0), (40, .aload_n 0, 1, 0, 0, 0, 0), (41, .iload_n 3, 1, 0, 0, 0, 0), (42, .putfield 34, 3, 2, 2, 315, 0), (45, .aload_n 0, 1, 0, 0, 0, 0), (46, .iload 4, 2, 0, 0, 0, 0), (48, .putfield 37, 3, 2, 3, 317, 0), (51, .aload_n 0, 1, 0, 0, 0, 0), (52, .iload 5, 2, 0, 0, 0, 0), (54, .putfield 40, 3, 2, 4, 319, 0), (57, .return_, 1, 0, 0, 0, 0)]
def zco29 : List zI := [(0, .aload_n 0, 1, 0, 0, 0, 0), (1, .dup, 1, 0, 0, 0, 0), (2, .getfield 63, 3, 0, 0, 132, 1), (5, .iconst 1, 1, 0, 0, 0, 0), (6, .iadd, 1, 0, 0, 0, 0), (7, .putfield 63, 3, 0, 0, 132, 1), (10, .aload_n 0, 1, 0, 0, 0, 0), (11, .aload_n 1, 1, 0, 0, 0, 0), (12, .aload_n 0, 1, 0, 0, 0, 0), (13, .getfield 9, 3, 0, 1, 129, 0), (16, .aload_n 0, 1, 0, 0, 0, 0), (17, .getfield 48, 3, 0, 2, 130, 0), (20, .invokevirtual 131, 3, 30, 3, 392, 0), (23, .iconst 1, 1, 0, 0, 0, 0), (24, .ireturn, 1, 0, 0, 0, 0)]
def zco30 : List zI := [(0, .iload_n 3, 1, 0, 0, 0, 0), (1, .aload_n 2, 1, 0, 0, 0, 0), (2, .arraylength, 1, 0, 0, 0, 0), (3, .if_icmp .ne 8, 3, 11, 0, 0, 0), (6, .aload_n 0, 1, 0, 0, 0, 0), (7, .invokevirtual 129, 3, 31, 0, 396, 0), (10, .astore_n 2, 1, 0, 0, 0, 0), (11, .aload_n 2, 1, 0, 0, 0, 0), (12, .iload_n 3, 1, 0, 0, 0, 0), (13, .aload_n 1, 1, 0, 0, 0, 0), (14, .aastore, 1, 0, 0, 0, 0), (15, .aload_n 0, 1, 0, 0, 0, 0), (16, .iload_n 3, 1, 0, 0, 0, 0), (17, .iconst 1, 1, 0, 0, 0, 0), (18, .iadd, 1, 0, 0, 0, 0), (19, .putfield 48, 3, 0, 2, 130, 0), (22, .return_, 1, 0, 0, 0, 0)]
def zco31 : List zI := [(0, .aload_n 0, 1, 0, 0, 0, 0), (1, .aload_n 0, 1, 0, 0, 0, 0), (2, .getfield 48, 3, 0, 2, 130, 0), (5, .iconst 1, 1, 0, 0, 0, 0), (6, .iadd, 1, 0, 0, 0, 0), (7, .invokevirtual 69, 3, 32, 1, 400, 0), (10, .areturn, 1, 0, 0, 0, 0)]
def zco32 : List zI := [(0, .aload_n 0, 1, 0, 0, 0, 0), (1, .getfield 9, 3, 0, 1, 129, 0), (4, .arraylength, 1, 0, 0, 0, 0), (5, .istore_n 2, 1, 0, 0, 0, 0), (6, .iload_n 2, 1, 0, 0, 0, 0), (7, .ifCond .gt 13, 3, 20, 0, 0, 0), (10, .aload_n 0, 1, 0, 0, 0, 0), (11, .getfield 9, 3, 0, 1, 129, 0), (14, .getstatic 39, 3, 7, 0, 127, 0), (17, .if_acmp .eq 28, 3, 45, 0, 0, 0), (20, .iload_n 2, 1, 0, 0, 0, 0), (21, .iload_n 1, 1, 0, 0, 0, 0), (22, .iload_n 2, 1, 0, 0, 0, 0), (23, .isub, 1, 0, 0, 0, 0), (24, .iload_n 2, 1, 0, 0, 0, 0), (25, .iconst 1, 1, 0, 0, 0, 0), (26, .ishr, 1, 0, 0, 0, 0), (27, .invokestatic 73, 3, 33, 3, 404, 0), (30, .istore_n 3, 1, 0, 0, 0, 0), (31, .aload_n 0, 1, 0, 0, 0, 0), (32, .aload_n 0, 1, 0, 0, 0, 0), (33, .getfield 9, 3, 0, 1, 129, 0), (36, .iload_n 3, 1, 0, 0, 0, 0), (37, .invokestatic 66, 3, 36, 2, 414, 0), (40, .dup_x1, 1, 0, 0, 0, 0), (41, .putfield 9, 3, 0, 1, 129, 0), (44, .areturn, 1, 0, 0, 0, 0), (45, .aload_n 0, 1, 0, 0, 0, 0), (46, .bipush 10, 2, 0, 0, 0, 0), (48, .iload_n 1, 1, 0, 0, 0, 0), (49, .invokestatic 79, 3, 34, 2, 443, 0), (52, .anewarray 7, 3, 0, 0, 444, 0), (55, .dup_x1, 1, 0, 0, 0, 0), (56, .putfield 9, 3, 0, 1, 129, 0), (59, .areturn, 1, 0, 0, 0, 0)]
def zco33 : List zI := [(0, .iload_n 0, 1, 0, 0, 0, 0), (1, .iload_n 1, 1, 0, 0, 0, 0), (2, .iload_n 2, 1, 0, 0, 0, 0), (3, .invokestatic 194, 3, 34, 2, 407, 0), (6, .iadd, 1, 0, 0, 0, 0), (7, .istore_n 3, 1, 0, 0, 0, 0), (8, .iconst 0, 1, 0, 0, 0, 0), (9, .iload_n 3, 1, 0, 0, 0, 0), (10, .if_icmp .ge 11, 3, 21, 0, 0, 0), (13, .iload_n 3, 1, 0, 0, 0, 0), (14, .ldc 200, 2, 0, 0, 410, 2147483639), (16, .if_icmp .gt 5, 3, 21, 0, 0, 0), (19, .iload_n 3, 1, 0, 0, 0, 0), (20, .ireturn, 1, 0, 0, 0, 0), (21, .iload_n 0, 1, 0, 0, 0, 0), (22, .iload_n 1, 1, 0, 0, 0, 0), (23, .invokestatic 201, 3, 35, 2, 411, 0), (26, .ireturn, 1, 0, 0, 0, 0)]
def zco34 : List zI := [(0, .iload_n 0, 1, 0, 0, 0, 0), (1, .iload_n 1, 1, 0, 0, 0, 0), (2, .if_icmp .lt 7, 3, 9, 0, 0, 0), (5, .iload_n 0, 1, 0, 0, 0, 0), (6, .goto 4, 3, 10, 0, 0, 0), (9, .iload_n 1, 1, 0, 0, 0, 0), (10, .ireturn, 1, 0, 0, 0, 0)]
def zco35 : List zI := []
def zco36 : List zI := []
def zco37 : List zI := []
def zco38 : List zI := [(0, .iload_n 0, 1, 0, 0, 0, 0), (1, .iload_n 1, 1, 0, 0, 0, 0), (2, .if_icmp .gt 7, 3, 9, 0, 0, 0), (5, .iload_n 0, 1, 0, 0, 0, 0), (6, .goto 4, 3, 10, 0, 0, 0), (9, .iload_n 1, 1, 0, 0, 0, 0), (10, .ireturn, 1, 0, 0, 0, 0)]
def zco39_0 : List zI := [(0, .iload_n 2, 1, 0, 0, 0, 0), (1, .istore 6, 2, 0, 0, 0, 0), (3, .iload 6, 2, 0, 0, 0, 0), (5, .iload_n 2, 1, 0, 0, 0, 0), (6, .iload 4, 2, 0, 0, 0, 0), (8, .iadd, 1, 0, 0, 0, 0), (9, .if_icmp .ge 68, 3, 77, 0, 0, 0), (12, .iload_n 1, 1, 0, 0, 0, 0), (13, .istore 7, 2, 0, 0, 0, 0), (15, .iload 7, 2, 0, 0, 0, 0), (17, .iload_n 1, 1, 0, 0, 0, 0), (18, .iload_n 3, 1, 0, 0, 0, 0), (19, .iadd, 1, 0, 0, 0, 0), (20, .if_icmp .ge 51, 3, 71, 0, 0, 0), (23, .iload 7, 2, 0, 0, 0, 0), (25, .iload 6, 2, 0, 0, 0, 0), (27, .invokestatic 32, 3, 26, 2, 293, 1), (30, .ifCond .eq 35, 3, 65, 0, 0, 0), (33, .aload_n 0, 1, 0, 0, 0, 0), (34, .getfield 9, 3, 5, 0, 145, 0), (37, .iload 6, 2, 0, 0, 0, 0), (39, .bipush 20, 2, 0, 0, 0, 0), (41, .imul, 1, 0, 0, 0, 0), (42, .iload 7, 2, 0, 0, 0, 0), (44, .iadd, 1, 0, 0, 0, 0), (45, .iaload, 1, 0, 0, 0, 0), (46, .iconst (-1), 1, 0, 0, 0, 0), (47, .if_icmp .ne 18, 3, 65, 0, 0, 0), (50, .aload_n 0, 1, 0, 0, 0, 0), (51, .getfield 9, 3, 5, 0, 145, 0), (54, .iload 6, 2, 0, 0, 0, 0), (56, .bipush 20, 2, 0, 0, 0, 0), (58, .imul, 1, 0, 0, 0, 0), (59, .iload 7, 2, 0, 0, 0, 0), (61, .iadd, 1, 0, 0, 0, 0), (62, .iload 5, 2, 0, 0, 0, 0), (64, .iastore, 1, 0, 0, 0, 0), (65, .iinc 7 1, 3, 0, 0, 0, 0), (68, .goto (-53), 3, 15, 0, 0, 0), (71, .iinc 6 1, 3, 0, 0, 0, 0)]
def zco39_1 : List zI := [(74, .goto (-71), 3, 3, 0, 0, 0), (77, .return_, 1, 0, 0, 0, 0)]
def zco39 : List zI := zco39_0 ++ (zco39_1)
def zco40_0 : List zI := [(0, .aload_n 0, 1, 0, 0, 0, 0), (1, .getfield 15, 3, 6, 1, 81, 0), (4, .iconst 0, 1, 0, 0, 0, 0), (5, .iaload, 1, 0, 0, 0, 0), (6, .istore_n 3, 1, 0, 0, 0, 0), (7, .aload_n 0, 1, 0, 0, 0, 0), (8, .getfield 15, 3, 6, 1, 81, 0), (11, .iconst 1, 1, 0, 0, 0, 0), (12, .iaload, 1, 0, 0, 0, 0), (13, .istore 4, 2, 0, 0, 0, 0), (15, .aload_n 0, 1, 0, 0, 0, 0), (16, .getfield 15, 3, 6, 1, 81, 0), (19, .iconst 2, 1, 0, 0, 0, 0), (20, .iaload, 1, 0, 0, 0, 0), (21, .ifCond .ne 12, 3, 33, 0, 0, 0), (24, .aload_n 0, 1, 0, 0, 0, 0), (25, .getfield 15, 3, 6, 1, 81, 0), (28, .iconst 3, 1, 0, 0, 0, 0), (29, .iaload, 1, 0, 0, 0, 0), (30, .goto 4, 3, 34, 0, 0, 0), (33, .iconst 1, 1, 0, 0, 0, 0), (34, .istore 5, 2, 0, 0, 0, 0), (36, .aload_n 0, 1, 0, 0, 0, 0), (37, .getfield 15, 3, 6, 1, 81, 0), (40, .iconst 2, 1, 0, 0, 0, 0), (41, .iaload, 1, 0, 0, 0, 0), (42, .ifCond .ne 7, 3, 49, 0, 0, 0), (45, .iconst 1, 1, 0, 0, 0, 0), (46, .goto 9, 3, 55, 0, 0, 0), (49, .aload_n 0, 1, 0, 0, 0, 0), (50, .getfield 15, 3, 6, 1, 81, 0), (53, .iconst 3, 1, 0, 0, 0, 0), (54, .iaload, 1, 0, 0, 0, 0), (55, .istore 6, 2, 0, 0, 0, 0), (57, .aload_n 1, 1, 0, 0, 0, 0), (58, .iload_n 3, 1, 0, 0, 0, 0), (59, .iload 4, 2, 0, 0, 0, 0), (61, .iload 5, 2, 0, 0, 0, 0), (63, .iload 6, 2, 0, 0, 0, 0), (65, .iconst 1, 1, 0, 0, 0, 0)]
def zco40_1 : List zI := [(66, .invokevirtual 107, 3, 24, 5, 285, 0), (69, .ifCond .ne 12, 3, 81, 0, 0, 0), (72, .aload_n 0, 1, 0, 0, 0, 0), (73, .iconst 3, 1, 0, 0, 0, 0), (74, .iload_n 2, 1, 0, 0, 0, 0), (75, .invokevirtual 96, 3, 20, 2, 270, 0), (78, .goto 32, 3, 110, 0, 0, 0), (81, .aload_n 1, 1, 0, 0, 0, 0), (82, .getfield 38, 3, 5, 3, 151, 0), (85, .bipush 12, 2, 0, 0, 0, 0), (87, .if_icmp .lt 12, 3, 99, 0, 0, 0), (90, .aload_n 0, 1, 0, 0, 0, 0), (91, .iconst 4, 1, 0, 0, 0, 0), (92, .iload_n 2, 1, 0, 0, 0, 0), (93, .invokevirtual 96, 3, 20, 2, 270, 0), (96, .goto 14, 3, 110, 0, 0, 0), (99, .aload_n 1, 1, 0, 0, 0, 0), (100, .iload_n 3, 1, 0, 0, 0, 0), (101, .iload 4, 2, 0, 0, 0, 0), (103, .iload 5, 2, 0, 0, 0, 0), (105, .iload 6, 2, 0, 0, 0, 0), (107, .invokevirtual 115, 3, 41, 4, 457, 0), (110, .return_, 1, 0, 0, 0, 0)]
def zco40 : List zI := zco40_0 ++ (zco40_1)
def zco41 : List zI := [(0, .aload_n 0, 1, 0, 0, 0, 0), (1, .getfield 46, 3, 5, 3, 152, 0), (4, .istore 5, 2, 0, 0, 0, 0), (6, .aload_n 0, 1, 0, 0, 0, 0), (7, .dup, 1, 0, 0, 0, 0), (8, .getfield 46, 3, 5, 3, 152, 0), (11, .iconst 1, 1, 0, 0, 0, 0), (12, .iadd, 1, 0, 0, 0, 0), (13, .putfield 46, 3, 5, 3, 152, 0), (16, .aload_n 0, 1, 0, 0, 0, 0), (17, .iload_n 1, 1, 0, 0, 0, 0), (18, .iload_n 2, 1, 0, 0, 0, 0), (19, .iload_n 3, 1, 0, 0, 0, 0), (20, .iload 4, 2, 0, 0, 0, 0), (22, .bipush 100, 2, 0, 0, 0, 0), (24, .iload 5, 2, 0, 0, 0, 0), (26, .iadd, 1, 0, 0, 0, 0), (27, .invokevirtual 61, 3, 39, 5, 445, 0), (30, .return_, 1, 0, 0, 0, 0)]
def zco42_0 : List zI := [(0, .iconst 0, 1, 0, 0, 0, 0), (1, .istore_n 3, 1, 0, 0, 0, 0), (2, .iload_n 3, 1, 0, 0, 0, 0), (3, .aload_n 0, 1, 0, 0, 0, 0), (4, .getfield 9, 3, 5, 0, 145, 0), (7, .arraylength, 1, 0, 0, 0, 0), (8, .if_icmp .ge 78, 3, 86, 0, 0, 0), (11, .aload_n 0, 1, 0, 0, 0, 0), (12, .getfield 9, 3, 5, 0, 145, 0), (15, .iload_n 3, 1, 0, 0, 0, 0), (16, .iaload, 1, 0, 0, 0, 0), (17, .istore 4, 2, 0, 0, 0, 0), (19, .iload 4, 2, 0, 0, 0, 0), (21, .iload_n 1, 1, 0, 0, 0, 0), (22, .if_icmp .lt 14, 3, 36, 0, 0, 0), (25, .iload 4, 2, 0, 0, 0, 0), (27, .bipush 100, 2, 0, 0, 0, 0), (29, .if_icmp .ge 7, 3, 36, 0, 0, 0), (32, .iconst 1, 1, 0, 0, 0, 0), (33, .goto 4, 3, 37, 0, 0, 0), (36, .iconst 0, 1, 0, 0, 0, 0), (37, .istore 5, 2, 0, 0, 0, 0), (39, .iload 4, 2, 0, 0, 0, 0), (41, .bipush 100, 2, 0, 0, 0, 0), (43, .iload_n 2, 1, 0, 0, 0, 0), (44, .iadd, 1, 0, 0, 0, 0), (45, .if_icmp .lt 15, 3, 60, 0, 0, 0), (48, .iload 4, 2, 0, 0, 0, 0), (50, .sipush 200, 3, 0, 0, 0, 0), (53, .if_icmp .ge 7, 3, 60, 0, 0, 0), (56, .iconst 1, 1, 0, 0, 0, 0), (57, .goto 4, 3, 61, 0, 0, 0), (60, .iconst 0, 1, 0, 0, 0, 0), (61, .istore 6, 2, 0, 0, 0, 0), (63, .iload 5, 2, 0, 0, 0, 0), (65, .ifCond .ne 8, 3, 73, 0, 0, 0), (68, .iload 6, 2, 0, 0, 0, 0), (70, .ifCond .eq 10, 3, 80, 0, 0, 0), (73, .aload_n 0, 1, 0, 0, 0, 0), (74, .getfield 9, 3, 5, 0, 145, 0)]
def zco42_1 : List zI := [(77, .iload_n 3, 1, 0, 0, 0, 0), (78, .iconst (-1), 1, 0, 0, 0, 0), (79, .iastore, 1, 0, 0, 0, 0), (80, .iinc 3 1, 3, 0, 0, 0, 0), (83, .goto (-81), 3, 2, 0, 0, 0), (86, .aload_n 0, 1, 0, 0, 0, 0), (87, .getfield 22, 3, 5, 2, 147, 0), (90, .invokevirtual 36, 3, 14, 0, 300, 0), (93, .iconst 1, 1, 0, 0, 0, 0), (94, .isub, 1, 0, 0, 0, 0), (95, .istore_n 3, 1, 0, 0, 0, 0), (96, .iload_n 3, 1, 0, 0, 0, 0), (97, .iload_n 1, 1, 0, 0, 0, 0), (98, .if_icmp .lt 22, 3, 120, 0, 0, 0), (101, .iload_n 3, 1, 0, 0, 0, 0), (102, .ifCond .lt 18, 3, 120, 0, 0, 0), (105, .aload_n 0, 1, 0, 0, 0, 0), (106, .getfield 22, 3, 5, 2, 147, 0), (109, .iload_n 3, 1, 0, 0, 0, 0), (110, .invokevirtual 65, 3, 43, 1, 469, 0), (113, .pop, 1, 0, 0, 0, 0), (114, .iinc 3 (-1), 3, 0, 0, 0, 0), (117, .goto (-21), 3, 96, 0, 0, 0), (120, .aload_n 0, 1, 0, 0, 0, 0), (121, .iload_n 2, 1, 0, 0, 0, 0), (122, .putfield 46, 3, 5, 3, 152, 0), (125, .return_, 1, 0, 0, 0, 0)]
def zco42 : List zI := zco42_0 ++ (zco42_1)
def zco43 : List zI := [(0, .iload_n 1, 1, 0, 0, 0, 0), (1, .aload_n 0, 1, 0, 0, 0, 0), (2, .getfield 48, 3, 0, 2, 130, 0), (5, .invokestatic 118, 3, 44, 2, 473, 0), (8, .pop, 1, 0, 0, 0, 0), (9, .aload_n 0, 1, 0, 0, 0, 0), (10, .getfield 9, 3, 0, 1, 129, 0), (13, .astore_n 2, 1, 0, 0, 0, 0), (14, .aload_n 2, 1, 0, 0, 0, 0), (15, .iload_n 1, 1, 0, 0, 0, 0), (16, .aaload, 1, 0, 0, 0, 0), (17, .astore_n 3, 1, 0, 0, 0, 0), (18, .aload_n 0, 1, 0, 0, 0, 0), (19, .aload_n 2, 1, 0, 0, 0, 0), (20, .iload_n 1, 1, 0, 0, 0, 0), (21, .invokevirtual 144, 3, 46, 2, 479, 0), (24, .aload_n 3, 1, 0, 0, 0, 0), (25, .areturn, 1, 0, 0, 0, 0)]
def zco44 : List zI := [(0, .iload_n 0, 1, 0, 0, 0, 0), (1, .iload_n 1, 1, 0, 0, 0, 0), (2, .aconst_null, 1, 0, 0, 0, 0), (3, .invokestatic 105, 3, 45, 3, 476, 0), (6, .ireturn, 1, 0, 0, 0, 0)]
def zco45 : List zI := [(0, .iload_n 0, 1, 0, 0, 0, 0), (1, .ifCond .lt 8, 3, 9, 0, 0, 0), (4, .iload_n 0, 1, 0, 0, 0, 0), (5, .iload_n 1, 1, 0, 0, 0, 0), (6, .if_icmp .lt 10, 3, 16, 0, 0, 0), (9, .aload_n 2, 1, 0, 0, 0, 0), (10, .iload_n 0, 1, 0, 0, 0, 0), (11, .iload_n 1, 1, 0, 0, 0, 0), (16, .iload_n 0, 1, 0, 0, 0, 0), (17, .ireturn, 1, 0, 0, 0, 0)]
def zco46 : List zI := [(0, .aload_n 0, 1, 0, 0, 0, 0), (1, .dup, 1, 0, 0, 0, 0), (2, .getfield 63, 3, 0, 0, 132, 1), (5, .iconst 1, 1, 0, 0, 0, 0), (6, .iadd, 1, 0, 0, 0, 0), (7, .putfield 63, 3, 0, 0, 132, 1), (10, .aload_n 0, 1, 0, 0, 0, 0), (11, .getfield 48, 3, 0, 2, 130, 0), (14, .iconst 1, 1, 0, 0, 0, 0), (15, .isub, 1, 0, 0, 0, 0), (16, .dup, 1, 0, 0, 0, 0), (17, .istore_n 3, 1, 0, 0, 0, 0), (18, .iload_n 2, 1, 0, 0, 0, 0), (19, .if_icmp .le 15, 3, 34, 0, 0, 0), (22, .aload_n 1, 1, 0, 0, 0, 0), (23, .iload_n 2, 1, 0, 0, 0, 0), (24, .iconst 1, 1, 0, 0, 0, 0), (25, .iadd, 1, 0, 0, 0, 0), (26, .aload_n 1, 1, 0, 0, 0, 0), (27, .iload_n 2, 1, 0, 0, 0, 0), (28, .iload_n 3, 1, 0, 0, 0, 0), (29, .iload_n 2, 1, 0, 0, 0, 0), (30, .isub, 1, 0, 0, 0, 0), (31, .invokestatic 112, 3, 1000, 5, 483, 0), (34, .aload_n 1, 1, 0, 0, 0, 0), (35, .aload_n 0, 1, 0, 0, 0, 0), (36, .iload_n 3, 1, 0, 0, 0, 0), (37, .dup_x1, 1, 0, 0, 0, 0), (38, .putfield 48, 3, 0, 2, 130, 0), (41, .aconst_null, 1, 0, 0, 0, 0), (42, .aastore, 1, 0, 0, 0, 0), (43, .return_, 1, 0, 0, 0, 0)]
def zco47 : List zI := [(0, .aload_n 0, 1, 0, 0, 0, 0), (1, .getfield 12, 3, 8, 0, 219, 0), (4, .getfield 51, 3, 6, 3, 85, 0), (7, .ireturn, 1, 0, 0, 0, 0)]
def zco48 : List zI := [(0, .iload_n 1, 1, 0, 0, 0, 0), (1, .iload_n 2, 1, 0, 0, 0, 0), (2, .invokestatic 54, 3, 26, 2, 493, 0), (5, .ifCond .eq 18, 3, 23, 0, 0, 0), (8, .aload_n 0, 1, 0, 0, 0, 0), (9, .getfield 19, 3, 8, 1, 220, 0), (12, .getfield 31, 3, 3, 0, 183, 0), (15, .iload_n 1, 1, 0, 0, 0, 0), (16, .iload_n 2, 1, 0, 0, 0, 0), (17, .invokevirtual 58, 3, 25, 2, 494, 0), (20, .goto 6, 3, 26, 0, 0, 0), (23, .sipush (-1002), 3, 0, 0, 0, 0), (26, .ireturn, 1, 0, 0, 0, 0)]
def zco49_0 : List zI := [(0, .aload_n 0, 1, 0, 0, 0, 0), (1, .getfield 19, 3, 8, 1, 220, 0), (4, .getfield 31, 3, 3, 0, 183, 0), (7, .iload_n 1, 1, 0, 0, 0, 0), (8, .invokevirtual 62, 3, 50, 1, 499, 0), (11, .astore_n 3, 1, 0, 0, 0, 0), (12, .aload_n 3, 1, 0, 0, 0, 0), (13, .ifnonnull 7, 3, 20, 0, 0, 0), (16, .sipush (-1001), 3, 0, 0, 0, 0), (19, .ireturn, 1, 0, 0, 0, 0), (20, .iload_n 2, 1, 0, 0, 0, 0), (21, .tableswitch 150 0 9 #[55, 60, 65, 78, 90, 106, 111, 127, 132, 145], 55, 0, 0, 0, 0), (76, .aload_n 3, 1, 0, 0, 0, 0), (77, .invokevirtual 66, 3, 53, 0, 511, 0), (80, .ireturn, 1, 0, 0, 0, 0), (81, .aload_n 3, 1, 0, 0, 0, 0), (82, .getfield 71, 3, 2, 7, 327, 0), (85, .ireturn, 1, 0, 0, 0, 0), (86, .aload_n 3, 1, 0, 0, 0, 0), (87, .getfield 74, 3, 2, 4, 320, 0), (90, .ifCond .eq 7, 3, 97, 0, 0, 0), (93, .iconst 1, 1, 0, 0, 0, 0), (94, .goto 4, 3, 98, 0, 0, 0), (97, .iconst 0, 1, 0, 0, 0, 0), (98, .ireturn, 1, 0, 0, 0, 0), (99, .aload_n 0, 1, 0, 0, 0, 0), (100, .getfield 19, 3, 8, 1, 220, 0), (103, .getfield 31, 3, 3, 0, 183, 0), (106, .aload_n 3, 1, 0, 0, 0, 0), (107, .invokevirtual 78, 3, 54, 1, 515, 0), (110, .ireturn, 1, 0, 0, 0, 0), (111, .aload_n 3, 1, 0, 0, 0, 0), (112, .getfield 82, 3, 2, 10, 334, 0), (115, .ifCond .eq 10, 3, 125, 0, 0, 0), (118, .aload_n 3, 1, 0, 0, 0, 0), (119, .getfield 71, 3, 2, 7, 327, 0), (122, .goto 4, 3, 126, 0, 0, 0), (125, .iconst (-1), 1, 0, 0, 0, 0), (126, .ireturn, 1, 0, 0, 0, 0), (127, .aload_n 3, 1, 0, 0, 0, 0)]
def zco49_1 : List zI := [(128, .getfield 85, 3, 2, 11, 337, 0), (131, .ireturn, 1, 0, 0, 0, 0), (132, .aload_n 3, 1, 0, 0, 0, 0), (133, .getfield 88, 3, 2, 12, 341, 0), (136, .ifCond .le 10, 3, 146, 0, 0, 0), (139, .aload_n 3, 1, 0, 0, 0, 0), (140, .getfield 91, 3, 2, 14, 345, 0), (143, .goto 4, 3, 147, 0, 0, 0), (146, .iconst (-1), 1, 0, 0, 0, 0), (147, .ireturn, 1, 0, 0, 0, 0), (148, .aload_n 3, 1, 0, 0, 0, 0), (149, .getfield 94, 3, 2, 15, 347, 0), (152, .ireturn, 1, 0, 0, 0, 0), (153, .aload_n 3, 1, 0, 0, 0, 0), (154, .getfield 97, 3, 2, 1, 313, 0), (157, .bipush 20, 2, 0, 0, 0, 0), (159, .imul, 1, 0, 0, 0, 0), (160, .aload_n 3, 1, 0, 0, 0, 0), (161, .getfield 100, 3, 2, 0, 310, 0), (164, .iadd, 1, 0, 0, 0, 0), (165, .ireturn, 1, 0, 0, 0, 0), (166, .aload_n 3, 1, 0, 0, 0, 0), (167, .getfield 103, 3, 2, 8, 331, 0), (170, .ireturn, 1, 0, 0, 0, 0), (171, .sipush (-1002), 3, 0, 0, 0, 0), (174, .ireturn, 1, 0, 0, 0, 0)]
def zco49 : List zI := zco49_0 ++ (zco49_1)
def zco50 : List zI := [(0, .iload_n 1, 1, 0, 0, 0, 0), (1, .ifCond .lt 28, 3, 29, 0, 0, 0), (4, .iload_n 1, 1, 0, 0, 0, 0), (5, .aload_n 0, 1, 0, 0, 0, 0), (6, .getfield 22, 3, 5, 2, 147, 0), (9, .invokevirtual 36, 3, 14, 0, 300, 0), (12, .if_icmp .ge 17, 3, 29, 0, 0, 0), (15, .aload_n 0, 1, 0, 0, 0, 0), (16, .getfield 22, 3, 5, 2, 147, 0), (19, .iload_n 1, 1, 0, 0, 0, 0), (20, .invokevirtual 40, 3, 51, 1, 503, 0), (23, .checkcast 44, 3, 2, 0, 301, 0), (26, .goto 4, 3, 30, 0, 0, 0), (29, .aconst_null, 1, 0, 0, 0, 0), (30, .areturn, 1, 0, 0, 0, 0)]
def zco51 : List zI := [(0, .iload_n 1, 1, 0, 0, 0, 0), (1, .aload_n 0, 1, 0, 0, 0, 0), (2, .getfield 48, 3, 0, 2, 130, 0), (5, .invokestatic 118, 3, 44, 2, 473, 0), (8, .pop, 1, 0, 0, 0, 0), (9, .aload_n 0, 1, 0, 0, 0, 0), (10, .iload_n 1, 1, 0, 0, 0, 0), (11, .invokevirtual 123, 3, 52, 1, 507, 0), (14, .areturn, 1, 0, 0, 0, 0)]
def zco52 : List zI := [(0, .aload_n 0, 1, 0, 0, 0, 0), (1, .getfield 9, 3, 0, 1, 129, 0), (4, .iload_n 1, 1, 0, 0, 0, 0), (5, .aaload, 1, 0, 0, 0, 0), (6, .areturn, 1, 0, 0, 0, 0)]
def zco53 : List zI := [(0, .iconst 2, 1, 0, 0, 0, 0), (1, .aload_n 0, 1, 0, 0, 0, 0), (2, .getfield 34, 3, 2, 2, 315, 0), (5, .imul, 1, 0, 0, 0, 0), (6, .aload_n 0, 1, 0, 0, 0, 0), (7, .getfield 37, 3, 2, 3, 317, 0), (10, .imul, 1, 0, 0, 0, 0), (11, .aload_n 0, 1, 0, 0, 0, 0), (12, .getfield 44, 3, 2, 5, 321, 0), (15, .iadd, 1, 0, 0, 0, 0), (16, .ireturn, 1, 0, 0, 0, 0)]
def zco54_0 : List zI := [(0, .aload_n 1, 1, 0, 0, 0, 0), (1, .getfield 78, 3, 2, 0, 311, 0), (4, .aload_n 0, 1, 0, 0, 0, 0), (5, .getfield 81, 3, 5, 4, 155, 0), (8, .bipush 20, 2, 0, 0, 0, 0), (10, .irem, 1, 0, 0, 0, 0), (11, .isub, 1, 0, 0, 0, 0), (12, .invokestatic 84, 3, 55, 1, 519, 0), (15, .aload_n 1, 1, 0, 0, 0, 0), (16, .getfield 90, 3, 2, 1, 314, 0), (19, .aload_n 0, 1, 0, 0, 0, 0), (20, .getfield 81, 3, 5, 4, 155, 0), (23, .bipush 20, 2, 0, 0, 0, 0), (25, .idiv, 1, 0, 0, 0, 0), (26, .isub, 1, 0, 0, 0, 0), (27, .invokestatic 84, 3, 55, 1, 519, 0), (30, .iadd, 1, 0, 0, 0, 0), (31, .istore_n 2, 1, 0, 0, 0, 0), (32, .bipush 10, 2, 0, 0, 0, 0), (34, .aload_n 1, 1, 0, 0, 0, 0), (35, .invokevirtual 93, 3, 53, 0, 522, 0), (38, .imul, 1, 0, 0, 0, 0), (39, .sipush 200, 3, 0, 0, 0, 0), (42, .iconst 1, 1, 0, 0, 0, 0), (43, .iconst 1, 1, 0, 0, 0, 0), (44, .iload_n 2, 1, 0, 0, 0, 0), (45, .iadd, 1, 0, 0, 0, 0), (46, .invokestatic 96, 3, 34, 2, 523, 0), (49, .idiv, 1, 0, 0, 0, 0), (50, .iadd, 1, 0, 0, 0, 0), (51, .istore_n 3, 1, 0, 0, 0, 0), (52, .iload_n 3, 1, 0, 0, 0, 0), (53, .bipush 15, 2, 0, 0, 0, 0), (55, .aload_n 0, 1, 0, 0, 0, 0), (56, .aload_n 1, 1, 0, 0, 0, 0), (57, .invokevirtual 99, 3, 56, 1, 524, 0), (60, .imul, 1, 0, 0, 0, 0), (61, .iadd, 1, 0, 0, 0, 0), (62, .istore_n 3, 1, 0, 0, 0, 0), (63, .aload_n 0, 1, 0, 0, 0, 0)]
def zco54_1 : List zI := [(64, .aload_n 1, 1, 0, 0, 0, 0), (65, .invokevirtual 103, 3, 58, 1, 532, 0), (68, .ifCond .eq 10, 3, 78, 0, 0, 0), (71, .iload_n 3, 1, 0, 0, 0, 0), (72, .bipush 30, 2, 0, 0, 0, 0), (74, .iadd, 1, 0, 0, 0, 0), (75, .goto 4, 3, 79, 0, 0, 0), (78, .iload_n 3, 1, 0, 0, 0, 0), (79, .ireturn, 1, 0, 0, 0, 0)]
def zco54 : List zI := zco54_0 ++ (zco54_1)
def zco55 : List zI := [(0, .iload_n 0, 1, 0, 0, 0, 0), (1, .ifCond .ge 8, 3, 9, 0, 0, 0), (4, .iload_n 0, 1, 0, 0, 0, 0), (5, .ineg, 1, 0, 0, 0, 0), (6, .goto 4, 3, 10, 0, 0, 0), (9, .iload_n 0, 1, 0, 0, 0, 0), (10, .ireturn, 1, 0, 0, 0, 0)]
def zco56 : List zI := [(0, .iconst 0, 1, 0, 0, 0, 0), (1, .istore_n 2, 1, 0, 0, 0, 0), (2, .iconst 0, 1, 0, 0, 0, 0), (3, .istore_n 3, 1, 0, 0, 0, 0), (4, .iload_n 3, 1, 0, 0, 0, 0), (5, .aload_n 0, 1, 0, 0, 0, 0), (6, .getfield 22, 3, 5, 2, 147, 0), (9, .invokevirtual 36, 3, 14, 0, 300, 0), (12, .if_icmp .ge 60, 3, 72, 0, 0, 0), (15, .aload_n 0, 1, 0, 0, 0, 0), (16, .getfield 22, 3, 5, 2, 147, 0), (19, .iload_n 3, 1, 0, 0, 0, 0), (20, .invokevirtual 40, 3, 51, 1, 503, 0), (23, .checkcast 44, 3, 2, 0, 301, 0), (26, .astore 4, 2, 0, 0, 0, 0), (28, .aload 4, 2, 0, 0, 0, 0), (30, .getfield 107, 3, 2, 10, 336, 0), (33, .ifCond .eq 33, 3, 66, 0, 0, 0), (36, .aload_n 1, 1, 0, 0, 0, 0), (37, .aload 4, 2, 0, 0, 0, 0), (39, .getfield 78, 3, 2, 0, 311, 0), (42, .aload 4, 2, 0, 0, 0, 0), (44, .getfield 90, 3, 2, 1, 314, 0), (47, .aload 4, 2, 0, 0, 0, 0), (49, .getfield 111, 3, 2, 2, 316, 0), (52, .aload 4, 2, 0, 0, 0, 0), (54, .getfield 114, 3, 2, 3, 318, 0), (57, .invokevirtual 71, 3, 57, 4, 528, 0), (60, .ifCond .eq 6, 3, 66, 0, 0, 0), (63, .iinc 2 1, 3, 0, 0, 0, 0), (66, .iinc 3 1, 3, 0, 0, 0, 0), (69, .goto (-65), 3, 4, 0, 0, 0), (72, .iload_n 2, 1, 0, 0, 0, 0), (73, .ireturn, 1, 0, 0, 0, 0)]
def zco57_0 : List zI := [(0, .aload_n 0, 1, 0, 0, 0, 0), (1, .getfield 28, 3, 2, 0, 309, 0), (4, .iload_n 1, 1, 0, 0, 0, 0), (5, .iload_n 3, 1, 0, 0, 0, 0), (6, .iadd, 1, 0, 0, 0, 0), (7, .if_icmp .ge 20, 3, 27, 0, 0, 0), (10, .iload_n 1, 1, 0, 0, 0, 0), (11, .aload_n 0, 1, 0, 0, 0, 0), (12, .getfield 28, 3, 2, 0, 309, 0), (15, .aload_n 0, 1, 0, 0, 0, 0), (16, .getfield 34, 3, 2, 2, 315, 0), (19, .iadd, 1, 0, 0, 0, 0), (20, .if_icmp .ge 7, 3, 27, 0, 0, 0), (23, .iconst 1, 1, 0, 0, 0, 0), (24, .goto 4, 3, 28, 0, 0, 0), (27, .iconst 0, 1, 0, 0, 0, 0), (28, .istore 5, 2, 0, 0, 0, 0), (30, .aload_n 0, 1, 0, 0, 0, 0), (31, .getfield 31, 3, 2, 1, 312, 0), (34, .iload_n 2, 1, 0, 0, 0, 0), (35, .iload 4, 2, 0, 0, 0, 0), (37, .iadd, 1, 0, 0, 0, 0), (38, .if_icmp .ge 20, 3, 58, 0, 0, 0), (41, .iload_n 2, 1, 0, 0, 0, 0), (42, .aload_n 0, 1, 0, 0, 0, 0), (43, .getfield 31, 3, 2, 1, 312, 0), (46, .aload_n 0, 1, 0, 0, 0, 0), (47, .getfield 37, 3, 2, 3, 317, 0), (50, .iadd, 1, 0, 0, 0, 0), (51, .if_icmp .ge 7, 3, 58, 0, 0, 0), (54, .iconst 1, 1, 0, 0, 0, 0), (55, .goto 4, 3, 59, 0, 0, 0), (58, .iconst 0, 1, 0, 0, 0, 0), (59, .istore 6, 2, 0, 0, 0, 0), (61, .aload_n 0, 1, 0, 0, 0, 0), (62, .getfield 28, 3, 2, 0, 309, 0), (65, .aload_n 0, 1, 0, 0, 0, 0), (66, .getfield 34, 3, 2, 2, 315, 0), (69, .iadd, 1, 0, 0, 0, 0), (70, .iload_n 1, 1, 0, 0, 0, 0)]
def zco57_1 : List zI := [(71, .if_icmp .eq 13, 3, 84, 0, 0, 0), (74, .iload_n 1, 1, 0, 0, 0, 0), (75, .iload_n 3, 1, 0, 0, 0, 0), (76, .iadd, 1, 0, 0, 0, 0), (77, .aload_n 0, 1, 0, 0, 0, 0), (78, .getfield 28, 3, 2, 0, 309, 0), (81, .if_icmp .ne 7, 3, 88, 0, 0, 0), (84, .iconst 1, 1, 0, 0, 0, 0), (85, .goto 4, 3, 89, 0, 0, 0), (88, .iconst 0, 1, 0, 0, 0, 0), (89, .istore 7, 2, 0, 0, 0, 0), (91, .aload_n 0, 1, 0, 0, 0, 0), (92, .getfield 31, 3, 2, 1, 312, 0), (95, .aload_n 0, 1, 0, 0, 0, 0), (96, .getfield 37, 3, 2, 3, 317, 0), (99, .iadd, 1, 0, 0, 0, 0), (100, .iload_n 2, 1, 0, 0, 0, 0), (101, .if_icmp .eq 14, 3, 115, 0, 0, 0), (104, .iload_n 2, 1, 0, 0, 0, 0), (105, .iload 4, 2, 0, 0, 0, 0), (107, .iadd, 1, 0, 0, 0, 0), (108, .aload_n 0, 1, 0, 0, 0, 0), (109, .getfield 31, 3, 2, 1, 312, 0), (112, .if_icmp .ne 7, 3, 119, 0, 0, 0), (115, .iconst 1, 1, 0, 0, 0, 0), (116, .goto 4, 3, 120, 0, 0, 0), (119, .iconst 0, 1, 0, 0, 0, 0), (120, .istore 8, 2, 0, 0, 0, 0), (122, .iload 5, 2, 0, 0, 0, 0), (124, .ifCond .eq 8, 3, 132, 0, 0, 0), (127, .iload 8, 2, 0, 0, 0, 0), (129, .ifCond .ne 13, 3, 142, 0, 0, 0), (132, .iload 6, 2, 0, 0, 0, 0), (134, .ifCond .eq 12, 3, 146, 0, 0, 0), (137, .iload 7, 2, 0, 0, 0, 0), (139, .ifCond .eq 7, 3, 146, 0, 0, 0), (142, .iconst 1, 1, 0, 0, 0, 0), (143, .goto 4, 3, 147, 0, 0, 0), (146, .iconst 0, 1, 0, 0, 0, 0), (147, .ireturn, 1, 0, 0, 0, 0)]
def zco57 : List zI := zco57_0 ++ (zco57_1)
def zco58_0 : List zI := [(0, .aload_n 1, 1, 0, 0, 0, 0), (1, .getfield 90, 3, 2, 1, 314, 0), (4, .iconst 1, 1, 0, 0, 0, 0), (5, .isub, 1, 0, 0, 0, 0), (6, .istore_n 2, 1, 0, 0, 0, 0), (7, .iload_n 2, 1, 0, 0, 0, 0), (8, .aload_n 1, 1, 0, 0, 0, 0), (9, .getfield 90, 3, 2, 1, 314, 0), (12, .aload_n 1, 1, 0, 0, 0, 0), (13, .getfield 114, 3, 2, 3, 318, 0), (16, .iadd, 1, 0, 0, 0, 0), (17, .if_icmp .gt 88, 3, 105, 0, 0, 0), (20, .aload_n 1, 1, 0, 0, 0, 0), (21, .getfield 78, 3, 2, 0, 311, 0), (24, .iconst 1, 1, 0, 0, 0, 0), (25, .isub, 1, 0, 0, 0, 0), (26, .istore_n 3, 1, 0, 0, 0, 0), (27, .iload_n 3, 1, 0, 0, 0, 0), (28, .aload_n 1, 1, 0, 0, 0, 0), (29, .getfield 78, 3, 2, 0, 311, 0), (32, .aload_n 1, 1, 0, 0, 0, 0), (33, .getfield 111, 3, 2, 2, 316, 0), (36, .iadd, 1, 0, 0, 0, 0), (37, .if_icmp .gt 62, 3, 99, 0, 0, 0), (40, .iload_n 3, 1, 0, 0, 0, 0), (41, .iload_n 2, 1, 0, 0, 0, 0), (42, .invokestatic 32, 3, 26, 2, 293, 1), (45, .ifCond .eq 17, 3, 62, 0, 0, 0), (48, .aload_n 0, 1, 0, 0, 0, 0), (49, .getfield 9, 3, 5, 0, 145, 0), (52, .iload_n 2, 1, 0, 0, 0, 0), (53, .bipush 20, 2, 0, 0, 0, 0), (55, .imul, 1, 0, 0, 0, 0), (56, .iload_n 3, 1, 0, 0, 0, 0), (57, .iadd, 1, 0, 0, 0, 0), (58, .iaload, 1, 0, 0, 0, 0), (59, .goto 4, 3, 63, 0, 0, 0), (62, .iconst (-1), 1, 0, 0, 0, 0), (63, .istore 4, 2, 0, 0, 0, 0), (65, .iload 4, 2, 0, 0, 0, 0)]
def zco58_1 : List zI := [(67, .bipush 100, 2, 0, 0, 0, 0), (69, .if_icmp .lt 24, 3, 93, 0, 0, 0), (72, .iload 4, 2, 0, 0, 0, 0), (74, .sipush 200, 3, 0, 0, 0, 0), (77, .if_icmp .ge 16, 3, 93, 0, 0, 0), (80, .aload_n 1, 1, 0, 0, 0, 0), (81, .iload_n 3, 1, 0, 0, 0, 0), (82, .iload_n 2, 1, 0, 0, 0, 0), (83, .iconst 1, 1, 0, 0, 0, 0), (84, .iconst 1, 1, 0, 0, 0, 0), (85, .invokevirtual 71, 3, 57, 4, 528, 0), (88, .ifCond .eq 5, 3, 93, 0, 0, 0), (91, .iconst 1, 1, 0, 0, 0, 0), (92, .ireturn, 1, 0, 0, 0, 0), (93, .iinc 3 1, 3, 0, 0, 0, 0), (96, .goto (-69), 3, 27, 0, 0, 0), (99, .iinc 2 1, 3, 0, 0, 0, 0), (102, .goto (-95), 3, 7, 0, 0, 0), (105, .iconst 0, 1, 0, 0, 0, 0), (106, .ireturn, 1, 0, 0, 0, 0)]
def zco58 : List zI := zco58_0 ++ (zco58_1)
def zco59 : List zI := [(0, .aload_n 0, 1, 0, 0, 0, 0), (1, .getfield 19, 3, 8, 1, 220, 0), (4, .getfield 31, 3, 3, 0, 183, 0), (7, .iload_n 1, 1, 0, 0, 0, 0), (8, .invokevirtual 106, 3, 60, 1, 540, 0), (11, .ifCond .ne 7, 3, 18, 0, 0, 0), (14, .sipush (-1001), 3, 0, 0, 0, 0), (17, .ireturn, 1, 0, 0, 0, 0), (18, .aload_n 0, 1, 0, 0, 0, 0), (19, .getfield 19, 3, 8, 1, 220, 0), (22, .getfield 31, 3, 3, 0, 183, 0), (25, .iload_n 1, 1, 0, 0, 0, 0), (26, .invokevirtual 110, 3, 61, 1, 544, 0), (29, .ifCond .eq 9, 3, 38, 0, 0, 0), (32, .sipush (-1003), 3, 0, 0, 0, 0), (35, .goto 14, 3, 49, 0, 0, 0), (38, .aload_n 0, 1, 0, 0, 0, 0), (39, .getfield 19, 3, 8, 1, 220, 0), (42, .getfield 31, 3, 3, 0, 183, 0), (45, .iload_n 1, 1, 0, 0, 0, 0), (46, .invokevirtual 113, 3, 62, 1, 548, 0), (49, .ireturn, 1, 0, 0, 0, 0)]
def zco60 : List zI := [(0, .iload_n 1, 1, 0, 0, 0, 0), (1, .ifCond .lt 15, 3, 16, 0, 0, 0), (4, .iload_n 1, 1, 0, 0, 0, 0), (5, .aload_n 0, 1, 0, 0, 0, 0), (6, .getfield 46, 3, 5, 3, 152, 0), (9, .if_icmp .ge 7, 3, 16, 0, 0, 0), (12, .iconst 1, 1, 0, 0, 0, 0), (13, .goto 4, 3, 17, 0, 0, 0), (16, .iconst 0, 1, 0, 0, 0, 0), (17, .ireturn, 1, 0, 0, 0, 0)]
def zco61 : List zI := [(0, .iload_n 1, 1, 0, 0, 0, 0), (1, .ifCond .lt 25, 3, 26, 0, 0, 0), (4, .iload_n 1, 1, 0, 0, 0, 0), (5, .aload_n 0, 1, 0, 0, 0, 0), (6, .getfield 15, 3, 5, 1, 146, 0), (9, .arraylength, 1, 0, 0, 0, 0), (10, .if_icmp .ge 16, 3, 26, 0, 0, 0), (13, .aload_n 0, 1, 0, 0, 0, 0), (14, .getfield 15, 3, 5, 1, 146, 0), (17, .iload_n 1, 1, 0, 0, 0, 0), (18, .baload, 1, 0, 0, 0, 0), (19, .ifCond .eq 7, 3, 26, 0, 0, 0), (22, .iconst 1, 1, 0, 0, 0, 0), (23, .goto 4, 3, 27, 0, 0, 0), (26, .iconst 0, 1, 0, 0, 0, 0), (27, .ireturn, 1, 0, 0, 0, 0)]
def zco62_0 : List zI := [(0, .iload_n 1, 1, 0, 0, 0, 0), (1, .ifCond .lt 12, 3, 13, 0, 0, 0), (4, .iload_n 1, 1, 0, 0, 0, 0), (5, .aload_n 0, 1, 0, 0, 0, 0), (6, .getfield 15, 3, 5, 1, 146, 0), (9, .arraylength, 1, 0, 0, 0, 0), (10, .if_icmp .lt 5, 3, 15, 0, 0, 0), (13, .iconst 0, 1, 0, 0, 0, 0), (14, .ireturn, 1, 0, 0, 0, 0), (15, .aload_n 0, 1, 0, 0, 0, 0), (16, .getfield 15, 3, 5, 1, 146, 0), (19, .iload_n 1, 1, 0, 0, 0, 0), (20, .iconst 1, 1, 0, 0, 0, 0), (21, .bastore, 1, 0, 0, 0, 0), (22, .iconst 0, 1, 0, 0, 0, 0), (23, .istore_n 2, 1, 0, 0, 0, 0), (24, .iconst 0, 1, 0, 0, 0, 0), (25, .istore_n 3, 1, 0, 0, 0, 0), (26, .iload_n 3, 1, 0, 0, 0, 0), (27, .aload_n 0, 1, 0, 0, 0, 0), (28, .getfield 9, 3, 5, 0, 145, 0), (31, .arraylength, 1, 0, 0, 0, 0), (32, .if_icmp .ge 56, 3, 88, 0, 0, 0), (35, .aload_n 0, 1, 0, 0, 0, 0), (36, .getfield 9, 3, 5, 0, 145, 0), (39, .iload_n 3, 1, 0, 0, 0, 0), (40, .iaload, 1, 0, 0, 0, 0), (41, .bipush 100, 2, 0, 0, 0, 0), (43, .iload_n 1, 1, 0, 0, 0, 0), (44, .iadd, 1, 0, 0, 0, 0), (45, .if_icmp .ne 37, 3, 82, 0, 0, 0), (48, .aload_n 0, 1, 0, 0, 0, 0), (49, .getfield 9, 3, 5, 0, 145, 0), (52, .iload_n 3, 1, 0, 0, 0, 0), (53, .sipush 200, 3, 0, 0, 0, 0), (56, .iload_n 1, 1, 0, 0, 0, 0), (57, .iadd, 1, 0, 0, 0, 0), (58, .iastore, 1, 0, 0, 0, 0), (59, .iload_n 2, 1, 0, 0, 0, 0), (60, .aload_n 0, 1, 0, 0, 0, 0)]
def zco62_1 : List zI := [(61, .iload_n 3, 1, 0, 0, 0, 0), (62, .bipush 20, 2, 0, 0, 0, 0), (64, .irem, 1, 0, 0, 0, 0), (65, .iload_n 3, 1, 0, 0, 0, 0), (66, .bipush 20, 2, 0, 0, 0, 0), (68, .idiv, 1, 0, 0, 0, 0), (69, .invokevirtual 68, 3, 63, 2, 552, 0), (72, .ifCond .eq 7, 3, 79, 0, 0, 0), (75, .iconst 1, 1, 0, 0, 0, 0), (76, .goto 4, 3, 80, 0, 0, 0), (79, .iconst 0, 1, 0, 0, 0, 0), (80, .iadd, 1, 0, 0, 0, 0), (81, .istore_n 2, 1, 0, 0, 0, 0), (82, .iinc 3 1, 3, 0, 0, 0, 0), (85, .goto (-59), 3, 26, 0, 0, 0), (88, .iload_n 2, 1, 0, 0, 0, 0), (89, .ireturn, 1, 0, 0, 0, 0)]
def zco62 : List zI := zco62_0 ++ (zco62_1)
def zco63_0 : List zI := [(0, .aconst_null, 1, 0, 0, 0, 0), (1, .astore_n 3, 1, 0, 0, 0, 0), (2, .aconst_null, 1, 0, 0, 0, 0), (3, .astore 4, 2, 0, 0, 0, 0), (5, .iconst 0, 1, 0, 0, 0, 0), (6, .istore 5, 2, 0, 0, 0, 0), (8, .iload 5, 2, 0, 0, 0, 0), (10, .aload_n 0, 1, 0, 0, 0, 0), (11, .getfield 22, 3, 5, 2, 147, 0), (14, .invokevirtual 36, 3, 14, 0, 300, 0), (17, .if_icmp .ge 63, 3, 80, 0, 0, 0), (20, .aload 4, 2, 0, 0, 0, 0), (22, .ifnonnull 58, 3, 80, 0, 0, 0), (25, .aload_n 0, 1, 0, 0, 0, 0), (26, .getfield 22, 3, 5, 2, 147, 0), (29, .iload 5, 2, 0, 0, 0, 0), (31, .invokevirtual 40, 3, 51, 1, 503, 0), (34, .checkcast 44, 3, 2, 0, 301, 0), (37, .astore 6, 2, 0, 0, 0, 0), (39, .aload 6, 2, 0, 0, 0, 0), (41, .iload_n 1, 1, 0, 0, 0, 0), (42, .iload_n 2, 1, 0, 0, 0, 0), (43, .iconst 1, 1, 0, 0, 0, 0), (44, .iconst 1, 1, 0, 0, 0, 0), (45, .invokevirtual 71, 3, 57, 4, 528, 0), (48, .ifCond .eq 26, 3, 74, 0, 0, 0), (51, .aload_n 3, 1, 0, 0, 0, 0), (52, .ifnonnull 7, 3, 59, 0, 0, 0), (55, .aconst_null, 1, 0, 0, 0, 0), (56, .goto 5, 3, 61, 0, 0, 0), (59, .aload 6, 2, 0, 0, 0, 0), (61, .astore 4, 2, 0, 0, 0, 0), (63, .aload_n 3, 1, 0, 0, 0, 0), (64, .ifnonnull 8, 3, 72, 0, 0, 0), (67, .aload 6, 2, 0, 0, 0, 0), (69, .goto 4, 3, 73, 0, 0, 0), (72, .aload_n 3, 1, 0, 0, 0, 0), (73, .astore_n 3, 1, 0, 0, 0, 0), (74, .iinc 5 1, 3, 0, 0, 0, 0), (77, .goto (-69), 3, 8, 0, 0, 0)]
def zco63_1 : List zI := [(80, .aload_n 3, 1, 0, 0, 0, 0), (81, .ifnonnull 5, 3, 86, 0, 0, 0), (84, .iconst 0, 1, 0, 0, 0, 0), (85, .ireturn, 1, 0, 0, 0, 0), (86, .aload 4, 2, 0, 0, 0, 0), (88, .ifnonnull 16, 3, 104, 0, 0, 0), (91, .aload_n 3, 1, 0, 0, 0, 0), (92, .dup, 1, 0, 0, 0, 0), (93, .getfield 75, 3, 2, 5, 322, 0), (96, .iconst 2, 1, 0, 0, 0, 0), (97, .iadd, 1, 0, 0, 0, 0), (98, .putfield 75, 3, 2, 5, 322, 0), (101, .goto 24, 3, 125, 0, 0, 0), (104, .aload_n 3, 1, 0, 0, 0, 0), (105, .dup, 1, 0, 0, 0, 0), (106, .getfield 75, 3, 2, 5, 322, 0), (109, .iconst 1, 1, 0, 0, 0, 0), (110, .iadd, 1, 0, 0, 0, 0), (111, .putfield 75, 3, 2, 5, 322, 0), (114, .aload 4, 2, 0, 0, 0, 0), (116, .dup, 1, 0, 0, 0, 0), (117, .getfield 75, 3, 2, 5, 322, 0), (120, .iconst 1, 1, 0, 0, 0, 0), (121, .iadd, 1, 0, 0, 0, 0), (122, .putfield 75, 3, 2, 5, 322, 0), (125, .iconst 1, 1, 0, 0, 0, 0), (126, .ireturn, 1, 0, 0, 0, 0)]
def zco63 : List zI := zco63_0 ++ (zco63_1)
def zco64 : List zI := [(0, .iload_n 1, 1, 0, 0, 0, 0), (1, .iload_n 2, 1, 0, 0, 0, 0), (2, .invokestatic 54, 3, 26, 2, 493, 0), (5, .ifCond .ne 7, 3, 12, 0, 0, 0), (8, .sipush (-1002), 3, 0, 0, 0, 0), (11, .ireturn, 1, 0, 0, 0, 0), (12, .aload_n 0, 1, 0, 0, 0, 0), (13, .getfield 19, 3, 8, 1, 220, 0), (16, .getfield 31, 3, 3, 0, 183, 0), (19, .getfield 117, 3, 5, 4, 154, 0), (22, .istore_n 3, 1, 0, 0, 0, 0), (23, .aload_n 0, 1, 0, 0, 0, 0), (24, .getfield 19, 3, 8, 1, 220, 0), (27, .getfield 31, 3, 3, 0, 183, 0), (30, .iload_n 2, 1, 0, 0, 0, 0), (31, .bipush 20, 2, 0, 0, 0, 0), (33, .imul, 1, 0, 0, 0, 0), (34, .iload_n 1, 1, 0, 0, 0, 0), (35, .iadd, 1, 0, 0, 0, 0), (36, .putfield 117, 3, 5, 4, 154, 0), (39, .iload_n 3, 1, 0, 0, 0, 0), (40, .ireturn, 1, 0, 0, 0, 0)]
def zco65 : List zI := [(0, .iload_n 1, 1, 0, 0, 0, 0), (1, .ifCond .lt 9, 3, 10, 0, 0, 0), (4, .iload_n 1, 1, 0, 0, 0, 0), (5, .ldc 120, 2, 0, 0, 564, 1000000), (7, .if_icmp .le 7, 3, 14, 0, 0, 0), (10, .sipush (-1002), 3, 0, 0, 0, 0), (13, .ireturn, 1, 0, 0, 0, 0), (14, .aload_n 0, 1, 0, 0, 0, 0), (15, .getfield 19, 3, 8, 1, 220, 0), (18, .getfield 121, 3, 3, 1, 185, 0), (21, .iload_n 1, 1, 0, 0, 0, 0), (22, .invokevirtual 125, 3, 66, 1, 565, 0), (25, .ireturn, 1, 0, 0, 0, 0)]
def zco66 : List zI := [(0, .aload_n 0, 1, 0, 0, 0, 0), (1, .getfield 15, 3, 4, 1, 174, 0), (4, .aload_n 0, 1, 0, 0, 0, 0), (5, .getfield 9, 3, 4, 0, 173, 0), (8, .arraylength, 1, 0, 0, 0, 0), (9, .if_icmp .lt 7, 3, 16, 0, 0, 0), (12, .sipush (-1004), 3, 0, 0, 0, 0), (15, .ireturn, 1, 0, 0, 0, 0), (16, .aload_n 0, 1, 0, 0, 0, 0), (17, .getfield 15, 3, 4, 1, 174, 0), (20, .istore_n 2, 1, 0, 0, 0, 0), (21, .aload_n 0, 1, 0, 0, 0, 0), (22, .getfield 9, 3, 4, 0, 173, 0), (25, .iload_n 2, 1, 0, 0, 0, 0), (26, .iload_n 1, 1, 0, 0, 0, 0), (27, .iastore, 1, 0, 0, 0, 0), (28, .aload_n 0, 1, 0, 0, 0, 0), (29, .dup, 1, 0, 0, 0, 0), (30, .getfield 15, 3, 4, 1, 174, 0), (33, .iconst 1, 1, 0, 0, 0, 0), (34, .iadd, 1, 0, 0, 0, 0), (35, .putfield 15, 3, 4, 1, 174, 0), (38, .iload_n 2, 1, 0, 0, 0, 0), (39, .ireturn, 1, 0, 0, 0, 0)]
def zco67 : List zI := [(0, .aload_n 0, 1, 0, 0, 0, 0), (1, .getfield 19, 3, 8, 1, 220, 0), (4, .getfield 121, 3, 3, 1, 185, 0), (7, .iload_n 1, 1, 0, 0, 0, 0), (8, .invokevirtual 130, 3, 68, 1, 573, 0), (11, .ifCond .ne 7, 3, 18, 0, 0, 0), (14, .sipush (-1001), 3, 0, 0, 0, 0), (17, .ireturn, 1, 0, 0, 0, 0), (18, .iload_n 2, 1, 0, 0, 0, 0), (19, .ldc 133, 2, 0, 0, 577, (-1000000)), (21, .if_icmp .lt 9, 3, 30, 0, 0, 0), (24, .iload_n 2, 1, 0, 0, 0, 0), (25, .ldc 120, 2, 0, 0, 564, 1000000), (27, .if_icmp .le 7, 3, 34, 0, 0, 0), (30, .sipush (-1002), 3, 0, 0, 0, 0), (33, .ireturn, 1, 0, 0, 0, 0), (34, .aload_n 0, 1, 0, 0, 0, 0), (35, .getfield 19, 3, 8, 1, 220, 0), (38, .getfield 121, 3, 3, 1, 185, 0), (41, .iload_n 1, 1, 0, 0, 0, 0), (42, .invokevirtual 134, 3, 69, 1, 578, 0), (45, .iload_n 2, 1, 0, 0, 0, 0), (46, .iadd, 1, 0, 0, 0, 0), (47, .istore_n 3, 1, 0, 0, 0, 0), (48, .iload_n 3, 1, 0, 0, 0, 0), (49, .ifCond .lt 9, 3, 58, 0, 0, 0), (52, .iload_n 3, 1, 0, 0, 0, 0), (53, .ldc 120, 2, 0, 0, 564, 1000000), (55, .if_icmp .le 7, 3, 62, 0, 0, 0), (58, .sipush (-1002), 3, 0, 0, 0, 0), (61, .ireturn, 1, 0, 0, 0, 0), (62, .aload_n 0, 1, 0, 0, 0, 0), (63, .getfield 19, 3, 8, 1, 220, 0), (66, .getfield 121, 3, 3, 1, 185, 0), (69, .iload_n 1, 1, 0, 0, 0, 0), (70, .iload_n 3, 1, 0, 0, 0, 0), (71, .invokevirtual 137, 3, 70, 2, 583, 0), (74, .iload_n 3, 1, 0, 0, 0, 0), (75, .ireturn, 1, 0, 0, 0, 0)]
def zco68 : List zI := [(0, .iload_n 1, 1, 0, 0, 0, 0), (1, .ifCond .lt 24, 3, 25, 0, 0, 0), (4, .iload_n 1, 1, 0, 0, 0, 0), (5, .aload_n 0, 1, 0, 0, 0, 0), (6, .getfield 15, 3, 4, 1, 174, 0), (9, .if_icmp .ge 16, 3, 25, 0, 0, 0), (12, .iload_n 1, 1, 0, 0, 0, 0), (13, .aload_n 0, 1, 0, 0, 0, 0), (14, .getfield 9, 3, 4, 0, 173, 0), (17, .arraylength, 1, 0, 0, 0, 0), (18, .if_icmp .ge 7, 3, 25, 0, 0, 0), (21, .iconst 1, 1, 0, 0, 0, 0), (22, .goto 4, 3, 26, 0, 0, 0), (25, .iconst 0, 1, 0, 0, 0, 0), (26, .ireturn, 1, 0, 0, 0, 0)]
def zco69 : List zI := [(0, .aload_n 0, 1, 0, 0, 0, 0), (1, .iload_n 1, 1, 0, 0, 0, 0), (2, .invokevirtual 19, 3, 68, 1, 582, 0), (5, .ifCond .eq 12, 3, 17, 0, 0, 0), (8, .aload_n 0, 1, 0, 0, 0, 0), (9, .getfield 9, 3, 4, 0, 173, 0), (12, .iload_n 1, 1, 0, 0, 0, 0), (13, .iaload, 1, 0, 0, 0, 0), (14, .goto 4, 3, 18, 0, 0, 0), (17, .iconst 0, 1, 0, 0, 0, 0), (18, .ireturn, 1, 0, 0, 0, 0)]
def zco70 : List zI := [(0, .aload_n 0, 1, 0, 0, 0, 0), (1, .iload_n 1, 1, 0, 0, 0, 0), (2, .invokevirtual 19, 3, 68, 1, 582, 0), (5, .ifCond .eq 10, 3, 15, 0, 0, 0), (8, .aload_n 0, 1, 0, 0, 0, 0), (9, .getfield 9, 3, 4, 0, 173, 0), (12, .iload_n 1, 1, 0, 0, 0, 0), (13, .iload_n 2, 1, 0, 0, 0, 0), (14, .iastore, 1, 0, 0, 0, 0), (15, .return_, 1, 0, 0, 0, 0)]
def zco71_0 : List zI := [(0, .aload_n 0, 1, 0, 0, 0, 0), (1, .getfield 19, 3, 8, 1, 220, 0), (4, .getfield 31, 3, 3, 0, 183, 0), (7, .iload_n 1, 1, 0, 0, 0, 0), (8, .invokevirtual 62, 3, 50, 1, 499, 0), (11, .astore 4, 2, 0, 0, 0, 0), (13, .aload 4, 2, 0, 0, 0, 0), (15, .ifnull 17, 3, 32, 0, 0, 0), (18, .aload_n 0, 1, 0, 0, 0, 0), (19, .getfield 19, 3, 8, 1, 220, 0), (22, .getfield 121, 3, 3, 1, 185, 0), (25, .iload_n 2, 1, 0, 0, 0, 0), (26, .invokevirtual 130, 3, 68, 1, 573, 0), (29, .ifCond .ne 7, 3, 36, 0, 0, 0), (32, .sipush (-1001), 3, 0, 0, 0, 0), (35, .ireturn, 1, 0, 0, 0, 0), (36, .iload_n 3, 1, 0, 0, 0, 0), (37, .iconst 1, 1, 0, 0, 0, 0), (38, .if_icmp .lt 9, 3, 47, 0, 0, 0), (41, .iload_n 3, 1, 0, 0, 0, 0), (42, .ldc 120, 2, 0, 0, 564, 1000000), (44, .if_icmp .le 7, 3, 51, 0, 0, 0), (47, .sipush (-1002), 3, 0, 0, 0, 0), (50, .ireturn, 1, 0, 0, 0, 0), (51, .aload 4, 2, 0, 0, 0, 0), (53, .getfield 74, 3, 2, 4, 320, 0), (56, .ifCond .ne 12, 3, 68, 0, 0, 0), (59, .aload 4, 2, 0, 0, 0, 0), (61, .getfield 71, 3, 2, 7, 327, 0), (64, .iconst (-1), 1, 0, 0, 0, 0), (65, .if_icmp .eq 7, 3, 72, 0, 0, 0), (68, .sipush (-1003), 3, 0, 0, 0, 0), (71, .ireturn, 1, 0, 0, 0, 0), (72, .aload 4, 2, 0, 0, 0, 0), (74, .iload_n 2, 1, 0, 0, 0, 0), (75, .iload_n 3, 1, 0, 0, 0, 0), (76, .invokevirtual 141, 3, 72, 2, 591, 0), (79, .aload 4, 2, 0, 0, 0, 0), (81, .getfield 144, 3, 2, 6, 325, 0), (84, .invokevirtual 45, 3, 14, 0, 484, 0)]
def zco71_1 : List zI := [(87, .ireturn, 1, 0, 0, 0, 0)]
def zco71 : List zI := zco71_0 ++ (zco71_1)
def zco72 : List zI := [(0, .aload_n 0, 1, 0, 0, 0, 0), (1, .getfield 12, 3, 2, 6, 323, 0), (4, .invokevirtual 47, 3, 14, 0, 595, 0), (7, .iconst 1, 1, 0, 0, 0, 0), (8, .isub, 1, 0, 0, 0, 0), (9, .istore_n 3, 1, 0, 0, 0, 0), (10, .iload_n 3, 1, 0, 0, 0, 0), (11, .ifCond .lt 36, 3, 47, 0, 0, 0), (14, .aload_n 0, 1, 0, 0, 0, 0), (15, .getfield 12, 3, 2, 6, 323, 0), (18, .iload_n 3, 1, 0, 0, 0, 0), (19, .invokevirtual 51, 3, 51, 1, 596, 0), (22, .checkcast 55, 3, 1, 0, 597, 0), (25, .getfield 57, 3, 1, 0, 606, 0), (28, .iload_n 1, 1, 0, 0, 0, 0), (29, .if_icmp .ne 12, 3, 41, 0, 0, 0), (32, .aload_n 0, 1, 0, 0, 0, 0), (33, .getfield 12, 3, 2, 6, 323, 0), (36, .iload_n 3, 1, 0, 0, 0, 0), (37, .invokevirtual 60, 3, 43, 1, 598, 0), (40, .pop, 1, 0, 0, 0, 0), (41, .iinc 3 (-1), 3, 0, 0, 0, 0), (44, .goto (-34), 3, 10, 0, 0, 0), (47, .aload_n 0, 1, 0, 0, 0, 0), (48, .getfield 12, 3, 2, 6, 323, 0), (51, .new 55, 3, 1, 0, 597, 0), (54, .dup, 1, 0, 0, 0, 0), (55, .iload_n 1, 1, 0, 0, 0, 0), (56, .iload_n 2, 1, 0, 0, 0, 0), (57, .invokespecial 63, 3, 73, 2, 600, 0), (60, .invokevirtual 66, 3, 29, 1, 614, 0), (63, .pop, 1, 0, 0, 0, 0), (64, .return_, 1, 0, 0, 0, 0)]
def zco73 : List zI := [(0, .aload_n 0, 1, 0, 0, 0, 0), (1, .invokespecial 1, 3, 1, 0, 603, 0), (4, .aload_n 0, 1, 0, 0, 0, 0), (5, .iload_n 1, 1, 0, 0, 0, 0), (6, .putfield 7, 3, 1, 0, 604, 0), (9, .aload_n 0, 1, 0, 0, 0, 0), (10, .iload_n 2, 1, 0, 0, 0, 0), (11, .putfield 13, 3, 1, 1, 607, 0), (14, .return_, 1, 0, 0, 0, 0)]
def zco74 : List zI := [(0, .aload_n 0, 1, 0, 0, 0, 0), (1, .getfield 19, 3, 8, 1, 220, 0), (4, .getfield 31, 3, 3, 0, 183, 0), (7, .iload_n 1, 1, 0, 0, 0, 0), (8, .invokevirtual 62, 3, 50, 1, 499, 0), (11, .astore_n 2, 1, 0, 0, 0, 0), (12, .aload_n 2, 1, 0, 0, 0, 0), (13, .ifnonnull 7, 3, 20, 0, 0, 0), (16, .sipush (-1001), 3, 0, 0, 0, 0), (19, .ireturn, 1, 0, 0, 0, 0), (20, .aload_n 2, 1, 0, 0, 0, 0), (21, .getfield 144, 3, 2, 6, 325, 0), (24, .invokevirtual 147, 3, 75, 0, 619, 0), (27, .ifCond .eq 9, 3, 36, 0, 0, 0), (30, .sipush (-1003), 3, 0, 0, 0, 0), (33, .goto 11, 3, 44, 0, 0, 0), (36, .aload_n 0, 1, 0, 0, 0, 0), (37, .getfield 19, 3, 8, 1, 220, 0), (40, .aload_n 2, 1, 0, 0, 0, 0), (41, .invokevirtual 151, 3, 76, 1, 623, 0), (44, .ireturn, 1, 0, 0, 0, 0)]
def zco75 : List zI := [(0, .aload_n 0, 1, 0, 0, 0, 0), (1, .getfield 48, 3, 0, 2, 130, 0), (4, .ifCond .ne 7, 3, 11, 0, 0, 0), (7, .iconst 1, 1, 0, 0, 0, 0), (8, .goto 4, 3, 12, 0, 0, 0), (11, .iconst 0, 1, 0, 0, 0, 0), (12, .ireturn, 1, 0, 0, 0, 0)]
def zco76_0 : List zI := [(0, .aload_n 0, 1, 0, 0, 0, 0), (1, .aload_n 1, 1, 0, 0, 0, 0), (2, .invokevirtual 44, 3, 77, 1, 627, 0), (5, .astore_n 2, 1, 0, 0, 0, 0), (6, .aload_n 1, 1, 0, 0, 0, 0), (7, .getfield 48, 3, 2, 6, 324, 0), (10, .invokevirtual 52, 3, 78, 0, 635, 0), (13, .aload_n 2, 1, 0, 0, 0, 0), (14, .ifnonnull 5, 3, 19, 0, 0, 0), (17, .iconst (-1), 1, 0, 0, 0, 0), (18, .ireturn, 1, 0, 0, 0, 0), (19, .aload_n 2, 1, 0, 0, 0, 0), (20, .getfield 57, 3, 1, 1, 608, 0), (23, .iconst 4, 1, 0, 0, 0, 0), (24, .idiv, 1, 0, 0, 0, 0), (25, .istore_n 3, 1, 0, 0, 0, 0), (26, .aload_n 0, 1, 0, 0, 0, 0), (27, .getfield 21, 3, 3, 1, 184, 0), (30, .aload_n 2, 1, 0, 0, 0, 0), (31, .getfield 62, 3, 1, 0, 605, 0), (34, .iload_n 3, 1, 0, 0, 0, 0), (35, .invokevirtual 65, 3, 79, 2, 639, 0), (38, .pop, 1, 0, 0, 0, 0), (39, .aload_n 0, 1, 0, 0, 0, 0), (40, .dup, 1, 0, 0, 0, 0), (41, .getfield 69, 3, 3, 6, 194, 0), (44, .iload_n 3, 1, 0, 0, 0, 0), (45, .iadd, 1, 0, 0, 0, 0), (46, .putfield 69, 3, 3, 6, 194, 0), (49, .aload_n 1, 1, 0, 0, 0, 0), (50, .aload_n 2, 1, 0, 0, 0, 0), (51, .getfield 57, 3, 1, 1, 608, 0), (54, .iload_n 3, 1, 0, 0, 0, 0), (55, .isub, 1, 0, 0, 0, 0), (56, .aload_n 0, 1, 0, 0, 0, 0), (57, .getfield 37, 3, 3, 2, 186, 0), (60, .bipush 100, 2, 0, 0, 0, 0), (62, .iadd, 1, 0, 0, 0, 0), (63, .invokevirtual 72, 3, 80, 2, 645, 0), (66, .aload_n 0, 1, 0, 0, 0, 0)]
def zco76_1 : List zI := [(67, .aload_n 1, 1, 0, 0, 0, 0), (68, .aload_n 2, 1, 0, 0, 0, 0), (69, .getfield 62, 3, 1, 0, 605, 0), (72, .invokevirtual 75, 3, 81, 2, 649, 0), (75, .aload_n 2, 1, 0, 0, 0, 0), (76, .getfield 62, 3, 1, 0, 605, 0), (79, .ireturn, 1, 0, 0, 0, 0)]
def zco76 : List zI := zco76_0 ++ (zco76_1)
def zco77_0 : List zI := [(0, .aconst_null, 1, 0, 0, 0, 0), (1, .astore_n 2, 1, 0, 0, 0, 0), (2, .iconst 0, 1, 0, 0, 0, 0), (3, .istore_n 3, 1, 0, 0, 0, 0), (4, .iload_n 3, 1, 0, 0, 0, 0), (5, .aload_n 1, 1, 0, 0, 0, 0), (6, .getfield 48, 3, 2, 6, 324, 0), (9, .invokevirtual 79, 3, 14, 0, 631, 0), (12, .if_icmp .ge 75, 3, 87, 0, 0, 0), (15, .aload_n 1, 1, 0, 0, 0, 0), (16, .getfield 48, 3, 2, 6, 324, 0), (19, .iload_n 3, 1, 0, 0, 0, 0), (20, .invokevirtual 83, 3, 51, 1, 632, 0), (23, .checkcast 58, 3, 1, 0, 633, 0), (26, .astore 4, 2, 0, 0, 0, 0), (28, .aload_n 0, 1, 0, 0, 0, 0), (29, .getfield 21, 3, 3, 1, 184, 0), (32, .aload 4, 2, 0, 0, 0, 0), (34, .getfield 62, 3, 1, 0, 605, 0), (37, .invokevirtual 87, 3, 69, 1, 634, 0), (40, .aload 4, 2, 0, 0, 0, 0), (42, .getfield 57, 3, 1, 1, 608, 0), (45, .iconst 4, 1, 0, 0, 0, 0), (46, .idiv, 1, 0, 0, 0, 0), (47, .if_icmp .lt 7, 3, 54, 0, 0, 0), (50, .iconst 1, 1, 0, 0, 0, 0), (51, .goto 4, 3, 55, 0, 0, 0), (54, .iconst 0, 1, 0, 0, 0, 0), (55, .istore 5, 2, 0, 0, 0, 0), (57, .iload 5, 2, 0, 0, 0, 0), (59, .ifCond .eq 22, 3, 81, 0, 0, 0), (62, .aload_n 2, 1, 0, 0, 0, 0), (63, .ifnull 15, 3, 78, 0, 0, 0), (66, .aload 4, 2, 0, 0, 0, 0), (68, .getfield 57, 3, 1, 1, 608, 0), (71, .aload_n 2, 1, 0, 0, 0, 0), (72, .getfield 57, 3, 1, 1, 608, 0), (75, .if_icmp .le 6, 3, 81, 0, 0, 0), (78, .aload 4, 2, 0, 0, 0, 0), (80, .astore_n 2, 1, 0, 0, 0, 0)]
def zco77_1 : List zI := [(81, .iinc 3 1, 3, 0, 0, 0, 0), (84, .goto (-80), 3, 4, 0, 0, 0), (87, .aload_n 2, 1, 0, 0, 0, 0), (88, .areturn, 1, 0, 0, 0, 0)]
def zco77 : List zI := zco77_0 ++ (zco77_1)
def zco78 : List zI := [(0, .aload_n 0, 1, 0, 0, 0, 0), (1, .dup, 1, 0, 0, 0, 0), (2, .getfield 63, 3, 0, 0, 132, 1), (5, .iconst 1, 1, 0, 0, 0, 0), (6, .iadd, 1, 0, 0, 0, 0), (7, .putfield 63, 3, 0, 0, 132, 1), (10, .aload_n 0, 1, 0, 0, 0, 0), (11, .getfield 9, 3, 0, 1, 129, 0), (14, .astore_n 1, 1, 0, 0, 0, 0), (15, .aload_n 0, 1, 0, 0, 0, 0), (16, .getfield 48, 3, 0, 2, 130, 0), (19, .istore_n 2, 1, 0, 0, 0, 0), (20, .aload_n 0, 1, 0, 0, 0, 0), (21, .iconst 0, 1, 0, 0, 0, 0), (22, .dup_x1, 1, 0, 0, 0, 0), (23, .putfield 48, 3, 0, 2, 130, 0), (26, .istore_n 3, 1, 0, 0, 0, 0), (27, .iload_n 3, 1, 0, 0, 0, 0), (28, .iload_n 2, 1, 0, 0, 0, 0), (29, .if_icmp .ge 13, 3, 42, 0, 0, 0), (32, .aload_n 1, 1, 0, 0, 0, 0), (33, .iload_n 3, 1, 0, 0, 0, 0), (34, .aconst_null, 1, 0, 0, 0, 0), (35, .aastore, 1, 0, 0, 0, 0), (36, .iinc 3 1, 3, 0, 0, 0, 0), (39, .goto (-12), 3, 27, 0, 0, 0), (42, .return_, 1, 0, 0, 0, 0)]
def zco79 : List zI := [(0, .aload_n 0, 1, 0, 0, 0, 0), (1, .iload_n 1, 1, 0, 0, 0, 0), (2, .invokevirtual 23, 3, 69, 1, 643, 0), (5, .iload_n 2, 1, 0, 0, 0, 0), (6, .if_icmp .ge 5, 3, 11, 0, 0, 0), (9, .iconst 0, 1, 0, 0, 0, 0), (10, .ireturn, 1, 0, 0, 0, 0), (11, .aload_n 0, 1, 0, 0, 0, 0), (12, .iload_n 1, 1, 0, 0, 0, 0), (13, .aload_n 0, 1, 0, 0, 0, 0), (14, .iload_n 1, 1, 0, 0, 0, 0), (15, .invokevirtual 23, 3, 69, 1, 643, 0), (18, .iload_n 2, 1, 0, 0, 0, 0), (19, .isub, 1, 0, 0, 0, 0), (20, .invokevirtual 27, 3, 70, 2, 644, 0), (23, .iconst 1, 1, 0, 0, 0, 0), (24, .ireturn, 1, 0, 0, 0, 0)]
def zco80 : List zI := [(0, .aload_n 0, 1, 0, 0, 0, 0), (1, .iload_n 1, 1, 0, 0, 0, 0), (2, .putfield 85, 3, 2, 11, 338, 0), (5, .aload_n 0, 1, 0, 0, 0, 0), (6, .iload_n 1, 1, 0, 0, 0, 0), (7, .iconst 3, 1, 0, 0, 0, 0), (8, .idiv, 1, 0, 0, 0, 0), (9, .putfield 88, 3, 2, 13, 343, 0), (12, .aload_n 0, 1, 0, 0, 0, 0), (13, .iconst 3, 1, 0, 0, 0, 0), (14, .putfield 91, 3, 2, 12, 342, 0), (17, .aload_n 0, 1, 0, 0, 0, 0), (18, .iload_n 2, 1, 0, 0, 0, 0), (19, .putfield 94, 3, 2, 14, 346, 0), (22, .return_, 1, 0, 0, 0, 0)]
def zco81 : List zI := [(0, .iload_n 2, 1, 0, 0, 0, 0), (1, .iconst (-1), 1, 0, 0, 0, 0), (2, .if_icmp .ne 7, 3, 9, 0, 0, 0), (5, .aload_n 1, 1, 0, 0, 0, 0), (6, .invokevirtual 25, 3, 82, 0, 653, 0), (9, .aload_n 0, 1, 0, 0, 0, 0), (10, .getfield 30, 3, 3, 8, 198, 0), (13, .sipush 1024, 3, 0, 0, 0, 0), (16, .if_icmp .ge 7, 3, 23, 0, 0, 0), (19, .aload_n 1, 1, 0, 0, 0, 0), (20, .invokevirtual 34, 3, 83, 0, 657, 0), (23, .aload_n 1, 1, 0, 0, 0, 0), (24, .iload_n 2, 1, 0, 0, 0, 0), (25, .aload_n 0, 1, 0, 0, 0, 0), (26, .getfield 37, 3, 3, 2, 186, 0), (29, .invokevirtual 40, 3, 85, 2, 680, 0), (32, .aload_n 0, 1, 0, 0, 0, 0), (33, .dup, 1, 0, 0, 0, 0), (34, .getfield 30, 3, 3, 8, 198, 0), (37, .iconst 1, 1, 0, 0, 0, 0), (38, .iadd, 1, 0, 0, 0, 0), (39, .putfield 30, 3, 3, 8, 198, 0), (42, .return_, 1, 0, 0, 0, 0)]
def zco82 : List zI := [(0, .aload_n 0, 1, 0, 0, 0, 0), (1, .iconst 0, 1, 0, 0, 0, 0), (2, .putfield 85, 3, 2, 11, 338, 0), (5, .aload_n 0, 1, 0, 0, 0, 0), (6, .iconst 0, 1, 0, 0, 0, 0), (7, .putfield 91, 3, 2, 12, 342, 0), (10, .aload_n 0, 1, 0, 0, 0, 0), (11, .iconst 0, 1, 0, 0, 0, 0), (12, .putfield 100, 3, 2, 15, 349, 0), (15, .aload_n 0, 1, 0, 0, 0, 0), (16, .iconst (-1), 1, 0, 0, 0, 0), (17, .putfield 25, 3, 2, 16, 350, 0), (20, .return_, 1, 0, 0, 0, 0)]
def zco83 : List zI := [(0, .aload_n 0, 1, 0, 0, 0, 0), (1, .new 70, 3, 7, 0, 661, 0), (4, .dup, 1, 0, 0, 0, 0), (5, .aload_n 0, 1, 0, 0, 0, 0), (6, .getfield 18, 3, 2, 7, 326, 0), (9, .aload_n 0, 1, 0, 0, 0, 0), (10, .getfield 22, 3, 2, 8, 330, 0), (13, .aload_n 0, 1, 0, 0, 0, 0), (14, .getfield 72, 3, 2, 9, 332, 0), (17, .invokespecial 76, 3, 84, 3, 663, 0), (20, .putfield 72, 3, 2, 9, 332, 0), (23, .return_, 1, 0, 0, 0, 0)]
def zco84 : List zI := [(0, .aload_n 0, 1, 0, 0, 0, 0), (1, .invokespecial 1, 3, 1, 0, 666, 0), (4, .aload_n 0, 1, 0, 0, 0, 0), (5, .iload_n 1, 1, 0, 0, 0, 0), (6, .putfield 7, 3, 7, 0, 667, 0), (9, .aload_n 0, 1, 0, 0, 0, 0), (10, .iload_n 2, 1, 0, 0, 0, 0), (11, .putfield 13, 3, 7, 1, 669, 0), (14, .aload_n 0, 1, 0, 0, 0, 0), (15, .aload_n 3, 1, 0, 0, 0, 0), (16, .putfield 16, 3, 7, 2, 671, 0), (19, .return_, 1, 0, 0, 0, 0)]
def zco85 : List zI := [(0, .aload_n 0, 1, 0, 0, 0, 0), (1, .iload_n 1, 1, 0, 0, 0, 0), (2, .putfield 18, 3, 2, 7, 326, 0), (5, .aload_n 0, 1, 0, 0, 0, 0), (6, .iload_n 2, 1, 0, 0, 0, 0), (7, .putfield 22, 3, 2, 8, 330, 0), (10, .aload_n 0, 1, 0, 0, 0, 0), (11, .iconst 0, 1, 0, 0, 0, 0), (12, .putfield 79, 3, 2, 10, 333, 0), (15, .return_, 1, 0, 0, 0, 0)]
def zco86 : List zI := [(0, .aload_n 0, 1, 0, 0, 0, 0), (1, .getfield 19, 3, 8, 1, 220, 0), (4, .getfield 31, 3, 3, 0, 183, 0), (7, .iload_n 1, 1, 0, 0, 0, 0), (8, .invokevirtual 62, 3, 50, 1, 499, 0), (11, .astore_n 3, 1, 0, 0, 0, 0), (12, .aload_n 3, 1, 0, 0, 0, 0), (13, .ifnull 17, 3, 30, 0, 0, 0), (16, .aload_n 0, 1, 0, 0, 0, 0), (17, .getfield 19, 3, 8, 1, 220, 0), (20, .getfield 121, 3, 3, 1, 185, 0), (23, .iload_n 2, 1, 0, 0, 0, 0), (24, .invokevirtual 130, 3, 68, 1, 573, 0), (27, .ifCond .ne 7, 3, 34, 0, 0, 0), (30, .sipush (-1001), 3, 0, 0, 0, 0), (33, .ireturn, 1, 0, 0, 0, 0), (34, .aload_n 3, 1, 0, 0, 0, 0), (35, .getfield 71, 3, 2, 7, 327, 0), (38, .iconst (-1), 1, 0, 0, 0, 0), (39, .if_icmp .eq 11, 3, 50, 0, 0, 0), (42, .aload_n 3, 1, 0, 0, 0, 0), (43, .getfield 71, 3, 2, 7, 327, 0), (46, .iload_n 2, 1, 0, 0, 0, 0), (47, .if_icmp .ne 7, 3, 54, 0, 0, 0), (50, .sipush (-1003), 3, 0, 0, 0, 0), (53, .ireturn, 1, 0, 0, 0, 0), (54, .aload_n 0, 1, 0, 0, 0, 0), (55, .getfield 19, 3, 8, 1, 220, 0), (58, .aload_n 3, 1, 0, 0, 0, 0), (59, .iload_n 2, 1, 0, 0, 0, 0), (60, .invokevirtual 154, 3, 81, 2, 688, 0), (63, .iconst 1, 1, 0, 0, 0, 0), (64, .ireturn, 1, 0, 0, 0, 0)]
def zco87_0 : List zI := [(0, .aload_n 0, 1, 0, 0, 0, 0), (1, .getfield 19, 3, 8, 1, 220, 0), (4, .getfield 31, 3, 3, 0, 183, 0), (7, .iload_n 1, 1, 0, 0, 0, 0), (8, .invokevirtual 62, 3, 50, 1, 499, 0), (11, .astore 4, 2, 0, 0, 0, 0), (13, .aload 4, 2, 0, 0, 0, 0), (15, .ifnull 17, 3, 32, 0, 0, 0), (18, .aload_n 0, 1, 0, 0, 0, 0), (19, .getfield 19, 3, 8, 1, 220, 0), (22, .getfield 121, 3, 3, 1, 185, 0), (25, .iload_n 2, 1, 0, 0, 0, 0), (26, .invokevirtual 130, 3, 68, 1, 573, 0), (29, .ifCond .ne 7, 3, 36, 0, 0, 0), (32, .sipush (-1001), 3, 0, 0, 0, 0), (35, .ireturn, 1, 0, 0, 0, 0), (36, .iload_n 3, 1, 0, 0, 0, 0), (37, .aload_n 0, 1, 0, 0, 0, 0), (38, .getfield 19, 3, 8, 1, 220, 0), (41, .getfield 158, 3, 3, 2, 187, 0), (44, .if_icmp .lt 10, 3, 54, 0, 0, 0), (47, .iload_n 3, 1, 0, 0, 0, 0), (48, .sipush 9999, 3, 0, 0, 0, 0), (51, .if_icmp .le 7, 3, 58, 0, 0, 0), (54, .sipush (-1002), 3, 0, 0, 0, 0), (57, .ireturn, 1, 0, 0, 0, 0), (58, .aload 4, 2, 0, 0, 0, 0), (60, .getfield 74, 3, 2, 4, 320, 0), (63, .ifCond .eq 12, 3, 75, 0, 0, 0), (66, .aload 4, 2, 0, 0, 0, 0), (68, .getfield 71, 3, 2, 7, 327, 0), (71, .iconst (-1), 1, 0, 0, 0, 0), (72, .if_icmp .eq 7, 3, 79, 0, 0, 0), (75, .sipush (-1003), 3, 0, 0, 0, 0), (78, .ireturn, 1, 0, 0, 0, 0), (79, .aload 4, 2, 0, 0, 0, 0), (81, .iload_n 3, 1, 0, 0, 0, 0), (82, .putfield 161, 3, 2, 16, 352, 0), (85, .aload_n 0, 1, 0, 0, 0, 0), (86, .getfield 19, 3, 8, 1, 220, 0)]
def zco87_1 : List zI := [(89, .aload 4, 2, 0, 0, 0, 0), (91, .iload_n 2, 1, 0, 0, 0, 0), (92, .invokevirtual 154, 3, 81, 2, 688, 0), (95, .iconst 1, 1, 0, 0, 0, 0), (96, .ireturn, 1, 0, 0, 0, 0)]
def zco87 : List zI := zco87_0 ++ (zco87_1)
def zco88 : List zI := [(0, .iload_n 1, 1, 0, 0, 0, 0), (1, .ifCond .lt 9, 3, 10, 0, 0, 0), (4, .iload_n 1, 1, 0, 0, 0, 0), (5, .bipush 100, 2, 0, 0, 0, 0), (7, .if_icmp .le 7, 3, 14, 0, 0, 0), (10, .sipush (-1002), 3, 0, 0, 0, 0), (13, .ireturn, 1, 0, 0, 0, 0), (14, .aload_n 0, 1, 0, 0, 0, 0), (15, .getfield 19, 3, 8, 1, 220, 0), (18, .getfield 164, 3, 3, 3, 189, 0), (21, .istore_n 2, 1, 0, 0, 0, 0), (22, .aload_n 0, 1, 0, 0, 0, 0), (23, .getfield 19, 3, 8, 1, 220, 0), (26, .iload_n 1, 1, 0, 0, 0, 0), (27, .putfield 164, 3, 3, 3, 189, 0), (30, .iload_n 2, 1, 0, 0, 0, 0), (31, .ireturn, 1, 0, 0, 0, 0)]
def zco89 : List zI := [(0, .iload_n 1, 1, 0, 0, 0, 0), (1, .ifCond .lt 10, 3, 11, 0, 0, 0), (4, .iload_n 1, 1, 0, 0, 0, 0), (5, .sipush 1000, 3, 0, 0, 0, 0), (8, .if_icmp .le 7, 3, 15, 0, 0, 0), (11, .sipush (-1002), 3, 0, 0, 0, 0), (14, .ireturn, 1, 0, 0, 0, 0), (15, .aload_n 0, 1, 0, 0, 0, 0), (16, .getfield 19, 3, 8, 1, 220, 0), (19, .getfield 158, 3, 3, 2, 187, 0), (22, .iload_n 1, 1, 0, 0, 0, 0), (23, .iadd, 1, 0, 0, 0, 0), (24, .sipush 9999, 3, 0, 0, 0, 0), (27, .if_icmp .le 7, 3, 34, 0, 0, 0), (30, .sipush (-1003), 3, 0, 0, 0, 0), (33, .ireturn, 1, 0, 0, 0, 0), (34, .iconst 0, 1, 0, 0, 0, 0), (35, .istore_n 2, 1, 0, 0, 0, 0), (36, .iload_n 2, 1, 0, 0, 0, 0), (37, .iload_n 1, 1, 0, 0, 0, 0), (38, .if_icmp .ge 16, 3, 54, 0, 0, 0), (41, .aload_n 0, 1, 0, 0, 0, 0), (42, .getfield 19, 3, 8, 1, 220, 0), (45, .invokevirtual 167, 3, 90, 0, 701, 0), (48, .iinc 2 1, 3, 0, 0, 0, 0), (51, .goto (-15), 3, 36, 0, 0, 0), (54, .aload_n 0, 1, 0, 0, 0, 0), (55, .getfield 19, 3, 8, 1, 220, 0), (58, .getfield 158, 3, 3, 2, 187, 0), (61, .ireturn, 1, 0, 0, 0, 0)]
def zco90 : List zI := [(0, .aload_n 0, 1, 0, 0, 0, 0), (1, .invokevirtual 91, 3, 91, 0, 705, 0), (4, .aload_n 0, 1, 0, 0, 0, 0), (5, .getfield 37, 3, 3, 2, 186, 0), (8, .sipush 365, 3, 0, 0, 0, 0), (11, .irem, 1, 0, 0, 0, 0), (12, .sipush 364, 3, 0, 0, 0, 0), (15, .if_icmp .ne 11, 3, 26, 0, 0, 0), (18, .aload_n 0, 1, 0, 0, 0, 0), (19, .invokevirtual 94, 3, 95, 0, 723, 0), (22, .aload_n 0, 1, 0, 0, 0, 0), (23, .invokevirtual 97, 3, 97, 0, 732, 0), (26, .aload_n 0, 1, 0, 0, 0, 0), (27, .invokevirtual 100, 3, 100, 0, 745, 0), (30, .aload_n 0, 1, 0, 0, 0, 0), (31, .dup, 1, 0, 0, 0, 0), (32, .getfield 37, 3, 3, 2, 186, 0), (35, .iconst 1, 1, 0, 0, 0, 0), (36, .iadd, 1, 0, 0, 0, 0), (37, .putfield 37, 3, 3, 2, 186, 0), (40, .return_, 1, 0, 0, 0, 0)]
def zco91 : List zI := [(0, .iconst 0, 1, 0, 0, 0, 0), (1, .istore_n 1, 1, 0, 0, 0, 0), (2, .iload_n 1, 1, 0, 0, 0, 0), (3, .aload_n 0, 1, 0, 0, 0, 0), (4, .getfield 12, 3, 3, 0, 182, 0), (7, .getfield 103, 3, 5, 2, 150, 0), (10, .invokevirtual 79, 3, 14, 0, 631, 0), (13, .if_icmp .ge 47, 3, 60, 0, 0, 0), (16, .aload_n 0, 1, 0, 0, 0, 0), (17, .getfield 12, 3, 3, 0, 182, 0), (20, .getfield 103, 3, 5, 2, 150, 0), (23, .iload_n 1, 1, 0, 0, 0, 0), (24, .invokevirtual 83, 3, 51, 1, 632, 0), (27, .checkcast 26, 3, 2, 0, 709, 0), (30, .astore_n 2, 1, 0, 0, 0, 0), (31, .aload_n 2, 1, 0, 0, 0, 0), (32, .getfield 106, 3, 2, 12, 340, 0), (35, .ifCond .le 19, 3, 54, 0, 0, 0), (38, .aload_n 2, 1, 0, 0, 0, 0), (39, .getfield 109, 3, 2, 14, 344, 0), (42, .aload_n 0, 1, 0, 0, 0, 0), (43, .getfield 37, 3, 3, 2, 186, 0), (46, .if_icmp .gt 8, 3, 54, 0, 0, 0), (49, .aload_n 0, 1, 0, 0, 0, 0), (50, .aload_n 2, 1, 0, 0, 0, 0), (51, .invokevirtual 112, 3, 92, 1, 710, 0), (54, .iinc 1 1, 3, 0, 0, 0, 0), (57, .goto (-55), 3, 2, 0, 0, 0), (60, .return_, 1, 0, 0, 0, 0)]
def zco92 : List zI := [(0, .aload_n 1, 1, 0, 0, 0, 0), (1, .invokevirtual 116, 3, 93, 0, 714, 0), (4, .istore_n 2, 1, 0, 0, 0, 0), (5, .aload_n 0, 1, 0, 0, 0, 0), (6, .getfield 21, 3, 3, 1, 184, 0), (9, .aload_n 1, 1, 0, 0, 0, 0), (10, .getfield 119, 3, 2, 7, 328, 0), (13, .iload_n 2, 1, 0, 0, 0, 0), (14, .invokevirtual 65, 3, 79, 2, 639, 0), (17, .ifCond .eq 20, 3, 37, 0, 0, 0), (20, .aload_n 0, 1, 0, 0, 0, 0), (21, .dup, 1, 0, 0, 0, 0), (22, .getfield 69, 3, 3, 6, 194, 0), (25, .iload_n 2, 1, 0, 0, 0, 0), (26, .iadd, 1, 0, 0, 0, 0), (27, .putfield 69, 3, 3, 6, 194, 0), (30, .aload_n 1, 1, 0, 0, 0, 0), (31, .invokevirtual 122, 3, 94, 0, 718, 0), (34, .goto 33, 3, 67, 0, 0, 0), (37, .aload_n 0, 1, 0, 0, 0, 0), (38, .getfield 37, 3, 3, 2, 186, 0), (41, .aload_n 1, 1, 0, 0, 0, 0), (42, .getfield 109, 3, 2, 14, 344, 0), (45, .bipush 30, 2, 0, 0, 0, 0), (47, .iadd, 1, 0, 0, 0, 0), (48, .if_icmp .lt 19, 3, 67, 0, 0, 0), (51, .aload_n 0, 1, 0, 0, 0, 0), (52, .dup, 1, 0, 0, 0, 0), (53, .getfield 125, 3, 3, 4, 190, 0), (56, .iconst 1, 1, 0, 0, 0, 0), (57, .iadd, 1, 0, 0, 0, 0), (58, .putfield 125, 3, 3, 4, 190, 0), (61, .aload_n 0, 1, 0, 0, 0, 0), (62, .aload_n 1, 1, 0, 0, 0, 0), (63, .iconst (-1), 1, 0, 0, 0, 0), (64, .invokevirtual 75, 3, 81, 2, 649, 0), (67, .return_, 1, 0, 0, 0, 0)]
def zco93 : List zI := [(0, .aload_n 0, 1, 0, 0, 0, 0), (1, .getfield 91, 3, 2, 12, 342, 0), (4, .iconst 1, 1, 0, 0, 0, 0), (5, .if_icmp .ne 10, 3, 15, 0, 0, 0), (8, .aload_n 0, 1, 0, 0, 0, 0), (9, .getfield 85, 3, 2, 11, 338, 0), (12, .goto 7, 3, 19, 0, 0, 0), (15, .aload_n 0, 1, 0, 0, 0, 0), (16, .getfield 88, 3, 2, 13, 343, 0), (19, .ireturn, 1, 0, 0, 0, 0)]
def zco94 : List zI := [(0, .aload_n 0, 1, 0, 0, 0, 0), (1, .dup, 1, 0, 0, 0, 0), (2, .getfield 85, 3, 2, 11, 338, 0), (5, .aload_n 0, 1, 0, 0, 0, 0), (6, .invokevirtual 97, 3, 93, 0, 722, 0), (9, .isub, 1, 0, 0, 0, 0), (10, .putfield 85, 3, 2, 11, 338, 0), (13, .aload_n 0, 1, 0, 0, 0, 0), (14, .dup, 1, 0, 0, 0, 0), (15, .getfield 91, 3, 2, 12, 342, 0), (18, .iconst 1, 1, 0, 0, 0, 0), (19, .isub, 1, 0, 0, 0, 0), (20, .putfield 91, 3, 2, 12, 342, 0), (23, .aload_n 0, 1, 0, 0, 0, 0), (24, .dup, 1, 0, 0, 0, 0), (25, .getfield 94, 3, 2, 14, 346, 0), (28, .bipush 100, 2, 0, 0, 0, 0), (30, .iadd, 1, 0, 0, 0, 0), (31, .putfield 94, 3, 2, 14, 346, 0), (34, .return_, 1, 0, 0, 0, 0)]
def zco95 : List zI := [(0, .iconst 0, 1, 0, 0, 0, 0), (1, .istore_n 1, 1, 0, 0, 0, 0), (2, .iload_n 1, 1, 0, 0, 0, 0), (3, .aload_n 0, 1, 0, 0, 0, 0), (4, .getfield 12, 3, 3, 0, 182, 0), (7, .getfield 103, 3, 5, 2, 150, 0), (10, .invokevirtual 79, 3, 14, 0, 631, 0), (13, .if_icmp .ge 37, 3, 50, 0, 0, 0), (16, .aload_n 0, 1, 0, 0, 0, 0), (17, .getfield 12, 3, 3, 0, 182, 0), (20, .getfield 103, 3, 5, 2, 150, 0), (23, .iload_n 1, 1, 0, 0, 0, 0), (24, .invokevirtual 83, 3, 51, 1, 632, 0), (27, .checkcast 26, 3, 2, 0, 709, 0), (30, .astore_n 2, 1, 0, 0, 0, 0), (31, .aload_n 2, 1, 0, 0, 0, 0), (32, .getfield 119, 3, 2, 7, 328, 0), (35, .iconst (-1), 1, 0, 0, 0, 0), (36, .if_icmp .eq 8, 3, 44, 0, 0, 0), (39, .aload_n 0, 1, 0, 0, 0, 0), (40, .aload_n 2, 1, 0, 0, 0, 0), (41, .invokevirtual 128, 3, 96, 1, 727, 0), (44, .iinc 1 1, 3, 0, 0, 0, 0), (47, .goto (-45), 3, 2, 0, 0, 0), (50, .return_, 1, 0, 0, 0, 0)]
def zco96_0 : List zI := [(0, .aload_n 0, 1, 0, 0, 0, 0), (1, .getfield 131, 3, 3, 3, 188, 0), (4, .aload_n 0, 1, 0, 0, 0, 0), (5, .getfield 12, 3, 3, 0, 182, 0), (8, .aload_n 1, 1, 0, 0, 0, 0), (9, .invokevirtual 134, 3, 54, 1, 731, 0), (12, .imul, 1, 0, 0, 0, 0), (13, .bipush 100, 2, 0, 0, 0, 0), (15, .idiv, 1, 0, 0, 0, 0), (16, .istore_n 2, 1, 0, 0, 0, 0), (17, .aload_n 0, 1, 0, 0, 0, 0), (18, .getfield 21, 3, 3, 1, 184, 0), (21, .aload_n 1, 1, 0, 0, 0, 0), (22, .getfield 119, 3, 2, 7, 328, 0), (25, .iload_n 2, 1, 0, 0, 0, 0), (26, .invokevirtual 65, 3, 79, 2, 639, 0), (29, .ifCond .eq 19, 3, 48, 0, 0, 0), (32, .aload_n 0, 1, 0, 0, 0, 0), (33, .dup, 1, 0, 0, 0, 0), (34, .getfield 138, 3, 3, 7, 196, 0), (37, .iload_n 2, 1, 0, 0, 0, 0), (38, .iadd, 1, 0, 0, 0, 0), (39, .putfield 138, 3, 3, 7, 196, 0), (42, .aload_n 1, 1, 0, 0, 0, 0), (43, .iconst 0, 1, 0, 0, 0, 0), (44, .putfield 141, 3, 2, 15, 348, 0), (47, .return_, 1, 0, 0, 0, 0), (48, .aload_n 1, 1, 0, 0, 0, 0), (49, .dup, 1, 0, 0, 0, 0), (50, .getfield 141, 3, 2, 15, 348, 0), (53, .iconst 1, 1, 0, 0, 0, 0), (54, .iadd, 1, 0, 0, 0, 0), (55, .putfield 141, 3, 2, 15, 348, 0), (58, .aload_n 1, 1, 0, 0, 0, 0), (59, .getfield 141, 3, 2, 15, 348, 0), (62, .iconst 2, 1, 0, 0, 0, 0), (63, .if_icmp .lt 19, 3, 82, 0, 0, 0), (66, .aload_n 0, 1, 0, 0, 0, 0), (67, .dup, 1, 0, 0, 0, 0), (68, .getfield 144, 3, 3, 5, 192, 0)]
def zco96_1 : List zI := [(71, .iconst 1, 1, 0, 0, 0, 0), (72, .iadd, 1, 0, 0, 0, 0), (73, .putfield 144, 3, 3, 5, 192, 0), (76, .aload_n 0, 1, 0, 0, 0, 0), (77, .aload_n 1, 1, 0, 0, 0, 0), (78, .iconst (-1), 1, 0, 0, 0, 0), (79, .invokevirtual 75, 3, 81, 2, 649, 0), (82, .return_, 1, 0, 0, 0, 0)]
def zco96 : List zI := zco96_0 ++ (zco96_1)
def zco97 : List zI := [(0, .iconst 0, 1, 0, 0, 0, 0), (1, .istore_n 1, 1, 0, 0, 0, 0), (2, .iload_n 1, 1, 0, 0, 0, 0), (3, .aload_n 0, 1, 0, 0, 0, 0), (4, .getfield 21, 3, 3, 1, 184, 0), (7, .getfield 147, 3, 4, 1, 175, 0), (10, .if_icmp .ge 39, 3, 49, 0, 0, 0), (13, .aload_n 0, 1, 0, 0, 0, 0), (14, .getfield 12, 3, 3, 0, 182, 0), (17, .iload_n 1, 1, 0, 0, 0, 0), (18, .invokevirtual 149, 3, 98, 1, 736, 0), (21, .iconst (-1), 1, 0, 0, 0, 0), (22, .if_icmp .ne 21, 3, 43, 0, 0, 0), (25, .aload_n 0, 1, 0, 0, 0, 0), (26, .getfield 12, 3, 3, 0, 182, 0), (29, .iload_n 1, 1, 0, 0, 0, 0), (30, .invokevirtual 152, 3, 99, 1, 740, 0), (33, .astore_n 2, 1, 0, 0, 0, 0), (34, .aload_n 2, 1, 0, 0, 0, 0), (35, .ifnull 8, 3, 43, 0, 0, 0), (38, .aload_n 2, 1, 0, 0, 0, 0), (39, .iconst 1, 1, 0, 0, 0, 0), (40, .putfield 156, 3, 2, 10, 335, 0), (43, .iinc 1 1, 3, 0, 0, 0, 0), (46, .goto (-44), 3, 2, 0, 0, 0), (49, .return_, 1, 0, 0, 0, 0)]
def zco98 : List zI := [(0, .iconst 0, 1, 0, 0, 0, 0), (1, .istore_n 2, 1, 0, 0, 0, 0), (2, .iload_n 2, 1, 0, 0, 0, 0), (3, .aload_n 0, 1, 0, 0, 0, 0), (4, .getfield 22, 3, 5, 2, 147, 0), (7, .invokevirtual 36, 3, 14, 0, 300, 0), (10, .if_icmp .ge 38, 3, 48, 0, 0, 0), (13, .aload_n 0, 1, 0, 0, 0, 0), (14, .getfield 22, 3, 5, 2, 147, 0), (17, .iload_n 2, 1, 0, 0, 0, 0), (18, .invokevirtual 40, 3, 51, 1, 503, 0), (21, .checkcast 44, 3, 2, 0, 301, 0), (24, .astore_n 3, 1, 0, 0, 0, 0), (25, .aload_n 3, 1, 0, 0, 0, 0), (26, .getfield 107, 3, 2, 10, 336, 0), (29, .ifCond .eq 13, 3, 42, 0, 0, 0), (32, .aload_n 3, 1, 0, 0, 0, 0), (33, .getfield 117, 3, 2, 7, 329, 0), (36, .iload_n 1, 1, 0, 0, 0, 0), (37, .if_icmp .ne 5, 3, 42, 0, 0, 0), (40, .iload_n 2, 1, 0, 0, 0, 0), (41, .ireturn, 1, 0, 0, 0, 0), (42, .iinc 2 1, 3, 0, 0, 0, 0), (45, .goto (-43), 3, 2, 0, 0, 0), (48, .iconst (-1), 1, 0, 0, 0, 0), (49, .ireturn, 1, 0, 0, 0, 0)]
def zco99 : List zI := [(0, .aconst_null, 1, 0, 0, 0, 0), (1, .astore_n 2, 1, 0, 0, 0, 0), (2, .iconst 0, 1, 0, 0, 0, 0), (3, .istore_n 3, 1, 0, 0, 0, 0), (4, .iconst 0, 1, 0, 0, 0, 0), (5, .istore 4, 2, 0, 0, 0, 0), (7, .iload 4, 2, 0, 0, 0, 0), (9, .aload_n 0, 1, 0, 0, 0, 0), (10, .getfield 22, 3, 5, 2, 147, 0), (13, .invokevirtual 36, 3, 14, 0, 300, 0), (16, .if_icmp .ge 56, 3, 72, 0, 0, 0), (19, .aload_n 0, 1, 0, 0, 0, 0), (20, .getfield 22, 3, 5, 2, 147, 0), (23, .iload 4, 2, 0, 0, 0, 0), (25, .invokevirtual 40, 3, 51, 1, 503, 0), (28, .checkcast 44, 3, 2, 0, 301, 0), (31, .astore 5, 2, 0, 0, 0, 0), (33, .aload 5, 2, 0, 0, 0, 0), (35, .getfield 117, 3, 2, 7, 329, 0), (38, .iload_n 1, 1, 0, 0, 0, 0), (39, .if_icmp .ne 27, 3, 66, 0, 0, 0), (42, .aload_n 0, 1, 0, 0, 0, 0), (43, .aload 5, 2, 0, 0, 0, 0), (45, .invokevirtual 123, 3, 54, 1, 744, 0), (48, .istore 6, 2, 0, 0, 0, 0), (50, .aload_n 2, 1, 0, 0, 0, 0), (51, .ifnull 9, 3, 60, 0, 0, 0), (54, .iload 6, 2, 0, 0, 0, 0), (56, .iload_n 3, 1, 0, 0, 0, 0), (57, .if_icmp .le 9, 3, 66, 0, 0, 0), (60, .aload 5, 2, 0, 0, 0, 0), (62, .astore_n 2, 1, 0, 0, 0, 0), (63, .iload 6, 2, 0, 0, 0, 0), (65, .istore_n 3, 1, 0, 0, 0, 0), (66, .iinc 4 1, 3, 0, 0, 0, 0), (69, .goto (-62), 3, 7, 0, 0, 0), (72, .aload_n 2, 1, 0, 0, 0, 0), (73, .areturn, 1, 0, 0, 0, 0)]
def zco100 : List zI := [(0, .iconst 0, 1, 0, 0, 0, 0), (1, .istore_n 1, 1, 0, 0, 0, 0), (2, .iload_n 1, 1, 0, 0, 0, 0), (3, .aload_n 0, 1, 0, 0, 0, 0), (4, .getfield 12, 3, 3, 0, 182, 0), (7, .getfield 103, 3, 5, 2, 150, 0), (10, .invokevirtual 79, 3, 14, 0, 631, 0), (13, .if_icmp .ge 61, 3, 74, 0, 0, 0), (16, .aload_n 0, 1, 0, 0, 0, 0), (17, .getfield 12, 3, 3, 0, 182, 0), (20, .getfield 103, 3, 5, 2, 150, 0), (23, .iload_n 1, 1, 0, 0, 0, 0), (24, .invokevirtual 83, 3, 51, 1, 632, 0), (27, .checkcast 26, 3, 2, 0, 709, 0), (30, .astore_n 2, 1, 0, 0, 0, 0), (31, .aload_n 2, 1, 0, 0, 0, 0), (32, .getfield 160, 3, 2, 16, 351, 0), (35, .aload_n 0, 1, 0, 0, 0, 0), (36, .getfield 37, 3, 3, 2, 186, 0), (39, .if_icmp .ne 29, 3, 68, 0, 0, 0), (42, .aload_n 2, 1, 0, 0, 0, 0), (43, .iconst (-1), 1, 0, 0, 0, 0), (44, .putfield 160, 3, 2, 16, 351, 0), (47, .aload_n 2, 1, 0, 0, 0, 0), (48, .getfield 119, 3, 2, 7, 328, 0), (51, .iconst (-1), 1, 0, 0, 0, 0), (52, .if_icmp .eq 16, 3, 68, 0, 0, 0), (55, .aload_n 2, 1, 0, 0, 0, 0), (56, .getfield 156, 3, 2, 10, 335, 0), (59, .ifCond .ne 9, 3, 68, 0, 0, 0), (62, .aload_n 0, 1, 0, 0, 0, 0), (63, .aload_n 2, 1, 0, 0, 0, 0), (64, .iconst (-1), 1, 0, 0, 0, 0), (65, .invokevirtual 75, 3, 81, 2, 649, 0), (68, .iinc 1 1, 3, 0, 0, 0, 0), (71, .goto (-69), 3, 2, 0, 0, 0), (74, .return_, 1, 0, 0, 0, 0)]
def zco101 : List zI := [(0, .aload_n 0, 1, 0, 0, 0, 0), (1, .getfield 19, 3, 8, 1, 220, 0), (4, .getfield 31, 3, 3, 0, 183, 0), (7, .iload_n 1, 1, 0, 0, 0, 0), (8, .invokevirtual 62, 3, 50, 1, 499, 0), (11, .astore_n 3, 1, 0, 0, 0, 0), (12, .aload_n 3, 1, 0, 0, 0, 0), (13, .ifnonnull 7, 3, 20, 0, 0, 0), (16, .sipush (-1001), 3, 0, 0, 0, 0), (19, .ireturn, 1, 0, 0, 0, 0), (20, .iload_n 2, 1, 0, 0, 0, 0), (21, .ifCond .lt 14, 3, 35, 0, 0, 0), (24, .iload_n 2, 1, 0, 0, 0, 0), (25, .aload_n 0, 1, 0, 0, 0, 0), (26, .getfield 19, 3, 8, 1, 220, 0), (29, .getfield 158, 3, 3, 2, 187, 0), (32, .if_icmp .le 9, 3, 41, 0, 0, 0), (35, .sipush (-1002), 3, 0, 0, 0, 0), (38, .goto 8, 3, 46, 0, 0, 0), (41, .aload_n 3, 1, 0, 0, 0, 0), (42, .iload_n 2, 1, 0, 0, 0, 0), (43, .invokevirtual 170, 3, 102, 1, 753, 0), (46, .ireturn, 1, 0, 0, 0, 0)]
def zco102 : List zI := [(0, .aload_n 0, 1, 0, 0, 0, 0), (1, .getfield 22, 3, 2, 8, 330, 0), (4, .iload_n 1, 1, 0, 0, 0, 0), (5, .if_icmp .gt 8, 3, 13, 0, 0, 0), (8, .aload_n 0, 1, 0, 0, 0, 0), (9, .getfield 18, 3, 2, 7, 326, 0), (12, .ireturn, 1, 0, 0, 0, 0), (13, .aload_n 0, 1, 0, 0, 0, 0), (14, .getfield 72, 3, 2, 9, 332, 0), (17, .astore_n 2, 1, 0, 0, 0, 0), (18, .aload_n 2, 1, 0, 0, 0, 0), (19, .ifnull 24, 3, 43, 0, 0, 0), (22, .aload_n 2, 1, 0, 0, 0, 0), (23, .getfield 82, 3, 7, 1, 670, 0), (26, .iload_n 1, 1, 0, 0, 0, 0), (27, .if_icmp .gt 8, 3, 35, 0, 0, 0), (30, .aload_n 2, 1, 0, 0, 0, 0), (31, .getfield 83, 3, 7, 0, 668, 0), (34, .ireturn, 1, 0, 0, 0, 0), (35, .aload_n 2, 1, 0, 0, 0, 0), (36, .getfield 84, 3, 7, 2, 672, 0), (39, .astore_n 2, 1, 0, 0, 0, 0), (40, .goto (-22), 3, 18, 0, 0, 0), (43, .iconst (-1), 1, 0, 0, 0, 0), (44, .ireturn, 1, 0, 0, 0, 0)]
def zco103 : List zI := [(0, .aload_n 0, 1, 0, 0, 0, 0), (1, .getfield 19, 3, 8, 1, 220, 0), (4, .getfield 121, 3, 3, 1, 185, 0), (7, .iload_n 1, 1, 0, 0, 0, 0), (8, .invokevirtual 130, 3, 68, 1, 573, 0), (11, .ifCond .ne 7, 3, 18, 0, 0, 0), (14, .sipush (-1001), 3, 0, 0, 0, 0), (17, .ireturn, 1, 0, 0, 0, 0), (18, .iload_n 2, 1, 0, 0, 0, 0), (19, .tableswitch 77 0 3 #[29, 41, 53, 65], 29, 0, 0, 0, 0), (48, .aload_n 0, 1, 0, 0, 0, 0), (49, .getfield 19, 3, 8, 1, 220, 0), (52, .getfield 121, 3, 3, 1, 185, 0), (55, .iload_n 1, 1, 0, 0, 0, 0), (56, .invokevirtual 134, 3, 69, 1, 578, 0), (59, .ireturn, 1, 0, 0, 0, 0), (60, .aload_n 0, 1, 0, 0, 0, 0), (61, .getfield 19, 3, 8, 1, 220, 0), (64, .getfield 31, 3, 3, 0, 183, 0), (67, .iload_n 1, 1, 0, 0, 0, 0), (68, .invokevirtual 173, 3, 104, 1, 761, 0), (71, .ireturn, 1, 0, 0, 0, 0), (72, .aload_n 0, 1, 0, 0, 0, 0), (73, .getfield 19, 3, 8, 1, 220, 0), (76, .getfield 31, 3, 3, 0, 183, 0), (79, .iload_n 1, 1, 0, 0, 0, 0), (80, .invokevirtual 176, 3, 98, 1, 765, 0), (83, .ireturn, 1, 0, 0, 0, 0), (84, .aload_n 0, 1, 0, 0, 0, 0), (85, .getfield 19, 3, 8, 1, 220, 0), (88, .getfield 31, 3, 3, 0, 183, 0), (91, .iload_n 1, 1, 0, 0, 0, 0), (92, .invokevirtual 179, 3, 105, 1, 766, 0), (95, .ireturn, 1, 0, 0, 0, 0), (96, .sipush (-1002), 3, 0, 0, 0, 0), (99, .ireturn, 1, 0, 0, 0, 0)]
def zco104 : List zI := [(0, .iconst 0, 1, 0, 0, 0, 0), (1, .istore_n 2, 1, 0, 0, 0, 0), (2, .iconst 0, 1, 0, 0, 0, 0), (3, .istore_n 3, 1, 0, 0, 0, 0), (4, .iload_n 3, 1, 0, 0, 0, 0), (5, .aload_n 0, 1, 0, 0, 0, 0), (6, .getfield 22, 3, 5, 2, 147, 0), (9, .invokevirtual 36, 3, 14, 0, 300, 0), (12, .if_icmp .ge 35, 3, 47, 0, 0, 0), (15, .iload_n 2, 1, 0, 0, 0, 0), (16, .aload_n 0, 1, 0, 0, 0, 0), (17, .getfield 22, 3, 5, 2, 147, 0), (20, .iload_n 3, 1, 0, 0, 0, 0), (21, .invokevirtual 40, 3, 51, 1, 503, 0), (24, .checkcast 44, 3, 2, 0, 301, 0), (27, .getfield 117, 3, 2, 7, 329, 0), (30, .iload_n 1, 1, 0, 0, 0, 0), (31, .if_icmp .ne 7, 3, 38, 0, 0, 0), (34, .iconst 1, 1, 0, 0, 0, 0), (35, .goto 4, 3, 39, 0, 0, 0), (38, .iconst 0, 1, 0, 0, 0, 0), (39, .iadd, 1, 0, 0, 0, 0), (40, .istore_n 2, 1, 0, 0, 0, 0), (41, .iinc 3 1, 3, 0, 0, 0, 0), (44, .goto (-40), 3, 4, 0, 0, 0), (47, .iload_n 2, 1, 0, 0, 0, 0), (48, .ireturn, 1, 0, 0, 0, 0)]
def zco105 : List zI := [(0, .iconst 0, 1, 0, 0, 0, 0), (1, .istore_n 2, 1, 0, 0, 0, 0), (2, .iconst 0, 1, 0, 0, 0, 0), (3, .istore_n 3, 1, 0, 0, 0, 0), (4, .iload_n 3, 1, 0, 0, 0, 0), (5, .aload_n 0, 1, 0, 0, 0, 0), (6, .getfield 22, 3, 5, 2, 147, 0), (9, .invokevirtual 36, 3, 14, 0, 300, 0), (12, .if_icmp .ge 43, 3, 55, 0, 0, 0), (15, .aload_n 0, 1, 0, 0, 0, 0), (16, .getfield 22, 3, 5, 2, 147, 0), (19, .iload_n 3, 1, 0, 0, 0, 0), (20, .invokevirtual 40, 3, 51, 1, 503, 0), (23, .checkcast 44, 3, 2, 0, 301, 0), (26, .astore 4, 2, 0, 0, 0, 0), (28, .iload_n 2, 1, 0, 0, 0, 0), (29, .aload 4, 2, 0, 0, 0, 0), (31, .getfield 117, 3, 2, 7, 329, 0), (34, .iload_n 1, 1, 0, 0, 0, 0), (35, .if_icmp .ne 11, 3, 46, 0, 0, 0), (38, .aload 4, 2, 0, 0, 0, 0), (40, .getfield 120, 3, 2, 11, 339, 0), (43, .goto 4, 3, 47, 0, 0, 0), (46, .iconst 0, 1, 0, 0, 0, 0), (47, .iadd, 1, 0, 0, 0, 0), (48, .istore_n 2, 1, 0, 0, 0, 0), (49, .iinc 3 1, 3, 0, 0, 0, 0), (52, .goto (-48), 3, 4, 0, 0, 0), (55, .iload_n 2, 1, 0, 0, 0, 0), (56, .ireturn, 1, 0, 0, 0, 0)]
def zco106_0 : List zI := [(0, .iload_n 1, 1, 0, 0, 0, 0), (1, .tableswitch 208 0 13 #[71, 85, 96, 107, 115, 126, 138, 146, 154, 162, 170, 178, 186, 197], 71, 0, 0, 0, 0), (72, .aload_n 0, 1, 0, 0, 0, 0), (73, .getfield 19, 3, 8, 1, 220, 0), (76, .getfield 31, 3, 3, 0, 183, 0), (79, .getfield 39, 3, 5, 2, 149, 0), (82, .invokevirtual 45, 3, 14, 0, 484, 0), (85, .ireturn, 1, 0, 0, 0, 0), (86, .aload_n 0, 1, 0, 0, 0, 0), (87, .getfield 19, 3, 8, 1, 220, 0), (90, .getfield 31, 3, 3, 0, 183, 0), (93, .getfield 182, 3, 5, 3, 153, 0), (96, .ireturn, 1, 0, 0, 0, 0), (97, .aload_n 0, 1, 0, 0, 0, 0), (98, .getfield 19, 3, 8, 1, 220, 0), (101, .getfield 121, 3, 3, 1, 185, 0), (104, .getfield 185, 3, 4, 1, 176, 0), (107, .ireturn, 1, 0, 0, 0, 0), (108, .aload_n 0, 1, 0, 0, 0, 0), (109, .getfield 19, 3, 8, 1, 220, 0), (112, .getfield 158, 3, 3, 2, 187, 0), (115, .ireturn, 1, 0, 0, 0, 0), (116, .aload_n 0, 1, 0, 0, 0, 0), (117, .getfield 19, 3, 8, 1, 220, 0), (120, .getfield 31, 3, 3, 0, 183, 0), (123, .invokevirtual 187, 3, 107, 0, 774, 0), (126, .ireturn, 1, 0, 0, 0, 0), (127, .aload_n 0, 1, 0, 0, 0, 0), (128, .getfield 19, 3, 8, 1, 220, 0), (131, .getfield 31, 3, 3, 0, 183, 0), (134, .iconst (-1), 1, 0, 0, 0, 0), (135, .invokevirtual 173, 3, 104, 1, 761, 0), (138, .ireturn, 1, 0, 0, 0, 0), (139, .aload_n 0, 1, 0, 0, 0, 0), (140, .getfield 19, 3, 8, 1, 220, 0), (143, .getfield 190, 3, 3, 4, 191, 0), (146, .ireturn, 1, 0, 0, 0, 0), (147, .aload_n 0, 1, 0, 0, 0, 0), (148, .getfield 19, 3, 8, 1, 220, 0), (151, .getfield 193, 3, 3, 5, 193, 0)]
def zco106_1 : List zI := [(154, .ireturn, 1, 0, 0, 0, 0), (155, .aload_n 0, 1, 0, 0, 0, 0), (156, .getfield 19, 3, 8, 1, 220, 0), (159, .getfield 196, 3, 3, 6, 195, 0), (162, .ireturn, 1, 0, 0, 0, 0), (163, .aload_n 0, 1, 0, 0, 0, 0), (164, .getfield 19, 3, 8, 1, 220, 0), (167, .getfield 199, 3, 3, 7, 197, 0), (170, .ireturn, 1, 0, 0, 0, 0), (171, .aload_n 0, 1, 0, 0, 0, 0), (172, .getfield 12, 3, 8, 0, 219, 0), (175, .getfield 27, 3, 6, 2, 83, 0), (178, .ireturn, 1, 0, 0, 0, 0), (179, .aload_n 0, 1, 0, 0, 0, 0), (180, .getfield 19, 3, 8, 1, 220, 0), (183, .getfield 202, 3, 3, 8, 199, 0), (186, .ireturn, 1, 0, 0, 0, 0), (187, .aload_n 0, 1, 0, 0, 0, 0), (188, .getfield 19, 3, 8, 1, 220, 0), (191, .getfield 31, 3, 3, 0, 183, 0), (194, .invokevirtual 205, 3, 108, 0, 778, 0), (197, .ireturn, 1, 0, 0, 0, 0), (198, .aload_n 0, 1, 0, 0, 0, 0), (199, .getfield 19, 3, 8, 1, 220, 0), (202, .getfield 31, 3, 3, 0, 183, 0), (205, .getfield 117, 3, 5, 4, 154, 0), (208, .ireturn, 1, 0, 0, 0, 0), (209, .sipush (-1002), 3, 0, 0, 0, 0), (212, .ireturn, 1, 0, 0, 0, 0)]
def zco106 : List zI := zco106_0 ++ (zco106_1)
def zco107 : List zI := [(0, .iconst 0, 1, 0, 0, 0, 0), (1, .istore_n 1, 1, 0, 0, 0, 0), (2, .iconst 0, 1, 0, 0, 0, 0), (3, .istore_n 2, 1, 0, 0, 0, 0), (4, .iload_n 2, 1, 0, 0, 0, 0), (5, .aload_n 0, 1, 0, 0, 0, 0), (6, .getfield 22, 3, 5, 2, 147, 0), (9, .invokevirtual 36, 3, 14, 0, 300, 0), (12, .if_icmp .ge 34, 3, 46, 0, 0, 0), (15, .iload_n 1, 1, 0, 0, 0, 0), (16, .aload_n 0, 1, 0, 0, 0, 0), (17, .getfield 22, 3, 5, 2, 147, 0), (20, .iload_n 2, 1, 0, 0, 0, 0), (21, .invokevirtual 40, 3, 51, 1, 503, 0), (24, .checkcast 44, 3, 2, 0, 301, 0), (27, .getfield 107, 3, 2, 10, 336, 0), (30, .ifCond .eq 7, 3, 37, 0, 0, 0), (33, .iconst 1, 1, 0, 0, 0, 0), (34, .goto 4, 3, 38, 0, 0, 0), (37, .iconst 0, 1, 0, 0, 0, 0), (38, .iadd, 1, 0, 0, 0, 0), (39, .istore_n 1, 1, 0, 0, 0, 0), (40, .iinc 2 1, 3, 0, 0, 0, 0), (43, .goto (-39), 3, 4, 0, 0, 0), (46, .iload_n 1, 1, 0, 0, 0, 0), (47, .ireturn, 1, 0, 0, 0, 0)]
def zco108 : List zI := [(0, .iconst 0, 1, 0, 0, 0, 0), (1, .istore_n 1, 1, 0, 0, 0, 0), (2, .iconst 0, 1, 0, 0, 0, 0), (3, .istore_n 2, 1, 0, 0, 0, 0), (4, .iload_n 2, 1, 0, 0, 0, 0), (5, .aload_n 0, 1, 0, 0, 0, 0), (6, .getfield 22, 3, 5, 2, 147, 0), (9, .invokevirtual 36, 3, 14, 0, 300, 0), (12, .if_icmp .ge 26, 3, 38, 0, 0, 0), (15, .iload_n 1, 1, 0, 0, 0, 0), (16, .aload_n 0, 1, 0, 0, 0, 0), (17, .getfield 22, 3, 5, 2, 147, 0), (20, .iload_n 2, 1, 0, 0, 0, 0), (21, .invokevirtual 40, 3, 51, 1, 503, 0), (24, .checkcast 44, 3, 2, 0, 301, 0), (27, .invokevirtual 93, 3, 53, 0, 522, 0), (30, .iadd, 1, 0, 0, 0, 0), (31, .istore_n 1, 1, 0, 0, 0, 0), (32, .iinc 2 1, 3, 0, 0, 0, 0), (35, .goto (-31), 3, 4, 0, 0, 0), (38, .iload_n 1, 1, 0, 0, 0, 0), (39, .ireturn, 1, 0, 0, 0, 0)]
def zco109 : List zI := [(0, .iload_n 1, 1, 0, 0, 0, 0), (1, .iconst 1, 1, 0, 0, 0, 0), (2, .if_icmp .lt 18, 3, 20, 0, 0, 0), (5, .iload_n 1, 1, 0, 0, 0, 0), (6, .ldc 120, 2, 0, 0, 564, 1000000), (8, .if_icmp .gt 12, 3, 20, 0, 0, 0), (11, .iload_n 2, 1, 0, 0, 0, 0), (12, .ifCond .lt 8, 3, 20, 0, 0, 0), (15, .iload_n 2, 1, 0, 0, 0, 0), (16, .iconst 1, 1, 0, 0, 0, 0), (17, .if_icmp .le 7, 3, 24, 0, 0, 0), (20, .sipush (-1002), 3, 0, 0, 0, 0), (23, .ireturn, 1, 0, 0, 0, 0), (24, .aload_n 0, 1, 0, 0, 0, 0), (25, .getfield 19, 3, 8, 1, 220, 0), (28, .getfield 31, 3, 3, 0, 183, 0), (31, .invokevirtual 187, 3, 107, 0, 774, 0), (34, .istore_n 3, 1, 0, 0, 0, 0), (35, .aload_n 0, 1, 0, 0, 0, 0), (36, .getfield 19, 3, 8, 1, 220, 0), (39, .iload_n 1, 1, 0, 0, 0, 0), (40, .iload_n 3, 1, 0, 0, 0, 0), (41, .invokevirtual 208, 3, 110, 2, 786, 0), (44, .istore 4, 2, 0, 0, 0, 0), (46, .iload_n 2, 1, 0, 0, 0, 0), (47, .ifCond .ne 6, 3, 53, 0, 0, 0), (50, .iload 4, 2, 0, 0, 0, 0), (52, .ireturn, 1, 0, 0, 0, 0), (53, .iconst 2, 1, 0, 0, 0, 0), (54, .iload 4, 2, 0, 0, 0, 0), (56, .imul, 1, 0, 0, 0, 0), (57, .iload_n 3, 1, 0, 0, 0, 0), (58, .if_icmp .le 7, 3, 65, 0, 0, 0), (61, .iconst 1, 1, 0, 0, 0, 0), (62, .goto 4, 3, 66, 0, 0, 0), (65, .iconst 0, 1, 0, 0, 0, 0), (66, .ireturn, 1, 0, 0, 0, 0)]
def zco110_0 : List zI := [(0, .iload_n 2, 1, 0, 0, 0, 0), (1, .ifCond .gt 5, 3, 6, 0, 0, 0), (4, .iconst 0, 1, 0, 0, 0, 0), (5, .ireturn, 1, 0, 0, 0, 0), (6, .iload_n 1, 1, 0, 0, 0, 0), (7, .iload_n 2, 1, 0, 0, 0, 0), (8, .idiv, 1, 0, 0, 0, 0), (9, .istore_n 3, 1, 0, 0, 0, 0), (10, .iconst 0, 1, 0, 0, 0, 0), (11, .istore 4, 2, 0, 0, 0, 0), (13, .iconst 0, 1, 0, 0, 0, 0), (14, .istore 5, 2, 0, 0, 0, 0), (16, .iload 5, 2, 0, 0, 0, 0), (18, .aload_n 0, 1, 0, 0, 0, 0), (19, .getfield 12, 3, 3, 0, 182, 0), (22, .getfield 103, 3, 5, 2, 150, 0), (25, .invokevirtual 79, 3, 14, 0, 631, 0), (28, .if_icmp .ge 56, 3, 84, 0, 0, 0), (31, .aload_n 0, 1, 0, 0, 0, 0), (32, .getfield 12, 3, 3, 0, 182, 0), (35, .getfield 103, 3, 5, 2, 150, 0), (38, .iload 5, 2, 0, 0, 0, 0), (40, .invokevirtual 83, 3, 51, 1, 632, 0), (43, .checkcast 26, 3, 2, 0, 709, 0), (46, .astore 6, 2, 0, 0, 0, 0), (48, .aload 6, 2, 0, 0, 0, 0), (50, .getfield 156, 3, 2, 10, 335, 0), (53, .ifCond .eq 25, 3, 78, 0, 0, 0), (56, .iload_n 3, 1, 0, 0, 0, 0), (57, .aload_n 0, 1, 0, 0, 0, 0), (58, .getfield 21, 3, 3, 1, 184, 0), (61, .aload 6, 2, 0, 0, 0, 0), (63, .getfield 119, 3, 2, 7, 328, 0), (66, .invokevirtual 87, 3, 69, 1, 634, 0), (69, .bipush 10, 2, 0, 0, 0, 0), (71, .idiv, 1, 0, 0, 0, 0), (72, .if_icmp .gt 6, 3, 78, 0, 0, 0), (75, .iinc 4 1, 3, 0, 0, 0, 0), (78, .iinc 5 1, 3, 0, 0, 0, 0), (81, .goto (-65), 3, 16, 0, 0, 0)]
def zco110_1 : List zI := [(84, .iload 4, 2, 0, 0, 0, 0), (86, .ireturn, 1, 0, 0, 0, 0)]
def zco110 : List zI := zco110_0 ++ (zco110_1)
def zco111_0 : List zI := [(0, .aload_n 0, 1, 0, 0, 0, 0), (1, .invokespecial 1, 3, 1, 0, 795, 0), (4, .aload_n 0, 1, 0, 0, 0, 0), (5, .sipush 200, 3, 0, 0, 0, 0), (8, .newarray .int, 2, 100, 0, 0, 0), (10, .putfield 7, 3, 9, 0, 796, 0), (13, .aload_n 0, 1, 0, 0, 0, 0), (14, .iconst (-1), 1, 0, 0, 0, 0), (15, .putfield 13, 3, 9, 2, 798, 0), (18, .aload_n 0, 1, 0, 0, 0, 0), (19, .sipush 320, 3, 0, 0, 0, 0), (22, .newarray .int, 2, 100, 0, 0, 0), (24, .putfield 17, 3, 9, 3, 799, 0), (27, .aload_n 0, 1, 0, 0, 0, 0), (28, .sipush 320, 3, 0, 0, 0, 0), (31, .newarray .int, 2, 100, 0, 0, 0), (33, .putfield 20, 3, 9, 4, 800, 0), (36, .aload_n 0, 1, 0, 0, 0, 0), (37, .bipush 40, 2, 0, 0, 0, 0), (39, .newarray .int, 2, 100, 0, 0, 0), (41, .putfield 23, 3, 9, 6, 802, 0), (44, .aload_n 0, 1, 0, 0, 0, 0), (45, .bipush 40, 2, 0, 0, 0, 0), (47, .newarray .int, 2, 100, 0, 0, 0), (49, .putfield 26, 3, 9, 7, 803, 0), (52, .aload_n 0, 1, 0, 0, 0, 0), (53, .bipush 40, 2, 0, 0, 0, 0), (55, .newarray .boolean, 2, 102, 0, 0, 0), (57, .putfield 29, 3, 9, 8, 804, 0), (60, .aload_n 0, 1, 0, 0, 0, 0), (61, .bipush 40, 2, 0, 0, 0, 0), (63, .newarray .int, 2, 100, 0, 0, 0), (65, .putfield 33, 3, 9, 9, 805, 0), (68, .aload_n 0, 1, 0, 0, 0, 0), (69, .bipush 40, 2, 0, 0, 0, 0), (71, .newarray .int, 2, 100, 0, 0, 0), (73, .putfield 36, 3, 9, 10, 806, 0), (76, .aload_n 0, 1, 0, 0, 0, 0), (77, .bipush 40, 2, 0, 0, 0, 0), (79, .newarray .int, 2, 100, 0, 0, 0)]
def zco111_1 : List zI := [(81, .putfield 39, 3, 9, 11, 807, 0), (84, .aload_n 0, 1, 0, 0, 0, 0), (85, .bipush 40, 2, 0, 0, 0, 0), (87, .newarray .int, 2, 100, 0, 0, 0), (89, .putfield 42, 3, 9, 12, 808, 0), (92, .aload_n 0, 1, 0, 0, 0, 0), (93, .bipush 40, 2, 0, 0, 0, 0), (95, .newarray .int, 2, 100, 0, 0, 0), (97, .putfield 45, 3, 9, 13, 809, 0), (100, .aload_n 0, 1, 0, 0, 0, 0), (101, .bipush 40, 2, 0, 0, 0, 0), (103, .newarray .int, 2, 100, 0, 0, 0), (105, .putfield 48, 3, 9, 14, 810, 0), (108, .aload_n 0, 1, 0, 0, 0, 0), (109, .bipush 40, 2, 0, 0, 0, 0), (111, .newarray .int, 2, 100, 0, 0, 0), (113, .putfield 51, 3, 9, 15, 811, 0), (116, .aload_n 0, 1, 0, 0, 0, 0), (117, .bipush 12, 2, 0, 0, 0, 0), (119, .newarray .boolean, 2, 102, 0, 0, 0), (121, .putfield 54, 3, 9, 17, 813, 0), (124, .aload_n 0, 1, 0, 0, 0, 0), (125, .bipush 20, 2, 0, 0, 0, 0), (127, .newarray .int, 2, 100, 0, 0, 0), (129, .putfield 57, 3, 9, 19, 815, 0), (132, .aload_n 0, 1, 0, 0, 0, 0), (133, .bipush 20, 2, 0, 0, 0, 0), (135, .newarray .int, 2, 100, 0, 0, 0), (137, .putfield 60, 3, 9, 20, 816, 0), (140, .aload_n 0, 1, 0, 0, 0, 0), (141, .bipush 40, 2, 0, 0, 0, 0), (143, .newarray .int, 2, 100, 0, 0, 0), (145, .putfield 63, 3, 9, 21, 817, 0), (148, .aload_n 0, 1, 0, 0, 0, 0), (149, .sipush 800, 3, 0, 0, 0, 0), (152, .newarray .int, 2, 100, 0, 0, 0), (154, .putfield 66, 3, 9, 22, 818, 0), (157, .aload_n 0, 1, 0, 0, 0, 0), (158, .sipush 800, 3, 0, 0, 0, 0), (161, .newarray .int, 2, 100, 0, 0, 0)]
def zco111_2 : List zI := [(163, .putfield 69, 3, 9, 23, 819, 0), (166, .aload_n 0, 1, 0, 0, 0, 0), (167, .sipush 4000, 3, 0, 0, 0, 0), (170, .newarray .int, 2, 100, 0, 0, 0), (172, .putfield 72, 3, 9, 32, 828, 0), (175, .aload_n 0, 1, 0, 0, 0, 0), (176, .sipush 4000, 3, 0, 0, 0, 0), (179, .newarray .int, 2, 100, 0, 0, 0), (181, .putfield 75, 3, 9, 33, 829, 0), (184, .aload_n 0, 1, 0, 0, 0, 0), (185, .sipush 4000, 3, 0, 0, 0, 0), (188, .newarray .int, 2, 100, 0, 0, 0), (190, .putfield 78, 3, 9, 34, 830, 0), (193, .aload_n 0, 1, 0, 0, 0, 0), (194, .iconst 5, 1, 0, 0, 0, 0), (195, .newarray .int, 2, 100, 0, 0, 0), (197, .putfield 81, 3, 9, 38, 834, 0), (200, .aload_n 0, 1, 0, 0, 0, 0), (201, .bipush 40, 2, 0, 0, 0, 0), (203, .newarray .int, 2, 100, 0, 0, 0), (205, .putfield 84, 3, 9, 39, 835, 0), (208, .aload_n 0, 1, 0, 0, 0, 0), (209, .bipush 40, 2, 0, 0, 0, 0), (211, .newarray .boolean, 2, 102, 0, 0, 0), (213, .putfield 87, 3, 9, 40, 836, 0), (216, .iconst 0, 1, 0, 0, 0, 0), (217, .istore_n 1, 1, 0, 0, 0, 0), (218, .iload_n 1, 1, 0, 0, 0, 0), (219, .sipush 320, 3, 0, 0, 0, 0), (222, .if_icmp .ge 16, 3, 238, 0, 0, 0), (225, .aload_n 0, 1, 0, 0, 0, 0), (226, .getfield 17, 3, 9, 3, 799, 0), (229, .iload_n 1, 1, 0, 0, 0, 0), (230, .iconst (-1), 1, 0, 0, 0, 0), (231, .iastore, 1, 0, 0, 0, 0), (232, .iinc 1 1, 3, 0, 0, 0, 0), (235, .goto (-17), 3, 218, 0, 0, 0), (238, .return_, 1, 0, 0, 0, 0)]
def zco111 : List zI := zco111_0 ++ (zco111_1 ++ (zco111_2))
def zco112_0 : List zI := [(0, .iload_n 1, 1, 0, 0, 0, 0), (1, .i2l, 1, 0, 0, 0, 0), (2, .lconst 1, 1, 0, 0, 0, 0), (3, .ldc2_w 90, 3, 0, 0, 924, 8), (6, .invokestatic 92, 3, 113, 3, 925, 0), (9, .ifCond .ne 7, 3, 16, 0, 0, 0), (12, .sipush (-1002), 3, 0, 0, 0, 0), (15, .ireturn, 1, 0, 0, 0, 0), (16, .aload_n 0, 1, 0, 0, 0, 0), (17, .getfield 96, 3, 9, 1, 797, 0), (20, .iload_n 1, 1, 0, 0, 0, 0), (21, .iadd, 1, 0, 0, 0, 0), (22, .sipush 200, 3, 0, 0, 0, 0), (25, .if_icmp .le 7, 3, 32, 0, 0, 0), (28, .sipush (-1004), 3, 0, 0, 0, 0), (31, .ireturn, 1, 0, 0, 0, 0), (32, .iload_n 1, 1, 0, 0, 0, 0), (33, .iconst 1, 1, 0, 0, 0, 0), (34, .isub, 1, 0, 0, 0, 0), (35, .istore 4, 2, 0, 0, 0, 0), (37, .iload 4, 2, 0, 0, 0, 0), (39, .ifCond .lt 40, 3, 79, 0, 0, 0), (42, .aload_n 0, 1, 0, 0, 0, 0), (43, .getfield 7, 3, 9, 0, 796, 0), (46, .aload_n 0, 1, 0, 0, 0, 0), (47, .getfield 96, 3, 9, 1, 797, 0), (50, .lload_n 2, 1, 0, 0, 0, 0), (51, .bipush 8, 2, 0, 0, 0, 0), (53, .iload 4, 2, 0, 0, 0, 0), (55, .imul, 1, 0, 0, 0, 0), (56, .lshr, 1, 0, 0, 0, 0), (57, .ldc2_w 99, 3, 0, 0, 928, 255), (60, .land, 1, 0, 0, 0, 0), (61, .l2i, 1, 0, 0, 0, 0), (62, .iastore, 1, 0, 0, 0, 0), (63, .aload_n 0, 1, 0, 0, 0, 0), (64, .dup, 1, 0, 0, 0, 0), (65, .getfield 96, 3, 9, 1, 797, 0), (68, .iconst 1, 1, 0, 0, 0, 0), (69, .iadd, 1, 0, 0, 0, 0)]
def zco112_1 : List zI := [(70, .putfield 96, 3, 9, 1, 797, 0), (73, .iinc 4 (-1), 3, 0, 0, 0, 0), (76, .goto (-39), 3, 37, 0, 0, 0), (79, .aload_n 0, 1, 0, 0, 0, 0), (80, .getfield 96, 3, 9, 1, 797, 0), (83, .ireturn, 1, 0, 0, 0, 0)]
def zco112 : List zI := zco112_0 ++ (zco112_1)
def zco113 : List zI := [(0, .lload_n 0, 1, 0, 0, 0, 0), (1, .lload_n 2, 1, 0, 0, 0, 0), (2, .lcmp, 1, 0, 0, 0, 0), (3, .ifCond .lt 14, 3, 17, 0, 0, 0), (6, .lload_n 0, 1, 0, 0, 0, 0), (7, .lload 4, 2, 0, 0, 0, 0), (9, .lcmp, 1, 0, 0, 0, 0), (10, .ifCond .gt 7, 3, 17, 0, 0, 0), (13, .iconst 1, 1, 0, 0, 0, 0), (14, .goto 4, 3, 18, 0, 0, 0), (17, .iconst 0, 1, 0, 0, 0, 0), (18, .ireturn, 1, 0, 0, 0, 0)]
def zco114_0 : List zI := [(0, .aload_n 0, 1, 0, 0, 0, 0), (1, .iconst (-1), 1, 0, 0, 0, 0), (2, .putfield 13, 3, 9, 2, 798, 0), (5, .aload_n 0, 1, 0, 0, 0, 0), (6, .invokevirtual 152, 3, 115, 0, 933, 0), (9, .istore_n 1, 1, 0, 0, 0, 0), (10, .aload_n 0, 1, 0, 0, 0, 0), (11, .iconst 0, 1, 0, 0, 0, 0), (12, .putfield 96, 3, 9, 1, 797, 0), (15, .iload_n 1, 1, 0, 0, 0, 0), (16, .ifCond .le 8, 3, 24, 0, 0, 0), (19, .bipush (-10), 2, 0, 0, 0, 0), (21, .iload_n 1, 1, 0, 0, 0, 0), (22, .isub, 1, 0, 0, 0, 0), (23, .ireturn, 1, 0, 0, 0, 0), (24, .iconst 0, 1, 0, 0, 0, 0), (25, .istore_n 2, 1, 0, 0, 0, 0), (26, .iload_n 2, 1, 0, 0, 0, 0), (27, .sipush 320, 3, 0, 0, 0, 0), (30, .if_icmp .ge 21, 3, 51, 0, 0, 0), (33, .aload_n 0, 1, 0, 0, 0, 0), (34, .getfield 17, 3, 9, 3, 799, 0), (37, .iload_n 2, 1, 0, 0, 0, 0), (38, .aload_n 0, 1, 0, 0, 0, 0), (39, .getfield 20, 3, 9, 4, 800, 0), (42, .iload_n 2, 1, 0, 0, 0, 0), (43, .iaload, 1, 0, 0, 0, 0), (44, .iastore, 1, 0, 0, 0, 0), (45, .iinc 2 1, 3, 0, 0, 0, 0), (48, .goto (-22), 3, 26, 0, 0, 0), (51, .aload_n 0, 1, 0, 0, 0, 0), (52, .getfield 142, 3, 9, 5, 801, 0), (55, .istore_n 2, 1, 0, 0, 0, 0), (56, .iload_n 2, 1, 0, 0, 0, 0), (57, .aload_n 0, 1, 0, 0, 0, 0), (58, .getfield 121, 3, 9, 36, 832, 0), (61, .if_icmp .ge 77, 3, 138, 0, 0, 0), (64, .aload_n 0, 1, 0, 0, 0, 0), (65, .getfield 23, 3, 9, 6, 802, 0), (68, .iload_n 2, 1, 0, 0, 0, 0)]
def zco114_1 : List zI := [(69, .iconst 2, 1, 0, 0, 0, 0), (70, .aload_n 0, 1, 0, 0, 0, 0), (71, .getfield 84, 3, 9, 39, 835, 0), (74, .iload_n 2, 1, 0, 0, 0, 0), (75, .iaload, 1, 0, 0, 0, 0), (76, .imul, 1, 0, 0, 0, 0), (77, .iastore, 1, 0, 0, 0, 0), (78, .aload_n 0, 1, 0, 0, 0, 0), (79, .getfield 29, 3, 9, 8, 804, 0), (82, .iload_n 2, 1, 0, 0, 0, 0), (83, .aload_n 0, 1, 0, 0, 0, 0), (84, .getfield 87, 3, 9, 40, 836, 0), (87, .iload_n 2, 1, 0, 0, 0, 0), (88, .baload, 1, 0, 0, 0, 0), (89, .bastore, 1, 0, 0, 0, 0), (90, .aload_n 0, 1, 0, 0, 0, 0), (91, .getfield 26, 3, 9, 7, 803, 0), (94, .iload_n 2, 1, 0, 0, 0, 0), (95, .iconst (-1), 1, 0, 0, 0, 0), (96, .iastore, 1, 0, 0, 0, 0), (97, .aload_n 0, 1, 0, 0, 0, 0), (98, .getfield 39, 3, 9, 11, 807, 0), (101, .iload_n 2, 1, 0, 0, 0, 0), (102, .iconst 0, 1, 0, 0, 0, 0), (103, .iastore, 1, 0, 0, 0, 0), (104, .aload_n 0, 1, 0, 0, 0, 0), (105, .getfield 45, 3, 9, 13, 809, 0), (108, .iload_n 2, 1, 0, 0, 0, 0), (109, .iconst 0, 1, 0, 0, 0, 0), (110, .iastore, 1, 0, 0, 0, 0), (111, .aload_n 0, 1, 0, 0, 0, 0), (112, .getfield 48, 3, 9, 14, 810, 0), (115, .iload_n 2, 1, 0, 0, 0, 0), (116, .iconst (-1), 1, 0, 0, 0, 0), (117, .iastore, 1, 0, 0, 0, 0), (118, .aload_n 0, 1, 0, 0, 0, 0), (119, .getfield 51, 3, 9, 15, 811, 0), (122, .iload_n 2, 1, 0, 0, 0, 0), (123, .iconst (-1), 1, 0, 0, 0, 0), (124, .iastore, 1, 0, 0, 0, 0)]
def zco114_2 : List zI := [(125, .aload_n 0, 1, 0, 0, 0, 0), (126, .getfield 63, 3, 9, 21, 817, 0), (129, .iload_n 2, 1, 0, 0, 0, 0), (130, .iconst 0, 1, 0, 0, 0, 0), (131, .iastore, 1, 0, 0, 0, 0), (132, .iinc 2 1, 3, 0, 0, 0, 0), (135, .goto (-79), 3, 56, 0, 0, 0), (138, .aload_n 0, 1, 0, 0, 0, 0), (139, .getfield 145, 3, 9, 16, 812, 0), (142, .istore_n 2, 1, 0, 0, 0, 0), (143, .iload_n 2, 1, 0, 0, 0, 0), (144, .aload_n 0, 1, 0, 0, 0, 0), (145, .getfield 128, 3, 9, 37, 833, 0), (148, .if_icmp .ge 16, 3, 164, 0, 0, 0), (151, .aload_n 0, 1, 0, 0, 0, 0), (152, .getfield 54, 3, 9, 17, 813, 0), (155, .iload_n 2, 1, 0, 0, 0, 0), (156, .iconst 0, 1, 0, 0, 0, 0), (157, .bastore, 1, 0, 0, 0, 0), (158, .iinc 2 1, 3, 0, 0, 0, 0), (161, .goto (-18), 3, 143, 0, 0, 0), (164, .aload_n 0, 1, 0, 0, 0, 0), (165, .aload_n 0, 1, 0, 0, 0, 0), (166, .getfield 121, 3, 9, 36, 832, 0), (169, .putfield 142, 3, 9, 5, 801, 0), (172, .aload_n 0, 1, 0, 0, 0, 0), (173, .aload_n 0, 1, 0, 0, 0, 0), (174, .getfield 128, 3, 9, 37, 833, 0), (177, .putfield 145, 3, 9, 16, 812, 0), (180, .aload_n 0, 1, 0, 0, 0, 0), (181, .getfield 142, 3, 9, 5, 801, 0), (184, .ireturn, 1, 0, 0, 0, 0)]
def zco114 : List zI := zco114_0 ++ (zco114_1 ++ (zco114_2))
def zco115_0 : List zI := [(0, .aload_n 0, 1, 0, 0, 0, 0), (1, .iconst 0, 1, 0, 0, 0, 0), (2, .putfield 101, 3, 9, 35, 831, 0), (5, .aload_n 0, 1, 0, 0, 0, 0), (6, .aload_n 0, 1, 0, 0, 0, 0), (7, .getfield 142, 3, 9, 5, 801, 0), (10, .putfield 121, 3, 9, 36, 832, 0), (13, .aload_n 0, 1, 0, 0, 0, 0), (14, .aload_n 0, 1, 0, 0, 0, 0), (15, .getfield 145, 3, 9, 16, 812, 0), (18, .putfield 128, 3, 9, 37, 833, 0), (21, .iconst 0, 1, 0, 0, 0, 0), (22, .istore_n 1, 1, 0, 0, 0, 0), (23, .iload_n 1, 1, 0, 0, 0, 0), (24, .sipush 320, 3, 0, 0, 0, 0), (27, .if_icmp .ge 21, 3, 48, 0, 0, 0), (30, .aload_n 0, 1, 0, 0, 0, 0), (31, .getfield 20, 3, 9, 4, 800, 0), (34, .iload_n 1, 1, 0, 0, 0, 0), (35, .aload_n 0, 1, 0, 0, 0, 0), (36, .getfield 17, 3, 9, 3, 799, 0), (39, .iload_n 1, 1, 0, 0, 0, 0), (40, .iaload, 1, 0, 0, 0, 0), (41, .iastore, 1, 0, 0, 0, 0), (42, .iinc 1 1, 3, 0, 0, 0, 0), (45, .goto (-22), 3, 23, 0, 0, 0), (48, .aload_n 0, 1, 0, 0, 0, 0), (49, .invokevirtual 104, 3, 116, 0, 937, 0), (52, .aload_n 0, 1, 0, 0, 0, 0), (53, .getfield 101, 3, 9, 35, 831, 0), (56, .aload_n 0, 1, 0, 0, 0, 0), (57, .getfield 96, 3, 9, 1, 797, 0), (60, .if_icmp .ge 21, 3, 81, 0, 0, 0), (63, .aload_n 0, 1, 0, 0, 0, 0), (64, .invokevirtual 148, 3, 117, 0, 941, 0), (67, .istore_n 1, 1, 0, 0, 0, 0), (68, .iload_n 1, 1, 0, 0, 0, 0), (69, .ifCond .le 5, 3, 74, 0, 0, 0), (72, .iload_n 1, 1, 0, 0, 0, 0), (73, .ireturn, 1, 0, 0, 0, 0)]
def zco115_1 : List zI := [(74, .aload_n 0, 1, 0, 0, 0, 0), (75, .invokevirtual 104, 3, 116, 0, 937, 0), (78, .goto (-26), 3, 52, 0, 0, 0), (81, .iconst 0, 1, 0, 0, 0, 0), (82, .ireturn, 1, 0, 0, 0, 0)]
def zco115 : List zI := zco115_0 ++ (zco115_1)
def zco116 : List zI := [(0, .aload_n 0, 1, 0, 0, 0, 0), (1, .getfield 101, 3, 9, 35, 831, 0), (4, .aload_n 0, 1, 0, 0, 0, 0), (5, .getfield 96, 3, 9, 1, 797, 0), (8, .if_icmp .ge 30, 3, 38, 0, 0, 0), (11, .aload_n 0, 1, 0, 0, 0, 0), (12, .getfield 7, 3, 9, 0, 796, 0), (15, .aload_n 0, 1, 0, 0, 0, 0), (16, .getfield 101, 3, 9, 35, 831, 0), (19, .iaload, 1, 0, 0, 0, 0), (20, .bipush 32, 2, 0, 0, 0, 0), (22, .if_icmp .ne 16, 3, 38, 0, 0, 0), (25, .aload_n 0, 1, 0, 0, 0, 0), (26, .dup, 1, 0, 0, 0, 0), (27, .getfield 101, 3, 9, 35, 831, 0), (30, .iconst 1, 1, 0, 0, 0, 0), (31, .iadd, 1, 0, 0, 0, 0), (32, .putfield 101, 3, 9, 35, 831, 0), (35, .goto (-35), 3, 0, 0, 0, 0), (38, .return_, 1, 0, 0, 0, 0)]
def zco117_0 : List zI := [(0, .aload_n 0, 1, 0, 0, 0, 0), (1, .getfield 101, 3, 9, 35, 831, 0), (4, .istore_n 1, 1, 0, 0, 0, 0), (5, .aload_n 0, 1, 0, 0, 0, 0), (6, .getfield 7, 3, 9, 0, 796, 0), (9, .aload_n 0, 1, 0, 0, 0, 0), (10, .getfield 101, 3, 9, 35, 831, 0), (13, .iaload, 1, 0, 0, 0, 0), (14, .istore_n 2, 1, 0, 0, 0, 0), (15, .iload_n 2, 1, 0, 0, 0, 0), (16, .bipush 98, 2, 0, 0, 0, 0), (18, .if_icmp .eq 25, 3, 43, 0, 0, 0), (21, .iload_n 2, 1, 0, 0, 0, 0), (22, .bipush 115, 2, 0, 0, 0, 0), (24, .if_icmp .eq 19, 3, 43, 0, 0, 0), (27, .iload_n 2, 1, 0, 0, 0, 0), (28, .bipush 103, 2, 0, 0, 0, 0), (30, .if_icmp .eq 13, 3, 43, 0, 0, 0), (33, .aload_n 0, 1, 0, 0, 0, 0), (34, .iconst 1, 1, 0, 0, 0, 0), (35, .aload_n 0, 1, 0, 0, 0, 0), (36, .getfield 101, 3, 9, 35, 831, 0), (39, .invokevirtual 111, 3, 118, 2, 945, 0), (42, .ireturn, 1, 0, 0, 0, 0), (43, .aload_n 0, 1, 0, 0, 0, 0), (44, .dup, 1, 0, 0, 0, 0), (45, .getfield 101, 3, 9, 35, 831, 0), (48, .iconst 1, 1, 0, 0, 0, 0), (49, .iadd, 1, 0, 0, 0, 0), (50, .putfield 101, 3, 9, 35, 831, 0), (53, .aload_n 0, 1, 0, 0, 0, 0), (54, .iload_n 2, 1, 0, 0, 0, 0), (55, .iload_n 2, 1, 0, 0, 0, 0), (56, .bipush 98, 2, 0, 0, 0, 0), (58, .if_icmp .ne 7, 3, 65, 0, 0, 0), (61, .iconst 5, 1, 0, 0, 0, 0), (62, .goto 4, 3, 66, 0, 0, 0), (65, .iconst 4, 1, 0, 0, 0, 0), (66, .invokevirtual 131, 3, 119, 2, 949, 0), (69, .istore_n 3, 1, 0, 0, 0, 0)]
def zco117_1 : List zI := [(70, .iload_n 3, 1, 0, 0, 0, 0), (71, .ifCond .le 5, 3, 76, 0, 0, 0), (74, .iload_n 3, 1, 0, 0, 0, 0), (75, .ireturn, 1, 0, 0, 0, 0), (76, .iload_n 2, 1, 0, 0, 0, 0), (77, .bipush 98, 2, 0, 0, 0, 0), (79, .if_icmp .ne 12, 3, 91, 0, 0, 0), (82, .aload_n 0, 1, 0, 0, 0, 0), (83, .getfield 81, 3, 9, 38, 834, 0), (86, .iconst 4, 1, 0, 0, 0, 0), (87, .iaload, 1, 0, 0, 0, 0), (88, .goto 4, 3, 92, 0, 0, 0), (91, .iconst 1, 1, 0, 0, 0, 0), (92, .istore 4, 2, 0, 0, 0, 0), (94, .iload_n 2, 1, 0, 0, 0, 0), (95, .bipush 115, 2, 0, 0, 0, 0), (97, .if_icmp .ne 10, 3, 107, 0, 0, 0), (100, .aload_n 0, 1, 0, 0, 0, 0), (101, .invokevirtual 134, 3, 122, 0, 961, 0), (104, .goto 9, 3, 113, 0, 0, 0), (107, .aload_n 0, 1, 0, 0, 0, 0), (108, .iload 4, 2, 0, 0, 0, 0), (110, .invokevirtual 138, 3, 123, 1, 965, 0), (113, .istore 5, 2, 0, 0, 0, 0), (115, .iload 5, 2, 0, 0, 0, 0), (117, .ifCond .ne 10, 3, 127, 0, 0, 0), (120, .aload_n 0, 1, 0, 0, 0, 0), (121, .iconst 3, 1, 0, 0, 0, 0), (122, .iload_n 1, 1, 0, 0, 0, 0), (123, .invokevirtual 111, 3, 118, 2, 945, 0), (126, .ireturn, 1, 0, 0, 0, 0), (127, .iload_n 2, 1, 0, 0, 0, 0), (128, .bipush 115, 2, 0, 0, 0, 0), (130, .if_icmp .ne 15, 3, 145, 0, 0, 0), (133, .aload_n 0, 1, 0, 0, 0, 0), (134, .getfield 128, 3, 9, 37, 833, 0), (137, .bipush 12, 2, 0, 0, 0, 0), (139, .if_icmp .ne 25, 3, 164, 0, 0, 0), (142, .goto 15, 3, 157, 0, 0, 0), (145, .aload_n 0, 1, 0, 0, 0, 0)]
def zco117_2 : List zI := [(146, .getfield 121, 3, 9, 36, 832, 0), (149, .iload 4, 2, 0, 0, 0, 0), (151, .iadd, 1, 0, 0, 0, 0), (152, .bipush 40, 2, 0, 0, 0, 0), (154, .if_icmp .le 10, 3, 164, 0, 0, 0), (157, .aload_n 0, 1, 0, 0, 0, 0), (158, .iconst 4, 1, 0, 0, 0, 0), (159, .iload_n 1, 1, 0, 0, 0, 0), (160, .invokevirtual 111, 3, 118, 2, 945, 0), (163, .ireturn, 1, 0, 0, 0, 0), (164, .iload_n 2, 1, 0, 0, 0, 0), (165, .bipush 115, 2, 0, 0, 0, 0), (167, .if_icmp .ne 13, 3, 180, 0, 0, 0), (170, .aload_n 0, 1, 0, 0, 0, 0), (171, .dup, 1, 0, 0, 0, 0), (172, .getfield 128, 3, 9, 37, 833, 0), (175, .iconst 1, 1, 0, 0, 0, 0), (176, .iadd, 1, 0, 0, 0, 0), (177, .putfield 128, 3, 9, 37, 833, 0), (180, .iconst 0, 1, 0, 0, 0, 0), (181, .istore 6, 2, 0, 0, 0, 0), (183, .iload 6, 2, 0, 0, 0, 0), (185, .iload 4, 2, 0, 0, 0, 0), (187, .if_icmp .ge 67, 3, 254, 0, 0, 0), (190, .iload_n 2, 1, 0, 0, 0, 0), (191, .bipush 115, 2, 0, 0, 0, 0), (193, .if_icmp .eq 61, 3, 254, 0, 0, 0), (196, .aload_n 0, 1, 0, 0, 0, 0), (197, .getfield 84, 3, 9, 39, 835, 0), (200, .aload_n 0, 1, 0, 0, 0, 0), (201, .getfield 121, 3, 9, 36, 832, 0), (204, .aload_n 0, 1, 0, 0, 0, 0), (205, .getfield 81, 3, 9, 38, 834, 0), (208, .iconst 2, 1, 0, 0, 0, 0), (209, .iaload, 1, 0, 0, 0, 0), (210, .aload_n 0, 1, 0, 0, 0, 0), (211, .getfield 81, 3, 9, 38, 834, 0), (214, .iconst 3, 1, 0, 0, 0, 0), (215, .iaload, 1, 0, 0, 0, 0), (216, .imul, 1, 0, 0, 0, 0)]
def zco117_3 : List zI := [(217, .iastore, 1, 0, 0, 0, 0), (218, .aload_n 0, 1, 0, 0, 0, 0), (219, .getfield 87, 3, 9, 40, 836, 0), (222, .aload_n 0, 1, 0, 0, 0, 0), (223, .getfield 121, 3, 9, 36, 832, 0), (226, .iload_n 2, 1, 0, 0, 0, 0), (227, .bipush 103, 2, 0, 0, 0, 0), (229, .if_icmp .ne 7, 3, 236, 0, 0, 0), (232, .iconst 1, 1, 0, 0, 0, 0), (233, .goto 4, 3, 237, 0, 0, 0), (236, .iconst 0, 1, 0, 0, 0, 0), (237, .bastore, 1, 0, 0, 0, 0), (238, .aload_n 0, 1, 0, 0, 0, 0), (239, .dup, 1, 0, 0, 0, 0), (240, .getfield 121, 3, 9, 36, 832, 0), (243, .iconst 1, 1, 0, 0, 0, 0), (244, .iadd, 1, 0, 0, 0, 0), (245, .putfield 121, 3, 9, 36, 832, 0), (248, .iinc 6 1, 3, 0, 0, 0, 0), (251, .goto (-68), 3, 183, 0, 0, 0), (254, .aload_n 0, 1, 0, 0, 0, 0), (255, .getfield 101, 3, 9, 35, 831, 0), (258, .aload_n 0, 1, 0, 0, 0, 0), (259, .getfield 96, 3, 9, 1, 797, 0), (262, .if_icmp .ge 29, 3, 291, 0, 0, 0), (265, .aload_n 0, 1, 0, 0, 0, 0), (266, .getfield 7, 3, 9, 0, 796, 0), (269, .aload_n 0, 1, 0, 0, 0, 0), (270, .getfield 101, 3, 9, 35, 831, 0), (273, .iaload, 1, 0, 0, 0, 0), (274, .bipush 32, 2, 0, 0, 0, 0), (276, .if_icmp .eq 15, 3, 291, 0, 0, 0), (279, .aload_n 0, 1, 0, 0, 0, 0), (280, .iconst 1, 1, 0, 0, 0, 0), (281, .aload_n 0, 1, 0, 0, 0, 0), (282, .getfield 101, 3, 9, 35, 831, 0), (285, .invokevirtual 111, 3, 118, 2, 945, 0), (288, .goto 4, 3, 292, 0, 0, 0), (291, .iconst 0, 1, 0, 0, 0, 0), (292, .ireturn, 1, 0, 0, 0, 0)]
def zco117 : List zI := zco117_0 ++ (zco117_1 ++ (zco117_2 ++ (zco117_3)))
def zco118 : List zI := [(0, .aload_n 0, 1, 0, 0, 0, 0), (1, .iload_n 2, 1, 0, 0, 0, 0), (2, .putfield 13, 3, 9, 2, 798, 0), (5, .iload_n 1, 1, 0, 0, 0, 0), (6, .ireturn, 1, 0, 0, 0, 0)]
def zco119_0 : List zI := [(0, .iconst 0, 1, 0, 0, 0, 0), (1, .istore_n 3, 1, 0, 0, 0, 0), (2, .iload_n 3, 1, 0, 0, 0, 0), (3, .iload_n 2, 1, 0, 0, 0, 0), (4, .if_icmp .ge 211, 3, 215, 0, 0, 0), (7, .aload_n 0, 1, 0, 0, 0, 0), (8, .invokevirtual 104, 3, 116, 0, 937, 0), (11, .aload_n 0, 1, 0, 0, 0, 0), (12, .getfield 101, 3, 9, 35, 831, 0), (15, .istore 4, 2, 0, 0, 0, 0), (17, .iconst 0, 1, 0, 0, 0, 0), (18, .istore 5, 2, 0, 0, 0, 0), (20, .aload_n 0, 1, 0, 0, 0, 0), (21, .getfield 101, 3, 9, 35, 831, 0), (24, .aload_n 0, 1, 0, 0, 0, 0), (25, .getfield 96, 3, 9, 1, 797, 0), (28, .if_icmp .ge 74, 3, 102, 0, 0, 0), (31, .aload_n 0, 1, 0, 0, 0, 0), (32, .getfield 7, 3, 9, 0, 796, 0), (35, .aload_n 0, 1, 0, 0, 0, 0), (36, .getfield 101, 3, 9, 35, 831, 0), (39, .iaload, 1, 0, 0, 0, 0), (40, .i2l, 1, 0, 0, 0, 0), (41, .ldc2_w 107, 3, 0, 0, 953, 48), (44, .ldc2_w 109, 3, 0, 0, 954, 57), (47, .invokestatic 92, 3, 113, 3, 925, 0), (50, .ifCond .eq 52, 3, 102, 0, 0, 0), (53, .aload_n 0, 1, 0, 0, 0, 0), (54, .getfield 101, 3, 9, 35, 831, 0), (57, .iload 4, 2, 0, 0, 0, 0), (59, .isub, 1, 0, 0, 0, 0), (60, .iconst 2, 1, 0, 0, 0, 0), (61, .if_icmp .ge 24, 3, 85, 0, 0, 0), (64, .bipush 10, 2, 0, 0, 0, 0), (66, .iload 5, 2, 0, 0, 0, 0), (68, .imul, 1, 0, 0, 0, 0), (69, .aload_n 0, 1, 0, 0, 0, 0), (70, .getfield 7, 3, 9, 0, 796, 0), (73, .aload_n 0, 1, 0, 0, 0, 0), (74, .getfield 101, 3, 9, 35, 831, 0)]
def zco119_1 : List zI := [(77, .iaload, 1, 0, 0, 0, 0), (78, .iadd, 1, 0, 0, 0, 0), (79, .bipush 48, 2, 0, 0, 0, 0), (81, .isub, 1, 0, 0, 0, 0), (82, .goto 5, 3, 87, 0, 0, 0), (85, .iload 5, 2, 0, 0, 0, 0), (87, .istore 5, 2, 0, 0, 0, 0), (89, .aload_n 0, 1, 0, 0, 0, 0), (90, .dup, 1, 0, 0, 0, 0), (91, .getfield 101, 3, 9, 35, 831, 0), (94, .iconst 1, 1, 0, 0, 0, 0), (95, .iadd, 1, 0, 0, 0, 0), (96, .putfield 101, 3, 9, 35, 831, 0), (99, .goto (-79), 3, 20, 0, 0, 0), (102, .aload_n 0, 1, 0, 0, 0, 0), (103, .getfield 101, 3, 9, 35, 831, 0), (106, .iload 4, 2, 0, 0, 0, 0), (108, .if_icmp .ne 11, 3, 119, 0, 0, 0), (111, .aload_n 0, 1, 0, 0, 0, 0), (112, .iconst 1, 1, 0, 0, 0, 0), (113, .iload 4, 2, 0, 0, 0, 0), (115, .invokevirtual 111, 3, 118, 2, 945, 0), (118, .ireturn, 1, 0, 0, 0, 0), (119, .aload_n 0, 1, 0, 0, 0, 0), (120, .getfield 101, 3, 9, 35, 831, 0), (123, .iload 4, 2, 0, 0, 0, 0), (125, .isub, 1, 0, 0, 0, 0), (126, .iconst 2, 1, 0, 0, 0, 0), (127, .if_icmp .gt 24, 3, 151, 0, 0, 0), (130, .iload 5, 2, 0, 0, 0, 0), (132, .i2l, 1, 0, 0, 0, 0), (133, .iload_n 1, 1, 0, 0, 0, 0), (134, .iload_n 3, 1, 0, 0, 0, 0), (135, .invokestatic 115, 3, 120, 2, 955, 0), (138, .i2l, 1, 0, 0, 0, 0), (139, .iload_n 1, 1, 0, 0, 0, 0), (140, .iload_n 3, 1, 0, 0, 0, 0), (141, .invokestatic 118, 3, 121, 2, 958, 0), (144, .i2l, 1, 0, 0, 0, 0), (145, .invokestatic 92, 3, 113, 3, 925, 0)]
def zco119_2 : List zI := [(148, .ifCond .ne 11, 3, 159, 0, 0, 0), (151, .aload_n 0, 1, 0, 0, 0, 0), (152, .iconst 2, 1, 0, 0, 0, 0), (153, .iload 4, 2, 0, 0, 0, 0), (155, .invokevirtual 111, 3, 118, 2, 945, 0), (158, .ireturn, 1, 0, 0, 0, 0), (159, .aload_n 0, 1, 0, 0, 0, 0), (160, .getfield 81, 3, 9, 38, 834, 0), (163, .iload_n 3, 1, 0, 0, 0, 0), (164, .iload 5, 2, 0, 0, 0, 0), (166, .iastore, 1, 0, 0, 0, 0), (167, .iload_n 3, 1, 0, 0, 0, 0), (168, .iload_n 2, 1, 0, 0, 0, 0), (169, .iconst 1, 1, 0, 0, 0, 0), (170, .isub, 1, 0, 0, 0, 0), (171, .if_icmp .ge 38, 3, 209, 0, 0, 0), (174, .aload_n 0, 1, 0, 0, 0, 0), (175, .getfield 101, 3, 9, 35, 831, 0), (178, .aload_n 0, 1, 0, 0, 0, 0), (179, .getfield 96, 3, 9, 1, 797, 0), (182, .if_icmp .eq 17, 3, 199, 0, 0, 0), (185, .aload_n 0, 1, 0, 0, 0, 0), (186, .getfield 7, 3, 9, 0, 796, 0), (189, .aload_n 0, 1, 0, 0, 0, 0), (190, .getfield 101, 3, 9, 35, 831, 0), (193, .iaload, 1, 0, 0, 0, 0), (194, .bipush 32, 2, 0, 0, 0, 0), (196, .if_icmp .eq 13, 3, 209, 0, 0, 0), (199, .aload_n 0, 1, 0, 0, 0, 0), (200, .iconst 1, 1, 0, 0, 0, 0), (201, .aload_n 0, 1, 0, 0, 0, 0), (202, .getfield 101, 3, 9, 35, 831, 0), (205, .invokevirtual 111, 3, 118, 2, 945, 0), (208, .ireturn, 1, 0, 0, 0, 0), (209, .iinc 3 1, 3, 0, 0, 0, 0), (212, .goto (-210), 3, 2, 0, 0, 0), (215, .iconst 0, 1, 0, 0, 0, 0), (216, .ireturn, 1, 0, 0, 0, 0)]
def zco119 : List zI := zco119_0 ++ (zco119_1 ++ (zco119_2))
def zco120 : List zI := [(0, .iload_n 0, 1, 0, 0, 0, 0), (1, .bipush 115, 2, 0, 0, 0, 0), (3, .if_icmp .ne 16, 3, 19, 0, 0, 0), (6, .iload_n 1, 1, 0, 0, 0, 0), (7, .iconst 3, 1, 0, 0, 0, 0), (8, .if_icmp .ne 7, 3, 15, 0, 0, 0), (11, .iconst 1, 1, 0, 0, 0, 0), (12, .goto 17, 3, 29, 0, 0, 0), (15, .iconst 0, 1, 0, 0, 0, 0), (16, .goto 13, 3, 29, 0, 0, 0), (19, .iload_n 1, 1, 0, 0, 0, 0), (20, .iconst 1, 1, 0, 0, 0, 0), (21, .if_icmp .le 7, 3, 28, 0, 0, 0), (24, .iconst 1, 1, 0, 0, 0, 0), (25, .goto 4, 3, 29, 0, 0, 0), (28, .iconst 0, 1, 0, 0, 0, 0), (29, .ireturn, 1, 0, 0, 0, 0)]
def zco121 : List zI := [(0, .iload_n 1, 1, 0, 0, 0, 0), (1, .ifCond .ne 8, 3, 9, 0, 0, 0), (4, .bipush 19, 2, 0, 0, 0, 0), (6, .goto 35, 3, 41, 0, 0, 0), (9, .iload_n 1, 1, 0, 0, 0, 0), (10, .iconst 1, 1, 0, 0, 0, 0), (11, .if_icmp .ne 8, 3, 19, 0, 0, 0), (14, .bipush 15, 2, 0, 0, 0, 0), (16, .goto 25, 3, 41, 0, 0, 0), (19, .iload_n 0, 1, 0, 0, 0, 0), (20, .bipush 115, 2, 0, 0, 0, 0), (22, .if_icmp .ne 17, 3, 39, 0, 0, 0), (25, .iload_n 1, 1, 0, 0, 0, 0), (26, .iconst 2, 1, 0, 0, 0, 0), (27, .if_icmp .ne 7, 3, 34, 0, 0, 0), (30, .iconst 1, 1, 0, 0, 0, 0), (31, .goto 10, 3, 41, 0, 0, 0), (34, .bipush 20, 2, 0, 0, 0, 0), (36, .goto 5, 3, 41, 0, 0, 0), (39, .bipush 9, 2, 0, 0, 0, 0), (41, .ireturn, 1, 0, 0, 0, 0)]
def zco122_0 : List zI := [(0, .iconst 1, 1, 0, 0, 0, 0), (1, .istore_n 1, 1, 0, 0, 0, 0), (2, .iconst 0, 1, 0, 0, 0, 0), (3, .istore_n 2, 1, 0, 0, 0, 0), (4, .iload_n 2, 1, 0, 0, 0, 0), (5, .aload_n 0, 1, 0, 0, 0, 0), (6, .getfield 81, 3, 9, 38, 834, 0), (9, .iconst 3, 1, 0, 0, 0, 0), (10, .iaload, 1, 0, 0, 0, 0), (11, .if_icmp .ge 150, 3, 161, 0, 0, 0), (14, .iload_n 1, 1, 0, 0, 0, 0), (15, .ifCond .eq 146, 3, 161, 0, 0, 0), (18, .aload_n 0, 1, 0, 0, 0, 0), (19, .getfield 81, 3, 9, 38, 834, 0), (22, .iconst 0, 1, 0, 0, 0, 0), (23, .iaload, 1, 0, 0, 0, 0), (24, .aload_n 0, 1, 0, 0, 0, 0), (25, .getfield 81, 3, 9, 38, 834, 0), (28, .iconst 2, 1, 0, 0, 0, 0), (29, .iaload, 1, 0, 0, 0, 0), (30, .ifCond .ne 7, 3, 37, 0, 0, 0), (33, .iload_n 2, 1, 0, 0, 0, 0), (34, .goto 4, 3, 38, 0, 0, 0), (37, .iconst 0, 1, 0, 0, 0, 0), (38, .iadd, 1, 0, 0, 0, 0), (39, .istore_n 3, 1, 0, 0, 0, 0), (40, .aload_n 0, 1, 0, 0, 0, 0), (41, .getfield 81, 3, 9, 38, 834, 0), (44, .iconst 1, 1, 0, 0, 0, 0), (45, .iaload, 1, 0, 0, 0, 0), (46, .aload_n 0, 1, 0, 0, 0, 0), (47, .getfield 81, 3, 9, 38, 834, 0), (50, .iconst 2, 1, 0, 0, 0, 0), (51, .iaload, 1, 0, 0, 0, 0), (52, .iconst 1, 1, 0, 0, 0, 0), (53, .if_icmp .ne 7, 3, 60, 0, 0, 0), (56, .iload_n 2, 1, 0, 0, 0, 0), (57, .goto 4, 3, 61, 0, 0, 0), (60, .iconst 0, 1, 0, 0, 0, 0), (61, .iadd, 1, 0, 0, 0, 0)]
def zco122_1 : List zI := [(62, .istore 4, 2, 0, 0, 0, 0), (64, .iload_n 3, 1, 0, 0, 0, 0), (65, .bipush 20, 2, 0, 0, 0, 0), (67, .if_icmp .ge 47, 3, 114, 0, 0, 0), (70, .iload 4, 2, 0, 0, 0, 0), (72, .bipush 16, 2, 0, 0, 0, 0), (74, .if_icmp .ge 40, 3, 114, 0, 0, 0), (77, .aload_n 0, 1, 0, 0, 0, 0), (78, .getfield 20, 3, 9, 4, 800, 0), (81, .bipush 20, 2, 0, 0, 0, 0), (83, .iload 4, 2, 0, 0, 0, 0), (85, .imul, 1, 0, 0, 0, 0), (86, .iload_n 3, 1, 0, 0, 0, 0), (87, .iadd, 1, 0, 0, 0, 0), (88, .iaload, 1, 0, 0, 0, 0), (89, .iconst (-1), 1, 0, 0, 0, 0), (90, .if_icmp .eq 20, 3, 110, 0, 0, 0), (93, .aload_n 0, 1, 0, 0, 0, 0), (94, .getfield 20, 3, 9, 4, 800, 0), (97, .bipush 20, 2, 0, 0, 0, 0), (99, .iload 4, 2, 0, 0, 0, 0), (101, .imul, 1, 0, 0, 0, 0), (102, .iload_n 3, 1, 0, 0, 0, 0), (103, .iadd, 1, 0, 0, 0, 0), (104, .iaload, 1, 0, 0, 0, 0), (105, .bipush 100, 2, 0, 0, 0, 0), (107, .if_icmp .lt 7, 3, 114, 0, 0, 0), (110, .iconst 1, 1, 0, 0, 0, 0), (111, .goto 4, 3, 115, 0, 0, 0), (114, .iconst 0, 1, 0, 0, 0, 0), (115, .istore_n 1, 1, 0, 0, 0, 0), (116, .iload_n 1, 1, 0, 0, 0, 0), (117, .ifCond .eq 38, 3, 155, 0, 0, 0), (120, .aload_n 0, 1, 0, 0, 0, 0), (121, .getfield 20, 3, 9, 4, 800, 0), (124, .bipush 20, 2, 0, 0, 0, 0), (126, .iload 4, 2, 0, 0, 0, 0), (128, .imul, 1, 0, 0, 0, 0), (129, .iload_n 3, 1, 0, 0, 0, 0), (130, .iadd, 1, 0, 0, 0, 0)]
def zco122_2 : List zI := [(131, .iaload, 1, 0, 0, 0, 0), (132, .iconst (-1), 1, 0, 0, 0, 0), (133, .if_icmp .ne 22, 3, 155, 0, 0, 0), (136, .aload_n 0, 1, 0, 0, 0, 0), (137, .getfield 20, 3, 9, 4, 800, 0), (140, .bipush 20, 2, 0, 0, 0, 0), (142, .iload 4, 2, 0, 0, 0, 0), (144, .imul, 1, 0, 0, 0, 0), (145, .iload_n 3, 1, 0, 0, 0, 0), (146, .iadd, 1, 0, 0, 0, 0), (147, .bipush 100, 2, 0, 0, 0, 0), (149, .aload_n 0, 1, 0, 0, 0, 0), (150, .getfield 128, 3, 9, 37, 833, 0), (153, .iadd, 1, 0, 0, 0, 0), (154, .iastore, 1, 0, 0, 0, 0), (155, .iinc 2 1, 3, 0, 0, 0, 0), (158, .goto (-154), 3, 4, 0, 0, 0), (161, .iload_n 1, 1, 0, 0, 0, 0), (162, .ireturn, 1, 0, 0, 0, 0)]
def zco122 : List zI := zco122_0 ++ (zco122_1 ++ (zco122_2))
def zco123_0 : List zI := [(0, .iconst 1, 1, 0, 0, 0, 0), (1, .istore_n 2, 1, 0, 0, 0, 0), (2, .iconst 0, 1, 0, 0, 0, 0), (3, .istore_n 3, 1, 0, 0, 0, 0), (4, .iload_n 3, 1, 0, 0, 0, 0), (5, .iload_n 1, 1, 0, 0, 0, 0), (6, .if_icmp .ge 57, 3, 63, 0, 0, 0), (9, .iload_n 2, 1, 0, 0, 0, 0), (10, .ifCond .eq 53, 3, 63, 0, 0, 0), (13, .aload_n 0, 1, 0, 0, 0, 0), (14, .aload_n 0, 1, 0, 0, 0, 0), (15, .getfield 81, 3, 9, 38, 834, 0), (18, .iconst 0, 1, 0, 0, 0, 0), (19, .iaload, 1, 0, 0, 0, 0), (20, .iload_n 3, 1, 0, 0, 0, 0), (21, .aload_n 0, 1, 0, 0, 0, 0), (22, .getfield 81, 3, 9, 38, 834, 0), (25, .iconst 2, 1, 0, 0, 0, 0), (26, .iaload, 1, 0, 0, 0, 0), (27, .imul, 1, 0, 0, 0, 0), (28, .iadd, 1, 0, 0, 0, 0), (29, .aload_n 0, 1, 0, 0, 0, 0), (30, .getfield 81, 3, 9, 38, 834, 0), (33, .iconst 1, 1, 0, 0, 0, 0), (34, .iaload, 1, 0, 0, 0, 0), (35, .aload_n 0, 1, 0, 0, 0, 0), (36, .getfield 81, 3, 9, 38, 834, 0), (39, .iconst 2, 1, 0, 0, 0, 0), (40, .iaload, 1, 0, 0, 0, 0), (41, .aload_n 0, 1, 0, 0, 0, 0), (42, .getfield 81, 3, 9, 38, 834, 0), (45, .iconst 3, 1, 0, 0, 0, 0), (46, .iaload, 1, 0, 0, 0, 0), (47, .aload_n 0, 1, 0, 0, 0, 0), (48, .getfield 121, 3, 9, 36, 832, 0), (51, .iload_n 3, 1, 0, 0, 0, 0), (52, .iadd, 1, 0, 0, 0, 0), (53, .invokevirtual 124, 3, 124, 5, 969, 0), (56, .istore_n 2, 1, 0, 0, 0, 0), (57, .iinc 3 1, 3, 0, 0, 0, 0)]
def zco123_1 : List zI := [(60, .goto (-56), 3, 4, 0, 0, 0), (63, .iload_n 2, 1, 0, 0, 0, 0), (64, .ireturn, 1, 0, 0, 0, 0)]
def zco123 : List zI := zco123_0 ++ (zco123_1)
def zco124_0 : List zI := [(0, .iload_n 1, 1, 0, 0, 0, 0), (1, .iload_n 3, 1, 0, 0, 0, 0), (2, .iadd, 1, 0, 0, 0, 0), (3, .bipush 20, 2, 0, 0, 0, 0), (5, .if_icmp .gt 16, 3, 21, 0, 0, 0), (8, .iload_n 2, 1, 0, 0, 0, 0), (9, .iload 4, 2, 0, 0, 0, 0), (11, .iadd, 1, 0, 0, 0, 0), (12, .bipush 16, 2, 0, 0, 0, 0), (14, .if_icmp .gt 7, 3, 21, 0, 0, 0), (17, .iconst 1, 1, 0, 0, 0, 0), (18, .goto 4, 3, 22, 0, 0, 0), (21, .iconst 0, 1, 0, 0, 0, 0), (22, .istore 6, 2, 0, 0, 0, 0), (24, .iload_n 2, 1, 0, 0, 0, 0), (25, .istore 7, 2, 0, 0, 0, 0), (27, .iload 7, 2, 0, 0, 0, 0), (29, .iload_n 2, 1, 0, 0, 0, 0), (30, .iload 4, 2, 0, 0, 0, 0), (32, .iadd, 1, 0, 0, 0, 0), (33, .if_icmp .ge 75, 3, 108, 0, 0, 0), (36, .iload 6, 2, 0, 0, 0, 0), (38, .ifCond .eq 70, 3, 108, 0, 0, 0), (41, .iload_n 1, 1, 0, 0, 0, 0), (42, .istore 8, 2, 0, 0, 0, 0), (44, .iload 8, 2, 0, 0, 0, 0), (46, .iload_n 1, 1, 0, 0, 0, 0), (47, .iload_n 3, 1, 0, 0, 0, 0), (48, .iadd, 1, 0, 0, 0, 0), (49, .if_icmp .ge 53, 3, 102, 0, 0, 0), (52, .iload 6, 2, 0, 0, 0, 0), (54, .ifCond .eq 48, 3, 102, 0, 0, 0), (57, .aload_n 0, 1, 0, 0, 0, 0), (58, .getfield 20, 3, 9, 4, 800, 0), (61, .bipush 20, 2, 0, 0, 0, 0), (63, .iload 7, 2, 0, 0, 0, 0), (65, .imul, 1, 0, 0, 0, 0), (66, .iload 8, 2, 0, 0, 0, 0), (68, .iadd, 1, 0, 0, 0, 0), (69, .iaload, 1, 0, 0, 0, 0)]
def zco124_1 : List zI := [(70, .iconst (-1), 1, 0, 0, 0, 0), (71, .if_icmp .ne 7, 3, 78, 0, 0, 0), (74, .iconst 1, 1, 0, 0, 0, 0), (75, .goto 4, 3, 79, 0, 0, 0), (78, .iconst 0, 1, 0, 0, 0, 0), (79, .istore 6, 2, 0, 0, 0, 0), (81, .aload_n 0, 1, 0, 0, 0, 0), (82, .getfield 20, 3, 9, 4, 800, 0), (85, .bipush 20, 2, 0, 0, 0, 0), (87, .iload 7, 2, 0, 0, 0, 0), (89, .imul, 1, 0, 0, 0, 0), (90, .iload 8, 2, 0, 0, 0, 0), (92, .iadd, 1, 0, 0, 0, 0), (93, .iload 5, 2, 0, 0, 0, 0), (95, .iastore, 1, 0, 0, 0, 0), (96, .iinc 8 1, 3, 0, 0, 0, 0), (99, .goto (-55), 3, 44, 0, 0, 0), (102, .iinc 7 1, 3, 0, 0, 0, 0), (105, .goto (-78), 3, 27, 0, 0, 0), (108, .iload 6, 2, 0, 0, 0, 0), (110, .ireturn, 1, 0, 0, 0, 0)]
def zco124 : List zI := zco124_0 ++ (zco124_1)
def zco125 : List zI := [(0, .aload_n 0, 1, 0, 0, 0, 0), (1, .getfield 13, 3, 9, 2, 798, 0), (4, .ireturn, 1, 0, 0, 0, 0)]
def zco126 : List zI := [(0, .iload_n 1, 1, 0, 0, 0, 0), (1, .iload_n 2, 1, 0, 0, 0, 0), (2, .invokestatic 159, 3, 127, 2, 981, 0), (5, .ifCond .ne 7, 3, 12, 0, 0, 0), (8, .sipush (-1002), 3, 0, 0, 0, 0), (11, .ireturn, 1, 0, 0, 0, 0), (12, .aload_n 0, 1, 0, 0, 0, 0), (13, .getfield 17, 3, 9, 3, 799, 0), (16, .bipush 20, 2, 0, 0, 0, 0), (18, .iload_n 2, 1, 0, 0, 0, 0), (19, .imul, 1, 0, 0, 0, 0), (20, .iload_n 1, 1, 0, 0, 0, 0), (21, .iadd, 1, 0, 0, 0, 0), (22, .iaload, 1, 0, 0, 0, 0), (23, .istore_n 3, 1, 0, 0, 0, 0), (24, .iload_n 3, 1, 0, 0, 0, 0), (25, .bipush 100, 2, 0, 0, 0, 0), (27, .if_icmp .lt 22, 3, 49, 0, 0, 0), (30, .aload_n 0, 1, 0, 0, 0, 0), (31, .getfield 54, 3, 9, 17, 813, 0), (34, .iload_n 3, 1, 0, 0, 0, 0), (35, .bipush 100, 2, 0, 0, 0, 0), (37, .isub, 1, 0, 0, 0, 0), (38, .baload, 1, 0, 0, 0, 0), (39, .ifCond .eq 10, 3, 49, 0, 0, 0), (42, .iload_n 3, 1, 0, 0, 0, 0), (43, .bipush 100, 2, 0, 0, 0, 0), (45, .iadd, 1, 0, 0, 0, 0), (46, .goto 4, 3, 50, 0, 0, 0), (49, .iload_n 3, 1, 0, 0, 0, 0), (50, .ireturn, 1, 0, 0, 0, 0)]
def zco127 : List zI := [(0, .iload_n 0, 1, 0, 0, 0, 0), (1, .i2l, 1, 0, 0, 0, 0), (2, .lconst 0, 1, 0, 0, 0, 0), (3, .ldc2_w 155, 3, 0, 0, 984, 19), (6, .invokestatic 92, 3, 113, 3, 925, 0), (9, .ifCond .eq 19, 3, 28, 0, 0, 0), (12, .iload_n 1, 1, 0, 0, 0, 0), (13, .i2l, 1, 0, 0, 0, 0), (14, .lconst 0, 1, 0, 0, 0, 0), (15, .ldc2_w 157, 3, 0, 0, 985, 15), (18, .invokestatic 92, 3, 113, 3, 925, 0), (21, .ifCond .eq 7, 3, 28, 0, 0, 0), (24, .iconst 1, 1, 0, 0, 0, 0), (25, .goto 4, 3, 29, 0, 0, 0), (28, .iconst 0, 1, 0, 0, 0, 0), (29, .ireturn, 1, 0, 0, 0, 0)]
def zco128_0 : List zI := [(0, .aload_n 0, 1, 0, 0, 0, 0), (1, .iload_n 1, 1, 0, 0, 0, 0), (2, .invokevirtual 182, 3, 129, 1, 990, 0), (5, .ifCond .ne 7, 3, 12, 0, 0, 0), (8, .sipush (-1001), 3, 0, 0, 0, 0), (11, .ireturn, 1, 0, 0, 0, 0), (12, .iload_n 2, 1, 0, 0, 0, 0), (13, .tableswitch 142 0 9 #[55, 62, 69, 84, 90, 96, 102, 122, 129, 135], 55, 0, 0, 0, 0), (68, .aload_n 0, 1, 0, 0, 0, 0), (69, .getfield 23, 3, 9, 6, 802, 0), (72, .iload_n 1, 1, 0, 0, 0, 0), (73, .iaload, 1, 0, 0, 0, 0), (74, .ireturn, 1, 0, 0, 0, 0), (75, .aload_n 0, 1, 0, 0, 0, 0), (76, .getfield 26, 3, 9, 7, 803, 0), (79, .iload_n 1, 1, 0, 0, 0, 0), (80, .iaload, 1, 0, 0, 0, 0), (81, .ireturn, 1, 0, 0, 0, 0), (82, .aload_n 0, 1, 0, 0, 0, 0), (83, .getfield 29, 3, 9, 8, 804, 0), (86, .iload_n 1, 1, 0, 0, 0, 0), (87, .baload, 1, 0, 0, 0, 0), (88, .ifCond .eq 7, 3, 95, 0, 0, 0), (91, .iconst 1, 1, 0, 0, 0, 0), (92, .goto 4, 3, 96, 0, 0, 0), (95, .iconst 0, 1, 0, 0, 0, 0), (96, .ireturn, 1, 0, 0, 0, 0), (97, .aload_n 0, 1, 0, 0, 0, 0), (98, .iload_n 1, 1, 0, 0, 0, 0), (99, .invokevirtual 185, 3, 130, 1, 994, 0), (102, .ireturn, 1, 0, 0, 0, 0), (103, .aload_n 0, 1, 0, 0, 0, 0), (104, .iload_n 1, 1, 0, 0, 0, 0), (105, .invokevirtual 179, 3, 134, 1, 1009, 0), (108, .ireturn, 1, 0, 0, 0, 0), (109, .aload_n 0, 1, 0, 0, 0, 0), (110, .iload_n 1, 1, 0, 0, 0, 0), (111, .invokevirtual 188, 3, 135, 1, 1013, 0), (114, .ireturn, 1, 0, 0, 0, 0), (115, .aload_n 0, 1, 0, 0, 0, 0)]
def zco128_1 : List zI := [(116, .getfield 39, 3, 9, 11, 807, 0), (119, .iload_n 1, 1, 0, 0, 0, 0), (120, .iaload, 1, 0, 0, 0, 0), (121, .ifCond .le 12, 3, 133, 0, 0, 0), (124, .aload_n 0, 1, 0, 0, 0, 0), (125, .getfield 42, 3, 9, 12, 808, 0), (128, .iload_n 1, 1, 0, 0, 0, 0), (129, .iaload, 1, 0, 0, 0, 0), (130, .goto 4, 3, 134, 0, 0, 0), (133, .iconst (-1), 1, 0, 0, 0, 0), (134, .ireturn, 1, 0, 0, 0, 0), (135, .aload_n 0, 1, 0, 0, 0, 0), (136, .getfield 45, 3, 9, 13, 809, 0), (139, .iload_n 1, 1, 0, 0, 0, 0), (140, .iaload, 1, 0, 0, 0, 0), (141, .ireturn, 1, 0, 0, 0, 0), (142, .aload_n 0, 1, 0, 0, 0, 0), (143, .iload_n 1, 1, 0, 0, 0, 0), (144, .invokevirtual 166, 3, 131, 1, 998, 0), (147, .ireturn, 1, 0, 0, 0, 0), (148, .aload_n 0, 1, 0, 0, 0, 0), (149, .getfield 48, 3, 9, 14, 810, 0), (152, .iload_n 1, 1, 0, 0, 0, 0), (153, .iaload, 1, 0, 0, 0, 0), (154, .ireturn, 1, 0, 0, 0, 0), (155, .sipush (-1002), 3, 0, 0, 0, 0), (158, .ireturn, 1, 0, 0, 0, 0)]
def zco128 : List zI := zco128_0 ++ (zco128_1)
def zco129 : List zI := [(0, .iload_n 1, 1, 0, 0, 0, 0), (1, .i2l, 1, 0, 0, 0, 0), (2, .lconst 0, 1, 0, 0, 0, 0), (3, .aload_n 0, 1, 0, 0, 0, 0), (4, .getfield 142, 3, 9, 5, 801, 0), (7, .iconst 1, 1, 0, 0, 0, 0), (8, .isub, 1, 0, 0, 0, 0), (9, .i2l, 1, 0, 0, 0, 0), (10, .invokestatic 92, 3, 113, 3, 925, 0), (13, .ireturn, 1, 0, 0, 0, 0)]
def zco130_0 : List zI := [(0, .aload_n 0, 1, 0, 0, 0, 0), (1, .iload_n 1, 1, 0, 0, 0, 0), (2, .invokevirtual 166, 3, 131, 1, 998, 0), (5, .istore_n 2, 1, 0, 0, 0, 0), (6, .iload_n 2, 1, 0, 0, 0, 0), (7, .bipush 20, 2, 0, 0, 0, 0), (9, .irem, 1, 0, 0, 0, 0), (10, .aload_n 0, 1, 0, 0, 0, 0), (11, .getfield 170, 3, 9, 25, 821, 0), (14, .bipush 20, 2, 0, 0, 0, 0), (16, .irem, 1, 0, 0, 0, 0), (17, .isub, 1, 0, 0, 0, 0), (18, .invokestatic 173, 3, 132, 1, 1002, 0), (21, .iload_n 2, 1, 0, 0, 0, 0), (22, .bipush 20, 2, 0, 0, 0, 0), (24, .idiv, 1, 0, 0, 0, 0), (25, .aload_n 0, 1, 0, 0, 0, 0), (26, .getfield 170, 3, 9, 25, 821, 0), (29, .bipush 20, 2, 0, 0, 0, 0), (31, .idiv, 1, 0, 0, 0, 0), (32, .isub, 1, 0, 0, 0, 0), (33, .invokestatic 173, 3, 132, 1, 1002, 0), (36, .iadd, 1, 0, 0, 0, 0), (37, .istore_n 3, 1, 0, 0, 0, 0), (38, .bipush 10, 2, 0, 0, 0, 0), (40, .aload_n 0, 1, 0, 0, 0, 0), (41, .getfield 23, 3, 9, 6, 802, 0), (44, .iload_n 1, 1, 0, 0, 0, 0), (45, .iaload, 1, 0, 0, 0, 0), (46, .imul, 1, 0, 0, 0, 0), (47, .sipush 200, 3, 0, 0, 0, 0), (50, .iconst 1, 1, 0, 0, 0, 0), (51, .iload_n 3, 1, 0, 0, 0, 0), (52, .iadd, 1, 0, 0, 0, 0), (53, .idiv, 1, 0, 0, 0, 0), (54, .iadd, 1, 0, 0, 0, 0), (55, .istore 4, 2, 0, 0, 0, 0), (57, .iconst 0, 1, 0, 0, 0, 0), (58, .istore 5, 2, 0, 0, 0, 0), (60, .lconst 0, 1, 0, 0, 0, 0)]
def zco130_1 : List zI := [(61, .lstore 6, 2, 0, 0, 0, 0), (63, .iconst 0, 1, 0, 0, 0, 0), (64, .istore 8, 2, 0, 0, 0, 0), (66, .iload 8, 2, 0, 0, 0, 0), (68, .sipush 320, 3, 0, 0, 0, 0), (71, .if_icmp .ge 108, 3, 179, 0, 0, 0), (74, .iconst 0, 1, 0, 0, 0, 0), (75, .istore 9, 2, 0, 0, 0, 0), (77, .iload 9, 2, 0, 0, 0, 0), (79, .iconst 4, 1, 0, 0, 0, 0), (80, .if_icmp .ge 93, 3, 173, 0, 0, 0), (83, .aload_n 0, 1, 0, 0, 0, 0), (84, .getfield 17, 3, 9, 3, 799, 0), (87, .iload 8, 2, 0, 0, 0, 0), (89, .iaload, 1, 0, 0, 0, 0), (90, .iload_n 1, 1, 0, 0, 0, 0), (91, .if_icmp .ne 82, 3, 173, 0, 0, 0), (94, .aload_n 0, 1, 0, 0, 0, 0), (95, .iload 8, 2, 0, 0, 0, 0), (97, .iload 9, 2, 0, 0, 0, 0), (99, .invokevirtual 176, 3, 133, 2, 1005, 0), (102, .istore 10, 2, 0, 0, 0, 0), (104, .lload 6, 2, 0, 0, 0, 0), (106, .iload 10, 2, 0, 0, 0, 0), (108, .ifCond .lt 23, 3, 131, 0, 0, 0), (111, .iload 10, 2, 0, 0, 0, 0), (113, .bipush 100, 2, 0, 0, 0, 0), (115, .if_icmp .ge 16, 3, 131, 0, 0, 0), (118, .iload 10, 2, 0, 0, 0, 0), (120, .iload_n 1, 1, 0, 0, 0, 0), (121, .if_icmp .eq 10, 3, 131, 0, 0, 0), (124, .lconst 1, 1, 0, 0, 0, 0), (125, .iload 10, 2, 0, 0, 0, 0), (127, .lshl, 1, 0, 0, 0, 0), (128, .goto 4, 3, 132, 0, 0, 0), (131, .lconst 0, 1, 0, 0, 0, 0), (132, .lor, 1, 0, 0, 0, 0), (133, .lstore 6, 2, 0, 0, 0, 0), (135, .iload 5, 2, 0, 0, 0, 0), (137, .ifCond .ne 23, 3, 160, 0, 0, 0)]
def zco130_2 : List zI := [(140, .iload 10, 2, 0, 0, 0, 0), (142, .bipush 100, 2, 0, 0, 0, 0), (144, .if_icmp .lt 20, 3, 164, 0, 0, 0), (147, .aload_n 0, 1, 0, 0, 0, 0), (148, .getfield 54, 3, 9, 17, 813, 0), (151, .iload 10, 2, 0, 0, 0, 0), (153, .bipush 100, 2, 0, 0, 0, 0), (155, .isub, 1, 0, 0, 0, 0), (156, .baload, 1, 0, 0, 0, 0), (157, .ifCond .ne 7, 3, 164, 0, 0, 0), (160, .iconst 1, 1, 0, 0, 0, 0), (161, .goto 4, 3, 165, 0, 0, 0), (164, .iconst 0, 1, 0, 0, 0, 0), (165, .istore 5, 2, 0, 0, 0, 0), (167, .iinc 9 1, 3, 0, 0, 0, 0), (170, .goto (-93), 3, 77, 0, 0, 0), (173, .iinc 8 1, 3, 0, 0, 0, 0), (176, .goto (-110), 3, 66, 0, 0, 0), (179, .iconst 0, 1, 0, 0, 0, 0), (180, .istore 8, 2, 0, 0, 0, 0), (182, .iload 8, 2, 0, 0, 0, 0), (184, .aload_n 0, 1, 0, 0, 0, 0), (185, .getfield 142, 3, 9, 5, 801, 0), (188, .if_icmp .ge 41, 3, 229, 0, 0, 0), (191, .iload 4, 2, 0, 0, 0, 0), (193, .lload 6, 2, 0, 0, 0, 0), (195, .iload 8, 2, 0, 0, 0, 0), (197, .lshr, 1, 0, 0, 0, 0), (198, .lconst 1, 1, 0, 0, 0, 0), (199, .land, 1, 0, 0, 0, 0), (200, .lconst 1, 1, 0, 0, 0, 0), (201, .lcmp, 1, 0, 0, 0, 0), (202, .ifCond .ne 17, 3, 219, 0, 0, 0), (205, .aload_n 0, 1, 0, 0, 0, 0), (206, .iload 8, 2, 0, 0, 0, 0), (208, .invokevirtual 179, 3, 134, 1, 1009, 0), (211, .ifCond .lt 8, 3, 219, 0, 0, 0), (214, .bipush 15, 2, 0, 0, 0, 0), (216, .goto 4, 3, 220, 0, 0, 0), (219, .iconst 0, 1, 0, 0, 0, 0)]
def zco130_3 : List zI := [(220, .iadd, 1, 0, 0, 0, 0), (221, .istore 4, 2, 0, 0, 0, 0), (223, .iinc 8 1, 3, 0, 0, 0, 0), (226, .goto (-44), 3, 182, 0, 0, 0), (229, .iload 4, 2, 0, 0, 0, 0), (231, .iload 5, 2, 0, 0, 0, 0), (233, .ifCond .eq 8, 3, 241, 0, 0, 0), (236, .bipush 30, 2, 0, 0, 0, 0), (238, .goto 4, 3, 242, 0, 0, 0), (241, .iconst 0, 1, 0, 0, 0, 0), (242, .iadd, 1, 0, 0, 0, 0), (243, .ireturn, 1, 0, 0, 0, 0)]
def zco130 : List zI := zco130_0 ++ (zco130_1 ++ (zco130_2 ++ (zco130_3)))
def zco131 : List zI := [(0, .iconst 0, 1, 0, 0, 0, 0), (1, .istore_n 2, 1, 0, 0, 0, 0), (2, .aload_n 0, 1, 0, 0, 0, 0), (3, .getfield 17, 3, 9, 3, 799, 0), (6, .iload_n 2, 1, 0, 0, 0, 0), (7, .iaload, 1, 0, 0, 0, 0), (8, .iload_n 1, 1, 0, 0, 0, 0), (9, .if_icmp .eq 9, 3, 18, 0, 0, 0), (12, .iinc 2 1, 3, 0, 0, 0, 0), (15, .goto (-13), 3, 2, 0, 0, 0), (18, .iload_n 2, 1, 0, 0, 0, 0), (19, .ireturn, 1, 0, 0, 0, 0)]
def zco132 : List zI := [(0, .iload_n 0, 1, 0, 0, 0, 0), (1, .ifCond .ge 8, 3, 9, 0, 0, 0), (4, .iload_n 0, 1, 0, 0, 0, 0), (5, .ineg, 1, 0, 0, 0, 0), (6, .goto 4, 3, 10, 0, 0, 0), (9, .iload_n 0, 1, 0, 0, 0, 0), (10, .ireturn, 1, 0, 0, 0, 0)]
def zco133_0 : List zI := [(0, .iload_n 1, 1, 0, 0, 0, 0), (1, .bipush 20, 2, 0, 0, 0, 0), (3, .irem, 1, 0, 0, 0, 0), (4, .iload_n 2, 1, 0, 0, 0, 0), (5, .ifCond .ne 7, 3, 12, 0, 0, 0), (8, .iconst (-1), 1, 0, 0, 0, 0), (9, .goto 13, 3, 22, 0, 0, 0), (12, .iload_n 2, 1, 0, 0, 0, 0), (13, .iconst 1, 1, 0, 0, 0, 0), (14, .if_icmp .ne 7, 3, 21, 0, 0, 0), (17, .iconst 1, 1, 0, 0, 0, 0), (18, .goto 4, 3, 22, 0, 0, 0), (21, .iconst 0, 1, 0, 0, 0, 0), (22, .iadd, 1, 0, 0, 0, 0), (23, .istore_n 3, 1, 0, 0, 0, 0), (24, .iload_n 1, 1, 0, 0, 0, 0), (25, .bipush 20, 2, 0, 0, 0, 0), (27, .idiv, 1, 0, 0, 0, 0), (28, .iload_n 2, 1, 0, 0, 0, 0), (29, .iconst 2, 1, 0, 0, 0, 0), (30, .if_icmp .ne 7, 3, 37, 0, 0, 0), (33, .iconst (-1), 1, 0, 0, 0, 0), (34, .goto 13, 3, 47, 0, 0, 0), (37, .iload_n 2, 1, 0, 0, 0, 0), (38, .iconst 3, 1, 0, 0, 0, 0), (39, .if_icmp .ne 7, 3, 46, 0, 0, 0), (42, .iconst 1, 1, 0, 0, 0, 0), (43, .goto 4, 3, 47, 0, 0, 0), (46, .iconst 0, 1, 0, 0, 0, 0), (47, .iadd, 1, 0, 0, 0, 0), (48, .istore 4, 2, 0, 0, 0, 0), (50, .iload_n 3, 1, 0, 0, 0, 0), (51, .iload 4, 2, 0, 0, 0, 0), (53, .invokestatic 159, 3, 127, 2, 981, 0), (56, .ifCond .eq 18, 3, 74, 0, 0, 0), (59, .aload_n 0, 1, 0, 0, 0, 0), (60, .getfield 17, 3, 9, 3, 799, 0), (63, .bipush 20, 2, 0, 0, 0, 0), (65, .iload 4, 2, 0, 0, 0, 0), (67, .imul, 1, 0, 0, 0, 0)]
def zco133_1 : List zI := [(68, .iload_n 3, 1, 0, 0, 0, 0), (69, .iadd, 1, 0, 0, 0, 0), (70, .iaload, 1, 0, 0, 0, 0), (71, .goto 4, 3, 75, 0, 0, 0), (74, .iconst (-1), 1, 0, 0, 0, 0), (75, .ireturn, 1, 0, 0, 0, 0)]
def zco133 : List zI := zco133_0 ++ (zco133_1)
def zco134 : List zI := [(0, .iconst (-1), 1, 0, 0, 0, 0), (1, .istore_n 2, 1, 0, 0, 0, 0), (2, .iconst 0, 1, 0, 0, 0, 0), (3, .istore_n 3, 1, 0, 0, 0, 0), (4, .iload_n 3, 1, 0, 0, 0, 0), (5, .aload_n 0, 1, 0, 0, 0, 0), (6, .getfield 163, 3, 9, 18, 814, 0), (9, .if_icmp .ge 25, 3, 34, 0, 0, 0), (12, .aload_n 0, 1, 0, 0, 0, 0), (13, .getfield 60, 3, 9, 20, 816, 0), (16, .iload_n 3, 1, 0, 0, 0, 0), (17, .iaload, 1, 0, 0, 0, 0), (18, .iload_n 1, 1, 0, 0, 0, 0), (19, .if_icmp .ne 7, 3, 26, 0, 0, 0), (22, .iload_n 3, 1, 0, 0, 0, 0), (23, .goto 4, 3, 27, 0, 0, 0), (26, .iload_n 2, 1, 0, 0, 0, 0), (27, .istore_n 2, 1, 0, 0, 0, 0), (28, .iinc 3 1, 3, 0, 0, 0, 0), (31, .goto (-27), 3, 4, 0, 0, 0), (34, .iload_n 2, 1, 0, 0, 0, 0), (35, .ireturn, 1, 0, 0, 0, 0)]
def zco135 : List zI := [(0, .aload_n 0, 1, 0, 0, 0, 0), (1, .getfield 39, 3, 9, 11, 807, 0), (4, .iload_n 1, 1, 0, 0, 0, 0), (5, .iaload, 1, 0, 0, 0, 0), (6, .ifCond .ne 7, 3, 13, 0, 0, 0), (9, .iconst 0, 1, 0, 0, 0, 0), (10, .goto 25, 3, 35, 0, 0, 0), (13, .aload_n 0, 1, 0, 0, 0, 0), (14, .getfield 39, 3, 9, 11, 807, 0), (17, .iload_n 1, 1, 0, 0, 0, 0), (18, .iaload, 1, 0, 0, 0, 0), (19, .iconst 1, 1, 0, 0, 0, 0), (20, .isub, 1, 0, 0, 0, 0), (21, .aload_n 0, 1, 0, 0, 0, 0), (22, .getfield 33, 3, 9, 9, 805, 0), (25, .iload_n 1, 1, 0, 0, 0, 0), (26, .iaload, 1, 0, 0, 0, 0), (27, .imul, 1, 0, 0, 0, 0), (28, .aload_n 0, 1, 0, 0, 0, 0), (29, .getfield 36, 3, 9, 10, 806, 0), (32, .iload_n 1, 1, 0, 0, 0, 0), (33, .iaload, 1, 0, 0, 0, 0), (34, .iadd, 1, 0, 0, 0, 0), (35, .ireturn, 1, 0, 0, 0, 0)]
def zco136_0 : List zI := [(0, .iload_n 1, 1, 0, 0, 0, 0), (1, .i2l, 1, 0, 0, 0, 0), (2, .lconst 0, 1, 0, 0, 0, 0), (3, .aload_n 0, 1, 0, 0, 0, 0), (4, .getfield 145, 3, 9, 16, 812, 0), (7, .iconst 1, 1, 0, 0, 0, 0), (8, .isub, 1, 0, 0, 0, 0), (9, .i2l, 1, 0, 0, 0, 0), (10, .invokestatic 92, 3, 113, 3, 925, 0), (13, .ifCond .ne 7, 3, 20, 0, 0, 0), (16, .sipush (-1001), 3, 0, 0, 0, 0), (19, .ireturn, 1, 0, 0, 0, 0), (20, .aload_n 0, 1, 0, 0, 0, 0), (21, .getfield 54, 3, 9, 17, 813, 0), (24, .iload_n 1, 1, 0, 0, 0, 0), (25, .baload, 1, 0, 0, 0, 0), (26, .ifCond .eq 7, 3, 33, 0, 0, 0), (29, .sipush (-1003), 3, 0, 0, 0, 0), (32, .ireturn, 1, 0, 0, 0, 0), (33, .aload_n 0, 1, 0, 0, 0, 0), (34, .getfield 54, 3, 9, 17, 813, 0), (37, .iload_n 1, 1, 0, 0, 0, 0), (38, .iconst 1, 1, 0, 0, 0, 0), (39, .bastore, 1, 0, 0, 0, 0), (40, .iconst 0, 1, 0, 0, 0, 0), (41, .istore_n 2, 1, 0, 0, 0, 0), (42, .iconst 0, 1, 0, 0, 0, 0), (43, .istore_n 3, 1, 0, 0, 0, 0), (44, .iload_n 3, 1, 0, 0, 0, 0), (45, .sipush 320, 3, 0, 0, 0, 0), (48, .if_icmp .ge 144, 3, 192, 0, 0, 0), (51, .aload_n 0, 1, 0, 0, 0, 0), (52, .getfield 17, 3, 9, 3, 799, 0), (55, .iload_n 3, 1, 0, 0, 0, 0), (56, .iaload, 1, 0, 0, 0, 0), (57, .bipush 100, 2, 0, 0, 0, 0), (59, .iload_n 1, 1, 0, 0, 0, 0), (60, .iadd, 1, 0, 0, 0, 0), (61, .if_icmp .ne 125, 3, 186, 0, 0, 0), (64, .bipush 40, 2, 0, 0, 0, 0)]
def zco136_1 : List zI := [(66, .istore 4, 2, 0, 0, 0, 0), (68, .bipush 40, 2, 0, 0, 0, 0), (70, .istore 5, 2, 0, 0, 0, 0), (72, .iconst 0, 1, 0, 0, 0, 0), (73, .istore 6, 2, 0, 0, 0, 0), (75, .iload 6, 2, 0, 0, 0, 0), (77, .iconst 4, 1, 0, 0, 0, 0), (78, .if_icmp .ge 64, 3, 142, 0, 0, 0), (81, .aload_n 0, 1, 0, 0, 0, 0), (82, .iload_n 3, 1, 0, 0, 0, 0), (83, .iload 6, 2, 0, 0, 0, 0), (85, .invokevirtual 176, 3, 133, 2, 1005, 0), (88, .istore 7, 2, 0, 0, 0, 0), (90, .iload 7, 2, 0, 0, 0, 0), (92, .ifCond .lt 21, 3, 113, 0, 0, 0), (95, .iload 7, 2, 0, 0, 0, 0), (97, .iload 4, 2, 0, 0, 0, 0), (99, .if_icmp .ge 14, 3, 113, 0, 0, 0), (102, .iload 4, 2, 0, 0, 0, 0), (104, .istore 5, 2, 0, 0, 0, 0), (106, .iload 7, 2, 0, 0, 0, 0), (108, .istore 4, 2, 0, 0, 0, 0), (110, .goto 26, 3, 136, 0, 0, 0), (113, .iload 7, 2, 0, 0, 0, 0), (115, .ifCond .lt 21, 3, 136, 0, 0, 0), (118, .iload 7, 2, 0, 0, 0, 0), (120, .iload 4, 2, 0, 0, 0, 0), (122, .if_icmp .le 14, 3, 136, 0, 0, 0), (125, .iload 7, 2, 0, 0, 0, 0), (127, .iload 5, 2, 0, 0, 0, 0), (129, .if_icmp .ge 7, 3, 136, 0, 0, 0), (132, .iload 7, 2, 0, 0, 0, 0), (134, .istore 5, 2, 0, 0, 0, 0), (136, .iinc 6 1, 3, 0, 0, 0, 0), (139, .goto (-64), 3, 75, 0, 0, 0), (142, .iload 4, 2, 0, 0, 0, 0), (144, .bipush 40, 2, 0, 0, 0, 0), (146, .if_icmp .ge 40, 3, 186, 0, 0, 0), (149, .aload_n 0, 1, 0, 0, 0, 0), (150, .getfield 23, 3, 9, 6, 802, 0)]
def zco136_2 : List zI := [(153, .iload 4, 2, 0, 0, 0, 0), (155, .dup2, 1, 0, 0, 0, 0), (156, .iaload, 1, 0, 0, 0, 0), (157, .iconst 1, 1, 0, 0, 0, 0), (158, .iadd, 1, 0, 0, 0, 0), (159, .iastore, 1, 0, 0, 0, 0), (160, .aload_n 0, 1, 0, 0, 0, 0), (161, .getfield 23, 3, 9, 6, 802, 0), (164, .iload 5, 2, 0, 0, 0, 0), (166, .bipush 40, 2, 0, 0, 0, 0), (168, .if_icmp .ge 8, 3, 176, 0, 0, 0), (171, .iload 5, 2, 0, 0, 0, 0), (173, .goto 5, 3, 178, 0, 0, 0), (176, .iload 4, 2, 0, 0, 0, 0), (178, .dup2, 1, 0, 0, 0, 0), (179, .iaload, 1, 0, 0, 0, 0), (180, .iconst 1, 1, 0, 0, 0, 0), (181, .iadd, 1, 0, 0, 0, 0), (182, .iastore, 1, 0, 0, 0, 0), (183, .iinc 2 1, 3, 0, 0, 0, 0), (186, .iinc 3 1, 3, 0, 0, 0, 0), (189, .goto (-145), 3, 44, 0, 0, 0), (192, .iload_n 2, 1, 0, 0, 0, 0), (193, .ireturn, 1, 0, 0, 0, 0)]
def zco136 : List zI := zco136_0 ++ (zco136_1 ++ (zco136_2))
def zco137 : List zI := [(0, .iload_n 1, 1, 0, 0, 0, 0), (1, .iload_n 2, 1, 0, 0, 0, 0), (2, .invokestatic 159, 3, 127, 2, 981, 0), (5, .ifCond .ne 7, 3, 12, 0, 0, 0), (8, .sipush (-1002), 3, 0, 0, 0, 0), (11, .ireturn, 1, 0, 0, 0, 0), (12, .aload_n 0, 1, 0, 0, 0, 0), (13, .getfield 170, 3, 9, 25, 821, 0), (16, .istore_n 3, 1, 0, 0, 0, 0), (17, .aload_n 0, 1, 0, 0, 0, 0), (18, .bipush 20, 2, 0, 0, 0, 0), (20, .iload_n 2, 1, 0, 0, 0, 0), (21, .imul, 1, 0, 0, 0, 0), (22, .iload_n 1, 1, 0, 0, 0, 0), (23, .iadd, 1, 0, 0, 0, 0), (24, .putfield 170, 3, 9, 25, 821, 0), (27, .iload_n 3, 1, 0, 0, 0, 0), (28, .ireturn, 1, 0, 0, 0, 0)]
def zco138 : List zI := [(0, .iload_n 1, 1, 0, 0, 0, 0), (1, .i2l, 1, 0, 0, 0, 0), (2, .lconst 0, 1, 0, 0, 0, 0), (3, .ldc2_w 191, 3, 0, 0, 1029, 1000000), (6, .invokestatic 92, 3, 113, 3, 925, 0), (9, .ifCond .ne 7, 3, 16, 0, 0, 0), (12, .sipush (-1002), 3, 0, 0, 0, 0), (15, .ireturn, 1, 0, 0, 0, 0), (16, .aload_n 0, 1, 0, 0, 0, 0), (17, .getfield 163, 3, 9, 18, 814, 0), (20, .bipush 20, 2, 0, 0, 0, 0), (22, .if_icmp .ne 7, 3, 29, 0, 0, 0), (25, .sipush (-1004), 3, 0, 0, 0, 0), (28, .ireturn, 1, 0, 0, 0, 0), (29, .aload_n 0, 1, 0, 0, 0, 0), (30, .getfield 57, 3, 9, 19, 815, 0), (33, .aload_n 0, 1, 0, 0, 0, 0), (34, .getfield 163, 3, 9, 18, 814, 0), (37, .iload_n 1, 1, 0, 0, 0, 0), (38, .iastore, 1, 0, 0, 0, 0), (39, .aload_n 0, 1, 0, 0, 0, 0), (40, .getfield 60, 3, 9, 20, 816, 0), (43, .aload_n 0, 1, 0, 0, 0, 0), (44, .getfield 163, 3, 9, 18, 814, 0), (47, .iconst (-1), 1, 0, 0, 0, 0), (48, .iastore, 1, 0, 0, 0, 0), (49, .aload_n 0, 1, 0, 0, 0, 0), (50, .dup, 1, 0, 0, 0, 0), (51, .getfield 163, 3, 9, 18, 814, 0), (54, .iconst 1, 1, 0, 0, 0, 0), (55, .iadd, 1, 0, 0, 0, 0), (56, .putfield 163, 3, 9, 18, 814, 0), (59, .aload_n 0, 1, 0, 0, 0, 0), (60, .getfield 163, 3, 9, 18, 814, 0), (63, .iconst 1, 1, 0, 0, 0, 0), (64, .isub, 1, 0, 0, 0, 0), (65, .ireturn, 1, 0, 0, 0, 0)]
def zco139 : List zI := [(0, .aload_n 0, 1, 0, 0, 0, 0), (1, .iload_n 1, 1, 0, 0, 0, 0), (2, .invokevirtual 193, 3, 140, 1, 1034, 0), (5, .ifCond .ne 7, 3, 12, 0, 0, 0), (8, .sipush (-1001), 3, 0, 0, 0, 0), (11, .ireturn, 1, 0, 0, 0, 0), (12, .iload_n 2, 1, 0, 0, 0, 0), (13, .i2l, 1, 0, 0, 0, 0), (14, .ldc2_w 196, 3, 0, 0, 1038, (-1000000)), (17, .ldc2_w 191, 3, 0, 0, 1029, 1000000), (20, .invokestatic 92, 3, 113, 3, 925, 0), (23, .ifCond .eq 22, 3, 45, 0, 0, 0), (26, .aload_n 0, 1, 0, 0, 0, 0), (27, .getfield 57, 3, 9, 19, 815, 0), (30, .iload_n 1, 1, 0, 0, 0, 0), (31, .iaload, 1, 0, 0, 0, 0), (32, .iload_n 2, 1, 0, 0, 0, 0), (33, .iadd, 1, 0, 0, 0, 0), (34, .i2l, 1, 0, 0, 0, 0), (35, .lconst 0, 1, 0, 0, 0, 0), (36, .ldc2_w 191, 3, 0, 0, 1029, 1000000), (39, .invokestatic 92, 3, 113, 3, 925, 0), (42, .ifCond .ne 7, 3, 49, 0, 0, 0), (45, .sipush (-1002), 3, 0, 0, 0, 0), (48, .ireturn, 1, 0, 0, 0, 0), (49, .aload_n 0, 1, 0, 0, 0, 0), (50, .getfield 57, 3, 9, 19, 815, 0), (53, .iload_n 1, 1, 0, 0, 0, 0), (54, .dup2, 1, 0, 0, 0, 0), (55, .iaload, 1, 0, 0, 0, 0), (56, .iload_n 2, 1, 0, 0, 0, 0), (57, .iadd, 1, 0, 0, 0, 0), (58, .iastore, 1, 0, 0, 0, 0), (59, .aload_n 0, 1, 0, 0, 0, 0), (60, .getfield 57, 3, 9, 19, 815, 0), (63, .iload_n 1, 1, 0, 0, 0, 0), (64, .iaload, 1, 0, 0, 0, 0), (65, .ireturn, 1, 0, 0, 0, 0)]
def zco140 : List zI := [(0, .iload_n 1, 1, 0, 0, 0, 0), (1, .i2l, 1, 0, 0, 0, 0), (2, .lconst 0, 1, 0, 0, 0, 0), (3, .aload_n 0, 1, 0, 0, 0, 0), (4, .getfield 163, 3, 9, 18, 814, 0), (7, .iconst 1, 1, 0, 0, 0, 0), (8, .isub, 1, 0, 0, 0, 0), (9, .i2l, 1, 0, 0, 0, 0), (10, .invokestatic 92, 3, 113, 3, 925, 0), (13, .ireturn, 1, 0, 0, 0, 0)]
def zco141_0 : List zI := [(0, .aload_n 0, 1, 0, 0, 0, 0), (1, .iload_n 1, 1, 0, 0, 0, 0), (2, .invokevirtual 182, 3, 129, 1, 990, 0), (5, .ifCond .eq 11, 3, 16, 0, 0, 0), (8, .aload_n 0, 1, 0, 0, 0, 0), (9, .iload_n 2, 1, 0, 0, 0, 0), (10, .invokevirtual 193, 3, 140, 1, 1034, 0), (13, .ifCond .ne 7, 3, 20, 0, 0, 0), (16, .sipush (-1001), 3, 0, 0, 0, 0), (19, .ireturn, 1, 0, 0, 0, 0), (20, .iload_n 3, 1, 0, 0, 0, 0), (21, .i2l, 1, 0, 0, 0, 0), (22, .lconst 1, 1, 0, 0, 0, 0), (23, .ldc2_w 191, 3, 0, 0, 1029, 1000000), (26, .invokestatic 92, 3, 113, 3, 925, 0), (29, .ifCond .ne 7, 3, 36, 0, 0, 0), (32, .sipush (-1002), 3, 0, 0, 0, 0), (35, .ireturn, 1, 0, 0, 0, 0), (36, .aload_n 0, 1, 0, 0, 0, 0), (37, .getfield 29, 3, 9, 8, 804, 0), (40, .iload_n 1, 1, 0, 0, 0, 0), (41, .baload, 1, 0, 0, 0, 0), (42, .ifCond .ne 12, 3, 54, 0, 0, 0), (45, .aload_n 0, 1, 0, 0, 0, 0), (46, .getfield 26, 3, 9, 7, 803, 0), (49, .iload_n 1, 1, 0, 0, 0, 0), (50, .iaload, 1, 0, 0, 0, 0), (51, .ifCond .lt 7, 3, 58, 0, 0, 0), (54, .sipush (-1003), 3, 0, 0, 0, 0), (57, .ireturn, 1, 0, 0, 0, 0), (58, .iconst 0, 1, 0, 0, 0, 0), (59, .istore 4, 2, 0, 0, 0, 0), (61, .iconst 0, 1, 0, 0, 0, 0), (62, .istore 5, 2, 0, 0, 0, 0), (64, .iload 5, 2, 0, 0, 0, 0), (66, .aload_n 0, 1, 0, 0, 0, 0), (67, .getfield 63, 3, 9, 21, 817, 0), (70, .iload_n 1, 1, 0, 0, 0, 0), (71, .iaload, 1, 0, 0, 0, 0), (72, .if_icmp .ge 76, 3, 148, 0, 0, 0)]
def zco141_1 : List zI := [(75, .aload_n 0, 1, 0, 0, 0, 0), (76, .getfield 66, 3, 9, 22, 818, 0), (79, .bipush 20, 2, 0, 0, 0, 0), (81, .iload_n 1, 1, 0, 0, 0, 0), (82, .imul, 1, 0, 0, 0, 0), (83, .iload 5, 2, 0, 0, 0, 0), (85, .iadd, 1, 0, 0, 0, 0), (86, .iaload, 1, 0, 0, 0, 0), (87, .iload_n 2, 1, 0, 0, 0, 0), (88, .if_icmp .eq 54, 3, 142, 0, 0, 0), (91, .aload_n 0, 1, 0, 0, 0, 0), (92, .getfield 66, 3, 9, 22, 818, 0), (95, .bipush 20, 2, 0, 0, 0, 0), (97, .iload_n 1, 1, 0, 0, 0, 0), (98, .imul, 1, 0, 0, 0, 0), (99, .iload 4, 2, 0, 0, 0, 0), (101, .iadd, 1, 0, 0, 0, 0), (102, .aload_n 0, 1, 0, 0, 0, 0), (103, .getfield 66, 3, 9, 22, 818, 0), (106, .bipush 20, 2, 0, 0, 0, 0), (108, .iload_n 1, 1, 0, 0, 0, 0), (109, .imul, 1, 0, 0, 0, 0), (110, .iload 5, 2, 0, 0, 0, 0), (112, .iadd, 1, 0, 0, 0, 0), (113, .iaload, 1, 0, 0, 0, 0), (114, .iastore, 1, 0, 0, 0, 0), (115, .aload_n 0, 1, 0, 0, 0, 0), (116, .getfield 69, 3, 9, 23, 819, 0), (119, .bipush 20, 2, 0, 0, 0, 0), (121, .iload_n 1, 1, 0, 0, 0, 0), (122, .imul, 1, 0, 0, 0, 0), (123, .iload 4, 2, 0, 0, 0, 0), (125, .iadd, 1, 0, 0, 0, 0), (126, .aload_n 0, 1, 0, 0, 0, 0), (127, .getfield 69, 3, 9, 23, 819, 0), (130, .bipush 20, 2, 0, 0, 0, 0), (132, .iload_n 1, 1, 0, 0, 0, 0), (133, .imul, 1, 0, 0, 0, 0), (134, .iload 5, 2, 0, 0, 0, 0), (136, .iadd, 1, 0, 0, 0, 0)]
def zco141_2 : List zI := [(137, .iaload, 1, 0, 0, 0, 0), (138, .iastore, 1, 0, 0, 0, 0), (139, .iinc 4 1, 3, 0, 0, 0, 0), (142, .iinc 5 1, 3, 0, 0, 0, 0), (145, .goto (-81), 3, 64, 0, 0, 0), (148, .aload_n 0, 1, 0, 0, 0, 0), (149, .getfield 66, 3, 9, 22, 818, 0), (152, .bipush 20, 2, 0, 0, 0, 0), (154, .iload_n 1, 1, 0, 0, 0, 0), (155, .imul, 1, 0, 0, 0, 0), (156, .iload 4, 2, 0, 0, 0, 0), (158, .iadd, 1, 0, 0, 0, 0), (159, .iload_n 2, 1, 0, 0, 0, 0), (160, .iastore, 1, 0, 0, 0, 0), (161, .aload_n 0, 1, 0, 0, 0, 0), (162, .getfield 69, 3, 9, 23, 819, 0), (165, .bipush 20, 2, 0, 0, 0, 0), (167, .iload_n 1, 1, 0, 0, 0, 0), (168, .imul, 1, 0, 0, 0, 0), (169, .iload 4, 2, 0, 0, 0, 0), (171, .iadd, 1, 0, 0, 0, 0), (172, .iload_n 3, 1, 0, 0, 0, 0), (173, .iastore, 1, 0, 0, 0, 0), (174, .aload_n 0, 1, 0, 0, 0, 0), (175, .getfield 63, 3, 9, 21, 817, 0), (178, .iload_n 1, 1, 0, 0, 0, 0), (179, .iload 4, 2, 0, 0, 0, 0), (181, .iconst 1, 1, 0, 0, 0, 0), (182, .iadd, 1, 0, 0, 0, 0), (183, .iastore, 1, 0, 0, 0, 0), (184, .iload 4, 2, 0, 0, 0, 0), (186, .iconst 1, 1, 0, 0, 0, 0), (187, .iadd, 1, 0, 0, 0, 0), (188, .ireturn, 1, 0, 0, 0, 0)]
def zco141 : List zI := zco141_0 ++ (zco141_1 ++ (zco141_2))
def zco142_0 : List zI := [(0, .aload_n 0, 1, 0, 0, 0, 0), (1, .iload_n 1, 1, 0, 0, 0, 0), (2, .invokevirtual 182, 3, 129, 1, 990, 0), (5, .ifCond .ne 7, 3, 12, 0, 0, 0), (8, .sipush (-1001), 3, 0, 0, 0, 0), (11, .ireturn, 1, 0, 0, 0, 0), (12, .aload_n 0, 1, 0, 0, 0, 0), (13, .getfield 63, 3, 9, 21, 817, 0), (16, .iload_n 1, 1, 0, 0, 0, 0), (17, .iaload, 1, 0, 0, 0, 0), (18, .ifCond .ne 7, 3, 25, 0, 0, 0), (21, .sipush (-1003), 3, 0, 0, 0, 0), (24, .ireturn, 1, 0, 0, 0, 0), (25, .iconst (-1), 1, 0, 0, 0, 0), (26, .istore_n 2, 1, 0, 0, 0, 0), (27, .iconst 0, 1, 0, 0, 0, 0), (28, .istore_n 3, 1, 0, 0, 0, 0), (29, .iload_n 3, 1, 0, 0, 0, 0), (30, .aload_n 0, 1, 0, 0, 0, 0), (31, .getfield 63, 3, 9, 21, 817, 0), (34, .iload_n 1, 1, 0, 0, 0, 0), (35, .iaload, 1, 0, 0, 0, 0), (36, .if_icmp .ge 83, 3, 119, 0, 0, 0), (39, .aload_n 0, 1, 0, 0, 0, 0), (40, .getfield 69, 3, 9, 23, 819, 0), (43, .bipush 20, 2, 0, 0, 0, 0), (45, .iload_n 1, 1, 0, 0, 0, 0), (46, .imul, 1, 0, 0, 0, 0), (47, .iload_n 3, 1, 0, 0, 0, 0), (48, .iadd, 1, 0, 0, 0, 0), (49, .iaload, 1, 0, 0, 0, 0), (50, .istore 4, 2, 0, 0, 0, 0), (52, .aload_n 0, 1, 0, 0, 0, 0), (53, .getfield 57, 3, 9, 19, 815, 0), (56, .aload_n 0, 1, 0, 0, 0, 0), (57, .getfield 66, 3, 9, 22, 818, 0), (60, .bipush 20, 2, 0, 0, 0, 0), (62, .iload_n 1, 1, 0, 0, 0, 0), (63, .imul, 1, 0, 0, 0, 0), (64, .iload_n 3, 1, 0, 0, 0, 0)]
def zco142_1 : List zI := [(65, .iadd, 1, 0, 0, 0, 0), (66, .iaload, 1, 0, 0, 0, 0), (67, .iaload, 1, 0, 0, 0, 0), (68, .iload 4, 2, 0, 0, 0, 0), (70, .iconst 4, 1, 0, 0, 0, 0), (71, .idiv, 1, 0, 0, 0, 0), (72, .if_icmp .lt 7, 3, 79, 0, 0, 0), (75, .iconst 1, 1, 0, 0, 0, 0), (76, .goto 4, 3, 80, 0, 0, 0), (79, .iconst 0, 1, 0, 0, 0, 0), (80, .istore 5, 2, 0, 0, 0, 0), (82, .iload 5, 2, 0, 0, 0, 0), (84, .ifCond .eq 27, 3, 111, 0, 0, 0), (87, .iload_n 2, 1, 0, 0, 0, 0), (88, .ifCond .lt 19, 3, 107, 0, 0, 0), (91, .iload 4, 2, 0, 0, 0, 0), (93, .aload_n 0, 1, 0, 0, 0, 0), (94, .getfield 69, 3, 9, 23, 819, 0), (97, .bipush 20, 2, 0, 0, 0, 0), (99, .iload_n 1, 1, 0, 0, 0, 0), (100, .imul, 1, 0, 0, 0, 0), (101, .iload_n 2, 1, 0, 0, 0, 0), (102, .iadd, 1, 0, 0, 0, 0), (103, .iaload, 1, 0, 0, 0, 0), (104, .if_icmp .le 7, 3, 111, 0, 0, 0), (107, .iload_n 3, 1, 0, 0, 0, 0), (108, .goto 4, 3, 112, 0, 0, 0), (111, .iload_n 2, 1, 0, 0, 0, 0), (112, .istore_n 2, 1, 0, 0, 0, 0), (113, .iinc 3 1, 3, 0, 0, 0, 0), (116, .goto (-87), 3, 29, 0, 0, 0), (119, .aload_n 0, 1, 0, 0, 0, 0), (120, .getfield 63, 3, 9, 21, 817, 0), (123, .iload_n 1, 1, 0, 0, 0, 0), (124, .iconst 0, 1, 0, 0, 0, 0), (125, .iastore, 1, 0, 0, 0, 0), (126, .iload_n 2, 1, 0, 0, 0, 0), (127, .ifCond .ge 5, 3, 132, 0, 0, 0), (130, .iconst (-1), 1, 0, 0, 0, 0), (131, .ireturn, 1, 0, 0, 0, 0)]
def zco142_2 : List zI := [(132, .aload_n 0, 1, 0, 0, 0, 0), (133, .getfield 66, 3, 9, 22, 818, 0), (136, .bipush 20, 2, 0, 0, 0, 0), (138, .iload_n 1, 1, 0, 0, 0, 0), (139, .imul, 1, 0, 0, 0, 0), (140, .iload_n 2, 1, 0, 0, 0, 0), (141, .iadd, 1, 0, 0, 0, 0), (142, .iaload, 1, 0, 0, 0, 0), (143, .istore_n 3, 1, 0, 0, 0, 0), (144, .aload_n 0, 1, 0, 0, 0, 0), (145, .getfield 69, 3, 9, 23, 819, 0), (148, .bipush 20, 2, 0, 0, 0, 0), (150, .iload_n 1, 1, 0, 0, 0, 0), (151, .imul, 1, 0, 0, 0, 0), (152, .iload_n 2, 1, 0, 0, 0, 0), (153, .iadd, 1, 0, 0, 0, 0), (154, .iaload, 1, 0, 0, 0, 0), (155, .istore 4, 2, 0, 0, 0, 0), (157, .iload 4, 2, 0, 0, 0, 0), (159, .iload 4, 2, 0, 0, 0, 0), (161, .iconst 4, 1, 0, 0, 0, 0), (162, .idiv, 1, 0, 0, 0, 0), (163, .isub, 1, 0, 0, 0, 0), (164, .istore 5, 2, 0, 0, 0, 0), (166, .aload_n 0, 1, 0, 0, 0, 0), (167, .getfield 57, 3, 9, 19, 815, 0), (170, .iload_n 3, 1, 0, 0, 0, 0), (171, .dup2, 1, 0, 0, 0, 0), (172, .iaload, 1, 0, 0, 0, 0), (173, .iload 4, 2, 0, 0, 0, 0), (175, .iconst 4, 1, 0, 0, 0, 0), (176, .idiv, 1, 0, 0, 0, 0), (177, .isub, 1, 0, 0, 0, 0), (178, .iastore, 1, 0, 0, 0, 0), (179, .aload_n 0, 1, 0, 0, 0, 0), (180, .dup, 1, 0, 0, 0, 0), (181, .getfield 208, 3, 9, 29, 825, 0), (184, .iload 4, 2, 0, 0, 0, 0), (186, .iconst 4, 1, 0, 0, 0, 0), (187, .idiv, 1, 0, 0, 0, 0)]
def zco142_3 : List zI := [(188, .iadd, 1, 0, 0, 0, 0), (189, .putfield 208, 3, 9, 29, 825, 0), (192, .aload_n 0, 1, 0, 0, 0, 0), (193, .iload_n 1, 1, 0, 0, 0, 0), (194, .iload_n 3, 1, 0, 0, 0, 0), (195, .invokevirtual 204, 3, 143, 2, 1047, 0), (198, .aload_n 0, 1, 0, 0, 0, 0), (199, .getfield 33, 3, 9, 9, 805, 0), (202, .iload_n 1, 1, 0, 0, 0, 0), (203, .iload 5, 2, 0, 0, 0, 0), (205, .iconst 3, 1, 0, 0, 0, 0), (206, .idiv, 1, 0, 0, 0, 0), (207, .iastore, 1, 0, 0, 0, 0), (208, .aload_n 0, 1, 0, 0, 0, 0), (209, .getfield 36, 3, 9, 10, 806, 0), (212, .iload_n 1, 1, 0, 0, 0, 0), (213, .iload 5, 2, 0, 0, 0, 0), (215, .iconst 2, 1, 0, 0, 0, 0), (216, .aload_n 0, 1, 0, 0, 0, 0), (217, .getfield 33, 3, 9, 9, 805, 0), (220, .iload_n 1, 1, 0, 0, 0, 0), (221, .iaload, 1, 0, 0, 0, 0), (222, .imul, 1, 0, 0, 0, 0), (223, .isub, 1, 0, 0, 0, 0), (224, .iastore, 1, 0, 0, 0, 0), (225, .aload_n 0, 1, 0, 0, 0, 0), (226, .getfield 39, 3, 9, 11, 807, 0), (229, .iload_n 1, 1, 0, 0, 0, 0), (230, .iconst 3, 1, 0, 0, 0, 0), (231, .iastore, 1, 0, 0, 0, 0), (232, .aload_n 0, 1, 0, 0, 0, 0), (233, .getfield 42, 3, 9, 12, 808, 0), (236, .iload_n 1, 1, 0, 0, 0, 0), (237, .aload_n 0, 1, 0, 0, 0, 0), (238, .getfield 198, 3, 9, 24, 820, 0), (241, .bipush 100, 2, 0, 0, 0, 0), (243, .iadd, 1, 0, 0, 0, 0), (244, .iastore, 1, 0, 0, 0, 0), (245, .aload_n 0, 1, 0, 0, 0, 0), (246, .getfield 45, 3, 9, 13, 809, 0)]
def zco142_4 : List zI := [(249, .iload_n 1, 1, 0, 0, 0, 0), (250, .iconst 0, 1, 0, 0, 0, 0), (251, .iastore, 1, 0, 0, 0, 0), (252, .iload_n 3, 1, 0, 0, 0, 0), (253, .ireturn, 1, 0, 0, 0, 0)]
def zco142 : List zI := zco142_0 ++ (zco142_1 ++ (zco142_2 ++ (zco142_3 ++ (zco142_4))))
def zco143_0 : List zI := [(0, .aload_n 0, 1, 0, 0, 0, 0), (1, .iload_n 1, 1, 0, 0, 0, 0), (2, .invokevirtual 179, 3, 134, 1, 1009, 0), (5, .istore_n 3, 1, 0, 0, 0, 0), (6, .iload_n 3, 1, 0, 0, 0, 0), (7, .ifCond .lt 15, 3, 22, 0, 0, 0), (10, .iload_n 3, 1, 0, 0, 0, 0), (11, .iload_n 2, 1, 0, 0, 0, 0), (12, .if_icmp .eq 10, 3, 22, 0, 0, 0), (15, .aload_n 0, 1, 0, 0, 0, 0), (16, .getfield 60, 3, 9, 20, 816, 0), (19, .iload_n 3, 1, 0, 0, 0, 0), (20, .iconst (-1), 1, 0, 0, 0, 0), (21, .iastore, 1, 0, 0, 0, 0), (22, .aload_n 0, 1, 0, 0, 0, 0), (23, .getfield 26, 3, 9, 7, 803, 0), (26, .iload_n 1, 1, 0, 0, 0, 0), (27, .iload_n 2, 1, 0, 0, 0, 0), (28, .iastore, 1, 0, 0, 0, 0), (29, .aload_n 0, 1, 0, 0, 0, 0), (30, .getfield 48, 3, 9, 14, 810, 0), (33, .iload_n 1, 1, 0, 0, 0, 0), (34, .aload_n 0, 1, 0, 0, 0, 0), (35, .getfield 198, 3, 9, 24, 820, 0), (38, .iastore, 1, 0, 0, 0, 0), (39, .aload_n 0, 1, 0, 0, 0, 0), (40, .getfield 72, 3, 9, 32, 828, 0), (43, .aload_n 0, 1, 0, 0, 0, 0), (44, .getfield 201, 3, 9, 31, 827, 0), (47, .iload_n 1, 1, 0, 0, 0, 0), (48, .iastore, 1, 0, 0, 0, 0), (49, .aload_n 0, 1, 0, 0, 0, 0), (50, .getfield 75, 3, 9, 33, 829, 0), (53, .aload_n 0, 1, 0, 0, 0, 0), (54, .getfield 201, 3, 9, 31, 827, 0), (57, .aload_n 0, 1, 0, 0, 0, 0), (58, .getfield 198, 3, 9, 24, 820, 0), (61, .iastore, 1, 0, 0, 0, 0), (62, .aload_n 0, 1, 0, 0, 0, 0), (63, .getfield 78, 3, 9, 34, 830, 0)]
def zco143_1 : List zI := [(66, .aload_n 0, 1, 0, 0, 0, 0), (67, .getfield 201, 3, 9, 31, 827, 0), (70, .iload_n 2, 1, 0, 0, 0, 0), (71, .iastore, 1, 0, 0, 0, 0), (72, .aload_n 0, 1, 0, 0, 0, 0), (73, .dup, 1, 0, 0, 0, 0), (74, .getfield 201, 3, 9, 31, 827, 0), (77, .iconst 1, 1, 0, 0, 0, 0), (78, .iadd, 1, 0, 0, 0, 0), (79, .putfield 201, 3, 9, 31, 827, 0), (82, .return_, 1, 0, 0, 0, 0)]
def zco143 : List zI := zco143_0 ++ (zco143_1)
def zco144 : List zI := [(0, .aload_n 0, 1, 0, 0, 0, 0), (1, .iload_n 1, 1, 0, 0, 0, 0), (2, .invokevirtual 182, 3, 129, 1, 990, 0), (5, .ifCond .eq 11, 3, 16, 0, 0, 0), (8, .aload_n 0, 1, 0, 0, 0, 0), (9, .iload_n 2, 1, 0, 0, 0, 0), (10, .invokevirtual 193, 3, 140, 1, 1034, 0), (13, .ifCond .ne 7, 3, 20, 0, 0, 0), (16, .sipush (-1001), 3, 0, 0, 0, 0), (19, .ireturn, 1, 0, 0, 0, 0), (20, .aload_n 0, 1, 0, 0, 0, 0), (21, .getfield 26, 3, 9, 7, 803, 0), (24, .iload_n 1, 1, 0, 0, 0, 0), (25, .iaload, 1, 0, 0, 0, 0), (26, .ifCond .lt 13, 3, 39, 0, 0, 0), (29, .aload_n 0, 1, 0, 0, 0, 0), (30, .getfield 26, 3, 9, 7, 803, 0), (33, .iload_n 1, 1, 0, 0, 0, 0), (34, .iaload, 1, 0, 0, 0, 0), (35, .iload_n 2, 1, 0, 0, 0, 0), (36, .if_icmp .ne 7, 3, 43, 0, 0, 0), (39, .sipush (-1003), 3, 0, 0, 0, 0), (42, .ireturn, 1, 0, 0, 0, 0), (43, .aload_n 0, 1, 0, 0, 0, 0), (44, .iload_n 1, 1, 0, 0, 0, 0), (45, .iload_n 2, 1, 0, 0, 0, 0), (46, .invokevirtual 204, 3, 143, 2, 1047, 0), (49, .iconst 1, 1, 0, 0, 0, 0), (50, .ireturn, 1, 0, 0, 0, 0)]
def zco145_0 : List zI := [(0, .aload_n 0, 1, 0, 0, 0, 0), (1, .iload_n 1, 1, 0, 0, 0, 0), (2, .invokevirtual 182, 3, 129, 1, 990, 0), (5, .ifCond .eq 11, 3, 16, 0, 0, 0), (8, .aload_n 0, 1, 0, 0, 0, 0), (9, .iload_n 2, 1, 0, 0, 0, 0), (10, .invokevirtual 193, 3, 140, 1, 1034, 0), (13, .ifCond .ne 7, 3, 20, 0, 0, 0), (16, .sipush (-1001), 3, 0, 0, 0, 0), (19, .ireturn, 1, 0, 0, 0, 0), (20, .iload_n 3, 1, 0, 0, 0, 0), (21, .i2l, 1, 0, 0, 0, 0), (22, .aload_n 0, 1, 0, 0, 0, 0), (23, .getfield 198, 3, 9, 24, 820, 0), (26, .i2l, 1, 0, 0, 0, 0), (27, .ldc2_w 211, 3, 0, 0, 1059, 9999), (30, .invokestatic 92, 3, 113, 3, 925, 0), (33, .ifCond .ne 7, 3, 40, 0, 0, 0), (36, .sipush (-1002), 3, 0, 0, 0, 0), (39, .ireturn, 1, 0, 0, 0, 0), (40, .aload_n 0, 1, 0, 0, 0, 0), (41, .getfield 29, 3, 9, 8, 804, 0), (44, .iload_n 1, 1, 0, 0, 0, 0), (45, .baload, 1, 0, 0, 0, 0), (46, .ifCond .eq 12, 3, 58, 0, 0, 0), (49, .aload_n 0, 1, 0, 0, 0, 0), (50, .getfield 26, 3, 9, 7, 803, 0), (53, .iload_n 1, 1, 0, 0, 0, 0), (54, .iaload, 1, 0, 0, 0, 0), (55, .ifCond .lt 7, 3, 62, 0, 0, 0), (58, .sipush (-1003), 3, 0, 0, 0, 0), (61, .ireturn, 1, 0, 0, 0, 0), (62, .aload_n 0, 1, 0, 0, 0, 0), (63, .iload_n 1, 1, 0, 0, 0, 0), (64, .iload_n 2, 1, 0, 0, 0, 0), (65, .invokevirtual 204, 3, 143, 2, 1047, 0), (68, .aload_n 0, 1, 0, 0, 0, 0), (69, .getfield 51, 3, 9, 15, 811, 0), (72, .iload_n 1, 1, 0, 0, 0, 0), (73, .iload_n 3, 1, 0, 0, 0, 0)]
def zco145_1 : List zI := [(74, .iastore, 1, 0, 0, 0, 0), (75, .iconst 1, 1, 0, 0, 0, 0), (76, .ireturn, 1, 0, 0, 0, 0)]
def zco145 : List zI := zco145_0 ++ (zco145_1)
def zco146 : List zI := [(0, .iload_n 1, 1, 0, 0, 0, 0), (1, .i2l, 1, 0, 0, 0, 0), (2, .lconst 0, 1, 0, 0, 0, 0), (3, .ldc2_w 213, 3, 0, 0, 1064, 100), (6, .invokestatic 92, 3, 113, 3, 925, 0), (9, .ifCond .ne 7, 3, 16, 0, 0, 0), (12, .sipush (-1002), 3, 0, 0, 0, 0), (15, .ireturn, 1, 0, 0, 0, 0), (16, .aload_n 0, 1, 0, 0, 0, 0), (17, .getfield 215, 3, 9, 26, 822, 0), (20, .istore_n 2, 1, 0, 0, 0, 0), (21, .aload_n 0, 1, 0, 0, 0, 0), (22, .iload_n 1, 1, 0, 0, 0, 0), (23, .putfield 215, 3, 9, 26, 822, 0), (26, .iload_n 2, 1, 0, 0, 0, 0), (27, .ireturn, 1, 0, 0, 0, 0)]
def zco147 : List zI := [(0, .iload_n 1, 1, 0, 0, 0, 0), (1, .i2l, 1, 0, 0, 0, 0), (2, .lconst 0, 1, 0, 0, 0, 0), (3, .ldc2_w 240, 3, 0, 0, 1069, 1000), (6, .invokestatic 92, 3, 113, 3, 925, 0), (9, .ifCond .ne 7, 3, 16, 0, 0, 0), (12, .sipush (-1002), 3, 0, 0, 0, 0), (15, .ireturn, 1, 0, 0, 0, 0), (16, .aload_n 0, 1, 0, 0, 0, 0), (17, .getfield 198, 3, 9, 24, 820, 0), (20, .iload_n 1, 1, 0, 0, 0, 0), (21, .iadd, 1, 0, 0, 0, 0), (22, .sipush 9999, 3, 0, 0, 0, 0), (25, .if_icmp .le 7, 3, 32, 0, 0, 0), (28, .sipush (-1003), 3, 0, 0, 0, 0), (31, .ireturn, 1, 0, 0, 0, 0), (32, .iconst 0, 1, 0, 0, 0, 0), (33, .istore_n 2, 1, 0, 0, 0, 0), (34, .iload_n 2, 1, 0, 0, 0, 0), (35, .iload_n 1, 1, 0, 0, 0, 0), (36, .if_icmp .ge 13, 3, 49, 0, 0, 0), (39, .aload_n 0, 1, 0, 0, 0, 0), (40, .invokevirtual 242, 3, 148, 0, 1070, 0), (43, .iinc 2 1, 3, 0, 0, 0, 0), (46, .goto (-12), 3, 34, 0, 0, 0), (49, .aload_n 0, 1, 0, 0, 0, 0), (50, .getfield 198, 3, 9, 24, 820, 0), (53, .ireturn, 1, 0, 0, 0, 0)]
def zco148_0 : List zI := [(0, .aload_n 0, 1, 0, 0, 0, 0), (1, .invokevirtual 231, 3, 149, 0, 1074, 0), (4, .aload_n 0, 1, 0, 0, 0, 0), (5, .getfield 198, 3, 9, 24, 820, 0), (8, .sipush 365, 3, 0, 0, 0, 0), (11, .irem, 1, 0, 0, 0, 0), (12, .sipush 364, 3, 0, 0, 0, 0), (15, .if_icmp .ne 11, 3, 26, 0, 0, 0), (18, .aload_n 0, 1, 0, 0, 0, 0), (19, .invokevirtual 234, 3, 151, 0, 1082, 0), (22, .aload_n 0, 1, 0, 0, 0, 0), (23, .invokevirtual 237, 3, 152, 0, 1086, 0), (26, .iconst 0, 1, 0, 0, 0, 0), (27, .istore_n 1, 1, 0, 0, 0, 0), (28, .iload_n 1, 1, 0, 0, 0, 0), (29, .aload_n 0, 1, 0, 0, 0, 0), (30, .getfield 142, 3, 9, 5, 801, 0), (33, .if_icmp .ge 58, 3, 91, 0, 0, 0), (36, .aload_n 0, 1, 0, 0, 0, 0), (37, .getfield 51, 3, 9, 15, 811, 0), (40, .iload_n 1, 1, 0, 0, 0, 0), (41, .iaload, 1, 0, 0, 0, 0), (42, .aload_n 0, 1, 0, 0, 0, 0), (43, .getfield 198, 3, 9, 24, 820, 0), (46, .if_icmp .ne 39, 3, 85, 0, 0, 0), (49, .aload_n 0, 1, 0, 0, 0, 0), (50, .getfield 51, 3, 9, 15, 811, 0), (53, .iload_n 1, 1, 0, 0, 0, 0), (54, .iconst (-1), 1, 0, 0, 0, 0), (55, .iastore, 1, 0, 0, 0, 0), (56, .aload_n 0, 1, 0, 0, 0, 0), (57, .getfield 26, 3, 9, 7, 803, 0), (60, .iload_n 1, 1, 0, 0, 0, 0), (61, .iaload, 1, 0, 0, 0, 0), (62, .ifCond .lt 23, 3, 85, 0, 0, 0), (65, .aload_n 0, 1, 0, 0, 0, 0), (66, .getfield 60, 3, 9, 20, 816, 0), (69, .aload_n 0, 1, 0, 0, 0, 0), (70, .getfield 26, 3, 9, 7, 803, 0), (73, .iload_n 1, 1, 0, 0, 0, 0)]
def zco148_1 : List zI := [(74, .iaload, 1, 0, 0, 0, 0), (75, .iaload, 1, 0, 0, 0, 0), (76, .iload_n 1, 1, 0, 0, 0, 0), (77, .if_icmp .eq 8, 3, 85, 0, 0, 0), (80, .aload_n 0, 1, 0, 0, 0, 0), (81, .iload_n 1, 1, 0, 0, 0, 0), (82, .invokevirtual 218, 3, 150, 1, 1078, 0), (85, .iinc 1 1, 3, 0, 0, 0, 0), (88, .goto (-60), 3, 28, 0, 0, 0), (91, .aload_n 0, 1, 0, 0, 0, 0), (92, .dup, 1, 0, 0, 0, 0), (93, .getfield 198, 3, 9, 24, 820, 0), (96, .iconst 1, 1, 0, 0, 0, 0), (97, .iadd, 1, 0, 0, 0, 0), (98, .putfield 198, 3, 9, 24, 820, 0), (101, .return_, 1, 0, 0, 0, 0)]
def zco148 : List zI := zco148_0 ++ (zco148_1)
def zco149_0 : List zI := [(0, .iconst 0, 1, 0, 0, 0, 0), (1, .istore_n 1, 1, 0, 0, 0, 0), (2, .iload_n 1, 1, 0, 0, 0, 0), (3, .aload_n 0, 1, 0, 0, 0, 0), (4, .getfield 142, 3, 9, 5, 801, 0), (7, .if_icmp .ge 152, 3, 159, 0, 0, 0), (10, .aload_n 0, 1, 0, 0, 0, 0), (11, .getfield 39, 3, 9, 11, 807, 0), (14, .iload_n 1, 1, 0, 0, 0, 0), (15, .iaload, 1, 0, 0, 0, 0), (16, .ifCond .le 137, 3, 153, 0, 0, 0), (19, .aload_n 0, 1, 0, 0, 0, 0), (20, .getfield 198, 3, 9, 24, 820, 0), (23, .aload_n 0, 1, 0, 0, 0, 0), (24, .getfield 42, 3, 9, 12, 808, 0), (27, .iload_n 1, 1, 0, 0, 0, 0), (28, .iaload, 1, 0, 0, 0, 0), (29, .if_icmp .lt 124, 3, 153, 0, 0, 0), (32, .aload_n 0, 1, 0, 0, 0, 0), (33, .getfield 39, 3, 9, 11, 807, 0), (36, .iload_n 1, 1, 0, 0, 0, 0), (37, .iaload, 1, 0, 0, 0, 0), (38, .iconst 1, 1, 0, 0, 0, 0), (39, .if_icmp .le 12, 3, 51, 0, 0, 0), (42, .aload_n 0, 1, 0, 0, 0, 0), (43, .getfield 33, 3, 9, 9, 805, 0), (46, .iload_n 1, 1, 0, 0, 0, 0), (47, .iaload, 1, 0, 0, 0, 0), (48, .goto 9, 3, 57, 0, 0, 0), (51, .aload_n 0, 1, 0, 0, 0, 0), (52, .getfield 36, 3, 9, 10, 806, 0), (55, .iload_n 1, 1, 0, 0, 0, 0), (56, .iaload, 1, 0, 0, 0, 0), (57, .istore_n 2, 1, 0, 0, 0, 0), (58, .aload_n 0, 1, 0, 0, 0, 0), (59, .getfield 57, 3, 9, 19, 815, 0), (62, .aload_n 0, 1, 0, 0, 0, 0), (63, .getfield 26, 3, 9, 7, 803, 0), (66, .iload_n 1, 1, 0, 0, 0, 0), (67, .iaload, 1, 0, 0, 0, 0)]
def zco149_1 : List zI := [(68, .iaload, 1, 0, 0, 0, 0), (69, .iload_n 2, 1, 0, 0, 0, 0), (70, .if_icmp .lt 52, 3, 122, 0, 0, 0), (73, .aload_n 0, 1, 0, 0, 0, 0), (74, .getfield 57, 3, 9, 19, 815, 0), (77, .aload_n 0, 1, 0, 0, 0, 0), (78, .getfield 26, 3, 9, 7, 803, 0), (81, .iload_n 1, 1, 0, 0, 0, 0), (82, .iaload, 1, 0, 0, 0, 0), (83, .dup2, 1, 0, 0, 0, 0), (84, .iaload, 1, 0, 0, 0, 0), (85, .iload_n 2, 1, 0, 0, 0, 0), (86, .isub, 1, 0, 0, 0, 0), (87, .iastore, 1, 0, 0, 0, 0), (88, .aload_n 0, 1, 0, 0, 0, 0), (89, .dup, 1, 0, 0, 0, 0), (90, .getfield 208, 3, 9, 29, 825, 0), (93, .iload_n 2, 1, 0, 0, 0, 0), (94, .iadd, 1, 0, 0, 0, 0), (95, .putfield 208, 3, 9, 29, 825, 0), (98, .aload_n 0, 1, 0, 0, 0, 0), (99, .getfield 39, 3, 9, 11, 807, 0), (102, .iload_n 1, 1, 0, 0, 0, 0), (103, .dup2, 1, 0, 0, 0, 0), (104, .iaload, 1, 0, 0, 0, 0), (105, .iconst 1, 1, 0, 0, 0, 0), (106, .isub, 1, 0, 0, 0, 0), (107, .iastore, 1, 0, 0, 0, 0), (108, .aload_n 0, 1, 0, 0, 0, 0), (109, .getfield 42, 3, 9, 12, 808, 0), (112, .iload_n 1, 1, 0, 0, 0, 0), (113, .dup2, 1, 0, 0, 0, 0), (114, .iaload, 1, 0, 0, 0, 0), (115, .bipush 100, 2, 0, 0, 0, 0), (117, .iadd, 1, 0, 0, 0, 0), (118, .iastore, 1, 0, 0, 0, 0), (119, .goto 34, 3, 153, 0, 0, 0), (122, .aload_n 0, 1, 0, 0, 0, 0), (123, .getfield 198, 3, 9, 24, 820, 0), (126, .aload_n 0, 1, 0, 0, 0, 0)]
def zco149_2 : List zI := [(127, .getfield 42, 3, 9, 12, 808, 0), (130, .iload_n 1, 1, 0, 0, 0, 0), (131, .iaload, 1, 0, 0, 0, 0), (132, .bipush 30, 2, 0, 0, 0, 0), (134, .iadd, 1, 0, 0, 0, 0), (135, .if_icmp .lt 18, 3, 153, 0, 0, 0), (138, .aload_n 0, 1, 0, 0, 0, 0), (139, .iload_n 1, 1, 0, 0, 0, 0), (140, .invokevirtual 218, 3, 150, 1, 1078, 0), (143, .aload_n 0, 1, 0, 0, 0, 0), (144, .dup, 1, 0, 0, 0, 0), (145, .getfield 222, 3, 9, 27, 823, 0), (148, .iconst 1, 1, 0, 0, 0, 0), (149, .iadd, 1, 0, 0, 0, 0), (150, .putfield 222, 3, 9, 27, 823, 0), (153, .iinc 1 1, 3, 0, 0, 0, 0), (156, .goto (-154), 3, 2, 0, 0, 0), (159, .return_, 1, 0, 0, 0, 0)]
def zco149 : List zI := zco149_0 ++ (zco149_1 ++ (zco149_2))
def zco150 : List zI := [(0, .aload_n 0, 1, 0, 0, 0, 0), (1, .iload_n 1, 1, 0, 0, 0, 0), (2, .iconst (-1), 1, 0, 0, 0, 0), (3, .invokevirtual 204, 3, 143, 2, 1047, 0), (6, .aload_n 0, 1, 0, 0, 0, 0), (7, .getfield 39, 3, 9, 11, 807, 0), (10, .iload_n 1, 1, 0, 0, 0, 0), (11, .iconst 0, 1, 0, 0, 0, 0), (12, .iastore, 1, 0, 0, 0, 0), (13, .aload_n 0, 1, 0, 0, 0, 0), (14, .getfield 45, 3, 9, 13, 809, 0), (17, .iload_n 1, 1, 0, 0, 0, 0), (18, .iconst 0, 1, 0, 0, 0, 0), (19, .iastore, 1, 0, 0, 0, 0), (20, .aload_n 0, 1, 0, 0, 0, 0), (21, .getfield 51, 3, 9, 15, 811, 0), (24, .iload_n 1, 1, 0, 0, 0, 0), (25, .iconst (-1), 1, 0, 0, 0, 0), (26, .iastore, 1, 0, 0, 0, 0), (27, .return_, 1, 0, 0, 0, 0)]
def zco151_0 : List zI := [(0, .iconst 0, 1, 0, 0, 0, 0), (1, .istore_n 1, 1, 0, 0, 0, 0), (2, .iload_n 1, 1, 0, 0, 0, 0), (3, .aload_n 0, 1, 0, 0, 0, 0), (4, .getfield 142, 3, 9, 5, 801, 0), (7, .if_icmp .ge 109, 3, 116, 0, 0, 0), (10, .aload_n 0, 1, 0, 0, 0, 0), (11, .getfield 26, 3, 9, 7, 803, 0), (14, .iload_n 1, 1, 0, 0, 0, 0), (15, .iaload, 1, 0, 0, 0, 0), (16, .istore_n 2, 1, 0, 0, 0, 0), (17, .iload_n 2, 1, 0, 0, 0, 0), (18, .ifCond .lt 92, 3, 110, 0, 0, 0), (21, .aload_n 0, 1, 0, 0, 0, 0), (22, .iload_n 1, 1, 0, 0, 0, 0), (23, .invokevirtual 185, 3, 130, 1, 994, 0), (26, .aload_n 0, 1, 0, 0, 0, 0), (27, .getfield 215, 3, 9, 26, 822, 0), (30, .imul, 1, 0, 0, 0, 0), (31, .bipush 100, 2, 0, 0, 0, 0), (33, .idiv, 1, 0, 0, 0, 0), (34, .istore_n 3, 1, 0, 0, 0, 0), (35, .aload_n 0, 1, 0, 0, 0, 0), (36, .getfield 57, 3, 9, 19, 815, 0), (39, .iload_n 2, 1, 0, 0, 0, 0), (40, .iaload, 1, 0, 0, 0, 0), (41, .iload_n 3, 1, 0, 0, 0, 0), (42, .if_icmp .lt 33, 3, 75, 0, 0, 0), (45, .aload_n 0, 1, 0, 0, 0, 0), (46, .getfield 57, 3, 9, 19, 815, 0), (49, .iload_n 2, 1, 0, 0, 0, 0), (50, .dup2, 1, 0, 0, 0, 0), (51, .iaload, 1, 0, 0, 0, 0), (52, .iload_n 3, 1, 0, 0, 0, 0), (53, .isub, 1, 0, 0, 0, 0), (54, .iastore, 1, 0, 0, 0, 0), (55, .aload_n 0, 1, 0, 0, 0, 0), (56, .dup, 1, 0, 0, 0, 0), (57, .getfield 225, 3, 9, 30, 826, 0), (60, .iload_n 3, 1, 0, 0, 0, 0)]
def zco151_1 : List zI := [(61, .iadd, 1, 0, 0, 0, 0), (62, .putfield 225, 3, 9, 30, 826, 0), (65, .aload_n 0, 1, 0, 0, 0, 0), (66, .getfield 45, 3, 9, 13, 809, 0), (69, .iload_n 1, 1, 0, 0, 0, 0), (70, .iconst 0, 1, 0, 0, 0, 0), (71, .iastore, 1, 0, 0, 0, 0), (72, .goto 38, 3, 110, 0, 0, 0), (75, .aload_n 0, 1, 0, 0, 0, 0), (76, .getfield 45, 3, 9, 13, 809, 0), (79, .iload_n 1, 1, 0, 0, 0, 0), (80, .dup2, 1, 0, 0, 0, 0), (81, .iaload, 1, 0, 0, 0, 0), (82, .iconst 1, 1, 0, 0, 0, 0), (83, .iadd, 1, 0, 0, 0, 0), (84, .iastore, 1, 0, 0, 0, 0), (85, .aload_n 0, 1, 0, 0, 0, 0), (86, .getfield 45, 3, 9, 13, 809, 0), (89, .iload_n 1, 1, 0, 0, 0, 0), (90, .iaload, 1, 0, 0, 0, 0), (91, .iconst 2, 1, 0, 0, 0, 0), (92, .if_icmp .ne 18, 3, 110, 0, 0, 0), (95, .aload_n 0, 1, 0, 0, 0, 0), (96, .iload_n 1, 1, 0, 0, 0, 0), (97, .invokevirtual 218, 3, 150, 1, 1078, 0), (100, .aload_n 0, 1, 0, 0, 0, 0), (101, .dup, 1, 0, 0, 0, 0), (102, .getfield 228, 3, 9, 28, 824, 0), (105, .iconst 1, 1, 0, 0, 0, 0), (106, .iadd, 1, 0, 0, 0, 0), (107, .putfield 228, 3, 9, 28, 824, 0), (110, .iinc 1 1, 3, 0, 0, 0, 0), (113, .goto (-111), 3, 2, 0, 0, 0), (116, .return_, 1, 0, 0, 0, 0)]
def zco151 : List zI := zco151_0 ++ (zco151_1)
def zco152_0 : List zI := [(0, .iconst 0, 1, 0, 0, 0, 0), (1, .istore_n 1, 1, 0, 0, 0, 0), (2, .iload_n 1, 1, 0, 0, 0, 0), (3, .aload_n 0, 1, 0, 0, 0, 0), (4, .getfield 163, 3, 9, 18, 814, 0), (7, .if_icmp .ge 89, 3, 96, 0, 0, 0), (10, .iconst (-1), 1, 0, 0, 0, 0), (11, .istore_n 2, 1, 0, 0, 0, 0), (12, .iconst 0, 1, 0, 0, 0, 0), (13, .istore_n 3, 1, 0, 0, 0, 0), (14, .iload_n 3, 1, 0, 0, 0, 0), (15, .aload_n 0, 1, 0, 0, 0, 0), (16, .getfield 142, 3, 9, 5, 801, 0), (19, .if_icmp .ge 51, 3, 70, 0, 0, 0), (22, .aload_n 0, 1, 0, 0, 0, 0), (23, .getfield 60, 3, 9, 20, 816, 0), (26, .iload_n 1, 1, 0, 0, 0, 0), (27, .iaload, 1, 0, 0, 0, 0), (28, .ifCond .ge 42, 3, 70, 0, 0, 0), (31, .aload_n 0, 1, 0, 0, 0, 0), (32, .getfield 26, 3, 9, 7, 803, 0), (35, .iload_n 3, 1, 0, 0, 0, 0), (36, .iaload, 1, 0, 0, 0, 0), (37, .iload_n 1, 1, 0, 0, 0, 0), (38, .if_icmp .ne 24, 3, 62, 0, 0, 0), (41, .iload_n 2, 1, 0, 0, 0, 0), (42, .ifCond .lt 16, 3, 58, 0, 0, 0), (45, .aload_n 0, 1, 0, 0, 0, 0), (46, .iload_n 3, 1, 0, 0, 0, 0), (47, .invokevirtual 185, 3, 130, 1, 994, 0), (50, .aload_n 0, 1, 0, 0, 0, 0), (51, .iload_n 2, 1, 0, 0, 0, 0), (52, .invokevirtual 185, 3, 130, 1, 994, 0), (55, .if_icmp .le 7, 3, 62, 0, 0, 0), (58, .iload_n 3, 1, 0, 0, 0, 0), (59, .goto 4, 3, 63, 0, 0, 0), (62, .iload_n 2, 1, 0, 0, 0, 0), (63, .istore_n 2, 1, 0, 0, 0, 0), (64, .iinc 3 1, 3, 0, 0, 0, 0), (67, .goto (-53), 3, 14, 0, 0, 0)]
def zco152_1 : List zI := [(70, .aload_n 0, 1, 0, 0, 0, 0), (71, .getfield 60, 3, 9, 20, 816, 0), (74, .iload_n 1, 1, 0, 0, 0, 0), (75, .iload_n 2, 1, 0, 0, 0, 0), (76, .ifCond .lt 7, 3, 83, 0, 0, 0), (79, .iload_n 2, 1, 0, 0, 0, 0), (80, .goto 9, 3, 89, 0, 0, 0), (83, .aload_n 0, 1, 0, 0, 0, 0), (84, .getfield 60, 3, 9, 20, 816, 0), (87, .iload_n 1, 1, 0, 0, 0, 0), (88, .iaload, 1, 0, 0, 0, 0), (89, .iastore, 1, 0, 0, 0, 0), (90, .iinc 1 1, 3, 0, 0, 0, 0), (93, .goto (-91), 3, 2, 0, 0, 0), (96, .return_, 1, 0, 0, 0, 0)]
def zco152 : List zI := zco152_0 ++ (zco152_1)
def zco153_0 : List zI := [(0, .aload_n 0, 1, 0, 0, 0, 0), (1, .iload_n 1, 1, 0, 0, 0, 0), (2, .invokevirtual 182, 3, 129, 1, 990, 0), (5, .ifCond .ne 7, 3, 12, 0, 0, 0), (8, .sipush (-1001), 3, 0, 0, 0, 0), (11, .ireturn, 1, 0, 0, 0, 0), (12, .iload_n 2, 1, 0, 0, 0, 0), (13, .i2l, 1, 0, 0, 0, 0), (14, .lconst 0, 1, 0, 0, 0, 0), (15, .aload_n 0, 1, 0, 0, 0, 0), (16, .getfield 198, 3, 9, 24, 820, 0), (19, .i2l, 1, 0, 0, 0, 0), (20, .invokestatic 92, 3, 113, 3, 925, 0), (23, .ifCond .ne 7, 3, 30, 0, 0, 0), (26, .sipush (-1002), 3, 0, 0, 0, 0), (29, .ireturn, 1, 0, 0, 0, 0), (30, .iconst (-1), 1, 0, 0, 0, 0), (31, .istore_n 3, 1, 0, 0, 0, 0), (32, .iconst 0, 1, 0, 0, 0, 0), (33, .istore 4, 2, 0, 0, 0, 0), (35, .iload 4, 2, 0, 0, 0, 0), (37, .aload_n 0, 1, 0, 0, 0, 0), (38, .getfield 201, 3, 9, 31, 827, 0), (41, .if_icmp .ge 43, 3, 84, 0, 0, 0), (44, .aload_n 0, 1, 0, 0, 0, 0), (45, .getfield 72, 3, 9, 32, 828, 0), (48, .iload 4, 2, 0, 0, 0, 0), (50, .iaload, 1, 0, 0, 0, 0), (51, .iload_n 1, 1, 0, 0, 0, 0), (52, .if_icmp .ne 24, 3, 76, 0, 0, 0), (55, .aload_n 0, 1, 0, 0, 0, 0), (56, .getfield 75, 3, 9, 33, 829, 0), (59, .iload 4, 2, 0, 0, 0, 0), (61, .iaload, 1, 0, 0, 0, 0), (62, .iload_n 2, 1, 0, 0, 0, 0), (63, .if_icmp .gt 13, 3, 76, 0, 0, 0), (66, .aload_n 0, 1, 0, 0, 0, 0), (67, .getfield 78, 3, 9, 34, 830, 0), (70, .iload 4, 2, 0, 0, 0, 0), (72, .iaload, 1, 0, 0, 0, 0)]
def zco153_1 : List zI := [(73, .goto 4, 3, 77, 0, 0, 0), (76, .iload_n 3, 1, 0, 0, 0, 0), (77, .istore_n 3, 1, 0, 0, 0, 0), (78, .iinc 4 1, 3, 0, 0, 0, 0), (81, .goto (-46), 3, 35, 0, 0, 0), (84, .iload_n 3, 1, 0, 0, 0, 0), (85, .ireturn, 1, 0, 0, 0, 0)]
def zco153 : List zI := zco153_0 ++ (zco153_1)
def zco154_0 : List zI := [(0, .aload_n 0, 1, 0, 0, 0, 0), (1, .iload_n 1, 1, 0, 0, 0, 0), (2, .invokevirtual 193, 3, 140, 1, 1034, 0), (5, .ifCond .ne 7, 3, 12, 0, 0, 0), (8, .sipush (-1001), 3, 0, 0, 0, 0), (11, .ireturn, 1, 0, 0, 0, 0), (12, .iconst 0, 1, 0, 0, 0, 0), (13, .istore_n 3, 1, 0, 0, 0, 0), (14, .iconst 0, 1, 0, 0, 0, 0), (15, .istore 4, 2, 0, 0, 0, 0), (17, .iload 4, 2, 0, 0, 0, 0), (19, .aload_n 0, 1, 0, 0, 0, 0), (20, .getfield 142, 3, 9, 5, 801, 0), (23, .if_icmp .ge 33, 3, 56, 0, 0, 0), (26, .iload_n 3, 1, 0, 0, 0, 0), (27, .aload_n 0, 1, 0, 0, 0, 0), (28, .getfield 26, 3, 9, 7, 803, 0), (31, .iload 4, 2, 0, 0, 0, 0), (33, .iaload, 1, 0, 0, 0, 0), (34, .iload_n 1, 1, 0, 0, 0, 0), (35, .if_icmp .ne 12, 3, 47, 0, 0, 0), (38, .aload_n 0, 1, 0, 0, 0, 0), (39, .iload 4, 2, 0, 0, 0, 0), (41, .invokevirtual 188, 3, 135, 1, 1013, 0), (44, .goto 4, 3, 48, 0, 0, 0), (47, .iconst 0, 1, 0, 0, 0, 0), (48, .iadd, 1, 0, 0, 0, 0), (49, .istore_n 3, 1, 0, 0, 0, 0), (50, .iinc 4 1, 3, 0, 0, 0, 0), (53, .goto (-36), 3, 17, 0, 0, 0), (56, .iload_n 2, 1, 0, 0, 0, 0), (57, .tableswitch 53 0 3 #[31, 38, 44, 51], 31, 0, 0, 0, 0), (88, .aload_n 0, 1, 0, 0, 0, 0), (89, .getfield 57, 3, 9, 19, 815, 0), (92, .iload_n 1, 1, 0, 0, 0, 0), (93, .iaload, 1, 0, 0, 0, 0), (94, .ireturn, 1, 0, 0, 0, 0), (95, .aload_n 0, 1, 0, 0, 0, 0), (96, .iload_n 1, 1, 0, 0, 0, 0), (97, .invokevirtual 245, 3, 155, 1, 1098, 0)]
def zco154_1 : List zI := [(100, .ireturn, 1, 0, 0, 0, 0), (101, .aload_n 0, 1, 0, 0, 0, 0), (102, .getfield 60, 3, 9, 20, 816, 0), (105, .iload_n 1, 1, 0, 0, 0, 0), (106, .iaload, 1, 0, 0, 0, 0), (107, .ireturn, 1, 0, 0, 0, 0), (108, .iload_n 3, 1, 0, 0, 0, 0), (109, .ireturn, 1, 0, 0, 0, 0), (110, .sipush (-1002), 3, 0, 0, 0, 0), (113, .ireturn, 1, 0, 0, 0, 0)]
def zco154 : List zI := zco154_0 ++ (zco154_1)
def zco155 : List zI := [(0, .iconst 0, 1, 0, 0, 0, 0), (1, .istore_n 2, 1, 0, 0, 0, 0), (2, .iconst 0, 1, 0, 0, 0, 0), (3, .istore_n 3, 1, 0, 0, 0, 0), (4, .iload_n 3, 1, 0, 0, 0, 0), (5, .aload_n 0, 1, 0, 0, 0, 0), (6, .getfield 142, 3, 9, 5, 801, 0), (9, .if_icmp .ge 27, 3, 36, 0, 0, 0), (12, .iload_n 2, 1, 0, 0, 0, 0), (13, .aload_n 0, 1, 0, 0, 0, 0), (14, .getfield 26, 3, 9, 7, 803, 0), (17, .iload_n 3, 1, 0, 0, 0, 0), (18, .iaload, 1, 0, 0, 0, 0), (19, .iload_n 1, 1, 0, 0, 0, 0), (20, .if_icmp .ne 7, 3, 27, 0, 0, 0), (23, .iconst 1, 1, 0, 0, 0, 0), (24, .goto 4, 3, 28, 0, 0, 0), (27, .iconst 0, 1, 0, 0, 0, 0), (28, .iadd, 1, 0, 0, 0, 0), (29, .istore_n 2, 1, 0, 0, 0, 0), (30, .iinc 3 1, 3, 0, 0, 0, 0), (33, .goto (-29), 3, 4, 0, 0, 0), (36, .iload_n 2, 1, 0, 0, 0, 0), (37, .ireturn, 1, 0, 0, 0, 0)]
def zco156_0 : List zI := [(0, .iconst 0, 1, 0, 0, 0, 0), (1, .istore_n 2, 1, 0, 0, 0, 0), (2, .iconst 0, 1, 0, 0, 0, 0), (3, .istore_n 3, 1, 0, 0, 0, 0), (4, .iload_n 3, 1, 0, 0, 0, 0), (5, .aload_n 0, 1, 0, 0, 0, 0), (6, .getfield 142, 3, 9, 5, 801, 0), (9, .if_icmp .ge 18, 3, 27, 0, 0, 0), (12, .iload_n 2, 1, 0, 0, 0, 0), (13, .aload_n 0, 1, 0, 0, 0, 0), (14, .getfield 23, 3, 9, 6, 802, 0), (17, .iload_n 3, 1, 0, 0, 0, 0), (18, .iaload, 1, 0, 0, 0, 0), (19, .iadd, 1, 0, 0, 0, 0), (20, .istore_n 2, 1, 0, 0, 0, 0), (21, .iinc 3 1, 3, 0, 0, 0, 0), (24, .goto (-20), 3, 4, 0, 0, 0), (27, .iload_n 1, 1, 0, 0, 0, 0), (28, .tableswitch 140 0 13 #[72, 77, 82, 87, 92, 97, 103, 108, 113, 118, 123, 128, 133, 135], 72, 0, 0, 0, 0), (100, .aload_n 0, 1, 0, 0, 0, 0), (101, .getfield 142, 3, 9, 5, 801, 0), (104, .ireturn, 1, 0, 0, 0, 0), (105, .aload_n 0, 1, 0, 0, 0, 0), (106, .getfield 145, 3, 9, 16, 812, 0), (109, .ireturn, 1, 0, 0, 0, 0), (110, .aload_n 0, 1, 0, 0, 0, 0), (111, .getfield 163, 3, 9, 18, 814, 0), (114, .ireturn, 1, 0, 0, 0, 0), (115, .aload_n 0, 1, 0, 0, 0, 0), (116, .getfield 198, 3, 9, 24, 820, 0), (119, .ireturn, 1, 0, 0, 0, 0), (120, .aload_n 0, 1, 0, 0, 0, 0), (121, .invokevirtual 248, 3, 157, 0, 1106, 0), (124, .ireturn, 1, 0, 0, 0, 0), (125, .aload_n 0, 1, 0, 0, 0, 0), (126, .iconst (-1), 1, 0, 0, 0, 0), (127, .invokevirtual 245, 3, 155, 1, 1098, 0), (130, .ireturn, 1, 0, 0, 0, 0), (131, .aload_n 0, 1, 0, 0, 0, 0), (132, .getfield 222, 3, 9, 27, 823, 0)]
def zco156_1 : List zI := [(135, .ireturn, 1, 0, 0, 0, 0), (136, .aload_n 0, 1, 0, 0, 0, 0), (137, .getfield 228, 3, 9, 28, 824, 0), (140, .ireturn, 1, 0, 0, 0, 0), (141, .aload_n 0, 1, 0, 0, 0, 0), (142, .getfield 208, 3, 9, 29, 825, 0), (145, .ireturn, 1, 0, 0, 0, 0), (146, .aload_n 0, 1, 0, 0, 0, 0), (147, .getfield 225, 3, 9, 30, 826, 0), (150, .ireturn, 1, 0, 0, 0, 0), (151, .aload_n 0, 1, 0, 0, 0, 0), (152, .getfield 96, 3, 9, 1, 797, 0), (155, .ireturn, 1, 0, 0, 0, 0), (156, .aload_n 0, 1, 0, 0, 0, 0), (157, .getfield 201, 3, 9, 31, 827, 0), (160, .ireturn, 1, 0, 0, 0, 0), (161, .iload_n 2, 1, 0, 0, 0, 0), (162, .ireturn, 1, 0, 0, 0, 0), (163, .aload_n 0, 1, 0, 0, 0, 0), (164, .getfield 170, 3, 9, 25, 821, 0), (167, .ireturn, 1, 0, 0, 0, 0), (168, .sipush (-1002), 3, 0, 0, 0, 0), (171, .ireturn, 1, 0, 0, 0, 0)]
def zco156 : List zI := zco156_0 ++ (zco156_1)
def zco157 : List zI := [(0, .iconst 0, 1, 0, 0, 0, 0), (1, .istore_n 1, 1, 0, 0, 0, 0), (2, .iconst 0, 1, 0, 0, 0, 0), (3, .istore_n 2, 1, 0, 0, 0, 0), (4, .iload_n 2, 1, 0, 0, 0, 0), (5, .aload_n 0, 1, 0, 0, 0, 0), (6, .getfield 163, 3, 9, 18, 814, 0), (9, .if_icmp .ge 26, 3, 35, 0, 0, 0), (12, .iload_n 1, 1, 0, 0, 0, 0), (13, .aload_n 0, 1, 0, 0, 0, 0), (14, .getfield 60, 3, 9, 20, 816, 0), (17, .iload_n 2, 1, 0, 0, 0, 0), (18, .iaload, 1, 0, 0, 0, 0), (19, .ifCond .lt 7, 3, 26, 0, 0, 0), (22, .iconst 1, 1, 0, 0, 0, 0), (23, .goto 4, 3, 27, 0, 0, 0), (26, .iconst 0, 1, 0, 0, 0, 0), (27, .iadd, 1, 0, 0, 0, 0), (28, .istore_n 1, 1, 0, 0, 0, 0), (29, .iinc 2 1, 3, 0, 0, 0, 0), (32, .goto (-28), 3, 4, 0, 0, 0), (35, .iload_n 1, 1, 0, 0, 0, 0), (36, .ireturn, 1, 0, 0, 0, 0)]
def zco158_0 : List zI := [(0, .iload_n 1, 1, 0, 0, 0, 0), (1, .i2l, 1, 0, 0, 0, 0), (2, .lconst 1, 1, 0, 0, 0, 0), (3, .ldc2_w 191, 3, 0, 0, 1029, 1000000), (6, .invokestatic 92, 3, 113, 3, 925, 0), (9, .ifCond .eq 13, 3, 22, 0, 0, 0), (12, .iload_n 2, 1, 0, 0, 0, 0), (13, .i2l, 1, 0, 0, 0, 0), (14, .lconst 0, 1, 0, 0, 0, 0), (15, .lconst 1, 1, 0, 0, 0, 0), (16, .invokestatic 92, 3, 113, 3, 925, 0), (19, .ifCond .ne 7, 3, 26, 0, 0, 0), (22, .sipush (-1002), 3, 0, 0, 0, 0), (25, .ireturn, 1, 0, 0, 0, 0), (26, .aload_n 0, 1, 0, 0, 0, 0), (27, .invokevirtual 248, 3, 157, 0, 1106, 0), (30, .istore_n 3, 1, 0, 0, 0, 0), (31, .iconst 0, 1, 0, 0, 0, 0), (32, .istore 4, 2, 0, 0, 0, 0), (34, .iconst 0, 1, 0, 0, 0, 0), (35, .istore 5, 2, 0, 0, 0, 0), (37, .iload 5, 2, 0, 0, 0, 0), (39, .aload_n 0, 1, 0, 0, 0, 0), (40, .getfield 163, 3, 9, 18, 814, 0), (43, .if_icmp .ge 45, 3, 88, 0, 0, 0), (46, .iload 4, 2, 0, 0, 0, 0), (48, .aload_n 0, 1, 0, 0, 0, 0), (49, .getfield 60, 3, 9, 20, 816, 0), (52, .iload 5, 2, 0, 0, 0, 0), (54, .iaload, 1, 0, 0, 0, 0), (55, .ifCond .lt 23, 3, 78, 0, 0, 0), (58, .iload_n 1, 1, 0, 0, 0, 0), (59, .iload_n 3, 1, 0, 0, 0, 0), (60, .idiv, 1, 0, 0, 0, 0), (61, .aload_n 0, 1, 0, 0, 0, 0), (62, .getfield 57, 3, 9, 19, 815, 0), (65, .iload 5, 2, 0, 0, 0, 0), (67, .iaload, 1, 0, 0, 0, 0), (68, .bipush 10, 2, 0, 0, 0, 0), (70, .idiv, 1, 0, 0, 0, 0)]
def zco158_1 : List zI := [(71, .if_icmp .gt 7, 3, 78, 0, 0, 0), (74, .iconst 1, 1, 0, 0, 0, 0), (75, .goto 4, 3, 79, 0, 0, 0), (78, .iconst 0, 1, 0, 0, 0, 0), (79, .iadd, 1, 0, 0, 0, 0), (80, .istore 4, 2, 0, 0, 0, 0), (82, .iinc 5 1, 3, 0, 0, 0, 0), (85, .goto (-48), 3, 37, 0, 0, 0), (88, .iload_n 2, 1, 0, 0, 0, 0), (89, .ifCond .ne 8, 3, 97, 0, 0, 0), (92, .iload 4, 2, 0, 0, 0, 0), (94, .goto 16, 3, 110, 0, 0, 0), (97, .iconst 2, 1, 0, 0, 0, 0), (98, .iload 4, 2, 0, 0, 0, 0), (100, .imul, 1, 0, 0, 0, 0), (101, .iload_n 3, 1, 0, 0, 0, 0), (102, .if_icmp .le 7, 3, 109, 0, 0, 0), (105, .iconst 1, 1, 0, 0, 0, 0), (106, .goto 4, 3, 110, 0, 0, 0), (109, .iconst 0, 1, 0, 0, 0, 0), (110, .ireturn, 1, 0, 0, 0, 0)]
def zco158 : List zI := zco158_0 ++ (zco158_1)
def zco159_0 : List zI := [(0, .new 7, 3, 8, 0, 66, 0), (3, .dup, 1, 0, 0, 0, 0), (4, .invokespecial 9, 3, 0, 0, 68, 0), (7, .astore_n 1, 1, 0, 0, 0, 0), (8, .new 10, 3, 9, 0, 790, 0), (11, .dup, 1, 0, 0, 0, 0), (12, .invokespecial 12, 3, 111, 0, 792, 0), (15, .astore_n 2, 1, 0, 0, 0, 0), (16, .iconst 0, 1, 0, 0, 0, 0), (17, .istore_n 3, 1, 0, 0, 0, 0), (18, .iload_n 3, 1, 0, 0, 0, 0), (19, .aload_n 0, 1, 0, 0, 0, 0), (20, .arraylength, 1, 0, 0, 0, 0), (21, .iconst 4, 1, 0, 0, 0, 0), (22, .isub, 1, 0, 0, 0, 0), (23, .if_icmp .gt 684, 3, 707, 0, 0, 0), (26, .aload_n 0, 1, 0, 0, 0, 0), (27, .iload_n 3, 1, 0, 0, 0, 0), (28, .iaload, 1, 0, 0, 0, 0), (29, .bipush 31, 2, 0, 0, 0, 0), (31, .iand, 1, 0, 0, 0, 0), (32, .tableswitch 669 0 18 #[92, 155, 168, 181, 214, 247, 270, 303, 326, 359, 402, 425, 458, 501, 524, 547, 580, 613, 636], 92, 0, 0, 0, 0), (124, .aload_n 1, 1, 0, 0, 0, 0), (125, .aload_n 0, 1, 0, 0, 0, 0), (126, .iload_n 3, 1, 0, 0, 0, 0), (127, .iconst 1, 1, 0, 0, 0, 0), (128, .iadd, 1, 0, 0, 0, 0), (129, .iaload, 1, 0, 0, 0, 0), (130, .aload_n 0, 1, 0, 0, 0, 0), (131, .iload_n 3, 1, 0, 0, 0, 0), (132, .iconst 2, 1, 0, 0, 0, 0), (133, .iadd, 1, 0, 0, 0, 0), (134, .iaload, 1, 0, 0, 0, 0), (135, .i2l, 1, 0, 0, 0, 0), (136, .bipush 32, 2, 0, 0, 0, 0), (138, .lshl, 1, 0, 0, 0, 0), (139, .aload_n 0, 1, 0, 0, 0, 0), (140, .iload_n 3, 1, 0, 0, 0, 0), (141, .iconst 3, 1, 0, 0, 0, 0), (142, .iadd, 1, 0, 0, 0, 0)]
def zco159_1 : List zI := [(143, .iaload, 1, 0, 0, 0, 0), (144, .i2l, 1, 0, 0, 0, 0), (145, .ldc2_w 13, 3, 0, 0, 1114, 4294967295), (148, .land, 1, 0, 0, 0, 0), (149, .lor, 1, 0, 0, 0, 0), (150, .invokevirtual 15, 3, 10, 2, 226, 0), (153, .aload_n 2, 1, 0, 0, 0, 0), (154, .aload_n 0, 1, 0, 0, 0, 0), (155, .iload_n 3, 1, 0, 0, 0, 0), (156, .iconst 1, 1, 0, 0, 0, 0), (157, .iadd, 1, 0, 0, 0, 0), (158, .iaload, 1, 0, 0, 0, 0), (159, .aload_n 0, 1, 0, 0, 0, 0), (160, .iload_n 3, 1, 0, 0, 0, 0), (161, .iconst 2, 1, 0, 0, 0, 0), (162, .iadd, 1, 0, 0, 0, 0), (163, .iaload, 1, 0, 0, 0, 0), (164, .i2l, 1, 0, 0, 0, 0), (165, .bipush 32, 2, 0, 0, 0, 0), (167, .lshl, 1, 0, 0, 0, 0), (168, .aload_n 0, 1, 0, 0, 0, 0), (169, .iload_n 3, 1, 0, 0, 0, 0), (170, .iconst 3, 1, 0, 0, 0, 0), (171, .iadd, 1, 0, 0, 0, 0), (172, .iaload, 1, 0, 0, 0, 0), (173, .i2l, 1, 0, 0, 0, 0), (174, .ldc2_w 13, 3, 0, 0, 1114, 4294967295), (177, .land, 1, 0, 0, 0, 0), (178, .lor, 1, 0, 0, 0, 0), (179, .invokevirtual 19, 3, 112, 2, 920, 0), (182, .if_icmp .eq 519, 3, 701, 0, 0, 0), (185, .iconst 0, 1, 0, 0, 0, 0), (186, .ireturn, 1, 0, 0, 0, 0), (187, .aload_n 1, 1, 0, 0, 0, 0), (188, .invokevirtual 20, 3, 12, 0, 234, 0), (191, .aload_n 2, 1, 0, 0, 0, 0), (192, .invokevirtual 24, 3, 114, 0, 929, 0), (195, .if_icmp .eq 506, 3, 701, 0, 0, 0), (198, .iconst 0, 1, 0, 0, 0, 0), (199, .ireturn, 1, 0, 0, 0, 0)]
def zco159_2 : List zI := [(200, .aload_n 1, 1, 0, 0, 0, 0), (201, .invokevirtual 25, 3, 47, 0, 485, 0), (204, .aload_n 2, 1, 0, 0, 0, 0), (205, .invokevirtual 28, 3, 125, 0, 973, 0), (208, .if_icmp .eq 493, 3, 701, 0, 0, 0), (211, .iconst 0, 1, 0, 0, 0, 0), (212, .ireturn, 1, 0, 0, 0, 0), (213, .aload_n 1, 1, 0, 0, 0, 0), (214, .aload_n 0, 1, 0, 0, 0, 0), (215, .iload_n 3, 1, 0, 0, 0, 0), (216, .iconst 1, 1, 0, 0, 0, 0), (217, .iadd, 1, 0, 0, 0, 0), (218, .iaload, 1, 0, 0, 0, 0), (219, .aload_n 0, 1, 0, 0, 0, 0), (220, .iload_n 3, 1, 0, 0, 0, 0), (221, .iconst 2, 1, 0, 0, 0, 0), (222, .iadd, 1, 0, 0, 0, 0), (223, .iaload, 1, 0, 0, 0, 0), (224, .invokevirtual 29, 3, 48, 2, 489, 0), (227, .aload_n 2, 1, 0, 0, 0, 0), (228, .aload_n 0, 1, 0, 0, 0, 0), (229, .iload_n 3, 1, 0, 0, 0, 0), (230, .iconst 1, 1, 0, 0, 0, 0), (231, .iadd, 1, 0, 0, 0, 0), (232, .iaload, 1, 0, 0, 0, 0), (233, .aload_n 0, 1, 0, 0, 0, 0), (234, .iload_n 3, 1, 0, 0, 0, 0), (235, .iconst 2, 1, 0, 0, 0, 0), (236, .iadd, 1, 0, 0, 0, 0), (237, .iaload, 1, 0, 0, 0, 0), (238, .invokevirtual 33, 3, 126, 2, 977, 0), (241, .if_icmp .eq 460, 3, 701, 0, 0, 0), (244, .iconst 0, 1, 0, 0, 0, 0), (245, .ireturn, 1, 0, 0, 0, 0), (246, .aload_n 1, 1, 0, 0, 0, 0), (247, .aload_n 0, 1, 0, 0, 0, 0), (248, .iload_n 3, 1, 0, 0, 0, 0), (249, .iconst 1, 1, 0, 0, 0, 0), (250, .iadd, 1, 0, 0, 0, 0), (251, .iaload, 1, 0, 0, 0, 0)]
def zco159_3 : List zI := [(252, .aload_n 0, 1, 0, 0, 0, 0), (253, .iload_n 3, 1, 0, 0, 0, 0), (254, .iconst 2, 1, 0, 0, 0, 0), (255, .iadd, 1, 0, 0, 0, 0), (256, .iaload, 1, 0, 0, 0, 0), (257, .invokevirtual 34, 3, 49, 2, 495, 0), (260, .aload_n 2, 1, 0, 0, 0, 0), (261, .aload_n 0, 1, 0, 0, 0, 0), (262, .iload_n 3, 1, 0, 0, 0, 0), (263, .iconst 1, 1, 0, 0, 0, 0), (264, .iadd, 1, 0, 0, 0, 0), (265, .iaload, 1, 0, 0, 0, 0), (266, .aload_n 0, 1, 0, 0, 0, 0), (267, .iload_n 3, 1, 0, 0, 0, 0), (268, .iconst 2, 1, 0, 0, 0, 0), (269, .iadd, 1, 0, 0, 0, 0), (270, .iaload, 1, 0, 0, 0, 0), (271, .invokevirtual 37, 3, 128, 2, 986, 0), (274, .if_icmp .eq 427, 3, 701, 0, 0, 0), (277, .iconst 0, 1, 0, 0, 0, 0), (278, .ireturn, 1, 0, 0, 0, 0), (279, .aload_n 1, 1, 0, 0, 0, 0), (280, .aload_n 0, 1, 0, 0, 0, 0), (281, .iload_n 3, 1, 0, 0, 0, 0), (282, .iconst 1, 1, 0, 0, 0, 0), (283, .iadd, 1, 0, 0, 0, 0), (284, .iaload, 1, 0, 0, 0, 0), (285, .invokevirtual 38, 3, 59, 1, 536, 0), (288, .aload_n 2, 1, 0, 0, 0, 0), (289, .aload_n 0, 1, 0, 0, 0, 0), (290, .iload_n 3, 1, 0, 0, 0, 0), (291, .iconst 1, 1, 0, 0, 0, 0), (292, .iadd, 1, 0, 0, 0, 0), (293, .iaload, 1, 0, 0, 0, 0), (294, .invokevirtual 42, 3, 136, 1, 1017, 0), (297, .if_icmp .eq 404, 3, 701, 0, 0, 0), (300, .iconst 0, 1, 0, 0, 0, 0), (301, .ireturn, 1, 0, 0, 0, 0), (302, .aload_n 1, 1, 0, 0, 0, 0), (303, .aload_n 0, 1, 0, 0, 0, 0)]
def zco159_4 : List zI := [(304, .iload_n 3, 1, 0, 0, 0, 0), (305, .iconst 1, 1, 0, 0, 0, 0), (306, .iadd, 1, 0, 0, 0, 0), (307, .iaload, 1, 0, 0, 0, 0), (308, .aload_n 0, 1, 0, 0, 0, 0), (309, .iload_n 3, 1, 0, 0, 0, 0), (310, .iconst 2, 1, 0, 0, 0, 0), (311, .iadd, 1, 0, 0, 0, 0), (312, .iaload, 1, 0, 0, 0, 0), (313, .invokevirtual 43, 3, 64, 2, 556, 0), (316, .aload_n 2, 1, 0, 0, 0, 0), (317, .aload_n 0, 1, 0, 0, 0, 0), (318, .iload_n 3, 1, 0, 0, 0, 0), (319, .iconst 1, 1, 0, 0, 0, 0), (320, .iadd, 1, 0, 0, 0, 0), (321, .iaload, 1, 0, 0, 0, 0), (322, .aload_n 0, 1, 0, 0, 0, 0), (323, .iload_n 3, 1, 0, 0, 0, 0), (324, .iconst 2, 1, 0, 0, 0, 0), (325, .iadd, 1, 0, 0, 0, 0), (326, .iaload, 1, 0, 0, 0, 0), (327, .invokevirtual 46, 3, 137, 2, 1021, 0), (330, .if_icmp .eq 371, 3, 701, 0, 0, 0), (333, .iconst 0, 1, 0, 0, 0, 0), (334, .ireturn, 1, 0, 0, 0, 0), (335, .aload_n 1, 1, 0, 0, 0, 0), (336, .aload_n 0, 1, 0, 0, 0, 0), (337, .iload_n 3, 1, 0, 0, 0, 0), (338, .iconst 1, 1, 0, 0, 0, 0), (339, .iadd, 1, 0, 0, 0, 0), (340, .iaload, 1, 0, 0, 0, 0), (341, .invokevirtual 47, 3, 65, 1, 560, 0), (344, .aload_n 2, 1, 0, 0, 0, 0), (345, .aload_n 0, 1, 0, 0, 0, 0), (346, .iload_n 3, 1, 0, 0, 0, 0), (347, .iconst 1, 1, 0, 0, 0, 0), (348, .iadd, 1, 0, 0, 0, 0), (349, .iaload, 1, 0, 0, 0, 0), (350, .invokevirtual 50, 3, 138, 1, 1025, 0), (353, .if_icmp .eq 348, 3, 701, 0, 0, 0)]
def zco159_5 : List zI := [(356, .iconst 0, 1, 0, 0, 0, 0), (357, .ireturn, 1, 0, 0, 0, 0), (358, .aload_n 1, 1, 0, 0, 0, 0), (359, .aload_n 0, 1, 0, 0, 0, 0), (360, .iload_n 3, 1, 0, 0, 0, 0), (361, .iconst 1, 1, 0, 0, 0, 0), (362, .iadd, 1, 0, 0, 0, 0), (363, .iaload, 1, 0, 0, 0, 0), (364, .aload_n 0, 1, 0, 0, 0, 0), (365, .iload_n 3, 1, 0, 0, 0, 0), (366, .iconst 2, 1, 0, 0, 0, 0), (367, .iadd, 1, 0, 0, 0, 0), (368, .iaload, 1, 0, 0, 0, 0), (369, .invokevirtual 51, 3, 67, 2, 569, 0), (372, .aload_n 2, 1, 0, 0, 0, 0), (373, .aload_n 0, 1, 0, 0, 0, 0), (374, .iload_n 3, 1, 0, 0, 0, 0), (375, .iconst 1, 1, 0, 0, 0, 0), (376, .iadd, 1, 0, 0, 0, 0), (377, .iaload, 1, 0, 0, 0, 0), (378, .aload_n 0, 1, 0, 0, 0, 0), (379, .iload_n 3, 1, 0, 0, 0, 0), (380, .iconst 2, 1, 0, 0, 0, 0), (381, .iadd, 1, 0, 0, 0, 0), (382, .iaload, 1, 0, 0, 0, 0), (383, .invokevirtual 54, 3, 139, 2, 1030, 0), (386, .if_icmp .eq 315, 3, 701, 0, 0, 0), (389, .iconst 0, 1, 0, 0, 0, 0), (390, .ireturn, 1, 0, 0, 0, 0), (391, .aload_n 1, 1, 0, 0, 0, 0), (392, .aload_n 0, 1, 0, 0, 0, 0), (393, .iload_n 3, 1, 0, 0, 0, 0), (394, .iconst 1, 1, 0, 0, 0, 0), (395, .iadd, 1, 0, 0, 0, 0), (396, .iaload, 1, 0, 0, 0, 0), (397, .aload_n 0, 1, 0, 0, 0, 0), (398, .iload_n 3, 1, 0, 0, 0, 0), (399, .iconst 2, 1, 0, 0, 0, 0), (400, .iadd, 1, 0, 0, 0, 0), (401, .iaload, 1, 0, 0, 0, 0)]
def zco159_6 : List zI := [(402, .aload_n 0, 1, 0, 0, 0, 0), (403, .iload_n 3, 1, 0, 0, 0, 0), (404, .iconst 3, 1, 0, 0, 0, 0), (405, .iadd, 1, 0, 0, 0, 0), (406, .iaload, 1, 0, 0, 0, 0), (407, .invokevirtual 55, 3, 71, 3, 587, 0), (410, .aload_n 2, 1, 0, 0, 0, 0), (411, .aload_n 0, 1, 0, 0, 0, 0), (412, .iload_n 3, 1, 0, 0, 0, 0), (413, .iconst 1, 1, 0, 0, 0, 0), (414, .iadd, 1, 0, 0, 0, 0), (415, .iaload, 1, 0, 0, 0, 0), (416, .aload_n 0, 1, 0, 0, 0, 0), (417, .iload_n 3, 1, 0, 0, 0, 0), (418, .iconst 2, 1, 0, 0, 0, 0), (419, .iadd, 1, 0, 0, 0, 0), (420, .iaload, 1, 0, 0, 0, 0), (421, .aload_n 0, 1, 0, 0, 0, 0), (422, .iload_n 3, 1, 0, 0, 0, 0), (423, .iconst 3, 1, 0, 0, 0, 0), (424, .iadd, 1, 0, 0, 0, 0), (425, .iaload, 1, 0, 0, 0, 0), (426, .invokevirtual 59, 3, 141, 3, 1039, 0), (429, .if_icmp .eq 272, 3, 701, 0, 0, 0), (432, .iconst 0, 1, 0, 0, 0, 0), (433, .ireturn, 1, 0, 0, 0, 0), (434, .aload_n 1, 1, 0, 0, 0, 0), (435, .aload_n 0, 1, 0, 0, 0, 0), (436, .iload_n 3, 1, 0, 0, 0, 0), (437, .iconst 1, 1, 0, 0, 0, 0), (438, .iadd, 1, 0, 0, 0, 0), (439, .iaload, 1, 0, 0, 0, 0), (440, .invokevirtual 60, 3, 74, 1, 615, 0), (443, .aload_n 2, 1, 0, 0, 0, 0), (444, .aload_n 0, 1, 0, 0, 0, 0), (445, .iload_n 3, 1, 0, 0, 0, 0), (446, .iconst 1, 1, 0, 0, 0, 0), (447, .iadd, 1, 0, 0, 0, 0), (448, .iaload, 1, 0, 0, 0, 0), (449, .invokevirtual 63, 3, 142, 1, 1043, 0)]
def zco159_7 : List zI := [(452, .if_icmp .eq 249, 3, 701, 0, 0, 0), (455, .iconst 0, 1, 0, 0, 0, 0), (456, .ireturn, 1, 0, 0, 0, 0), (457, .aload_n 1, 1, 0, 0, 0, 0), (458, .aload_n 0, 1, 0, 0, 0, 0), (459, .iload_n 3, 1, 0, 0, 0, 0), (460, .iconst 1, 1, 0, 0, 0, 0), (461, .iadd, 1, 0, 0, 0, 0), (462, .iaload, 1, 0, 0, 0, 0), (463, .aload_n 0, 1, 0, 0, 0, 0), (464, .iload_n 3, 1, 0, 0, 0, 0), (465, .iconst 2, 1, 0, 0, 0, 0), (466, .iadd, 1, 0, 0, 0, 0), (467, .iaload, 1, 0, 0, 0, 0), (468, .invokevirtual 64, 3, 86, 2, 684, 0), (471, .aload_n 2, 1, 0, 0, 0, 0), (472, .aload_n 0, 1, 0, 0, 0, 0), (473, .iload_n 3, 1, 0, 0, 0, 0), (474, .iconst 1, 1, 0, 0, 0, 0), (475, .iadd, 1, 0, 0, 0, 0), (476, .iaload, 1, 0, 0, 0, 0), (477, .aload_n 0, 1, 0, 0, 0, 0), (478, .iload_n 3, 1, 0, 0, 0, 0), (479, .iconst 2, 1, 0, 0, 0, 0), (480, .iadd, 1, 0, 0, 0, 0), (481, .iaload, 1, 0, 0, 0, 0), (482, .invokevirtual 67, 3, 144, 2, 1051, 0), (485, .if_icmp .eq 216, 3, 701, 0, 0, 0), (488, .iconst 0, 1, 0, 0, 0, 0), (489, .ireturn, 1, 0, 0, 0, 0), (490, .aload_n 1, 1, 0, 0, 0, 0), (491, .aload_n 0, 1, 0, 0, 0, 0), (492, .iload_n 3, 1, 0, 0, 0, 0), (493, .iconst 1, 1, 0, 0, 0, 0), (494, .iadd, 1, 0, 0, 0, 0), (495, .iaload, 1, 0, 0, 0, 0), (496, .aload_n 0, 1, 0, 0, 0, 0), (497, .iload_n 3, 1, 0, 0, 0, 0), (498, .iconst 2, 1, 0, 0, 0, 0), (499, .iadd, 1, 0, 0, 0, 0)]
def zco159_8 : List zI := [(500, .iaload, 1, 0, 0, 0, 0), (501, .aload_n 0, 1, 0, 0, 0, 0), (502, .iload_n 3, 1, 0, 0, 0, 0), (503, .iconst 3, 1, 0, 0, 0, 0), (504, .iadd, 1, 0, 0, 0, 0), (505, .iaload, 1, 0, 0, 0, 0), (506, .invokevirtual 68, 3, 87, 3, 689, 0), (509, .aload_n 2, 1, 0, 0, 0, 0), (510, .aload_n 0, 1, 0, 0, 0, 0), (511, .iload_n 3, 1, 0, 0, 0, 0), (512, .iconst 1, 1, 0, 0, 0, 0), (513, .iadd, 1, 0, 0, 0, 0), (514, .iaload, 1, 0, 0, 0, 0), (515, .aload_n 0, 1, 0, 0, 0, 0), (516, .iload_n 3, 1, 0, 0, 0, 0), (517, .iconst 2, 1, 0, 0, 0, 0), (518, .iadd, 1, 0, 0, 0, 0), (519, .iaload, 1, 0, 0, 0, 0), (520, .aload_n 0, 1, 0, 0, 0, 0), (521, .iload_n 3, 1, 0, 0, 0, 0), (522, .iconst 3, 1, 0, 0, 0, 0), (523, .iadd, 1, 0, 0, 0, 0), (524, .iaload, 1, 0, 0, 0, 0), (525, .invokevirtual 71, 3, 145, 3, 1055, 0), (528, .if_icmp .eq 173, 3, 701, 0, 0, 0), (531, .iconst 0, 1, 0, 0, 0, 0), (532, .ireturn, 1, 0, 0, 0, 0), (533, .aload_n 1, 1, 0, 0, 0, 0), (534, .aload_n 0, 1, 0, 0, 0, 0), (535, .iload_n 3, 1, 0, 0, 0, 0), (536, .iconst 1, 1, 0, 0, 0, 0), (537, .iadd, 1, 0, 0, 0, 0), (538, .iaload, 1, 0, 0, 0, 0), (539, .invokevirtual 72, 3, 88, 1, 693, 0), (542, .aload_n 2, 1, 0, 0, 0, 0), (543, .aload_n 0, 1, 0, 0, 0, 0), (544, .iload_n 3, 1, 0, 0, 0, 0), (545, .iconst 1, 1, 0, 0, 0, 0), (546, .iadd, 1, 0, 0, 0, 0), (547, .iaload, 1, 0, 0, 0, 0)]
def zco159_9 : List zI := [(548, .invokevirtual 75, 3, 146, 1, 1060, 0), (551, .if_icmp .eq 150, 3, 701, 0, 0, 0), (554, .iconst 0, 1, 0, 0, 0, 0), (555, .ireturn, 1, 0, 0, 0, 0), (556, .aload_n 1, 1, 0, 0, 0, 0), (557, .aload_n 0, 1, 0, 0, 0, 0), (558, .iload_n 3, 1, 0, 0, 0, 0), (559, .iconst 1, 1, 0, 0, 0, 0), (560, .iadd, 1, 0, 0, 0, 0), (561, .iaload, 1, 0, 0, 0, 0), (562, .invokevirtual 76, 3, 89, 1, 697, 0), (565, .aload_n 2, 1, 0, 0, 0, 0), (566, .aload_n 0, 1, 0, 0, 0, 0), (567, .iload_n 3, 1, 0, 0, 0, 0), (568, .iconst 1, 1, 0, 0, 0, 0), (569, .iadd, 1, 0, 0, 0, 0), (570, .iaload, 1, 0, 0, 0, 0), (571, .invokevirtual 79, 3, 147, 1, 1065, 0), (574, .if_icmp .eq 127, 3, 701, 0, 0, 0), (577, .iconst 0, 1, 0, 0, 0, 0), (578, .ireturn, 1, 0, 0, 0, 0), (579, .aload_n 1, 1, 0, 0, 0, 0), (580, .aload_n 0, 1, 0, 0, 0, 0), (581, .iload_n 3, 1, 0, 0, 0, 0), (582, .iconst 1, 1, 0, 0, 0, 0), (583, .iadd, 1, 0, 0, 0, 0), (584, .iaload, 1, 0, 0, 0, 0), (585, .aload_n 0, 1, 0, 0, 0, 0), (586, .iload_n 3, 1, 0, 0, 0, 0), (587, .iconst 2, 1, 0, 0, 0, 0), (588, .iadd, 1, 0, 0, 0, 0), (589, .iaload, 1, 0, 0, 0, 0), (590, .invokevirtual 80, 3, 101, 2, 749, 0), (593, .aload_n 2, 1, 0, 0, 0, 0), (594, .aload_n 0, 1, 0, 0, 0, 0), (595, .iload_n 3, 1, 0, 0, 0, 0), (596, .iconst 1, 1, 0, 0, 0, 0), (597, .iadd, 1, 0, 0, 0, 0), (598, .iaload, 1, 0, 0, 0, 0), (599, .aload_n 0, 1, 0, 0, 0, 0)]
def zco159_10 : List zI := [(600, .iload_n 3, 1, 0, 0, 0, 0), (601, .iconst 2, 1, 0, 0, 0, 0), (602, .iadd, 1, 0, 0, 0, 0), (603, .iaload, 1, 0, 0, 0, 0), (604, .invokevirtual 83, 3, 153, 2, 1090, 0), (607, .if_icmp .eq 94, 3, 701, 0, 0, 0), (610, .iconst 0, 1, 0, 0, 0, 0), (611, .ireturn, 1, 0, 0, 0, 0), (612, .aload_n 1, 1, 0, 0, 0, 0), (613, .aload_n 0, 1, 0, 0, 0, 0), (614, .iload_n 3, 1, 0, 0, 0, 0), (615, .iconst 1, 1, 0, 0, 0, 0), (616, .iadd, 1, 0, 0, 0, 0), (617, .iaload, 1, 0, 0, 0, 0), (618, .aload_n 0, 1, 0, 0, 0, 0), (619, .iload_n 3, 1, 0, 0, 0, 0), (620, .iconst 2, 1, 0, 0, 0, 0), (621, .iadd, 1, 0, 0, 0, 0), (622, .iaload, 1, 0, 0, 0, 0), (623, .invokevirtual 84, 3, 103, 2, 757, 0), (626, .aload_n 2, 1, 0, 0, 0, 0), (627, .aload_n 0, 1, 0, 0, 0, 0), (628, .iload_n 3, 1, 0, 0, 0, 0), (629, .iconst 1, 1, 0, 0, 0, 0), (630, .iadd, 1, 0, 0, 0, 0), (631, .iaload, 1, 0, 0, 0, 0), (632, .aload_n 0, 1, 0, 0, 0, 0), (633, .iload_n 3, 1, 0, 0, 0, 0), (634, .iconst 2, 1, 0, 0, 0, 0), (635, .iadd, 1, 0, 0, 0, 0), (636, .iaload, 1, 0, 0, 0, 0), (637, .invokevirtual 87, 3, 154, 2, 1094, 0), (640, .if_icmp .eq 61, 3, 701, 0, 0, 0), (643, .iconst 0, 1, 0, 0, 0, 0), (644, .ireturn, 1, 0, 0, 0, 0), (645, .aload_n 1, 1, 0, 0, 0, 0), (646, .aload_n 0, 1, 0, 0, 0, 0), (647, .iload_n 3, 1, 0, 0, 0, 0), (648, .iconst 1, 1, 0, 0, 0, 0), (649, .iadd, 1, 0, 0, 0, 0)]
def zco159_11 : List zI := [(650, .iaload, 1, 0, 0, 0, 0), (651, .invokevirtual 88, 3, 106, 1, 770, 0), (654, .aload_n 2, 1, 0, 0, 0, 0), (655, .aload_n 0, 1, 0, 0, 0, 0), (656, .iload_n 3, 1, 0, 0, 0, 0), (657, .iconst 1, 1, 0, 0, 0, 0), (658, .iadd, 1, 0, 0, 0, 0), (659, .iaload, 1, 0, 0, 0, 0), (660, .invokevirtual 91, 3, 156, 1, 1102, 0), (663, .if_icmp .eq 38, 3, 701, 0, 0, 0), (666, .iconst 0, 1, 0, 0, 0, 0), (667, .ireturn, 1, 0, 0, 0, 0), (668, .aload_n 1, 1, 0, 0, 0, 0), (669, .aload_n 0, 1, 0, 0, 0, 0), (670, .iload_n 3, 1, 0, 0, 0, 0), (671, .iconst 1, 1, 0, 0, 0, 0), (672, .iadd, 1, 0, 0, 0, 0), (673, .iaload, 1, 0, 0, 0, 0), (674, .aload_n 0, 1, 0, 0, 0, 0), (675, .iload_n 3, 1, 0, 0, 0, 0), (676, .iconst 2, 1, 0, 0, 0, 0), (677, .iadd, 1, 0, 0, 0, 0), (678, .iaload, 1, 0, 0, 0, 0), (679, .invokevirtual 92, 3, 109, 2, 782, 0), (682, .aload_n 2, 1, 0, 0, 0, 0), (683, .aload_n 0, 1, 0, 0, 0, 0), (684, .iload_n 3, 1, 0, 0, 0, 0), (685, .iconst 1, 1, 0, 0, 0, 0), (686, .iadd, 1, 0, 0, 0, 0), (687, .iaload, 1, 0, 0, 0, 0), (688, .aload_n 0, 1, 0, 0, 0, 0), (689, .iload_n 3, 1, 0, 0, 0, 0), (690, .iconst 2, 1, 0, 0, 0, 0), (691, .iadd, 1, 0, 0, 0, 0), (692, .iaload, 1, 0, 0, 0, 0), (693, .invokevirtual 95, 3, 158, 2, 1110, 0), (696, .if_icmp .eq 5, 3, 701, 0, 0, 0), (699, .iconst 0, 1, 0, 0, 0, 0), (700, .ireturn, 1, 0, 0, 0, 0), (701, .iinc 3 4, 3, 0, 0, 0, 0)]
def zco159_12 : List zI := [(704, .goto (-686), 3, 18, 0, 0, 0), (707, .iconst 1, 1, 0, 0, 0, 0), (708, .ireturn, 1, 0, 0, 0, 0)]
def zco159 : List zI := zco159_0 ++ (zco159_1 ++ (zco159_2 ++ (zco159_3 ++ (zco159_4 ++ (zco159_5 ++ (zco159_6 ++ (zco159_7 ++ (zco159_8 ++ (zco159_9 ++ (zco159_10 ++ (zco159_11 ++ (zco159_12))))))))))))
def zcos0 : List (List zI) := [zco0, zco1, zco2, zco3, zco4, zco5, zco6, zco7, zco8, zco9, zco10, zco11, zco12, zco13, zco14, zco15, zco16, zco17, zco18, zco19]
def zcos1 : List (List zI) := [zco20, zco21, zco22, zco23, zco24, zco25, zco26, zco27, zco28, zco29, zco30, zco31, zco32, zco33, zco34, zco35, zco36, zco37, zco38, zco39]
def zcos2 : List (List zI) := [zco40, zco41, zco42, zco43, zco44, zco45, zco46, zco47, zco48, zco49, zco50, zco51, zco52, zco53, zco54, zco55, zco56, zco57, zco58, zco59]
def zcos3 : List (List zI) := [zco60, zco61, zco62, zco63, zco64, zco65, zco66, zco67, zco68, zco69, zco70, zco71, zco72, zco73, zco74, zco75, zco76, zco77, zco78, zco79]
def zcos4 : List (List zI) := [zco80, zco81, zco82, zco83, zco84, zco85, zco86, zco87, zco88, zco89, zco90, zco91, zco92, zco93, zco94, zco95, zco96, zco97, zco98, zco99]
def zcos5 : List (List zI) := [zco100, zco101, zco102, zco103, zco104, zco105, zco106, zco107, zco108, zco109, zco110, zco111, zco112, zco113, zco114, zco115, zco116, zco117, zco118, zco119]
def zcos6 : List (List zI) := [zco120, zco121, zco122, zco123, zco124, zco125, zco126, zco127, zco128, zco129, zco130, zco131, zco132, zco133, zco134, zco135, zco136, zco137, zco138, zco139]
def zcos7 : List (List zI) := [zco140, zco141, zco142, zco143, zco144, zco145, zco146, zco147, zco148, zco149, zco150, zco151, zco152, zco153, zco154, zco155, zco156, zco157, zco158, zco159]
def zcos : List (List zI) := zcos0 ++ (zcos1 ++ (zcos2 ++ (zcos3 ++ (zcos4 ++ (zcos5 ++ (zcos6 ++ (zcos7)))))))
/-- the instruction at pc of method m -/
def zfind (pc : Nat) : List zI → Option (Instr × Nat × Nat × Nat × Nat × Int)
  | [] => none
  | e :: r => if e.1 = pc then some e.2 else zfind pc r
def zcod (m pc : Nat) : Option (Instr × Nat × Nat × Nat × Nat × Int) := zfind pc (zcos.getD m [])
end
section
def zstl : List (String × String × String) := [("", "", ""), ("PaperTown$Text", "BLOCK_LEAST", "[I"), ("PaperTown$Text", "BLOCK_MOST", "[I"), ("PaperTown$Text", "STREET_LEAST", "[I"), ("PaperTown$Text", "STREET_MOST", "[I"), ("PaperTown$Text", "GIFT_LEAST", "[I"), ("PaperTown$Text", "GIFT_MOST", "[I"), ("java/util/ArrayList", "DEFAULTCAPACITY_EMPTY_ELEMENTDATA", "[Ljava/lang/Object;")]
def zsta (a : Nat) : String × String × String := zstl.getD a ("", "", "")
def zfok (m idx t k pos : Nat) (n : Int) : Bool :=
  decide (t < 10) && decide (k < (zcl t).2.2) && decide (lw_tbl[pos]? = some (.fieldLink (zY m).cls idx (if n = 1 then "java/util/ArrayList" else ((zcl t).2.1 k).1) ((zcl t).2.1 k).2.1 ((zcl t).2.1 k).2.2.1))
  && (decide (n = 0) || (decide (n = 1) && decide (t = 0) && decide (k = 0)))
def zrok (m a b : Nat) : Bool := zmok a && decide (zFr a + 1 ≤ zFr m) && decide (8 + (zL a + 11) + zLo a ≤ zLo m) && decide ((parseMethodDescriptor (zY a).desc).map (fun d => d.parameters.length) = some b)
def zlk (m idx a pos : Nat) (n : Int) : Bool := if n = 1 then decide (lw_tbl[pos]? = some (.methodLinkNest (zY m).cls idx (zY a) "PaperTown")) else decide (lw_tbl[pos]? = some (.methodLink (zY m).cls idx (zY a)))
/-- an instruction of a list stands in the bytes, and resolves so -/
def zchk (m : Nat) : zI → Bool := fun (pc, i, len, a, b, pos, n) =>
  decide (decode (zB m) pc = .ok (i, len)) &&
  (match i with
  | .ifCond _ off => decide ((pc : Int) + off = (a : Int))
  | .if_icmp _ off => decide ((pc : Int) + off = (a : Int))
  | .if_acmp _ off => decide ((pc : Int) + off = (a : Int))
  | .goto off => decide ((pc : Int) + off = (a : Int))
  | .ifnull off => decide ((pc : Int) + off = (a : Int))
  | .ifnonnull off => decide ((pc : Int) + off = (a : Int))
  | .getfield idx => zfok m idx a b pos n
  | .putfield idx => zfok m idx a b pos n && (!((zcl a).2.1 b).2.2.2 || (decide ((zY m).name = "<init>") && decide (((zcl a).2.1 b).1 = (zY m).cls)))
  | .getstatic idx => decide (1 ≤ a) && decide (a < 8) && decide (lw_tbl[pos]? = some (.fieldLink (zY m).cls idx (zsta a).1 (zsta a).2.1 (zsta a).2.2))
  | .ldc idx => decide (lw_tbl[pos]? = some (.constant (zY m).cls idx (Int32.ofInt n)))
  | .ldc2_w idx => decide (lw_tbl[pos]? = some (.constantLong (zY m).cls idx (Int64.ofInt n)))
  | .new idx => decide (a < 10) && decide (lw_tbl[pos]? = some (.classLink (zY m).cls idx (zcl a).1))
  | .checkcast idx => decide (a < 10) && decide (lw_tbl[pos]? = some (.classLink (zY m).cls idx (zcl a).1))
  | .anewarray idx => decide (lw_tbl[pos]? = some (.classLink (zY m).cls idx "java/lang/Object"))
  | .newarray ty => decide ((ty = .int ∧ a = 100) ∨ (ty = .byte ∧ a = 101) ∨ (ty = .boolean ∧ a = 102))
  | .invokevirtual idx => zrok m a b && decide (zKi a = 1) && zlk m idx a pos n && decide (n = 0)
  | .invokespecial idx => if a = 1 then decide (lw_tbl[pos]? = some (.methodLink (zY m).cls idx objectInit)) && decide (1 ≤ zFr m) && decide (20 ≤ zLo m) else zrok m a b && decide (zKi a = 2) && zlk m idx a pos n
  | .invokestatic idx => if a = 1000 then decide (lw_tbl[pos]? = some (.methodLink (zY m).cls idx arraycopyName)) && decide (1 ≤ zFr m) && decide (26 ≤ zLo m) else zrok m a b && decide (zKi a = 0) && zlk m idx a pos n
  | .tableswitch d _ _ offs => decide (0 ≤ (pc : Int) + d) && offs.all (fun o => decide (0 ≤ (pc : Int) + o))
  | .lookupswitch d ps => decide (0 ≤ (pc : Int) + d) && ps.all (fun o => decide (0 ≤ (pc : Int) + o.2)) && (ps.toList.zip (ps.toList.drop 1)).all (fun (a, next) => a.1 < next.1)
  | _ => true)
theorem zall_app {m : Nat} {a b : List zI} (h1 : a.all (zchk m) = true) (h2 : b.all (zchk m) = true) : (a ++ b).all (zchk m) = true := by
  rw [List.all_append, h1, h2]; rfl
end
section
theorem zck0 : zco0.all (zchk 0) = true := by decide +kernel
theorem zck1 : zco1.all (zchk 1) = true := by decide +kernel
theorem zck2 : zco2.all (zchk 2) = true := by decide +kernel
theorem zck3 : zco3.all (zchk 3) = true := by decide +kernel
theorem zck4 : zco4.all (zchk 4) = true := by decide +kernel
theorem zck5 : zco5.all (zchk 5) = true := by decide +kernel
theorem zck6 : zco6.all (zchk 6) = true := by decide +kernel
theorem zck7 : zco7.all (zchk 7) = true := by decide +kernel
theorem zck8 : zco8.all (zchk 8) = true := by decide +kernel
theorem zck9 : zco9.all (zchk 9) = true := by decide +kernel
theorem zck10 : zco10.all (zchk 10) = true := by decide +kernel
theorem zck11_0 : zco11_0.all (zchk 11) = true := by decide +kernel
theorem zck11_1 : zco11_1.all (zchk 11) = true := by decide +kernel
theorem zck11 : zco11.all (zchk 11) = true := zall_app zck11_0 (zck11_1)
theorem zck12 : zco12.all (zchk 12) = true := by decide +kernel
theorem zck13_0 : zco13_0.all (zchk 13) = true := by decide +kernel
theorem zck13_1 : zco13_1.all (zchk 13) = true := by decide +kernel
theorem zck13 : zco13.all (zchk 13) = true := zall_app zck13_0 (zck13_1)
theorem zck14 : zco14.all (zchk 14) = true := by decide +kernel
theorem zck15 : zco15.all (zchk 15) = true := by decide +kernel
theorem zck16 : zco16.all (zchk 16) = true := by decide +kernel
theorem zck17 : zco17.all (zchk 17) = true := by decide +kernel
theorem zck18_0 : zco18_0.all (zchk 18) = true := by decide +kernel
theorem zck18_1 : zco18_1.all (zchk 18) = true := by decide +kernel
theorem zck18 : zco18.all (zchk 18) = true := zall_app zck18_0 (zck18_1)
theorem zck19_0 : zco19_0.all (zchk 19) = true := by decide +kernel
theorem zck19_1 : zco19_1.all (zchk 19) = true := by decide +kernel
theorem zck19 : zco19.all (zchk 19) = true := zall_app zck19_0 (zck19_1)
theorem zck20 : zco20.all (zchk 20) = true := by decide +kernel
theorem zck21_0 : zco21_0.all (zchk 21) = true := by decide +kernel
theorem zck21_1 : zco21_1.all (zchk 21) = true := by decide +kernel
theorem zck21 : zco21.all (zchk 21) = true := zall_app zck21_0 (zck21_1)
theorem zck22 : zco22.all (zchk 22) = true := by decide +kernel
theorem zck23_0 : zco23_0.all (zchk 23) = true := by decide +kernel
theorem zck23_1 : zco23_1.all (zchk 23) = true := by decide +kernel
theorem zck23 : zco23.all (zchk 23) = true := zall_app zck23_0 (zck23_1)
theorem zck24_0 : zco24_0.all (zchk 24) = true := by decide +kernel
theorem zck24_1 : zco24_1.all (zchk 24) = true := by decide +kernel
theorem zck24 : zco24.all (zchk 24) = true := zall_app zck24_0 (zck24_1)
theorem zck25 : zco25.all (zchk 25) = true := by decide +kernel
theorem zck26 : zco26.all (zchk 26) = true := by decide +kernel
theorem zck27 : zco27.all (zchk 27) = true := by decide +kernel
theorem zck28 : zco28.all (zchk 28) = true := by decide +kernel
theorem zck29 : zco29.all (zchk 29) = true := by decide +kernel
theorem zck30 : zco30.all (zchk 30) = true := by decide +kernel
theorem zck31 : zco31.all (zchk 31) = true := by decide +kernel
theorem zck32 : zco32.all (zchk 32) = true := by decide +kernel
theorem zck33 : zco33.all (zchk 33) = true := by decide +kernel
theorem zck34 : zco34.all (zchk 34) = true := by decide +kernel
theorem zck35 : zco35.all (zchk 35) = true := by decide +kernel
theorem zck36 : zco36.all (zchk 36) = true := by decide +kernel
theorem zck37 : zco37.all (zchk 37) = true := by decide +kernel
theorem zck38 : zco38.all (zchk 38) = true := by decide +kernel
theorem zck39_0 : zco39_0.all (zchk 39) = true := by decide +kernel
theorem zck39_1 : zco39_1.all (zchk 39) = true := by decide +kernel
theorem zck39 : zco39.all (zchk 39) = true := zall_app zck39_0 (zck39_1)
theorem zck40_0 : zco40_0.all (zchk 40) = true := by decide +kernel
theorem zck40_1 : zco40_1.all (zchk 40) = true := by decide +kernel
theorem zck40 : zco40.all (zchk 40) = true := zall_app zck40_0 (zck40_1)
theorem zck41 : zco41.all (zchk 41) = true := by decide +kernel
theorem zck42_0 : zco42_0.all (zchk 42) = true := by decide +kernel
theorem zck42_1 : zco42_1.all (zchk 42) = true := by decide +kernel
theorem zck42 : zco42.all (zchk 42) = true := zall_app zck42_0 (zck42_1)
theorem zck43 : zco43.all (zchk 43) = true := by decide +kernel
theorem zck44 : zco44.all (zchk 44) = true := by decide +kernel
theorem zck45 : zco45.all (zchk 45) = true := by decide +kernel
theorem zck46 : zco46.all (zchk 46) = true := by decide +kernel
theorem zck47 : zco47.all (zchk 47) = true := by decide +kernel
theorem zck48 : zco48.all (zchk 48) = true := by decide +kernel
theorem zck49_0 : zco49_0.all (zchk 49) = true := by decide +kernel
theorem zck49_1 : zco49_1.all (zchk 49) = true := by decide +kernel
theorem zck49 : zco49.all (zchk 49) = true := zall_app zck49_0 (zck49_1)
theorem zck50 : zco50.all (zchk 50) = true := by decide +kernel
theorem zck51 : zco51.all (zchk 51) = true := by decide +kernel
theorem zck52 : zco52.all (zchk 52) = true := by decide +kernel
theorem zck53 : zco53.all (zchk 53) = true := by decide +kernel
theorem zck54_0 : zco54_0.all (zchk 54) = true := by decide +kernel
theorem zck54_1 : zco54_1.all (zchk 54) = true := by decide +kernel
theorem zck54 : zco54.all (zchk 54) = true := zall_app zck54_0 (zck54_1)
theorem zck55 : zco55.all (zchk 55) = true := by decide +kernel
theorem zck56 : zco56.all (zchk 56) = true := by decide +kernel
theorem zck57_0 : zco57_0.all (zchk 57) = true := by decide +kernel
theorem zck57_1 : zco57_1.all (zchk 57) = true := by decide +kernel
theorem zck57 : zco57.all (zchk 57) = true := zall_app zck57_0 (zck57_1)
theorem zck58_0 : zco58_0.all (zchk 58) = true := by decide +kernel
theorem zck58_1 : zco58_1.all (zchk 58) = true := by decide +kernel
theorem zck58 : zco58.all (zchk 58) = true := zall_app zck58_0 (zck58_1)
theorem zck59 : zco59.all (zchk 59) = true := by decide +kernel
theorem zck60 : zco60.all (zchk 60) = true := by decide +kernel
theorem zck61 : zco61.all (zchk 61) = true := by decide +kernel
end
section
theorem zck62_0 : zco62_0.all (zchk 62) = true := by decide +kernel
theorem zck62_1 : zco62_1.all (zchk 62) = true := by decide +kernel
theorem zck62 : zco62.all (zchk 62) = true := zall_app zck62_0 (zck62_1)
theorem zck63_0 : zco63_0.all (zchk 63) = true := by decide +kernel
theorem zck63_1 : zco63_1.all (zchk 63) = true := by decide +kernel
theorem zck63 : zco63.all (zchk 63) = true := zall_app zck63_0 (zck63_1)
theorem zck64 : zco64.all (zchk 64) = true := by decide +kernel
theorem zck65 : zco65.all (zchk 65) = true := by decide +kernel
theorem zck66 : zco66.all (zchk 66) = true := by decide +kernel
theorem zck67 : zco67.all (zchk 67) = true := by decide +kernel
theorem zck68 : zco68.all (zchk 68) = true := by decide +kernel
theorem zck69 : zco69.all (zchk 69) = true := by decide +kernel
theorem zck70 : zco70.all (zchk 70) = true := by decide +kernel
theorem zck71_0 : zco71_0.all (zchk 71) = true := by decide +kernel
theorem zck71_1 : zco71_1.all (zchk 71) = true := by decide +kernel
theorem zck71 : zco71.all (zchk 71) = true := zall_app zck71_0 (zck71_1)
theorem zck72 : zco72.all (zchk 72) = true := by decide +kernel
theorem zck73 : zco73.all (zchk 73) = true := by decide +kernel
theorem zck74 : zco74.all (zchk 74) = true := by decide +kernel
theorem zck75 : zco75.all (zchk 75) = true := by decide +kernel
theorem zck76_0 : zco76_0.all (zchk 76) = true := by decide +kernel
theorem zck76_1 : zco76_1.all (zchk 76) = true := by decide +kernel
theorem zck76 : zco76.all (zchk 76) = true := zall_app zck76_0 (zck76_1)
theorem zck77_0 : zco77_0.all (zchk 77) = true := by decide +kernel
theorem zck77_1 : zco77_1.all (zchk 77) = true := by decide +kernel
theorem zck77 : zco77.all (zchk 77) = true := zall_app zck77_0 (zck77_1)
theorem zck78 : zco78.all (zchk 78) = true := by decide +kernel
theorem zck79 : zco79.all (zchk 79) = true := by decide +kernel
theorem zck80 : zco80.all (zchk 80) = true := by decide +kernel
theorem zck81 : zco81.all (zchk 81) = true := by decide +kernel
theorem zck82 : zco82.all (zchk 82) = true := by decide +kernel
theorem zck83 : zco83.all (zchk 83) = true := by decide +kernel
theorem zck84 : zco84.all (zchk 84) = true := by decide +kernel
theorem zck85 : zco85.all (zchk 85) = true := by decide +kernel
theorem zck86 : zco86.all (zchk 86) = true := by decide +kernel
theorem zck87_0 : zco87_0.all (zchk 87) = true := by decide +kernel
theorem zck87_1 : zco87_1.all (zchk 87) = true := by decide +kernel
theorem zck87 : zco87.all (zchk 87) = true := zall_app zck87_0 (zck87_1)
theorem zck88 : zco88.all (zchk 88) = true := by decide +kernel
theorem zck89 : zco89.all (zchk 89) = true := by decide +kernel
theorem zck90 : zco90.all (zchk 90) = true := by decide +kernel
theorem zck91 : zco91.all (zchk 91) = true := by decide +kernel
theorem zck92 : zco92.all (zchk 92) = true := by decide +kernel
theorem zck93 : zco93.all (zchk 93) = true := by decide +kernel
theorem zck94 : zco94.all (zchk 94) = true := by decide +kernel
theorem zck95 : zco95.all (zchk 95) = true := by decide +kernel
theorem zck96_0 : zco96_0.all (zchk 96) = true := by decide +kernel
theorem zck96_1 : zco96_1.all (zchk 96) = true := by decide +kernel
theorem zck96 : zco96.all (zchk 96) = true := zall_app zck96_0 (zck96_1)
theorem zck97 : zco97.all (zchk 97) = true := by decide +kernel
theorem zck98 : zco98.all (zchk 98) = true := by decide +kernel
theorem zck99 : zco99.all (zchk 99) = true := by decide +kernel
theorem zck100 : zco100.all (zchk 100) = true := by decide +kernel
theorem zck101 : zco101.all (zchk 101) = true := by decide +kernel
theorem zck102 : zco102.all (zchk 102) = true := by decide +kernel
theorem zck103 : zco103.all (zchk 103) = true := by decide +kernel
theorem zck104 : zco104.all (zchk 104) = true := by decide +kernel
theorem zck105 : zco105.all (zchk 105) = true := by decide +kernel
theorem zck106_0 : zco106_0.all (zchk 106) = true := by decide +kernel
theorem zck106_1 : zco106_1.all (zchk 106) = true := by decide +kernel
theorem zck106 : zco106.all (zchk 106) = true := zall_app zck106_0 (zck106_1)
theorem zck107 : zco107.all (zchk 107) = true := by decide +kernel
theorem zck108 : zco108.all (zchk 108) = true := by decide +kernel
theorem zck109 : zco109.all (zchk 109) = true := by decide +kernel
theorem zck110_0 : zco110_0.all (zchk 110) = true := by decide +kernel
theorem zck110_1 : zco110_1.all (zchk 110) = true := by decide +kernel
theorem zck110 : zco110.all (zchk 110) = true := zall_app zck110_0 (zck110_1)
theorem zck111_0 : zco111_0.all (zchk 111) = true := by decide +kernel
theorem zck111_1 : zco111_1.all (zchk 111) = true := by decide +kernel
theorem zck111_2 : zco111_2.all (zchk 111) = true := by decide +kernel
theorem zck111 : zco111.all (zchk 111) = true := zall_app zck111_0 (zall_app zck111_1 (zck111_2))
end
section
theorem zck112_0 : zco112_0.all (zchk 112) = true := by decide +kernel
theorem zck112_1 : zco112_1.all (zchk 112) = true := by decide +kernel
theorem zck112 : zco112.all (zchk 112) = true := zall_app zck112_0 (zck112_1)
theorem zck113 : zco113.all (zchk 113) = true := by decide +kernel
theorem zck114_0 : zco114_0.all (zchk 114) = true := by decide +kernel
theorem zck114_1 : zco114_1.all (zchk 114) = true := by decide +kernel
theorem zck114_2 : zco114_2.all (zchk 114) = true := by decide +kernel
theorem zck114 : zco114.all (zchk 114) = true := zall_app zck114_0 (zall_app zck114_1 (zck114_2))
theorem zck115_0 : zco115_0.all (zchk 115) = true := by decide +kernel
theorem zck115_1 : zco115_1.all (zchk 115) = true := by decide +kernel
theorem zck115 : zco115.all (zchk 115) = true := zall_app zck115_0 (zck115_1)
theorem zck116 : zco116.all (zchk 116) = true := by decide +kernel
theorem zck117_0 : zco117_0.all (zchk 117) = true := by decide +kernel
theorem zck117_1 : zco117_1.all (zchk 117) = true := by decide +kernel
theorem zck117_2 : zco117_2.all (zchk 117) = true := by decide +kernel
theorem zck117_3 : zco117_3.all (zchk 117) = true := by decide +kernel
theorem zck117 : zco117.all (zchk 117) = true := zall_app zck117_0 (zall_app zck117_1 (zall_app zck117_2 (zck117_3)))
theorem zck118 : zco118.all (zchk 118) = true := by decide +kernel
theorem zck119_0 : zco119_0.all (zchk 119) = true := by decide +kernel
theorem zck119_1 : zco119_1.all (zchk 119) = true := by decide +kernel
theorem zck119_2 : zco119_2.all (zchk 119) = true := by decide +kernel
theorem zck119 : zco119.all (zchk 119) = true := zall_app zck119_0 (zall_app zck119_1 (zck119_2))
theorem zck120 : zco120.all (zchk 120) = true := by decide +kernel
theorem zck121 : zco121.all (zchk 121) = true := by decide +kernel
theorem zck122_0 : zco122_0.all (zchk 122) = true := by decide +kernel
theorem zck122_1 : zco122_1.all (zchk 122) = true := by decide +kernel
theorem zck122_2 : zco122_2.all (zchk 122) = true := by decide +kernel
theorem zck122 : zco122.all (zchk 122) = true := zall_app zck122_0 (zall_app zck122_1 (zck122_2))
theorem zck123_0 : zco123_0.all (zchk 123) = true := by decide +kernel
theorem zck123_1 : zco123_1.all (zchk 123) = true := by decide +kernel
theorem zck123 : zco123.all (zchk 123) = true := zall_app zck123_0 (zck123_1)
theorem zck124_0 : zco124_0.all (zchk 124) = true := by decide +kernel
theorem zck124_1 : zco124_1.all (zchk 124) = true := by decide +kernel
theorem zck124 : zco124.all (zchk 124) = true := zall_app zck124_0 (zck124_1)
theorem zck125 : zco125.all (zchk 125) = true := by decide +kernel
theorem zck126 : zco126.all (zchk 126) = true := by decide +kernel
theorem zck127 : zco127.all (zchk 127) = true := by decide +kernel
theorem zck128_0 : zco128_0.all (zchk 128) = true := by decide +kernel
theorem zck128_1 : zco128_1.all (zchk 128) = true := by decide +kernel
theorem zck128 : zco128.all (zchk 128) = true := zall_app zck128_0 (zck128_1)
theorem zck129 : zco129.all (zchk 129) = true := by decide +kernel
theorem zck130_0 : zco130_0.all (zchk 130) = true := by decide +kernel
theorem zck130_1 : zco130_1.all (zchk 130) = true := by decide +kernel
theorem zck130_2 : zco130_2.all (zchk 130) = true := by decide +kernel
theorem zck130_3 : zco130_3.all (zchk 130) = true := by decide +kernel
theorem zck130 : zco130.all (zchk 130) = true := zall_app zck130_0 (zall_app zck130_1 (zall_app zck130_2 (zck130_3)))
theorem zck131 : zco131.all (zchk 131) = true := by decide +kernel
theorem zck132 : zco132.all (zchk 132) = true := by decide +kernel
theorem zck133_0 : zco133_0.all (zchk 133) = true := by decide +kernel
theorem zck133_1 : zco133_1.all (zchk 133) = true := by decide +kernel
theorem zck133 : zco133.all (zchk 133) = true := zall_app zck133_0 (zck133_1)
theorem zck134 : zco134.all (zchk 134) = true := by decide +kernel
theorem zck135 : zco135.all (zchk 135) = true := by decide +kernel
theorem zck136_0 : zco136_0.all (zchk 136) = true := by decide +kernel
theorem zck136_1 : zco136_1.all (zchk 136) = true := by decide +kernel
theorem zck136_2 : zco136_2.all (zchk 136) = true := by decide +kernel
theorem zck136 : zco136.all (zchk 136) = true := zall_app zck136_0 (zall_app zck136_1 (zck136_2))
theorem zck137 : zco137.all (zchk 137) = true := by decide +kernel
theorem zck138 : zco138.all (zchk 138) = true := by decide +kernel
theorem zck139 : zco139.all (zchk 139) = true := by decide +kernel
theorem zck140 : zco140.all (zchk 140) = true := by decide +kernel
theorem zck141_0 : zco141_0.all (zchk 141) = true := by decide +kernel
theorem zck141_1 : zco141_1.all (zchk 141) = true := by decide +kernel
theorem zck141_2 : zco141_2.all (zchk 141) = true := by decide +kernel
theorem zck141 : zco141.all (zchk 141) = true := zall_app zck141_0 (zall_app zck141_1 (zck141_2))
end
section
theorem zck142_0 : zco142_0.all (zchk 142) = true := by decide +kernel
theorem zck142_1 : zco142_1.all (zchk 142) = true := by decide +kernel
theorem zck142_2 : zco142_2.all (zchk 142) = true := by decide +kernel
theorem zck142_3 : zco142_3.all (zchk 142) = true := by decide +kernel
theorem zck142_4 : zco142_4.all (zchk 142) = true := by decide +kernel
theorem zck142 : zco142.all (zchk 142) = true := zall_app zck142_0 (zall_app zck142_1 (zall_app zck142_2 (zall_app zck142_3 (zck142_4))))
theorem zck143_0 : zco143_0.all (zchk 143) = true := by decide +kernel
theorem zck143_1 : zco143_1.all (zchk 143) = true := by decide +kernel
theorem zck143 : zco143.all (zchk 143) = true := zall_app zck143_0 (zck143_1)
theorem zck144 : zco144.all (zchk 144) = true := by decide +kernel
theorem zck145_0 : zco145_0.all (zchk 145) = true := by decide +kernel
theorem zck145_1 : zco145_1.all (zchk 145) = true := by decide +kernel
theorem zck145 : zco145.all (zchk 145) = true := zall_app zck145_0 (zck145_1)
theorem zck146 : zco146.all (zchk 146) = true := by decide +kernel
theorem zck147 : zco147.all (zchk 147) = true := by decide +kernel
theorem zck148_0 : zco148_0.all (zchk 148) = true := by decide +kernel
theorem zck148_1 : zco148_1.all (zchk 148) = true := by decide +kernel
theorem zck148 : zco148.all (zchk 148) = true := zall_app zck148_0 (zck148_1)
theorem zck149_0 : zco149_0.all (zchk 149) = true := by decide +kernel
theorem zck149_1 : zco149_1.all (zchk 149) = true := by decide +kernel
theorem zck149_2 : zco149_2.all (zchk 149) = true := by decide +kernel
theorem zck149 : zco149.all (zchk 149) = true := zall_app zck149_0 (zall_app zck149_1 (zck149_2))
theorem zck150 : zco150.all (zchk 150) = true := by decide +kernel
theorem zck151_0 : zco151_0.all (zchk 151) = true := by decide +kernel
theorem zck151_1 : zco151_1.all (zchk 151) = true := by decide +kernel
theorem zck151 : zco151.all (zchk 151) = true := zall_app zck151_0 (zck151_1)
theorem zck152_0 : zco152_0.all (zchk 152) = true := by decide +kernel
theorem zck152_1 : zco152_1.all (zchk 152) = true := by decide +kernel
theorem zck152 : zco152.all (zchk 152) = true := zall_app zck152_0 (zck152_1)
theorem zck153_0 : zco153_0.all (zchk 153) = true := by decide +kernel
theorem zck153_1 : zco153_1.all (zchk 153) = true := by decide +kernel
theorem zck153 : zco153.all (zchk 153) = true := zall_app zck153_0 (zck153_1)
theorem zck154_0 : zco154_0.all (zchk 154) = true := by decide +kernel
theorem zck154_1 : zco154_1.all (zchk 154) = true := by decide +kernel
theorem zck154 : zco154.all (zchk 154) = true := zall_app zck154_0 (zck154_1)
theorem zck155 : zco155.all (zchk 155) = true := by decide +kernel
theorem zck156_0 : zco156_0.all (zchk 156) = true := by decide +kernel
theorem zck156_1 : zco156_1.all (zchk 156) = true := by decide +kernel
theorem zck156 : zco156.all (zchk 156) = true := zall_app zck156_0 (zck156_1)
theorem zck157 : zco157.all (zchk 157) = true := by decide +kernel
theorem zck158_0 : zco158_0.all (zchk 158) = true := by decide +kernel
theorem zck158_1 : zco158_1.all (zchk 158) = true := by decide +kernel
theorem zck158 : zco158.all (zchk 158) = true := zall_app zck158_0 (zck158_1)
theorem zck159_0 : zco159_0.all (zchk 159) = true := by decide +kernel
theorem zck159_1 : zco159_1.all (zchk 159) = true := by decide +kernel
theorem zck159_2 : zco159_2.all (zchk 159) = true := by decide +kernel
theorem zck159_3 : zco159_3.all (zchk 159) = true := by decide +kernel
theorem zck159_4 : zco159_4.all (zchk 159) = true := by decide +kernel
theorem zck159_5 : zco159_5.all (zchk 159) = true := by decide +kernel
theorem zck159_6 : zco159_6.all (zchk 159) = true := by decide +kernel
theorem zck159_7 : zco159_7.all (zchk 159) = true := by decide +kernel
theorem zck159_8 : zco159_8.all (zchk 159) = true := by decide +kernel
theorem zck159_9 : zco159_9.all (zchk 159) = true := by decide +kernel
theorem zck159_10 : zco159_10.all (zchk 159) = true := by decide +kernel
theorem zck159_11 : zco159_11.all (zchk 159) = true := by decide +kernel
theorem zck159_12 : zco159_12.all (zchk 159) = true := by decide +kernel
theorem zck159 : zco159.all (zchk 159) = true := zall_app zck159_0 (zall_app zck159_1 (zall_app zck159_2 (zall_app zck159_3 (zall_app zck159_4 (zall_app zck159_5 (zall_app zck159_6 (zall_app zck159_7 (zall_app zck159_8 (zall_app zck159_9 (zall_app zck159_10 (zall_app zck159_11 (zck159_12))))))))))))
def zokA : Nat → List (List zI) → Prop
  | _, [] => True
  | i, l :: r => l.all (zchk i) = true ∧ zokA (i + 1) r
theorem zokA_at : ∀ (L : List (List zI)) (i j : Nat) (l : List zI), zokA i L → L[j]? = some l → l.all (zchk (i + j)) = true
  | [], _, _, _, _, h => by simp at h
  | a :: r, i, 0, l, h, hl => by
    simp only [List.getElem?_cons_zero, Option.some.injEq] at hl
    subst hl
    exact h.1
  | a :: r, i, j + 1, l, h, hl => by
    rw [List.getElem?_cons_succ] at hl
    have := zokA_at r (i + 1) j l h.2 hl
    rwa [show i + 1 + j = i + (j + 1) by omega] at this
theorem zokA_app : ∀ (a b : List (List zI)) (i : Nat), zokA i a → zokA (i + a.length) b → zokA i (a ++ b)
  | [], b, i, _, h => by simpa using h
  | x :: a, b, i, h1, h2 => ⟨h1.1, zokA_app a b (i + 1) h1.2 (by rw [List.length_cons] at h2; rwa [show i + 1 + a.length = i + (a.length + 1) by omega])⟩
theorem zokc0 : zokA 0 zcos0 := ⟨zck0, zck1, zck2, zck3, zck4, zck5, zck6, zck7, zck8, zck9, zck10, zck11, zck12, zck13, zck14, zck15, zck16, zck17, zck18, zck19, trivial⟩
theorem zokc1 : zokA 20 zcos1 := ⟨zck20, zck21, zck22, zck23, zck24, zck25, zck26, zck27, zck28, zck29, zck30, zck31, zck32, zck33, zck34, zck35, zck36, zck37, zck38, zck39, trivial⟩
theorem zokc2 : zokA 40 zcos2 := ⟨zck40, zck41, zck42, zck43, zck44, zck45, zck46, zck47, zck48, zck49, zck50, zck51, zck52, zck53, zck54, zck55, zck56, zck57, zck58, zck59, trivial⟩
theorem zokc3 : zokA 60 zcos3 := ⟨zck60, zck61, zck62, zck63, zck64, zck65, zck66, zck67, zck68, zck69, zck70, zck71, zck72, zck73, zck74, zck75, zck76, zck77, zck78, zck79, trivial⟩
theorem zokc4 : zokA 80 zcos4 := ⟨zck80, zck81, zck82, zck83, zck84, zck85, zck86, zck87, zck88, zck89, zck90, zck91, zck92, zck93, zck94, zck95, zck96, zck97, zck98, zck99, trivial⟩
theorem zokc5 : zokA 100 zcos5 := ⟨zck100, zck101, zck102, zck103, zck104, zck105, zck106, zck107, zck108, zck109, zck110, zck111, zck112, zck113, zck114, zck115, zck116, zck117, zck118, zck119, trivial⟩
theorem zokc6 : zokA 120 zcos6 := ⟨zck120, zck121, zck122, zck123, zck124, zck125, zck126, zck127, zck128, zck129, zck130, zck131, zck132, zck133, zck134, zck135, zck136, zck137, zck138, zck139, trivial⟩
theorem zokc7 : zokA 140 zcos7 := ⟨zck140, zck141, zck142, zck143, zck144, zck145, zck146, zck147, zck148, zck149, zck150, zck151, zck152, zck153, zck154, zck155, zck156, zck157, zck158, zck159, trivial⟩
theorem zok_all : zokA 0 zcos := zokA_app _ _ _ zokc0 (zokA_app _ _ _ zokc1 (zokA_app _ _ _ zokc2 (zokA_app _ _ _ zokc3 (zokA_app _ _ _ zokc4 (zokA_app _ _ _ zokc5 (zokA_app _ _ _ zokc6 (zokc7)))))))
theorem zfind_mem {pc : Nat} : ∀ {l : List zI} {q : Instr × Nat × Nat × Nat × Nat × Int}, zfind pc l = some q → (pc, q) ∈ l
  | [], _, h => by simp [zfind] at h
  | e :: r, q, h => by
    unfold zfind at h
    split at h
    · rename_i he
      simp only [Option.some.injEq] at h
      subst h; subst he
      exact List.mem_cons_self
    · exact List.mem_cons_of_mem _ (zfind_mem h)
theorem zcod_ok {m pc : Nat} {q : Instr × Nat × Nat × Nat × Nat × Int} (h : zcod m pc = some q) : zchk m (pc, q) = true := by
  have h1 := zfind_mem h
  cases hl : zcos[m]? with
  | none =>
    rw [List.getD_eq_getElem?_getD, hl] at h1
    simp at h1
  | some l =>
    rw [List.getD_eq_getElem?_getD, hl] at h1
    have h2 := zokA_at zcos 0 m l zok_all hl
    rw [Nat.zero_add] at h2
    exact List.all_eq_true.mp h2 _ h1
end
section
def zcnl : List Nat := [99, 99, 99, 99, 99, 99, 99, 99, 99, 99, 8, 6, 8, 6, 0, 6, 6, 6, 6, 6, 6, 6, 99, 6, 5, 5, 99, 5, 99, 0, 0, 0, 0, 99, 99, 99, 99, 99, 99, 5, 6, 5, 5, 0, 99, 99, 0, 8, 8, 8, 5, 0, 0, 2, 5, 99, 5, 2, 5, 8, 5, 5, 5, 5, 8, 8, 4, 8, 4, 4, 4, 8, 2, 99, 8, 0, 3, 3, 0, 4, 2, 3, 2, 2, 99, 2, 8, 8, 8, 8, 3, 3, 3, 2, 2, 3, 3, 3, 5, 5, 3, 8, 2, 8, 5, 5, 8, 5, 5, 8, 3, 99, 9, 99, 9, 9, 9, 9, 9, 9, 99, 99, 9, 9, 9, 9, 9, 99, 9, 9, 9, 9, 99, 9, 9, 9, 9, 9, 9, 9, 9, 9, 9, 9, 9, 9, 9, 9, 9, 9, 9, 9, 9, 9, 9, 9, 9, 9, 9, 99]
def zcn (m : Nat) : Nat := zcnl.getD m 99
def zcnok (m : Nat) : Bool := if zKi m = 1 then decide (zcn m < 10) && decide ((zcl (zcn m)).1 = (zY m).cls) else true
theorem zcn_all : (List.range 160).all zcnok = true := by decide +kernel
theorem zcn_ok {m : Nat} (hm : m < 160) (h : zKi m = 1) : zcn m < 10 ∧ (zcl (zcn m)).1 = (zY m).cls := by
  have h1 := List.all_eq_true.mp zcn_all m (List.mem_range.mpr hm)
  simp only [zcnok, h, if_true, Bool.and_eq_true, decide_eq_true_eq] at h1
  exact h1
theorem zKi_lt {m : Nat} (h : zKi m = 1) : m < 160 := by
  rcases Nat.lt_or_ge m 160 with q | q
  · exact q
  · have e : zmts.length = 160 := by decide +kernel
    have : zmts[m]? = none := List.getElem?_eq_none (by omega)
    simp [zKi, zmt, List.getD_eq_getElem?_getD, this] at h
def zlen (i : Instr) : Nat := match i with
  | .bipush _ | .ldc _ | .iload _ | .lload _ | .aload _ | .istore _ | .lstore _ | .astore _ | .newarray _ => 2
  | .sipush _ | .ldc2_w _ | .iinc _ _ | .ifCond _ _ | .if_icmp _ _ | .if_acmp _ _ | .ifnull _ | .ifnonnull _ | .goto _ | .getfield _ | .putfield _ | .getstatic _ | .new _ | .anewarray _ | .checkcast _ | .invokevirtual _ | .invokespecial _ | .invokestatic _ => 3
  | .tableswitch _ _ _ _ | .lookupswitch _ _ => 0
  | _ => 1
theorem zlen_all : zcos.all (fun l => l.all fun e => decide (zlen e.2.1 = 0) || decide (e.2.2.1 = zlen e.2.1)) = true := by decide +kernel
theorem zcod_len {m pc : Nat} {q : Instr × Nat × Nat × Nat × Nat × Int} (h : zcod m pc = some q) : zlen q.1 = 0 ∨ q.2.1 = zlen q.1 := by
  have h1 := zfind_mem h
  cases hl : zcos[m]? with
  | none =>
    rw [List.getD_eq_getElem?_getD, hl] at h1
    simp at h1
  | some l =>
    rw [List.getD_eq_getElem?_getD, hl] at h1
    have h2 := List.all_eq_true.mp zlen_all l (List.mem_of_getElem? hl)
    have h3 := List.all_eq_true.mp h2 _ h1
    simpa using h3
theorem zcod_dec {m pc : Nat} {i : Instr} {r : Nat × Nat × Nat × Nat × Int} (h : zcod m pc = some (i, r)) (hn : zlen i ≠ 0) : decode (zB m) pc = .ok (i, zlen i) := by
  have h1 := zcod_ok h
  obtain ⟨len, a, b, pos, n⟩ := r
  have h2 := zcod_len h
  simp only [zchk, Bool.and_eq_true, decide_eq_true_eq] at h1
  rcases h2 with q | q
  · exact absurd q hn
  · rw [← q]
    exact h1.1
theorem zcod_chk {m pc : Nat} {i : Instr} {len a b pos : Nat} {n : Int} (h : zcod m pc = some (i, len, a, b, pos, n)) : zchk m (pc, i, len, a, b, pos, n) = true := zcod_ok h
theorem zObI : Cond.instanceMethod objectInit ∈ zG := zG_in (i := 72) (by decide +kernel) rfl
theorem zObC : Cond.code objectInit ⟨#[0xb1]⟩ 1 none ∈ zG := zG_in (i := 73) (by decide +kernel) rfl
theorem zAr_int : Cond.arrayClass .int ∈ zG := zG_in (i := 102) (by decide +kernel) rfl
theorem zAr_byte : Cond.arrayClass .byte ∈ zG := zG_in (i := 101) (by decide +kernel) rfl
theorem zAr_boolean : Cond.arrayClass .boolean ∈ zG := zG_in (i := 141) (by decide +kernel) rfl
theorem zNat : Cond.native arraycopyName ∈ zG := zG_in (i := 442) (by decide +kernel) rfl
theorem zNst : Cond.static arraycopyName ∈ zG := zG_in (i := 441) (by decide +kernel) rfl
theorem zNin : Cond.initialized "java/lang/System" ∈ zG := zG_in (i := 61) (by decide +kernel) rfl
theorem zsame : Cond.sameField "java/util/ArrayList" "java/util/AbstractList" "modCount" "I" ∈ zG := zG_in (i := 133) (by decide +kernel) rfl
end
section
/-! A small machine over a small heap, that runs the lists of instructions. Values: an int, a long, a reference (none: null). -/
abbrev zV : Type := Int32 ⊕ (Int64 ⊕ Option Nat)
abbrev vI (x : Int32) : zV := .inl x
abbrev vL (x : Int64) : zV := .inr (.inl x)
abbrev vR (r : Option Nat) : zV := .inr (.inr r)
/-- the heap: the next address, slots used, what a cell is (number of its type, length), its ints, its references -/
abbrev zH : Type := Nat × Nat × (Nat → Nat × Nat) × (Nat → Nat → Int32) × (Nat → Nat → Option Nat)
def zn (h : zH) : Nat := h.1
def zs (h : zH) : Nat := h.2.1
def zk (h : zH) (a : Nat) : Nat × Nat := h.2.2.1 a
def zi (h : zH) (a k : Nat) : Int32 := h.2.2.2.1 a k
def zr (h : zH) (a k : Nat) : Option Nat := h.2.2.2.2 a k
def zui (h : zH) (a k : Nat) (x : Int32) : zH := (h.1, h.2.1, h.2.2.1, (fun b j => if b = a ∧ j = k then x else h.2.2.2.1 b j), h.2.2.2.2)
def zur (h : zH) (a k : Nat) (x : Option Nat) : zH := (h.1, h.2.1, h.2.2.1, h.2.2.2.1, (fun b j => if b = a ∧ j = k then x else h.2.2.2.2 b j))
def znw (h : zH) (t N : Nat) : zH := (h.1 + 1, h.2.1 + N, (fun b => if b = h.1 then (t, N) else h.2.2.1 b), (fun b j => if b = h.1 then 0 else h.2.2.2.1 b j), (fun b j => if b = h.1 then none else h.2.2.2.2 b j))
def zcy (h : zH) (a b sp dp n : Nat) : zH := (h.1, h.2.1, h.2.2.1, h.2.2.2.1, (fun c j => if c = b then va_cpy (h.2.2.2.2 a) (h.2.2.2.2 b) sp dp n j else h.2.2.2.2 c j))
/-- a field of an object of class t; a place of an array; a cell that is an object -/
abbrev zok (h : zH) (a t k : Nat) : Prop := 8 ≤ a ∧ a < zn h ∧ (zk h a).1 = t ∧ k < (zk h a).2
abbrev zix (h : zH) (a t : Nat) (i : Int32) : Prop := a < zn h ∧ (zk h a).1 = t ∧ ¬ i < 0 ∧ i.toNatClampNeg < (zk h a).2
abbrev zob (h : zH) (a : Nat) : Prop := 8 ≤ a ∧ a < zn h ∧ ((zk h a).1 = 1 ∨ (zk h a).1 = 2)
section ZC
variable {α : Type}
def zgI (h : zH) (r : Option Nat) (t k : Nat) (f : Int32 → Option α) : Option α := match r with
  | none => none
  | some a => if zok h a t k then f (zi h a k) else none
def zgR (h : zH) (r : Option Nat) (t k : Nat) (f : Option Nat → Option α) : Option α := match r with
  | none => none
  | some a => if zok h a t k then f (zr h a k) else none
def zpI (h : zH) (r : Option Nat) (t k : Nat) (x : Int32) (f : zH → Option α) : Option α := match r with
  | none => none
  | some a => if zok h a t k then f (zui h a k x) else none
def zpZ (h : zH) (r : Option Nat) (t k : Nat) (x : Int32) (f : zH → Option α) : Option α := match r with
  | none => none
  | some a => if zok h a t k ∧ (x = 0 ∨ x = 1) then f (zui h a k x) else none
def zpR (h : zH) (r : Option Nat) (t k : Nat) (x : Option Nat) (f : zH → Option α) : Option α := match r with
  | none => none
  | some a => if zok h a t k then f (zur h a k x) else none
def zaI (h : zH) (r : Option Nat) (i : Int32) (f : Int32 → Option α) : Option α := match r with
  | none => none
  | some a => if zix h a 100 i then f (zi h a i.toNatClampNeg) else none
def zaB (h : zH) (r : Option Nat) (i : Int32) (f : Int32 → Option α) : Option α := match r with
  | none => none
  | some a => if 8 ≤ a ∧ (zix h a 101 i ∨ zix h a 102 i) then f (zi h a i.toNatClampNeg) else none
def zaR (h : zH) (r : Option Nat) (i : Int32) (f : Option Nat → Option α) : Option α := match r with
  | none => none
  | some a => if 8 ≤ a ∧ zix h a 103 i then f (zr h a i.toNatClampNeg) else none
def ztI (h : zH) (r : Option Nat) (i x : Int32) (f : zH → Option α) : Option α := match r with
  | none => none
  | some a => if 8 ≤ a ∧ zix h a 100 i then f (zui h a i.toNatClampNeg x) else none
def ztB (h : zH) (r : Option Nat) (i x : Int32) (f : zH → Option α) : Option α := match r with
  | none => none
  | some a => if 8 ≤ a ∧ zix h a 101 i then f (zui h a i.toNatClampNeg x.toInt8.toInt32) else if 8 ≤ a ∧ zix h a 102 i ∧ (x = 0 ∨ x = 1) then f (zui h a i.toNatClampNeg x) else none
def ztR (h : zH) (r : Option Nat) (i : Int32) (x : Option Nat) (f : zH → Option α) : Option α := match r with
  | none => none
  | some a => if 8 ≤ a ∧ zix h a 103 i ∧ (x.all fun y => decide (zob h y)) = true then f (zur h a i.toNatClampNeg x) else none
def zal (h : zH) (r : Option Nat) (f : Int32 → Option α) : Option α := match r with
  | none => none
  | some a => if a < zn h ∧ 100 ≤ (zk h a).1 then f (Int32.ofNat (zk h a).2) else none
def zno (h : zH) (t : Nat) (f : Option Nat → zH → Option α) : Option α := f (some (zn h)) (znw h t (zcl t).2.2)
def zna (h : zH) (t : Nat) (n : Int32) (f : Option Nat → zH → Option α) : Option α := if ¬ n < 0 ∧ n.toNatClampNeg ≤ 100000 then f (some (zn h)) (znw h t n.toNatClampNeg) else none
def zca (h : zH) (t : Nat) (r : Option Nat) (f : Option α) : Option α := match r with
  | none => f
  | some a => if 8 ≤ a ∧ a < zn h ∧ (zk h a).1 = t then f else none
def zcO (h : zH) (r : Option Nat) (n : Int32) (f : Option Nat → zH → Option α) : Option α := match r with
  | none => none
  | some a => if 8 ≤ a ∧ a < zn h ∧ (zk h a).1 = 103 ∧ ¬ n < 0 ∧ n.toNatClampNeg ≤ 100000 ∧ (zk h a).2 ≤ n.toNatClampNeg ∧ (∀ i, i < (zk h a).2 → ((zr h a i).all fun y => decide (zob h y)) = true) then f (some (zn h)) (zcy (znw h 103 n.toNatClampNeg) a (zn h) 0 0 (zk h a).2) else none
def zcM (h : zH) (r : Option Nat) (sp : Int32) (q : Option Nat) (dp n : Int32) (f : zH → Option α) : Option α := match r, q with
  | some a, some b => if 8 ≤ a ∧ a < zn h ∧ 8 ≤ b ∧ b < zn h ∧ (zk h a).1 = 103 ∧ (zk h b).1 = 103 ∧ ¬ sp < 0 ∧ ¬ dp < 0 ∧ ¬ n < 0 ∧ sp.toNatClampNeg + n.toNatClampNeg ≤ (zk h a).2 ∧ dp.toNatClampNeg + n.toNatClampNeg ≤ (zk h b).2 ∧ (∀ i, i < n.toNatClampNeg → ((zr h a (sp.toNatClampNeg + i)).all fun y => decide (zob h y)) = true) then f (zcy h a b sp.toNatClampNeg dp.toNatClampNeg n.toNatClampNeg) else none
  | _, _ => none
def zdv (y : Int32) (f : Option α) : Option α := if y = 0 then none else f
def zac (x y : Option Nat) (f g : Option α) : Option α := if (x.all fun a => decide (7 ≤ a)) = true ∧ (y.all fun a => decide (7 ≤ a)) = true then (if x = y then f else g) else none
end ZC
abbrev zLs : Type := List (Option zV)
/-- storing into a local: never over the second half of a long -/
def zsto (ls : zLs) (i : Nat) (v : zV) : Option zLs := if i < ls.length then (match i with
  | 0 => some (ls.set 0 (some v))
  | j + 1 => match ls[j]? with
    | some (some (.inr (.inl _))) => none
    | _ => some (ls.set (j + 1) (some v))) else none
def zstl2 (ls : zLs) (i : Nat) (v : zV) : Option zLs := if i + 1 < ls.length then (match i with
  | 0 => some ((ls.set 0 (some v)).set 1 none)
  | j + 1 => match ls[j]? with
    | some (some (.inr (.inl _))) => none
    | _ => some ((ls.set (j + 1) (some v)).set (j + 2) none)) else none
def zsm (v : zV) : Bool := match v with
  | .inr (.inl _) => false
  | _ => true
def zct (v : zV) : Nat := match v with
  | .inr (.inl _) => 2
  | _ => 1
def zcs (st : List zV) : Nat := (st.map zct).sum
abbrev zP : Type := Nat × zLs × List zV
def zj1 (c : Jvm.ClassFile.Cond) (x : Int32) : Bool := match c with
  | .eq => decide (x = 0)
  | .ne => decide (¬ x = 0)
  | .lt => decide (x < 0)
  | .ge => decide (0 ≤ x)
  | .gt => decide (0 < x)
  | .le => decide (x ≤ 0)
def zj2 (c : Jvm.ClassFile.Cond) (x y : Int32) : Bool := match c with
  | .eq => decide (x = y)
  | .ne => decide (¬ x = y)
  | .lt => decide (x < y)
  | .ge => decide (y ≤ x)
  | .gt => decide (y < x)
  | .le => decide (x ≤ y)
/-- the instructions that touch no heap -/
def zp1 (i : Instr) (a : Nat) (n : Int) (pc : Nat) (ls : zLs) (st : List zV) : Option zP :=
  match i with
  | .aconst_null => some (pc + 1, ls, vR none :: st)
  | .iconst k => some (pc + 1, ls, vI (Int32.ofInt k) :: st)
  | .lconst k => some (pc + 1, ls, vL (Int64.ofNat k.val) :: st)
  | .bipush k => some (pc + 2, ls, vI (Int8.ofInt k).toInt32 :: st)
  | .sipush k => some (pc + 3, ls, vI (Int16.ofInt k).toInt32 :: st)
  | .ldc _ => some (pc + 2, ls, vI (Int32.ofInt n) :: st)
  | .ldc2_w _ => some (pc + 3, ls, vL (Int64.ofInt n) :: st)
  | .iload k => match ls[k]? with
    | some (some (.inl x)) => some (pc + 2, ls, vI x :: st)
    | _ => none
  | .iload_n k => match ls[k.val]? with
    | some (some (.inl x)) => some (pc + 1, ls, vI x :: st)
    | _ => none
  | .lload k => match ls[k]? with
    | some (some (.inr (.inl x))) => some (pc + 2, ls, vL x :: st)
    | _ => none
  | .lload_n k => match ls[k.val]? with
    | some (some (.inr (.inl x))) => some (pc + 1, ls, vL x :: st)
    | _ => none
  | .aload k => match ls[k]? with
    | some (some (.inr (.inr x))) => some (pc + 2, ls, vR x :: st)
    | _ => none
  | .aload_n k => match ls[k.val]? with
    | some (some (.inr (.inr x))) => some (pc + 1, ls, vR x :: st)
    | _ => none
  | .istore k => match st with
    | .inl x :: st => (zsto ls k (vI x)).map fun ls' => (pc + 2, ls', st)
    | _ => none
  | .istore_n k => match st with
    | .inl x :: st => (zsto ls k.val (vI x)).map fun ls' => (pc + 1, ls', st)
    | _ => none
  | .astore k => match st with
    | .inr (.inr x) :: st => (zsto ls k (vR x)).map fun ls' => (pc + 2, ls', st)
    | _ => none
  | .astore_n k => match st with
    | .inr (.inr x) :: st => (zsto ls k.val (vR x)).map fun ls' => (pc + 1, ls', st)
    | _ => none
  | .lstore k => match st with
    | .inr (.inl x) :: st => (zstl2 ls k (vL x)).map fun ls' => (pc + 2, ls', st)
    | _ => none
  | .lstore_n k => match st with
    | .inr (.inl x) :: st => (zstl2 ls k.val (vL x)).map fun ls' => (pc + 1, ls', st)
    | _ => none
  | .iinc k c => match ls[k]? with
    | some (some (.inl x)) => (zsto ls k (vI (x + Int32.ofInt c))).map fun ls' => (pc + 3, ls', st)
    | _ => none
  | .iadd => match st with
    | .inl y :: .inl x :: st => some (pc + 1, ls, vI (x + y) :: st)
    | _ => none
  | .isub => match st with
    | .inl y :: .inl x :: st => some (pc + 1, ls, vI (x - y) :: st)
    | _ => none
  | .imul => match st with
    | .inl y :: .inl x :: st => some (pc + 1, ls, vI (x * y) :: st)
    | _ => none
  | .iand => match st with
    | .inl y :: .inl x :: st => some (pc + 1, ls, vI (x &&& y) :: st)
    | _ => none
  | .ishr => match st with
    | .inl y :: .inl x :: st => some (pc + 1, ls, vI (x >>> (y &&& 31)) :: st)
    | _ => none
  | .ineg => match st with
    | .inl x :: st => some (pc + 1, ls, vI (-x) :: st)
    | _ => none
  | .idiv => match st with
    | .inl y :: .inl x :: st => zdv y (some (pc + 1, ls, vI (x / y) :: st))
    | _ => none
  | .irem => match st with
    | .inl y :: .inl x :: st => zdv y (some (pc + 1, ls, vI (x - x / y * y) :: st))
    | _ => none
  | .land => match st with
    | .inr (.inl y) :: .inr (.inl x) :: st => some (pc + 1, ls, vL (x &&& y) :: st)
    | _ => none
  | .lor => match st with
    | .inr (.inl y) :: .inr (.inl x) :: st => some (pc + 1, ls, vL (x ||| y) :: st)
    | _ => none
  | .lshl => match st with
    | .inl y :: .inr (.inl x) :: st => some (pc + 1, ls, vL (x <<< (y.toInt64 &&& 63)) :: st)
    | _ => none
  | .lshr => match st with
    | .inl y :: .inr (.inl x) :: st => some (pc + 1, ls, vL (x >>> (y.toInt64 &&& 63)) :: st)
    | _ => none
  | .lcmp => match st with
    | .inr (.inl y) :: .inr (.inl x) :: st => some (pc + 1, ls, vI (lg_cmp x y) :: st)
    | _ => none
  | .i2l => match st with
    | .inl x :: st => some (pc + 1, ls, vL x.toInt64 :: st)
    | _ => none
  | .l2i => match st with
    | .inr (.inl x) :: st => some (pc + 1, ls, vI x.toInt32 :: st)
    | _ => none
  | .i2b => match st with
    | .inl x :: st => some (pc + 1, ls, vI x.toInt8.toInt32 :: st)
    | _ => none
  | .pop => match st with
    | v :: st => if zsm v then some (pc + 1, ls, st) else none
    | _ => none
  | .dup => match st with
    | v :: st => if zsm v then some (pc + 1, ls, v :: v :: st) else none
    | _ => none
  | .dup_x1 => match st with
    | v :: w :: st => if zsm v && zsm w then some (pc + 1, ls, v :: w :: v :: st) else none
    | _ => none
  | .dup2 => match st with
    | v :: w :: st => if zsm v && zsm w then some (pc + 1, ls, v :: w :: v :: w :: st) else none
    | _ => none
  | .ifCond c _ => match st with
    | .inl x :: st => if zj1 c x then some (a, ls, st) else some (pc + 3, ls, st)
    | _ => none
  | .if_icmp c _ => match st with
    | .inl y :: .inl x :: st => if zj2 c x y then some (a, ls, st) else some (pc + 3, ls, st)
    | _ => none
  | .if_acmp .eq _ => match st with
    | .inr (.inr y) :: .inr (.inr x) :: st => zac x y (some (a, ls, st)) (some (pc + 3, ls, st))
    | _ => none
  | .if_acmp .ne _ => match st with
    | .inr (.inr y) :: .inr (.inr x) :: st => zac x y (some (pc + 3, ls, st)) (some (a, ls, st))
    | _ => none
  | .ifnull _ => match st with
    | .inr (.inr none) :: st => some (a, ls, st)
    | .inr (.inr (some _)) :: st => some (pc + 3, ls, st)
    | _ => none
  | .ifnonnull _ => match st with
    | .inr (.inr none) :: st => some (pc + 3, ls, st)
    | .inr (.inr (some _)) :: st => some (a, ls, st)
    | _ => none
  | .goto _ => some (a, ls, st)
  | .tableswitch d lo hi offs => match st with
    | .inl x :: st => if x.toInt < lo ∨ hi < x.toInt then some (((pc : Int) + d).toNat, ls, st) else (offs[(x.toInt - lo).toNat]?).map fun o => (((pc : Int) + o).toNat, ls, st)
    | _ => none
  | .lookupswitch d ps => match st with
    | .inl x :: st => some (((pc : Int) + Op.lookupswitch.offset ps.toList d x.toInt).toNat, ls, st)
    | _ => none
  | .getstatic _ => some (pc + 3, ls, vR (some a) :: st)
  | _ => none
abbrev zQ : Type := Nat × zLs × List zV × zH
def zft (t k : Nat) : Nat := match ztf t k with
  | .int => 0
  | .boolean => 1
  | _ => 2
/-- the instructions that read or write the heap, and stay in the method -/
def zh1 (i : Instr) (a b : Nat) (pc : Nat) (ls : zLs) (st : List zV) (h : zH) : Option zQ :=
  match i with
  | .getfield _ => match st with
    | .inr (.inr r) :: st => if zft a b = 2 then zgR h r a b (fun x => some (pc + 3, ls, vR x :: st, h)) else zgI h r a b (fun x => some (pc + 3, ls, vI x :: st, h))
    | _ => none
  | .putfield _ => match st with
    | .inl x :: .inr (.inr r) :: st => if zft a b = 0 then zpI h r a b x (fun h => some (pc + 3, ls, st, h)) else if zft a b = 1 then zpZ h r a b x (fun h => some (pc + 3, ls, st, h)) else none
    | .inr (.inr x) :: .inr (.inr r) :: st => if zft a b = 2 then zpR h r a b x (fun h => some (pc + 3, ls, st, h)) else none
    | _ => none
  | .iaload => match st with
    | .inl i :: .inr (.inr r) :: st => zaI h r i (fun x => some (pc + 1, ls, vI x :: st, h))
    | _ => none
  | .baload => match st with
    | .inl i :: .inr (.inr r) :: st => zaB h r i (fun x => some (pc + 1, ls, vI x :: st, h))
    | _ => none
  | .aaload => match st with
    | .inl i :: .inr (.inr r) :: st => zaR h r i (fun x => some (pc + 1, ls, vR x :: st, h))
    | _ => none
  | .iastore => match st with
    | .inl x :: .inl i :: .inr (.inr r) :: st => ztI h r i x (fun h => some (pc + 1, ls, st, h))
    | _ => none
  | .bastore => match st with
    | .inl x :: .inl i :: .inr (.inr r) :: st => ztB h r i x (fun h => some (pc + 1, ls, st, h))
    | _ => none
  | .aastore => match st with
    | .inr (.inr x) :: .inl i :: .inr (.inr r) :: st => ztR h r i x (fun h => some (pc + 1, ls, st, h))
    | _ => none
  | .arraylength => match st with
    | .inr (.inr r) :: st => zal h r (fun x => some (pc + 1, ls, vI x :: st, h))
    | _ => none
  | .new _ => zno h a (fun r h => some (pc + 3, ls, vR r :: st, h))
  | .newarray _ => match st with
    | .inl n :: st => zna h a n (fun r h => some (pc + 2, ls, vR r :: st, h))
    | _ => none
  | .anewarray _ => match st with
    | .inl n :: st => zna h 103 n (fun r h => some (pc + 3, ls, vR r :: st, h))
    | _ => none
  | .checkcast _ => match st with
    | .inr (.inr r) :: st => zca h a r (some (pc + 3, ls, vR r :: st, h))
    | _ => none
  | .invokespecial _ => if a = 1 then (match st with
    | .inr (.inr (some _)) :: st => if zcs st ≤ 8 then some (pc + 3, ls, st, h) else none
    | _ => none) else none
  | .invokestatic _ => if a = 1000 then (match st with
    | .inl n :: .inl dp :: .inr (.inr q) :: .inl sp :: .inr (.inr r) :: st => if zcs st ≤ 8 then zcM h r sp q dp n (fun h => some (pc + 3, ls, st, h)) else none
    | _ => none) else if a = 36 then (match st with
    | .inl n :: .inr (.inr r) :: st => if zcs st ≤ 8 then zcO h r n (fun q h => some (pc + 3, ls, vR q :: st, h)) else none
    | _ => none) else none
  | _ => none
/-- the arguments off the stack -/
def zpop : Nat → List zV → List zV → Option (List zV × List zV)
  | 0, as, st => some (as, st)
  | n + 1, as, v :: st => zpop n (v :: as) st
  | _ + 1, _, [] => none
/-- the locals with which a method begins -/
def zexp : List zV → zLs
  | [] => []
  | .inr (.inl x) :: as => some (vL x) :: none :: zexp as
  | v :: as => some v :: zexp as
def zent (m : Nat) (as : List zV) : zLs := zexp as ++ List.replicate (zL m - (zexp as).length) none
abbrev zA : Type := zQ ⊕ ((Option zV × zH) ⊕ (Nat × List zV × zQ))
def zrt (m : Nat) : Nat := match zRt m with
  | none => 0
  | some .int => 1
  | some .boolean => 2
  | some (.object _) => 3
  | some (.array _) => 3
  | _ => 4
/-- calls and returns -/
def zc1 (m : Nat) (i : Instr) (a b : Nat) (pc : Nat) (ls : zLs) (st : List zV) (h : zH) : Option zA :=
  match i with
  | .invokevirtual _ => match zpop b [] st with
    | some (as, .inr (.inr (some r)) :: st) => if 8 ≤ r ∧ r < zn h ∧ (zk h r).1 = zcn a ∧ zcs st ≤ 8 ∧ (zexp (vR (some r) :: as)).length ≤ zL a then some (.inr (.inr (a, vR (some r) :: as, pc + 3, ls, st, h))) else none
    | _ => none
  | .invokespecial _ => if a = 1 then none else match zpop b [] st with
    | some (as, .inr (.inr (some r)) :: st) => if zcs st ≤ 8 ∧ (zexp (vR (some r) :: as)).length ≤ zL a then some (.inr (.inr (a, vR (some r) :: as, pc + 3, ls, st, h))) else none
    | _ => none
  | .invokestatic _ => if a = 1000 ∨ a = 36 then none else match zpop b [] st with
    | some (as, st) => if zcs st ≤ 8 ∧ (zexp as).length ≤ zL a then some (.inr (.inr (a, as, pc + 3, ls, st, h))) else none
    | _ => none
  | .ireturn => match st with
    | [.inl x] => if zrt m = 1 ∨ (zrt m = 2 ∧ (x = 0 ∨ x = 1)) then some (.inr (.inl (some (vI x), h))) else none
    | _ => none
  | .areturn => match st with
    | [.inr (.inr r)] => if zrt m = 3 then some (.inr (.inl (some (vR r), h))) else none
    | _ => none
  | .return_ => match st with
    | [] => if zrt m = 0 then some (.inr (.inl (none, h))) else none
    | _ => none
  | _ => none
def zst1 (m : Nat) (i : Instr) (a b : Nat) (n : Int) (pc : Nat) (ls : zLs) (st : List zV) (h : zH) : Option zA :=
  match zp1 i a n pc ls st with
  | some q => some (.inl (q.1, q.2.1, q.2.2, h))
  | none => match zh1 i a b pc ls st h with
    | some q => some (.inl q)
    | none => zc1 m i a b pc ls st h
def zstp (m pc : Nat) (ls : zLs) (st : List zV) (h : zH) : Option zA := match zcod m pc with
  | none => none
  | some (i, _, a, b, _, n) => zst1 m i a b n pc ls st h
def zex : Nat → Nat → Nat → zLs → List zV → zH → Option (Option zV × zH)
  | 0, _, _, _, _, _ => none
  | n + 1, m, pc, ls, st, h => match zstp m pc ls st h with
    | none => none
    | some (.inl q) => zex n m q.1 q.2.1 q.2.2.1 q.2.2.2
    | some (.inr (.inl r)) => some r
    | some (.inr (.inr (k, as, q))) => match zex n k 0 (zent k as) [] q.2.2.2 with
      | none => none
      | some r => zex n m q.1 q.2.1 (r.1.toList ++ q.2.2.1) r.2
theorem zex_mono : ∀ (n m pc : Nat) (ls : zLs) (st : List zV) (h : zH) (r : Option zV × zH), zex n m pc ls st h = some r → zex (n + 1) m pc ls st h = some r
  | 0, _, _, _, _, _, _, hr => by simp [zex] at hr
  | n + 1, m, pc, ls, st, h, r, hr => by
    unfold zex at hr ⊢
    cases hs : zstp m pc ls st h with
    | none => rw [hs] at hr; simp at hr
    | some q =>
      rw [hs] at hr
      match q with
      | .inl q => exact zex_mono n _ _ _ _ _ _ hr
      | .inr (.inl q) => exact hr
      | .inr (.inr (k, as, q)) =>
        simp only at hr ⊢
        cases hc : zex n k 0 (zent k as) [] q.2.2.2 with
        | none => rw [hc] at hr; simp at hr
        | some r1 =>
          rw [hc] at hr
          rw [zex_mono n _ _ _ _ _ _ hc]
          exact zex_mono n _ _ _ _ _ _ hr
theorem zex_le {n k m pc : Nat} {ls : zLs} {st : List zV} {h : zH} {r : Option zV × zH} (hn : n ≤ k) (hr : zex n m pc ls st h = some r) : zex k m pc ls st h = some r := by
  induction hn with
  | refl => exact hr
  | step _ ih => exact zex_mono _ _ _ _ _ _ _ ih
/-- what a run comes to, whatever its length -/
noncomputable def zev (m pc : Nat) (ls : zLs) (st : List zV) (h : zH) : Option (Option zV × zH) :=
  @dite _ (∃ n r, zex n m pc ls st h = some r) (Classical.propDecidable _) (fun H => zex H.choose m pc ls st h) (fun _ => none)
theorem zev_of {n m pc : Nat} {ls : zLs} {st : List zV} {h : zH} {r : Option zV × zH} (hr : zex n m pc ls st h = some r) : zev m pc ls st h = some r := by
  have H : ∃ n r, zex n m pc ls st h = some r := ⟨n, r, hr⟩
  unfold zev
  rw [dif_pos H]
  obtain ⟨r2, h2⟩ := H.choose_spec
  rw [h2]
  rcases Nat.le_total n H.choose with q | q
  · rw [zex_le q hr] at h2
    exact h2.symm
  · have := zex_le q h2
    rw [hr] at this
    exact this.symm
theorem zev_ex {m pc : Nat} {ls : zLs} {st : List zV} {h : zH} {r : Option zV × zH} (hr : zev m pc ls st h = some r) : ∃ n, zex n m pc ls st h = some r := by
  by_cases H : ∃ n r, zex n m pc ls st h = some r
  · unfold zev at hr
    rw [dif_pos H] at hr
    exact ⟨_, hr⟩
  · unfold zev at hr
    rw [dif_neg H] at hr
    cases hr
theorem zev_go {m pc : Nat} {ls : zLs} {st : List zV} {h : zH} {q : zQ} (hs : zstp m pc ls st h = some (.inl q)) : zev m pc ls st h = zev m q.1 q.2.1 q.2.2.1 q.2.2.2 := by
  apply Option.ext
  intro r
  constructor
  · intro hr
    obtain ⟨n, hn⟩ := zev_ex hr
    cases n with
    | zero => simp [zex] at hn
    | succ n =>
      unfold zex at hn
      rw [hs] at hn
      exact zev_of hn
  · intro hr
    obtain ⟨n, hn⟩ := zev_ex hr
    refine zev_of (n := n + 1) ?_
    unfold zex
    rw [hs]
    exact hn
theorem zev_rt {m pc : Nat} {ls : zLs} {st : List zV} {h : zH} {r : Option zV × zH} (hs : zstp m pc ls st h = some (.inr (.inl r))) : zev m pc ls st h = some r := by
  refine zev_of (n := 1) ?_
  unfold zex
  rw [hs]
theorem zev_no {m pc : Nat} {ls : zLs} {st : List zV} {h : zH} (hs : zstp m pc ls st h = none) : zev m pc ls st h = none := by
  apply Option.ext
  intro r
  constructor
  · intro hr
    obtain ⟨n, hn⟩ := zev_ex hr
    cases n with
    | zero => simp [zex] at hn
    | succ n =>
      unfold zex at hn
      rw [hs] at hn
      exact hn
  · intro hr
    cases hr
/-- a call of method k -/
noncomputable def zcall (k : Nat) (as : List zV) (h : zH) : Option (Option zV × zH) := zev k 0 (zent k as) [] h
theorem zev_cl {m pc : Nat} {ls : zLs} {st : List zV} {h : zH} {k : Nat} {as : List zV} {q : zQ} (hs : zstp m pc ls st h = some (.inr (.inr (k, as, q)))) : zev m pc ls st h = (zcall k as q.2.2.2).bind fun r => zev m q.1 q.2.1 (r.1.toList ++ q.2.2.1) r.2 := by
  apply Option.ext
  intro r
  constructor
  · intro hr
    obtain ⟨n, hn⟩ := zev_ex hr
    cases n with
    | zero => simp [zex] at hn
    | succ n =>
      unfold zex at hn
      rw [hs] at hn
      simp only at hn
      cases hc : zex n k 0 (zent k as) [] q.2.2.2 with
      | none => rw [hc] at hn; simp at hn
      | some r1 =>
        rw [hc] at hn
        have e1 : zcall k as q.2.2.2 = some r1 := zev_of hc
        rw [e1]
        exact zev_of hn
  · intro hr
    cases hc : zcall k as q.2.2.2 with
    | none => rw [hc] at hr; cases hr
    | some r1 =>
      rw [hc] at hr
      obtain ⟨n1, h1⟩ := zev_ex hc
      obtain ⟨n2, h2⟩ := zev_ex (show zev m q.1 q.2.1 (r1.1.toList ++ q.2.2.1) r1.2 = some r from hr)
      refine zev_of (n := max n1 n2 + 1) ?_
      unfold zex
      rw [hs]
      simp only
      rw [zex_le (Nat.le_max_left n1 n2) h1]
      exact zex_le (Nat.le_max_right n1 n2) h2
end
section
/-! How the small machine's state stands for the real one. -/
/-- where the law's own cells begin, the statics' addresses, the classes' numbers and slots, the array classes, the class object's address, the statics' kinds and contents -/
abbrev zg : Type := Nat × (Nat → Nat) × va_G × (Nat → ClassId) × Nat × (Nat → Nat × Nat) × (Nat → Nat → Int32)
def zad (G : zg) (a : Nat) : Nat := if a < 8 then G.2.1 a else G.1 + (a - 8)
def zxr (G : zg) (r : Option Nat) : Value := va_rf (r.map (zad G))
def zxv (G : zg) (v : zV) : Value := match v with
  | .inl x => .int x
  | .inr (.inl x) => .long x
  | .inr (.inr r) => zxr G r
def zAf (G : zg) : Nat → Prop := fun q => G.1 ≤ q
def zat (t : Nat) : FieldType := match t with
  | 100 => .int
  | 101 => .byte
  | 102 => .boolean
  | _ => .object "java/lang/Object"
def zfv (G : zg) (h : zH) (a t : Nat) : Nat → Value := fun k => if zft t k = 2 then zxr G (zr h a k) else .int (zi h a k)
/-- a cell of the heap, as the small heap has it -/
def zce (G : zg) (h : zH) (H : Heap) (a : Nat) : Prop :=
  ((zk h a).1 < 10 ∧ (zk h a).2 = (zcl (zk h a).1).2.2 ∧ t_OB (zad G a) (G.2.2.1.1 (zk h a).1) (zk h a).2 (G.2.2.1.2 (zk h a).1) H (zfv G h a (zk h a).1))
  ∨ (((zk h a).1 = 100 ∨ (zk h a).1 = 101 ∨ (zk h a).1 = 102) ∧ H[zad G a]? = some (arrV (G.2.2.2.1 (zk h a).1) (zk h a).2 (fun j => .int (zi h a j))))
  ∨ ((zk h a).1 = 103 ∧ H[zad G a]? = some (arrV (G.2.2.2.1 103) (zk h a).2 (fun j => zxr G (zr h a j))))
def zWd (G : zg) (h : zH) (H : Heap) : Prop := 8 ≤ zn h ∧ H.size = G.1 + (zn h - 8) ∧ (∀ a, 8 ≤ a → a < zn h → zce G h H a) ∧ ∀ a, a < 8 → zk h a = G.2.2.2.2.2.1 a ∧ ∀ j, zi h a j = G.2.2.2.2.2.2 a j
def zisN (w : Cond) : Bool := match w with
  | .methodLinkNest _ _ _ _ => true
  | _ => false
def zTb (G : zg) (s : State) : Prop := (∀ t, t < 10 → u_Kn s (zcl t).1 (zcl t).2.1 (zcl t).2.2 (G.2.2.1.1 t) (G.2.2.1.2 t)) ∧ (∀ t, 100 ≤ t → t ≤ 103 → ArrOfT s (G.2.2.2.1 t) (zat t) ∧ va_RA s (G.2.2.2.1 t) (zat t)) ∧ va_AO "java/lang/Object" s ∧ va_Mi "[Ljava/lang/Object;" G.2.2.2.2.1 s ∧ va_Dc s ∧ (∀ w ∈ lw_tbl, zisN w = true → va_Nw w s) ∧ va_Nw (.castable (zcl 1).1 "java/lang/Object") s ∧ va_Nw (.castable (zcl 2).1 "java/lang/Object") s
def zSt (G : zg) (s : State) (H : Heap) : Prop := (∀ a, 1 ≤ a → a < 8 → va_Z (zsta a).1 (zsta a).2.1 (zsta a).2.2 (.ref (G.2.1 a)) (zAf G) s H) ∧ (∀ a, a < 7 → (G.2.2.2.2.2.1 a).1 = 100 ∧ va_T .int (G.2.1 a) (G.2.2.2.2.2.1 a).2 (fun j => .int (G.2.2.2.2.2.2 a j)) (zAf G) s H) ∧ (G.2.2.2.2.2.1 7 = (103, 0) ∧ va_T (.object "java/lang/Object") (G.2.1 7) 0 (fun _ => .null) (zAf G) s H) ∧ G.2.1 7 < G.1
theorem zTb.moved {G : zg} {s U : State} (hW : s.WarmedH U.vm) (h : zTb G s) : zTb G U := by
  obtain ⟨h1, h2, h3, h4, h5, h6, h7, h8⟩ := h
  have hA := hW.alike
  refine ⟨fun t ht => u_Kn_moved hA (h1 t ht), fun t ha hb => ⟨arrOfT_moved hA (h2 t ha hb).1, (h2 t ha hb).2.moved hA⟩, h3.moved hA, h4.moved hA, h5.moved hA, fun w hw hn => ?_, h7.warmC hW, h8.warmC hW⟩
  have := h6 w hw hn
  cases w <;> simp [zisN] at hn
  exact this.warmM hW
theorem zSt.moved {G : zg} {s U : State} {H H1 : Heap} (hA : s.vm.Alike U.vm) (hq : ∀ a : Nat, a < H.size → ¬ zAf G a → H1[a]? = H[a]?) (h : zSt G s H) : zSt G U H1 := by
  obtain ⟨h1, h2, ⟨h3, h4⟩, h5⟩ := h
  exact ⟨fun a ha hb => ((h1 a ha hb).moved hA).kept hq, fun a ha => ⟨(h2 a ha).1, ((h2 a ha).2.moved hA).kept hq⟩, ⟨h3, (h4.moved hA).kept hq⟩, h5⟩
/-- the locals -/
def zxl (G : zg) (ls : Array Slot) (nL : Nat) (al : zLs) : Prop := ls.size = nL ∧ lv_wf ls ∧ al.length = nL ∧ ∀ (i : Nat) (v : zV), al[i]? = some (some v) → ls[i]? = some (Slot.val (zxv G v))
def zasA (G : zg) : Nat → zLs → List (Nat × Value)
  | _, [] => []
  | i, none :: r => zasA G (i + 1) r
  | i, some v :: r => (i, zxv G v) :: zasA G (i + 1) r
theorem zasA_mem (G : zg) : ∀ (al : zLs) (i : Nat) (q : Nat × Value), q ∈ zasA G i al ↔ ∃ (j : Nat) (v : zV), al[j]? = some (some v) ∧ q = (i + j, zxv G v)
  | [], i, q => by simp [zasA]
  | none :: r, i, q => by
    rw [zasA, zasA_mem G r (i + 1) q]
    constructor
    · rintro ⟨j, v, h1, h2⟩
      exact ⟨j + 1, v, by simpa using h1, by rw [h2, show i + 1 + j = i + (j + 1) by omega]⟩
    · rintro ⟨j, v, h1, h2⟩
      cases j with
      | zero => simp at h1
      | succ j => exact ⟨j, v, by simpa using h1, by rw [h2, show i + 1 + j = i + (j + 1) by omega]⟩
  | some w :: r, i, q => by
    rw [zasA, List.mem_cons, zasA_mem G r (i + 1) q]
    constructor
    · rintro (h | ⟨j, v, h1, h2⟩)
      · exact ⟨0, w, by simp, by rw [h]; simp⟩
      · exact ⟨j + 1, v, by simpa using h1, by rw [h2, show i + 1 + j = i + (j + 1) by omega]⟩
    · rintro ⟨j, v, h1, h2⟩
      cases j with
      | zero => simp at h1; subst h1; exact Or.inl (by rw [h2]; simp)
      | succ j => exact Or.inr ⟨j, v, by simpa using h1, by rw [h2, show i + 1 + j = i + (j + 1) by omega]⟩
theorem zxl.has {G : zg} {ls : Array Slot} {nL : Nat} {al : zLs} (h : zxl G ls nL al) : lv_has ls nL (zasA G 0 al) := by
  refine ⟨h.1, h.2.1, fun q hq => ?_⟩
  obtain ⟨j, v, h1, rfl⟩ := (zasA_mem G al 0 q).mp hq
  simpa using h.2.2.2 j v h1
theorem zct_cat (G : zg) (v : zV) : (zxv G v).category = zct v := by
  rcases v with x | x | r
  · rfl
  · rfl
  · cases r <;> rfl
theorem zsm_cat {G : zg} {v : zV} (h : zsm v = true) : (zxv G v).category = 1 := by
  rw [zct_cat]
  rcases v with x | x | r
  · rfl
  · simp [zsm] at h
  · rfl
theorem zcs_cat (G : zg) (st : List zV) : ((st.map (zxv G)).map fun v => v.category).sum = zcs st := by
  unfold zcs
  rw [List.map_map]
  congr 1
  exact List.map_congr_left fun v _ => zct_cat G v
theorem zsto_ok {al al' : zLs} {i : Nat} {v : zV} (h : zsto al i v = some al') : i < al.length ∧ al' = al.set i (some v) ∧ ∀ (j : Nat) (x : Int64), j + 1 = i → al[j]? ≠ some (some (vL x)) := by
  unfold zsto at h
  split at h
  · rename_i hi
    split at h
    · simp only [Option.some.injEq] at h
      exact ⟨hi, h.symm, fun j x hj => by omega⟩
    · rename_i j
      split at h
      · cases h
      · rename_i hne
        simp only [Option.some.injEq] at h
        refine ⟨hi, h.symm, fun k x hk => ?_⟩
        have : k = j := by omega
        subst this
        intro hc
        exact hne x hc
  · cases h
theorem zstl2_ok {al al' : zLs} {i : Nat} {v : zV} (h : zstl2 al i v = some al') : i + 1 < al.length ∧ al' = (al.set i (some v)).set (i + 1) none ∧ ∀ (j : Nat) (x : Int64), j + 1 = i → al[j]? ≠ some (some (vL x)) := by
  unfold zstl2 at h
  split at h
  · rename_i hi
    split at h
    · simp only [Option.some.injEq] at h
      exact ⟨hi, h.symm, fun j x hj => by omega⟩
    · rename_i j
      split at h
      · cases h
      · rename_i hne
        simp only [Option.some.injEq] at h
        refine ⟨hi, h.symm, fun k x hk => ?_⟩
        have : k = j := by omega
        subst this
        intro hc
        exact hne x hc
  · cases h
theorem zcat2 {G : zg} {v : zV} (h : (zxv G v).category = 2) : ∃ x, v = vL x := by
  rw [zct_cat] at h
  rcases v with x | x | r
  · simp [zct] at h
  · exact ⟨x, rfl⟩
  · simp [zct] at h
theorem zxl.set1 {G : zg} {ls ls' : Array Slot} {nL i : Nat} {al al' : zLs} {v : zV} (h : zxl G ls nL al) (hs : zsto al i v = some al') (h' : lv_has ls' nL ((i, zxv G v) :: (zasA G 0 al).filter (fun q => !(q.1 == i) && !(q.1 + 1 == i && q.2.category == 2)))) : zxl G ls' nL al' := by
  obtain ⟨h1, rfl, h3⟩ := zsto_ok hs
  refine ⟨h'.1, h'.2.1, by rw [List.length_set]; exact h.2.2.1, fun j w hj => ?_⟩
  by_cases hji : j = i
  · subst hji
    rw [List.getElem?_set_self h1] at hj
    cases hj
    exact h'.2.2 _ List.mem_cons_self
  · rw [List.getElem?_set_ne (Ne.symm hji)] at hj
    refine h'.2.2 (j, zxv G w) (List.mem_cons_of_mem _ (List.mem_filter.mpr ⟨(zasA_mem G al 0 _).mpr ⟨j, w, hj, by simp⟩, ?_⟩))
    simp only [Bool.and_eq_true, Bool.not_eq_true', beq_eq_false_iff_ne, ne_eq, Bool.and_eq_false_iff]
    refine ⟨hji, ?_⟩
    by_cases hj1 : j + 1 = i
    · right
      intro hc
      obtain ⟨x, rfl⟩ := zcat2 hc
      exact h3 j x hj1 hj
    · exact Or.inl hj1
theorem zxl.set2 {G : zg} {ls ls' : Array Slot} {nL i : Nat} {al al' : zLs} {v : zV} (h : zxl G ls nL al) (hs : zstl2 al i v = some al') (h' : lv_has ls' nL ((i, zxv G v) :: (zasA G 0 al).filter (fun q => !(q.1 == i) && (!(q.1 == i + 1) && !(q.1 + 1 == i && q.2.category == 2))))) : zxl G ls' nL al' := by
  obtain ⟨h1, rfl, h3⟩ := zstl2_ok hs
  refine ⟨h'.1, h'.2.1, by rw [List.length_set, List.length_set]; exact h.2.2.1, fun j w hj => ?_⟩
  by_cases hj2 : j = i + 1
  · subst hj2
    rw [List.getElem?_set_self (by rw [List.length_set]; exact h1)] at hj
    cases hj
  · rw [List.getElem?_set_ne (Ne.symm hj2)] at hj
    by_cases hji : j = i
    · subst hji
      rw [List.getElem?_set_self (by omega)] at hj
      cases hj
      exact h'.2.2 _ List.mem_cons_self
    · rw [List.getElem?_set_ne (Ne.symm hji)] at hj
      refine h'.2.2 (j, zxv G w) (List.mem_cons_of_mem _ (List.mem_filter.mpr ⟨(zasA_mem G al 0 _).mpr ⟨j, w, hj, by simp⟩, ?_⟩))
      simp only [Bool.and_eq_true, Bool.not_eq_true', beq_eq_false_iff_ne, ne_eq, Bool.and_eq_false_iff]
      refine ⟨hji, hj2, ?_⟩
      by_cases hj1 : j + 1 = i
      · right
        intro hc
        obtain ⟨x, rfl⟩ := zcat2 hc
        exact h3 j x hj1 hj
      · exact Or.inl hj1
/-- entry -/
theorem zexp_sl (G : zg) : ∀ as : List zV, (lg_sl (as.map (zxv G))).length = (zexp as).length
  | [] => rfl
  | .inl x :: as => by simpa [lg_sl, zexp, zxv, Value.category] using zexp_sl G as
  | .inr (.inl x) :: as => by simpa [lg_sl, zexp, zxv, Value.category] using zexp_sl G as
  | .inr (.inr r) :: as => by cases r <;> simpa [lg_sl, zexp, zxv, zxr, va_rf, Value.category] using zexp_sl G as
theorem zexp_args (G : zg) : ∀ (as : List zV) (i j : Nat) (v : zV), (zexp as)[j]? = some (some v) → (i + j, zxv G v) ∈ lv_args i (as.map (zxv G))
  | [], i, j, v, h => by simp [zexp] at h
  | .inl x :: as, i, 0, v, h => by simp [zexp] at h; subst h; simp [lv_args, zxv]
  | .inl x :: as, i, j + 1, v, h => by
    have := zexp_args G as (i + 1) j v (by simpa [zexp] using h)
    rw [show i + 1 + j = i + (j + 1) by omega] at this
    simp only [List.map_cons, lv_args]
    exact List.mem_cons_of_mem _ (by simpa [zxv, Value.category] using this)
  | .inr (.inl x) :: as, i, 0, v, h => by simp [zexp] at h; subst h; simp [lv_args, zxv]
  | .inr (.inl x) :: as, i, 1, v, h => by simp [zexp] at h
  | .inr (.inl x) :: as, i, j + 2, v, h => by
    have := zexp_args G as (i + 2) j v (by simpa [zexp] using h)
    rw [show i + 2 + j = i + (j + 2) by omega] at this
    simp only [List.map_cons, lv_args]
    exact List.mem_cons_of_mem _ (by simpa [zxv, Value.category] using this)
  | .inr (.inr r) :: as, i, 0, v, h => by simp [zexp] at h; subst h; simp [lv_args, zxv]
  | .inr (.inr r) :: as, i, j + 1, v, h => by
    have := zexp_args G as (i + 1) j v (by simpa [zexp] using h)
    rw [show i + 1 + j = i + (j + 1) by omega] at this
    simp only [List.map_cons, lv_args]
    refine List.mem_cons_of_mem _ ?_
    cases r <;> simpa [zxv, zxr, va_rf, Value.category] using this
theorem zent_xl {G : zg} {m : Nat} {as : List zV} (h : (zexp as).length ≤ zL m) : zxl G ((lg_sl (as.map (zxv G)) ++ List.replicate (zL m - (lg_sl (as.map (zxv G))).length) Slot.unset).toArray) (zL m) (zent m as) := by
  have hh := lv_entry (as.map (zxv G)) (n := zL m) (by rw [zexp_sl]; exact h)
  refine ⟨hh.1, hh.2.1, by simp [zent]; omega, fun i v hi => ?_⟩
  unfold zent at hi
  by_cases hl : i < (zexp as).length
  · rw [List.getElem?_append_left hl] at hi
    have := hh.2.2 _ (zexp_args G as 0 i v hi)
    simpa using this
  · rw [List.getElem?_append_right (by omega)] at hi
    have := List.eq_of_mem_replicate (List.mem_of_getElem? hi)
    cases this
end
section
section ZS
variable {p : Program} {l : Launch} {e : Env} {R : Room} {s : State} {m : MethodId} {args : Array Value} {below : List Frame} {meth : Method} {c : Code} {H : Heap} {locs : List Loc} {cells slots : Nat} {Q : State → Prop}
variable {G : zg} {k : Nat}
/-- what a walk through method k leans on -/
def zCx (G : zg) (k : Nat) (p : Program) (R : Room) (s : State) (m : MethodId) (args : Array Value) (meth : Method) (c : Code) : Prop :=
  p.tables.exec = Jvm.exec ∧ c.code = zB k ∧ c.maxLocals = zL k ∧ s.vm.findClass (zY k).cls = some m.cls ∧ (∀ w ∈ zG, w.before args s = true) ∧ zFr k ≤ R.frames ∧ zLo k ≤ R.locals ∧ zTb G s ∧ zSt G s s.heap ∧ meth.name = (zY k).name
theorem zad_eq {x y : Option Nat} (h7 : G.2.1 7 < G.1) (hx : (x.all fun a => decide (7 ≤ a)) = true) (hy : (y.all fun a => decide (7 ≤ a)) = true) : x.map (zad G) = y.map (zad G) ↔ x = y := by
  cases x with
  | none => cases y <;> simp
  | some a => cases y with
    | none => simp
    | some b =>
      simp only [Option.all_some, decide_eq_true_eq] at hx hy
      simp only [Option.map_some, Option.some.injEq, zad]
      constructor
      · intro h
        by_cases ha : a < 8 <;> by_cases hb : b < 8
        · omega
        · rw [if_pos ha, if_neg hb] at h
          have : a = 7 := by omega
          subst this
          omega
        · rw [if_neg ha, if_pos hb] at h
          have : b = 7 := by omega
          subst this
          omega
        · rw [if_neg ha, if_neg hb] at h
          omega
      · intro h; rw [h]
theorem zlks (d x : Int) : ∀ L : List (Int × Int), Op.lookupswitch.offset L d x = d ∨ ∃ q ∈ L, Op.lookupswitch.offset L d x = q.2
  | [] => Or.inl rfl
  | (a, o) :: r => by
    rw [Op.lookupswitch.offset_cons]
    split
    · exact Or.inr ⟨(a, o), List.mem_cons_self, rfl⟩
    · rcases zlks d x r with h | ⟨q, h1, h2⟩
      · exact Or.inl h
      · exact Or.inr ⟨q, List.mem_cons_of_mem _ h1, h2⟩
set_option maxHeartbeats 4000000 in
theorem zp1_sound (C : zCx G k p R s m args meth c) (hS : va_S (zAf G) s.heap H locs) {pc : Nat} {i : Instr} {len a b pos : Nat} {n : Int} (hc : zcod k pc = some (i, len, a, b, pos, n)) {al al' : zLs} {st st' : List zV} {pc' : Nat} (hp : zp1 i a n pc al st = some (pc', al', st')) {ls : Array Slot} (hl : zxl G ls (zL k) al) (kk : ∀ ls' : Array Slot, zxl G ls' (zL k) al' → W p l e R s m args below meth c H locs cells slots Q (F0 m pc' ls' (st'.map (zxv G)))) : W p l e R s m args below meth c H locs cells slots Q (F0 m pc ls (st.map (zxv G))) := by
  obtain ⟨hx, hb, hml, hown, hts, -, -, -, hst, -⟩ := id C
  have hck := zcod_chk hc
  cases i with
  | aconst_null => cases hp; exact lv_null hx hb (zcod_dec hc (by simp [zlen])) (kk ls hl)
  | iconst j => cases hp; exact lv_iconst hx hb (zcod_dec hc (by simp [zlen])) rfl (kk ls hl)
  | lconst j => cases hp; exact lv_lconst hx hb (zcod_dec hc (by simp [zlen])) rfl (kk ls hl)
  | bipush j => cases hp; exact lv_bipush hx hb (zcod_dec hc (by simp [zlen])) rfl (kk ls hl)
  | sipush j => cases hp; exact lv_sipush hx hb (zcod_dec hc (by simp [zlen])) rfl (kk ls hl)
  | ldc j =>
    simp only [zchk, Bool.and_eq_true, decide_eq_true_eq] at hck
    cases hp; exact lv_ldc hx hb hown (hts _ (zG_in hck.2 rfl)) (zcod_dec hc (by simp [zlen])) (kk ls hl)
  | ldc2_w j =>
    simp only [zchk, Bool.and_eq_true, decide_eq_true_eq] at hck
    cases hp; exact lv_ldc2 hx hb hown (hts _ (zG_in hck.2 rfl)) (zcod_dec hc (by simp [zlen])) (kk ls hl)
  | iload j =>
    simp only [zp1] at hp
    split at hp
    · rename_i x he
      cases hp; exact lv_iload hx hb (zcod_dec hc (by simp [zlen])) (hl.2.2.2 _ _ he) (kk ls hl)
    · cases hp
  | iload_n j =>
    simp only [zp1] at hp
    split at hp
    · rename_i x he
      cases hp; exact lv_iload_n hx hb (zcod_dec hc (by simp [zlen])) rfl (hl.2.2.2 _ _ he) (kk ls hl)
    · cases hp
  | lload j =>
    simp only [zp1] at hp
    split at hp
    · rename_i x he
      cases hp; exact lv_lload hx hb (zcod_dec hc (by simp [zlen])) (hl.2.2.2 _ _ he) (kk ls hl)
    · cases hp
  | lload_n j =>
    simp only [zp1] at hp
    split at hp
    · rename_i x he
      cases hp; exact lv_lload_n hx hb (zcod_dec hc (by simp [zlen])) rfl (hl.2.2.2 _ _ he) (kk ls hl)
    · cases hp
  | aload j =>
    simp only [zp1] at hp
    split at hp
    · rename_i x he
      cases hp
      cases x with
      | none => exact lv_aloadN hx hb (zcod_dec hc (by simp [zlen])) (hl.2.2.2 _ _ he) (kk ls hl)
      | some x => exact lv_aload hx hb (zcod_dec hc (by simp [zlen])) (hl.2.2.2 _ _ he) (kk ls hl)
    · cases hp
  | istore j =>
    simp only [zp1] at hp
    split at hp
    · obtain ⟨al1, h1, h2⟩ := Option.map_eq_some_iff.mp hp
      cases h2
      exact lv_istore hx hb (zcod_dec hc (by simp [zlen])) hl.has (by have := (zsto_ok h1).1; rw [hl.2.2.1] at this; exact this) rfl (fun ls' h' => kk ls' (hl.set1 h1 h'))
    · cases hp
  | astore j =>
    simp only [zp1] at hp
    split at hp
    · rename_i x _
      obtain ⟨al1, h1, h2⟩ := Option.map_eq_some_iff.mp hp
      cases h2
      cases x with
      | none => exact lv_astoreN hx hb (zcod_dec hc (by simp [zlen])) hl.has (by have := (zsto_ok h1).1; rw [hl.2.2.1] at this; exact this) rfl (fun ls' h' => kk ls' (hl.set1 h1 h'))
      | some x => exact lv_astore hx hb (zcod_dec hc (by simp [zlen])) hl.has (by have := (zsto_ok h1).1; rw [hl.2.2.1] at this; exact this) rfl (fun ls' h' => kk ls' (hl.set1 h1 h'))
    · cases hp
  | lstore j =>
    simp only [zp1] at hp
    split at hp
    · obtain ⟨al1, h1, h2⟩ := Option.map_eq_some_iff.mp hp
      cases h2
      exact lv_lstore hx hb (zcod_dec hc (by simp [zlen])) hl.has (by have := (zstl2_ok h1).1; rw [hl.2.2.1] at this; exact this) rfl (fun ls' h' => kk ls' (hl.set2 h1 h'))
    · cases hp
  | aload_n j =>
    simp only [zp1] at hp
    split at hp
    · rename_i x he
      cases hp
      cases x with
      | none => exact lv_aload_nN hx hb (zcod_dec hc (by simp [zlen])) rfl (hl.2.2.2 _ _ he) (kk ls hl)
      | some x => exact lv_aload_n hx hb (zcod_dec hc (by simp [zlen])) rfl (hl.2.2.2 _ _ he) (kk ls hl)
    · cases hp
  | istore_n j =>
    simp only [zp1] at hp
    split at hp
    · obtain ⟨al1, h1, h2⟩ := Option.map_eq_some_iff.mp hp
      cases h2
      exact lv_istore_n hx hb (zcod_dec hc (by simp [zlen])) rfl hl.has (by have := (zsto_ok h1).1; rw [hl.2.2.1] at this; exact this) rfl (fun ls' h' => kk ls' (hl.set1 h1 h'))
    · cases hp
  | astore_n j =>
    simp only [zp1] at hp
    split at hp
    · rename_i x _
      obtain ⟨al1, h1, h2⟩ := Option.map_eq_some_iff.mp hp
      cases h2
      cases x with
      | none => exact lv_astore_nN hx hb (zcod_dec hc (by simp [zlen])) rfl hl.has (by have := (zsto_ok h1).1; rw [hl.2.2.1] at this; exact this) rfl (fun ls' h' => kk ls' (hl.set1 h1 h'))
      | some x => exact lv_astore_n hx hb (zcod_dec hc (by simp [zlen])) rfl hl.has (by have := (zsto_ok h1).1; rw [hl.2.2.1] at this; exact this) rfl (fun ls' h' => kk ls' (hl.set1 h1 h'))
    · cases hp
  | lstore_n j =>
    simp only [zp1] at hp
    split at hp
    · obtain ⟨al1, h1, h2⟩ := Option.map_eq_some_iff.mp hp
      cases h2
      exact lv_lstore_n hx hb (zcod_dec hc (by simp [zlen])) rfl hl.has (by have := (zstl2_ok h1).1; rw [hl.2.2.1] at this; exact this) rfl (fun ls' h' => kk ls' (hl.set2 h1 h'))
    · cases hp
  | iinc j d =>
    simp only [zp1] at hp
    split at hp
    · rename_i x he
      obtain ⟨al1, h1, h2⟩ := Option.map_eq_some_iff.mp hp
      cases h2
      obtain ⟨q, hq⟩ := List.getElem?_of_mem ((zasA_mem G al 0 (j, Value.int x)).mpr ⟨j, _, he, by simp [zxv]⟩)
      exact lv_iinc hx hb (zcod_dec hc (by simp [zlen])) hl.has hq rfl (by have := (zsto_ok h1).1; rw [hl.2.2.1] at this; exact this) rfl (fun ls' h' => kk ls' (hl.set1 h1 h'))
    · cases hp
  | iadd =>
    simp only [zp1] at hp
    split at hp
    · cases hp; exact lv_iadd hx hb (zcod_dec hc (by simp [zlen])) (kk ls hl)
    · cases hp
  | isub =>
    simp only [zp1] at hp
    split at hp
    · cases hp; exact lv_isub hx hb (zcod_dec hc (by simp [zlen])) (kk ls hl)
    · cases hp
  | imul =>
    simp only [zp1] at hp
    split at hp
    · cases hp; exact lv_imul hx hb (zcod_dec hc (by simp [zlen])) (kk ls hl)
    · cases hp
  | iand =>
    simp only [zp1] at hp
    split at hp
    · cases hp; exact lv_iand hx hb (zcod_dec hc (by simp [zlen])) (kk ls hl)
    · cases hp
  | ishr =>
    simp only [zp1] at hp
    split at hp
    · cases hp; exact lv_ishr hx hb (zcod_dec hc (by simp [zlen])) (kk ls hl)
    · cases hp
  | land =>
    simp only [zp1] at hp
    split at hp
    · cases hp; exact lv_land hx hb (zcod_dec hc (by simp [zlen])) (kk ls hl)
    · cases hp
  | lor =>
    simp only [zp1] at hp
    split at hp
    · cases hp; exact lv_lor hx hb (zcod_dec hc (by simp [zlen])) (kk ls hl)
    · cases hp
  | ineg =>
    simp only [zp1] at hp
    split at hp
    · cases hp; exact lv_ineg hx hb (zcod_dec hc (by simp [zlen])) (kk ls hl)
    · cases hp
  | lcmp =>
    simp only [zp1] at hp
    split at hp
    · cases hp; exact W.lcmp hx hb (zcod_dec hc (by simp [zlen])) (kk ls hl)
    · cases hp
  | lshl =>
    simp only [zp1] at hp
    split at hp
    · cases hp; exact lv_lshl hx hb (zcod_dec hc (by simp [zlen])) rfl (kk ls hl)
    · cases hp
  | lshr =>
    simp only [zp1] at hp
    split at hp
    · cases hp; exact lv_lshr hx hb (zcod_dec hc (by simp [zlen])) rfl (kk ls hl)
    · cases hp
  | i2l =>
    simp only [zp1] at hp
    split at hp
    · cases hp; exact lv_i2l hx hb (zcod_dec hc (by simp [zlen])) rfl (kk ls hl)
    · cases hp
  | l2i =>
    simp only [zp1] at hp
    split at hp
    · cases hp; exact lv_l2i hx hb (zcod_dec hc (by simp [zlen])) rfl (kk ls hl)
    · cases hp
  | i2b =>
    simp only [zp1] at hp
    split at hp
    · cases hp; exact lv_i2b hx hb (zcod_dec hc (by simp [zlen])) rfl (kk ls hl)
    · cases hp
  | idiv =>
    simp only [zp1, zdv] at hp
    split at hp
    · split at hp
      · cases hp
      · rename_i hne
        cases hp; exact lv_idiv hx hb (zcod_dec hc (by simp [zlen])) hne (kk ls hl)
    · cases hp
  | irem =>
    simp only [zp1, zdv] at hp
    split at hp
    · split at hp
      · cases hp
      · rename_i hne
        cases hp; exact lv_irem hx hb (zcod_dec hc (by simp [zlen])) hne (kk ls hl)
    · cases hp
  | pop =>
    simp only [zp1] at hp
    split at hp
    · split at hp
      · rename_i hv
        cases hp; exact lv_pop hx hb (zcod_dec hc (by simp [zlen])) (zsm_cat hv) (kk ls hl)
      · cases hp
    · cases hp
  | dup =>
    simp only [zp1] at hp
    split at hp
    · split at hp
      · rename_i hv
        cases hp; exact lv_dup hx hb (zcod_dec hc (by simp [zlen])) (zsm_cat hv) (kk ls hl)
      · cases hp
    · cases hp
  | dup_x1 =>
    simp only [zp1] at hp
    split at hp
    · split at hp
      · rename_i hv
        rw [Bool.and_eq_true] at hv
        cases hp; exact lv_dup_x1 hx hb (zcod_dec hc (by simp [zlen])) (zsm_cat hv.1) (zsm_cat hv.2) (kk ls hl)
      · cases hp
    · cases hp
  | dup2 =>
    simp only [zp1] at hp
    split at hp
    · split at hp
      · rename_i hv
        rw [Bool.and_eq_true] at hv
        cases hp; exact lv_dup2_11 hx hb (zcod_dec hc (by simp [zlen])) (zsm_cat hv.1) (zsm_cat hv.2) (kk ls hl)
      · cases hp
    · cases hp
  | ifCond cnd off =>
    simp only [zchk, Bool.and_eq_true, decide_eq_true_eq] at hck
    simp only [zp1] at hp
    split at hp
    · cases cnd
      · simp only [zj1, zj2, decide_eq_true_eq] at hp
        exact lv_if_eq hx hb (zcod_dec hc (by simp [zlen])) hck.2 (fun h => by rw [if_pos h] at hp; cases hp; exact kk ls hl) (fun h => by rw [if_neg h] at hp; cases hp; exact kk ls hl)
      · simp only [zj1, zj2, decide_eq_true_eq] at hp
        exact lv_if_ne hx hb (zcod_dec hc (by simp [zlen])) hck.2 (fun h => by rw [if_pos h] at hp; cases hp; exact kk ls hl) (fun h => by rw [if_neg (fun q => q h)] at hp; cases hp; exact kk ls hl)
      · simp only [zj1, zj2, decide_eq_true_eq] at hp
        exact lv_if_lt hx hb (zcod_dec hc (by simp [zlen])) hck.2 (fun h => by rw [if_pos h] at hp; cases hp; exact kk ls hl) (fun h => by rw [if_neg h] at hp; cases hp; exact kk ls hl)
      · simp only [zj1, zj2, decide_eq_true_eq] at hp
        exact lv_if_ge hx hb (zcod_dec hc (by simp [zlen])) hck.2 (fun h => by rw [if_pos h] at hp; cases hp; exact kk ls hl) (fun h => by rw [if_neg h] at hp; cases hp; exact kk ls hl)
      · simp only [zj1, zj2, decide_eq_true_eq] at hp
        exact lv_if_gt hx hb (zcod_dec hc (by simp [zlen])) hck.2 (fun h => by rw [if_pos h] at hp; cases hp; exact kk ls hl) (fun h => by rw [if_neg h] at hp; cases hp; exact kk ls hl)
      · simp only [zj1, zj2, decide_eq_true_eq] at hp
        exact lv_if_le hx hb (zcod_dec hc (by simp [zlen])) hck.2 (fun h => by rw [if_pos h] at hp; cases hp; exact kk ls hl) (fun h => by rw [if_neg h] at hp; cases hp; exact kk ls hl)
    · cases hp
  | if_icmp cnd off =>
    simp only [zchk, Bool.and_eq_true, decide_eq_true_eq] at hck
    simp only [zp1] at hp
    split at hp
    · cases cnd
      · simp only [zj1, zj2, decide_eq_true_eq] at hp
        exact lv_icmp_eq hx hb (zcod_dec hc (by simp [zlen])) hck.2 (fun h => by rw [if_pos h] at hp; cases hp; exact kk ls hl) (fun h => by rw [if_neg h] at hp; cases hp; exact kk ls hl)
      · simp only [zj1, zj2, decide_eq_true_eq] at hp
        exact lv_icmp_ne hx hb (zcod_dec hc (by simp [zlen])) hck.2 (fun h => by rw [if_pos h] at hp; cases hp; exact kk ls hl) (fun h => by rw [if_neg (fun q => q h)] at hp; cases hp; exact kk ls hl)
      · simp only [zj1, zj2, decide_eq_true_eq] at hp
        exact lv_icmp_lt hx hb (zcod_dec hc (by simp [zlen])) hck.2 (fun h => by rw [if_pos h] at hp; cases hp; exact kk ls hl) (fun h => by rw [if_neg h] at hp; cases hp; exact kk ls hl)
      · simp only [zj1, zj2, decide_eq_true_eq] at hp
        exact lv_icmp_ge hx hb (zcod_dec hc (by simp [zlen])) hck.2 (fun h => by rw [if_pos h] at hp; cases hp; exact kk ls hl) (fun h => by rw [if_neg h] at hp; cases hp; exact kk ls hl)
      · simp only [zj1, zj2, decide_eq_true_eq] at hp
        exact lv_icmp_gt hx hb (zcod_dec hc (by simp [zlen])) hck.2 (fun h => by rw [if_pos h] at hp; cases hp; exact kk ls hl) (fun h => by rw [if_neg h] at hp; cases hp; exact kk ls hl)
      · simp only [zj1, zj2, decide_eq_true_eq] at hp
        exact lv_icmp_le hx hb (zcod_dec hc (by simp [zlen])) hck.2 (fun h => by rw [if_pos h] at hp; cases hp; exact kk ls hl) (fun h => by rw [if_neg h] at hp; cases hp; exact kk ls hl)
    · cases hp
  | if_acmp cnd off =>
    simp only [zchk, Bool.and_eq_true, decide_eq_true_eq] at hck
    cases cnd
    · simp only [zp1] at hp
      split at hp
      · simp only [zac] at hp
        split at hp
        · rename_i hall
          have hz := zad_eq (G := G) hst.2.2.2 hall.1 hall.2
          exact lv_acmp_eq hx hb (zcod_dec hc (by simp [zlen])) hck.2 (fun h => by rw [if_pos (hz.mp h)] at hp; cases hp; exact kk ls hl) (fun h => by rw [if_neg (fun q => h (hz.mpr q))] at hp; cases hp; exact kk ls hl)
        · cases hp
      · cases hp
    · simp only [zp1] at hp
      split at hp
      · simp only [zac] at hp
        split at hp
        · rename_i hall
          have hz := zad_eq (G := G) hst.2.2.2 hall.1 hall.2
          exact lv_acmp_ne hx hb (zcod_dec hc (by simp [zlen])) hck.2 (fun h => by rw [if_neg (fun q => h (hz.mpr q))] at hp; cases hp; exact kk ls hl) (fun h => by rw [if_pos (hz.mp h)] at hp; cases hp; exact kk ls hl)
        · cases hp
      · cases hp
  | ifnull off =>
    simp only [zchk, Bool.and_eq_true, decide_eq_true_eq] at hck
    simp only [zp1] at hp
    split at hp
    · cases hp; exact lv_ifnullN hx hb (zcod_dec hc (by simp [zlen])) hck.2 (kk ls hl)
    · cases hp; exact lv_ifnull hx hb (zcod_dec hc (by simp [zlen])) (kk ls hl)
    · cases hp
  | ifnonnull off =>
    simp only [zchk, Bool.and_eq_true, decide_eq_true_eq] at hck
    simp only [zp1] at hp
    split at hp
    · cases hp; exact lv_ifnonnullN hx hb (zcod_dec hc (by simp [zlen])) (kk ls hl)
    · cases hp; exact lv_ifnonnull hx hb (zcod_dec hc (by simp [zlen])) hck.2 (kk ls hl)
    · cases hp
  | goto off =>
    simp only [zchk, Bool.and_eq_true, decide_eq_true_eq] at hck
    cases hp; exact lv_goto hx hb (zcod_dec hc (by simp [zlen])) hck.2 (kk ls hl)
  | tableswitch d lo hi offs =>
    simp only [zchk, Bool.and_eq_true, decide_eq_true_eq] at hck
    simp only [zp1] at hp
    split at hp
    · split at hp
      · rename_i ho
        cases hp; exact lv_tableOut hx hb hck.1 ho (Int.toNat_of_nonneg hck.2.1).symm (kk ls hl)
      · rename_i ho
        obtain ⟨o, h1, h2⟩ := Option.map_eq_some_iff.mp hp
        cases h2
        obtain ⟨hlt, heq⟩ := Array.getElem?_eq_some_iff.mp h1
        have h3 := Array.all_eq_true.mp hck.2.2 _ hlt
        rw [heq, decide_eq_true_eq] at h3
        exact lv_tableIn hx hb hck.1 (fun q => ho (Or.inl q)) (fun q => ho (Or.inr q)) h1 (Int.toNat_of_nonneg h3).symm (kk ls hl)
    · cases hp
  | lookupswitch d ps =>
    simp only [zchk, Bool.and_eq_true, decide_eq_true_eq] at hck
    simp only [zp1] at hp
    split at hp
    · rename_i x _
      cases hp
      refine lv_lookup hx hb hck.1 hck.2.2 rfl (Int.toNat_of_nonneg ?_).symm (kk ls hl)
      rcases zlks d x.toInt ps.toList with h | ⟨q, h1, h2⟩
      · rw [h]; exact hck.2.1.1
      · rw [h2]
        obtain ⟨j, hj⟩ := List.getElem?_of_mem h1
        rw [Array.getElem?_toList] at hj
        obtain ⟨hlt, heq⟩ := Array.getElem?_eq_some_iff.mp hj
        have h3 := Array.all_eq_true.mp hck.2.1.2 _ hlt
        rw [heq, decide_eq_true_eq] at h3
        exact h3
    · cases hp
  | getstatic j =>
    simp only [zchk, Bool.and_eq_true, decide_eq_true_eq] at hck
    cases hp
    have ha : a < 8 := hck.2.1.2
    refine va_gets hx hb (hst.1 a hck.2.1.1 ha) hS hown (hts _ (zG_in hck.2.2 rfl)) (fun _ h => h) (zcod_dec hc (by simp [zlen])) ?_
    have := kk ls hl
    simpa [zxv, zxr, va_rf, zad, ha] using this
  | _ => simp [zp1] at hp
end ZS
end
section
/-! The rows that read and write the heap, over the small heap. -/
theorem zad_ge {G : zg} {a : Nat} (h : 8 ≤ a) : zad G a = G.1 + (a - 8) := by
  unfold zad
  rw [if_neg (by omega)]
theorem zad_ne {G : zg} {a b : Nat} (h : 8 ≤ a) (h2 : 8 ≤ b) (hn : b ≠ a) : zad G b ≠ zad G a := by
  rw [zad_ge h, zad_ge h2]
  omega
theorem zad_A {G : zg} {a : Nat} (h : 8 ≤ a) : zAf G (zad G a) := by
  unfold zAf
  rw [zad_ge h]
  omega
theorem zce.obj {G : zg} {h : zH} {H : Heap} {a t : Nat} (hz : zce G h H a) (ht : (zk h a).1 = t) (h10 : t < 10) : (zk h a).2 = (zcl t).2.2 ∧ t_OB (zad G a) (G.2.2.1.1 t) (zcl t).2.2 (G.2.2.1.2 t) H (zfv G h a t) := by
  subst ht
  rcases hz with ⟨h1, h2, h3⟩ | ⟨h1, -⟩ | ⟨h1, -⟩
  · exact ⟨h2, h2 ▸ h3⟩
  · omega
  · omega
theorem zce.ints {G : zg} {h : zH} {H : Heap} {a t : Nat} (hz : zce G h H a) (ht : (zk h a).1 = t) (h10 : t = 100 ∨ t = 101 ∨ t = 102) : H[zad G a]? = some (arrV (G.2.2.2.1 t) (zk h a).2 (fun j => .int (zi h a j))) := by
  subst ht
  rcases hz with ⟨h1, h2, h3⟩ | ⟨h1, h2⟩ | ⟨h1, -⟩
  · omega
  · exact h2
  · omega
theorem zce.refs {G : zg} {h : zH} {H : Heap} {a : Nat} (hz : zce G h H a) (ht : (zk h a).1 = 103) : H[zad G a]? = some (arrV (G.2.2.2.1 103) (zk h a).2 (fun j => zxr G (zr h a j))) := by
  rcases hz with ⟨h1, h2, h3⟩ | ⟨h1, h2⟩ | ⟨h1, h2⟩
  · omega
  · omega
  · exact h2
theorem zce.kept {G : zg} {h h' : zH} {H H' : Heap} {b : Nat} (hz : zce G h H b) (ek : zk h' b = zk h b) (ei : ∀ j, zi h' b j = zi h b j) (er : ∀ j, zr h' b j = zr h b j) (ho : H'[zad G b]? = H[zad G b]?) : zce G h' H' b := by
  have ef : ∀ t, zfv G h' b t = zfv G h b t := fun t => by funext j; unfold zfv; rw [ei, er]
  have e1 : (fun j => Value.int (zi h' b j)) = fun j => Value.int (zi h b j) := by funext j; rw [ei]
  have e2 : (fun j => zxr G (zr h' b j)) = fun j => zxr G (zr h b j) := by funext j; rw [er]
  unfold zce
  rw [ek, ef, e1, e2]
  rcases hz with ⟨h1, h2, h3⟩ | ⟨h1, h2⟩ | ⟨h1, h2⟩
  · exact Or.inl ⟨h1, h2, h3.kept ho⟩
  · exact Or.inr (Or.inl ⟨h1, ho.trans h2⟩)
  · exact Or.inr (Or.inr ⟨h1, ho.trans h2⟩)
theorem zWd.upd {G : zg} {h h' : zH} {H H' : Heap} {a : Nat} (hW : zWd G h H) (ha : 8 ≤ a) (e1 : zn h' = zn h) (ek : ∀ b, zk h' b = zk h b) (ei : ∀ b, b ≠ a → ∀ j, zi h' b j = zi h b j) (er : ∀ b, b ≠ a → ∀ j, zr h' b j = zr h b j) (hz : H'.size = H.size) (ho : ∀ q, q ≠ zad G a → H'[q]? = H[q]?) (hce : zce G h' H' a) : zWd G h' H' := by
  obtain ⟨w1, w2, w3, w4⟩ := hW
  refine ⟨by rw [e1]; exact w1, by rw [hz, e1]; exact w2, fun b hb hb2 => ?_, fun b hb => ⟨(ek b).trans (w4 b hb).1, fun j => (ei b (by omega) j).trans ((w4 b hb).2 j)⟩⟩
  by_cases hba : b = a
  · subst hba; exact hce
  · exact (w3 b hb (by rw [← e1]; exact hb2)).kept (ek b) (ei b hba) (er b hba) (ho _ (zad_ne ha hb hba))
theorem zWd.new {G : zg} {h : zH} {H H' : Heap} {t N : Nat} (hW : zWd G h H) (hz : H'.size = H.size + 1) (ho : ∀ q, q < H.size → H'[q]? = H[q]?) (hce : zce G (znw h t N) H' (zn h)) : zWd G (znw h t N) H' := by
  obtain ⟨w1, w2, w3, w4⟩ := hW
  have hne : ∀ b, b < zn h → ¬ b = h.1 := fun b hb => Nat.ne_of_lt hb
  refine ⟨Nat.le_succ_of_le w1, by rw [hz, w2]; show _ = G.1 + (zn h + 1 - 8); omega, fun b hb hb2 => ?_, fun b hb => ?_⟩
  · by_cases hbn : b = zn h
    · subst hbn; exact hce
    · have hlt : b < zn h := by
        have : b < zn h + 1 := hb2
        omega
      refine (w3 b hb hlt).kept ?_ (fun j => ?_) (fun j => ?_) (ho _ ?_)
      · exact if_neg (hne b hlt)
      · exact if_neg (hne b hlt)
      · exact if_neg (hne b hlt)
      · rw [zad_ge hb, w2]; omega
  · have hlt : b < zn h := by omega
    refine ⟨?_, fun j => ?_⟩
    · rw [← (w4 b hb).1]; exact if_neg (hne b hlt)
    · rw [← (w4 b hb).2 j]; exact if_neg (hne b hlt)
theorem zSnew {G : zg} {H0 H H' : Heap} {locs : List Loc} (hS : va_S (zAf G) H0 H locs) (hz : H'.size = H.size + 1) (ho : ∀ q, q < H.size → H'[q]? = H[q]?) : va_S (zAf G) H0 H' locs :=
  ⟨Nat.le_trans hS.1 (by omega), fun q h1 h2 => (ho q (Nat.lt_of_lt_of_le h1 hS.1)).trans (hS.2.1 q h1 h2), hS.2.2⟩
theorem zadn {G : zg} {h : zH} {H : Heap} (hW : zWd G h H) : zad G (zn h) = H.size := by
  rw [zad_ge hW.1, hW.2.1]
theorem zft_ref {t k : Nat} (h10 : t < 10) (hk : k < (zcl t).2.2) (h : zft t k = 2) (G : zg) (r : Option Nat) : narrow (ztf t k) (zxr G r) = zxr G r ∧ fits (ztf t k) (zxr G r) = true := by
  have key : ∀ t, t < 10 → ∀ k, k < (zcl t).2.2 → zft t k = 2 → (∃ n, ztf t k = .object n) ∨ ∃ n, ztf t k = .array n := by
    have : ∀ t, t < 10 → (List.range (zcl t).2.2).all (fun k => match ztf t k with | .int => true | .boolean => true | .object _ => true | .array _ => true | _ => false) = true := zlt10 (by decide +kernel) (by decide +kernel) (by decide +kernel) (by decide +kernel) (by decide +kernel) (by decide +kernel) (by decide +kernel) (by decide +kernel) (by decide +kernel) (by decide +kernel)
    intro t ht k hk h2
    have h3 := List.all_eq_true.mp (this t ht) k (List.mem_range.mpr hk)
    unfold zft at h2
    cases hf : ztf t k <;> rw [hf] at h3 h2 <;> simp at h3 h2 ⊢
  rcases key t h10 k hk h with ⟨n, e⟩ | ⟨n, e⟩ <;> rw [e] <;> cases r <;> exact ⟨rfl, rfl⟩
theorem zft_int {t k : Nat} (h : zft t k = 0) : ztf t k = .int := by
  unfold zft at h
  cases hf : ztf t k <;> rw [hf] at h <;> simp at h ⊢
theorem zft_bool {t k : Nat} (h : zft t k = 1) : ztf t k = .boolean := by
  unfold zft at h
  cases hf : ztf t k <;> rw [hf] at h <;> simp at h ⊢
section ZS2
variable {p : Program} {l : Launch} {e : Env} {R : Room} {s : State} {m : MethodId} {args : Array Value} {below : List Frame} {meth : Method} {c : Code} {H : Heap} {locs : List Loc} {cells slots : Nat} {Q : State → Prop}
variable {G : zg} {k : Nat} {h : zH} {ls : Array Slot} {pc : Nat} {rest : List Value}
theorem zlink (hts : ∀ w ∈ zG, w.before args s = true) {idx t f pos : Nat} {n : Int} (hf : zfok k idx t f pos n = true) : t < 10 ∧ f < (zcl t).2.2 ∧ ∃ ref, (Cond.fieldLink (zY k).cls idx ref ((zcl t).2.1 f).2.1 ((zcl t).2.1 f).2.2.1).before args s = true ∧ ∀ x, s.fieldFound? ((zcl t).2.1 f).1 ((zcl t).2.1 f).2.1 ((zcl t).2.1 f).2.2.1 = some x → s.fieldFound? ref ((zcl t).2.1 f).2.1 ((zcl t).2.1 f).2.2.1 = some x := by
  simp only [zfok, Bool.and_eq_true, decide_eq_true_eq, Bool.or_eq_true] at hf
  obtain ⟨⟨⟨h1, h2⟩, h3⟩, h4⟩ := hf
  refine ⟨h1, h2, _, hts _ (zG_in h3 rfl), ?_⟩
  rcases h4 with h4 | ⟨⟨h4, h5⟩, h6⟩
  · rw [if_neg (by rw [h4]; decide)]
    exact fun x hx => hx
  · subst h5; subst h6
    rw [if_pos h4]
    exact u_same (hts _ zsame)
theorem zW_get (C : zCx G k p R s m args meth c) (hW : zWd G h H) {a t f idx pos : Nat} {n : Int} (hok : zok h a t f) (hf : zfok k idx t f pos n = true) (hd : decode (zB k) pc = .ok (.getfield idx, 3)) (kk : W p l e R s m args below meth c H locs cells slots Q (F0 m (pc + 3) ls (zfv G h a t f :: rest))) : W p l e R s m args below meth c H locs cells slots Q (F0 m pc ls (zxr G (some a) :: rest)) := by
  obtain ⟨hx, hb, hml, hown, hts, -, -, hT, -, -⟩ := C
  obtain ⟨h10, hfN, ref, hlink, hsame⟩ := zlink hts hf
  obtain ⟨o1, o2, o3, o4⟩ := hok
  obtain ⟨-, cell, q1, q2, q3, q4⟩ := (hW.2.2.1 a o1 o2).obj o3 h10
  obtain ⟨hS, hfc, kC, hkC, hkind⟩ := hT.1 t h10
  obtain ⟨cf, kf, fi, fd, hi, hsl⟩ := hS f hfN
  refine W.getf hx hb hown hlink (hsame _ hi) (u_facts hfc hkC (u_lays hts (zuw h10) hfN) hi).1 q1 (by rw [q3]; exact fun h => by cases h) (v := zfv G h a t f) ?_ rfl rfl hd kk
  rw [hsl, q4 f hfN]
theorem zapart (hts : ∀ w ∈ zG, w.before args s = true) (hT : zTb G s) {t : Nat} (h10 : t < 10) : ∀ x y, x < (zcl t).2.2 → y < (zcl t).2.2 → x ≠ y → (G.2.2.1.2 t) x ≠ (G.2.2.1.2 t) y := by
  intro x y hx hy hne
  obtain ⟨hS, -⟩ := hT.1 t h10
  obtain ⟨_, _, _, fa, hia, ea⟩ := hS x hx
  obtain ⟨_, _, _, fb, hib, eb⟩ := hS y hy
  rw [← ea, ← eb]
  refine u_apart (u_lays hts (zuw h10) hx) (u_lays hts (zuw h10) hy) hia hib ?_
  rw [(State.fieldFound?_type hia (ztf_ok t h10 x hx)).1, (State.fieldFound?_type hib (ztf_ok t h10 y hy)).1]
  exact znm_ok t h10 x hx y hy hne
theorem zW_put (C : zCx G k p R s m args meth c) (hW : zWd G h H) (hS0 : va_S (zAf G) s.heap H locs) {a t f idx pos : Nat} {n : Int} (hok : zok h a t f) (hf : zfok k idx t f pos n = true) (hfin : ((zcl t).2.1 f).2.2.2 = true → (zY k).name = "<init>" ∧ ((zcl t).2.1 f).1 = (zY k).cls) (hd : decode (zB k) pc = .ok (.putfield idx, 3)) {v : Value} (hn : narrow (ztf t f) v = v) (hv : fits (ztf t f) v = true)
    (kk : ∀ (H1 : Heap) (locs1 : List Loc), t_OB (zad G a) (G.2.2.1.1 t) (zcl t).2.2 (G.2.2.1.2 t) H1 (updV (zfv G h a t) f v) → H1.size = H.size → (∀ q, q ≠ zad G a → H1[q]? = H[q]?) → va_S (zAf G) s.heap H1 locs1 → W p l e R s m args below meth c H1 locs1 cells slots Q (F0 m (pc + 3) ls rest)) : W p l e R s m args below meth c H locs cells slots Q (F0 m pc ls (v :: zxr G (some a) :: rest)) := by
  obtain ⟨hx, hb, hml, hown, hts, -, -, hT, -, hname⟩ := C
  obtain ⟨h10, hfN, ref, hlink, hsame⟩ := zlink hts hf
  have hap := zapart hts hT h10
  obtain ⟨o1, o2, o3, o4⟩ := hok
  obtain ⟨-, cell, q1, q2, q3, q4⟩ := (hW.2.2.1 a o1 o2).obj o3 h10
  obtain ⟨hS, hfc, kC, hkC, hkind⟩ := hT.1 t h10
  obtain ⟨cf, kf, fi, fd, hi, hsl⟩ := hS f hfN
  have hlay := hts _ (zuw h10 _ (u_in_lay hfN))
  unfold u_lay at hlay
  have hst := (u_facts hfc hkC (u_lays hts (zuw h10) hfN) hi).1
  by_cases hfi : ((zcl t).2.1 f).2.2.2 = true
  · obtain ⟨hin, hdecl⟩ := hfin hfi
    rw [if_pos hfi] at hlay
    have hcf : m.cls = cf := by
      obtain ⟨_, _, c', _, _, _, -, -, hf', -, -, -, hown2, -⟩ := Cond.laysFinal_spec hlay
      have e1 : c' = cf := by have := hi.symm.trans hf'; simp at this; exact this.1.symm
      rw [hdecl] at hown2
      rw [← e1]; exact Option.some.inj (hown.symm.trans hown2)
    have h6 := u_fits hfc hkC hkind (Or.inr hlay) hi (ztf_ok t h10 f hfN) hn hv
    refine W.putFinK hx hb hown hlink (hsame _ hi) hst hcf (hname.trans hin) (by rw [q2]; exact h6) q1 q3 (by rw [hsl]; exact k2_hasslot (q4 f hfN)) rfl rfl hd fun H' e1 e2 e3 => ?_
    rw [hsl] at e1 ⊢
    exact kk H' _ ⟨_, e1, q2, q3, t_set q4 hap hfN v⟩ e2 e3 (hS0.put e2 e3 (zad_A o1))
  · rw [if_neg hfi] at hlay
    have h6 := u_store hfc hkC hkind hlay hi (ztf_ok t h10 f hfN) hn hv
    refine W.putK hx hb (f := fd) ⟨hown, hlink, ⟨_, _, _, hsame _ hi⟩, hst⟩ (by rw [q2]; exact h6) q1 q3 (by rw [hsl]; exact k2_hasslot (q4 f hfN)) rfl rfl hd fun H' e1 e2 e3 => ?_
    rw [hsl] at e1 ⊢
    exact kk H' _ ⟨_, e1, q2, q3, t_set q4 hap hfN v⟩ e2 e3 (hS0.put e2 e3 (zad_A o1))
end ZS2
theorem zfv_ui {G : zg} {h : zH} {a t f : Nat} {x : Int32} (hz : zft t f ≠ 2) : zfv G (zui h a f x) a t = updV (zfv G h a t) f (.int x) := by
  funext j
  by_cases hj : j = f
  · subst hj
    simp [zfv, updV, hz, zi, zui]
  · simp [zfv, updV, hj, zi, zr, zui]
theorem zfv_ur {G : zg} {h : zH} {a t f : Nat} {x : Option Nat} (hz : zft t f = 2) : zfv G (zur h a f x) a t = updV (zfv G h a t) f (zxr G x) := by
  funext j
  by_cases hj : j = f
  · subst hj
    simp [zfv, updV, hz, zr, zur]
  · simp [zfv, updV, hj, zi, zr, zur]
theorem zWd.ui {G : zg} {h : zH} {H H' : Heap} {a k : Nat} {x : Int32} (hW : zWd G h H) (ha : 8 ≤ a) (hz : H'.size = H.size) (ho : ∀ q, q ≠ zad G a → H'[q]? = H[q]?) (hce : zce G (zui h a k x) H' a) : zWd G (zui h a k x) H' :=
  hW.upd ha rfl (fun _ => rfl) (fun b hb j => by simp [zi, zui, hb]) (fun _ _ _ => rfl) hz ho hce
theorem zWd.ur {G : zg} {h : zH} {H H' : Heap} {a k : Nat} {x : Option Nat} (hW : zWd G h H) (ha : 8 ≤ a) (hz : H'.size = H.size) (ho : ∀ q, q ≠ zad G a → H'[q]? = H[q]?) (hce : zce G (zur h a k x) H' a) : zWd G (zur h a k x) H' :=
  hW.upd ha rfl (fun _ => rfl) (fun _ _ _ => rfl) (fun b hb j => by simp [zr, zur, hb]) hz ho hce
end
section
/-! arrays, new cells, arraycopy, over the small heap -/
theorem zAny {G : zg} {s : State} {h : zH} {H : Heap} {y : Nat} (hT : zTb G s) (hW : zWd G h H) (ho : zob h y) : va_Any "java/lang/Object" s H (zad G y) := by
  obtain ⟨o1, o2, o3⟩ := ho
  obtain ⟨-, cell, q1, q2, q3, -⟩ := (hW.2.2.1 y o1 o2).obj rfl (by omega)
  obtain ⟨-, hfc, kC, hkC, -⟩ := hT.1 (zk h y).1 (by omega)
  refine ⟨cell, q1, by rw [q3]; rfl, ⟨kC, by rw [q2]; exact hkC⟩, fun comp hcomp => ?_⟩
  rw [q2]
  rcases o3 with e | e
  · rw [e] at hfc ⊢
    exact vb_asgC hT.2.2.2.2.2.2.1 comp _ hcomp hfc
  · rw [e] at hfc ⊢
    exact vb_asgC hT.2.2.2.2.2.2.2 comp _ hcomp hfc
theorem zarrI {G : zg} {h : zH} {H : Heap} {a t : Nat} (ht : (zk h a).1 = t) (h10 : t = 100 ∨ t = 101 ∨ t = 102) (hc : H[zad G a]? = some (arrV (G.2.2.2.1 t) (zk h a).2 (fun j => .int (zi h a j)))) : zce G h H a := by
  subst ht
  exact Or.inr (Or.inl ⟨h10, hc⟩)
theorem zarrR {G : zg} {h : zH} {H : Heap} {a : Nat} (ht : (zk h a).1 = 103) (hc : H[zad G a]? = some (arrV (G.2.2.2.1 103) (zk h a).2 (fun j => zxr G (zr h a j)))) : zce G h H a :=
  Or.inr (Or.inr ⟨ht, hc⟩)
theorem zupdI {h : zH} {a i : Nat} {x : Int32} : (fun j => Value.int (zi (zui h a i x) a j)) = updV (fun j => Value.int (zi h a j)) i (.int x) := by
  funext j
  by_cases hj : j = i
  · subst hj; simp [updV, zi, zui]
  · simp [updV, hj, zi, zui]
theorem zupdR {G : zg} {h : zH} {a i : Nat} {x : Option Nat} : (fun j => zxr G (zr (zur h a i x) a j)) = updV (fun j => zxr G (zr h a j)) i (zxr G x) := by
  funext j
  by_cases hj : j = i
  · subst hj; simp [updV, zr, zur]
  · simp [updV, hj, zr, zur]
section ZS3
variable {p : Program} {l : Launch} {e : Env} {R : Room} {s : State} {m : MethodId} {args : Array Value} {below : List Frame} {meth : Method} {c : Code} {H : Heap} {locs : List Loc} {cells slots : Nat} {Q : State → Prop}
variable {G : zg} {k : Nat} {h : zH} {ls : Array Slot} {pc : Nat} {rest : List Value}
theorem zin {i : Int32} {n : Nat} {cA : ClassId} {f : Nat → Value} (h1 : ¬ i < 0) (h2 : i.toNatClampNeg < n) : ¬ (i < 0 ∨ (arrV cA n f).slots.size ≤ i.toNatClampNeg) := by
  rw [arrV_size]
  intro q
  rcases q with q | q
  · exact h1 q
  · omega
theorem zW_iald (C : zCx G k p R s m args meth c) (hW : zWd G h H) (hS : va_S (zAf G) s.heap H locs) {a : Nat} {i : Int32} (hi : zix h a 100 i) (hd : decode (zB k) pc = .ok (.iaload, 1)) (kk : W p l e R s m args below meth c H locs cells slots Q (F0 m (pc + 1) ls (.int (zi h a i.toNatClampNeg) :: rest))) : W p l e R s m args below meth c H locs cells slots Q (F0 m pc ls (.int i :: zxr G (some a) :: rest)) := by
  obtain ⟨hx, hb, -, -, -, -, -, hT, hst, -⟩ := C
  obtain ⟨i1, i2, i3, i4⟩ := hi
  by_cases ha : a < 8
  · obtain ⟨e1, e2⟩ := hW.2.2.2 a ha
    have ha7 : a < 7 := by
      rcases Nat.lt_or_ge a 7 with q | q
      · exact q
      · have : a = 7 := by omega
        subst this
        rw [e1, hst.2.2.1.1] at i2
        simp at i2
    rw [e1] at i4
    have hz : zxr G (some a) = .ref (G.2.1 a) := by simp [zxr, va_rf, zad, ha]
    rw [hz]
    refine va_ti hx hb (hst.2.1 a ha7).2 hS (fun q => ?_) (v := .int (zi h a i.toNatClampNeg)) (by rw [e2]) hd kk
    rcases q with q | q
    · exact i3 q
    · omega
  · have hc := (hW.2.2.1 a (by omega) i1).ints i2 (Or.inl rfl)
    exact W.iald (v := .int (zi h a i.toNatClampNeg)) hx hb hc ((hT.2.1 100 (by omega) (by omega)).1 _ _) (fun q => by cases q) (zin i3 i4) (arrV_read _ _ i4) rfl rfl hd kk
theorem zW_bald (C : zCx G k p R s m args meth c) (hW : zWd G h H) {a : Nat} {i : Int32} (ha : 8 ≤ a) (hi : zix h a 101 i ∨ zix h a 102 i) (hd : decode (zB k) pc = .ok (.baload, 1)) (kk : W p l e R s m args below meth c H locs cells slots Q (F0 m (pc + 1) ls (.int (zi h a i.toNatClampNeg) :: rest))) : W p l e R s m args below meth c H locs cells slots Q (F0 m pc ls (.int i :: zxr G (some a) :: rest)) := by
  obtain ⟨hx, hb, -, -, -, -, -, hT, hst, -⟩ := C
  rcases hi with ⟨i1, i2, i3, i4⟩ | ⟨i1, i2, i3, i4⟩
  · have hc := (hW.2.2.1 a ha i1).ints i2 (Or.inr (Or.inl rfl))
    exact W.bald (v := .int (zi h a i.toNatClampNeg)) hx hb hc ((hT.2.1 101 (by omega) (by omega)).1 _ _) (fun q => by cases q) (zin i3 i4) (arrV_read _ _ i4) rfl rfl hd kk
  · have hc := (hW.2.2.1 a ha i1).ints i2 (Or.inr (Or.inr rfl))
    exact W.zald (v := .int (zi h a i.toNatClampNeg)) hx hb hc ((hT.2.1 102 (by omega) (by omega)).1 _ _) (fun q => by cases q) (zin i3 i4) (arrV_read _ _ i4) rfl rfl hd kk
theorem zW_aald (C : zCx G k p R s m args meth c) (hW : zWd G h H) {a : Nat} {i : Int32} (ha : 8 ≤ a) (hi : zix h a 103 i) (hd : decode (zB k) pc = .ok (.aaload, 1)) (kk : W p l e R s m args below meth c H locs cells slots Q (F0 m (pc + 1) ls (zxr G (zr h a i.toNatClampNeg) :: rest))) : W p l e R s m args below meth c H locs cells slots Q (F0 m pc ls (.int i :: zxr G (some a) :: rest)) := by
  obtain ⟨hx, hb, -, -, -, -, -, hT, hst, -⟩ := C
  obtain ⟨i1, i2, i3, i4⟩ := hi
  have hc := (hW.2.2.1 a ha i1).refs i2
  exact W.aald (v := zxr G (zr h a i.toNatClampNeg)) (ty := .object "java/lang/Object") hx hb hc ((hT.2.1 103 (by omega) (by omega)).1 _ _) rfl (fun q => by cases q) (zin i3 i4) (arrV_read _ _ i4) rfl rfl hd kk
theorem zW_alen (C : zCx G k p R s m args meth c) (hW : zWd G h H) (hS : va_S (zAf G) s.heap H locs) {a : Nat} (ha : a < zn h) (ht : 100 ≤ (zk h a).1) (hd : decode (zB k) pc = .ok (.arraylength, 1)) (kk : W p l e R s m args below meth c H locs cells slots Q (F0 m (pc + 1) ls (.int (Int32.ofNat (zk h a).2) :: rest))) : W p l e R s m args below meth c H locs cells slots Q (F0 m pc ls (zxr G (some a) :: rest)) := by
  obtain ⟨hx, hb, -, -, -, -, -, hT, hst, -⟩ := C
  by_cases ha8 : a < 8
  · obtain ⟨e1, e2⟩ := hW.2.2.2 a ha8
    have hz : zxr G (some a) = .ref (G.2.1 a) := by simp [zxr, va_rf, zad, ha8]
    rw [hz]
    rw [e1] at kk
    rcases Nat.lt_or_ge a 7 with q | q
    · exact va_tlen hx hb (hst.2.1 a q).2 hS rfl hd kk
    · have : a = 7 := by omega
      subst this
      rw [hst.2.2.1.1] at kk
      exact va_tlen hx hb hst.2.2.1.2 hS rfl hd kk
  · rcases hW.2.2.1 a (by omega) ha with ⟨h1, -⟩ | ⟨h1, h2⟩ | ⟨h1, h2⟩
    · omega
    · refine W.alen (n := Int32.ofNat (zk h a).2) (ty := zat (zk h a).1) hx hb h2 ((hT.2.1 (zk h a).1 (by omega) (by omega)).1 _ _) (by rw [arrV_size] <;> rfl) rfl rfl hd kk
    · exact W.alen (n := Int32.ofNat (zk h a).2) (ty := .object "java/lang/Object") hx hb h2 ((hT.2.1 103 (by omega) (by omega)).1 _ _) (by rw [arrV_size] <;> rfl) rfl rfl hd kk
theorem zW_iast (C : zCx G k p R s m args meth c) (hW : zWd G h H) (hS : va_S (zAf G) s.heap H locs) {a : Nat} {i x : Int32} (ha : 8 ≤ a) (hi : zix h a 100 i) (hd : decode (zB k) pc = .ok (.iastore, 1)) (kk : ∀ (H1 : Heap) (locs1 : List Loc), zWd G (zui h a i.toNatClampNeg x) H1 → va_S (zAf G) s.heap H1 locs1 → W p l e R s m args below meth c H1 locs1 cells slots Q (F0 m (pc + 1) ls rest)) : W p l e R s m args below meth c H locs cells slots Q (F0 m pc ls (.int x :: .int i :: zxr G (some a) :: rest)) := by
  obtain ⟨hx, hb, -, -, -, -, -, hT, hst, -⟩ := C
  obtain ⟨i1, i2, i3, i4⟩ := hi
  have hc := (hW.2.2.1 a ha i1).ints i2 (Or.inl rfl)
  refine W.iast hx hb hc ((hT.2.1 100 (by omega) (by omega)).1 _ _) (fun q => by cases q) (zin i3 i4) rfl rfl hd fun H1 e1 z oq => ?_
  refine kk H1 _ (hW.ui ha z oq (zarrI i2 (Or.inl rfl) ?_)) (hS.put z oq (zad_A ha))
  rw [e1, arrV_store, zupdI]
  rfl
theorem zW_bast (C : zCx G k p R s m args meth c) (hW : zWd G h H) (hS : va_S (zAf G) s.heap H locs) {a : Nat} {i x : Int32} (ha : 8 ≤ a) (hi : zix h a 101 i) (hd : decode (zB k) pc = .ok (.bastore, 1)) (kk : ∀ (H1 : Heap) (locs1 : List Loc), zWd G (zui h a i.toNatClampNeg x.toInt8.toInt32) H1 → va_S (zAf G) s.heap H1 locs1 → W p l e R s m args below meth c H1 locs1 cells slots Q (F0 m (pc + 1) ls rest)) : W p l e R s m args below meth c H locs cells slots Q (F0 m pc ls (.int x :: .int i :: zxr G (some a) :: rest)) := by
  obtain ⟨hx, hb, -, -, -, -, -, hT, hst, -⟩ := C
  obtain ⟨i1, i2, i3, i4⟩ := hi
  have hc := (hW.2.2.1 a ha i1).ints i2 (Or.inr (Or.inl rfl))
  refine W.bast hx hb hc ((hT.2.1 101 (by omega) (by omega)).1 _ _) (fun q => by cases q) (zin i3 i4) rfl rfl hd fun H1 e1 z oq => ?_
  refine kk H1 _ (hW.ui ha z oq (zarrI i2 (Or.inr (Or.inl rfl)) ?_)) (hS.put z oq (zad_A ha))
  rw [e1, arrV_store, zupdI]
  rfl
theorem zW_zast (C : zCx G k p R s m args meth c) (hW : zWd G h H) (hS : va_S (zAf G) s.heap H locs) {a : Nat} {i x : Int32} (ha : 8 ≤ a) (hi : zix h a 102 i) (hb1 : x = 0 ∨ x = 1) (hd : decode (zB k) pc = .ok (.bastore, 1)) (kk : ∀ (H1 : Heap) (locs1 : List Loc), zWd G (zui h a i.toNatClampNeg x) H1 → va_S (zAf G) s.heap H1 locs1 → W p l e R s m args below meth c H1 locs1 cells slots Q (F0 m (pc + 1) ls rest)) : W p l e R s m args below meth c H locs cells slots Q (F0 m pc ls (.int x :: .int i :: zxr G (some a) :: rest)) := by
  obtain ⟨hx, hb, -, -, -, -, -, hT, hst, -⟩ := C
  obtain ⟨i1, i2, i3, i4⟩ := hi
  have hc := (hW.2.2.1 a ha i1).ints i2 (Or.inr (Or.inr rfl))
  have hnar : narrow .boolean (.int x) = .int x := by rcases hb1 with e | e <;> subst e <;> decide +kernel
  refine W.zast hx hb hc ((hT.2.1 102 (by omega) (by omega)).1 _ _) (fun q => by cases q) (zin i3 i4) rfl rfl hd fun H1 e1 z oq => ?_
  refine kk H1 _ (hW.ui ha z oq (zarrI i2 (Or.inr (Or.inr rfl)) ?_)) (hS.put z oq (zad_A ha))
  rw [e1, hnar, arrV_store, zupdI]
  rfl
theorem zW_aast (C : zCx G k p R s m args meth c) (hW : zWd G h H) (hS : va_S (zAf G) s.heap H locs) {a : Nat} {i : Int32} {x : Option Nat} (ha : 8 ≤ a) (hi : zix h a 103 i) (hob : (x.all fun y => decide (zob h y)) = true) (hd : decode (zB k) pc = .ok (.aastore, 1)) (kk : ∀ (H1 : Heap) (locs1 : List Loc), zWd G (zur h a i.toNatClampNeg x) H1 → va_S (zAf G) s.heap H1 locs1 → W p l e R s m args below meth c H1 locs1 cells slots Q (F0 m (pc + 1) ls rest)) : W p l e R s m args below meth c H locs cells slots Q (F0 m pc ls (zxr G x :: .int i :: zxr G (some a) :: rest)) := by
  obtain ⟨hx, hb, -, -, -, -, -, hT, hst, -⟩ := C
  obtain ⟨i1, i2, i3, i4⟩ := hi
  have hc := (hW.2.2.1 a ha i1).refs i2
  have fin : ∀ (H1 : Heap), H1[zad G a]? = some ((arrV (G.2.2.2.1 103) (zk h a).2 (fun j => zxr G (zr h a j))).setSlot i.toNatClampNeg (zxr G x)) → H1.size = H.size → (∀ q, q ≠ zad G a → H1[q]? = H[q]?) → W p l e R s m args below meth c H1 (locs ++ [⟨zad G a, i.toNatClampNeg⟩]) cells slots Q (F0 m (pc + 1) ls rest) := by
    intro H1 e1 z oq
    refine kk H1 _ (hW.ur ha z oq (zarrR i2 ?_)) (hS.put z oq (zad_A ha))
    rw [e1, arrV_store, zupdR]
    rfl
  cases x with
  | none =>
    exact va_WaastN (C := "java/lang/Object") hx hb hc ((hT.2.1 103 (by omega) (by omega)).1 _ _) (fun q => by cases q) (zin i3 i4) rfl rfl hd fun H1 e1 z oq => fin H1 e1 z oq
  | some y =>
    simp only [Option.all_some, decide_eq_true_eq] at hob
    obtain ⟨cellV, g1, g3, ⟨kC, hkC⟩, hasg⟩ := zAny hT hW hob
    obtain ⟨kA, comp, k1, k2, k3, -⟩ := (hT.2.1 103 (by omega) (by omega)).2
    obtain ⟨kE, hkE, -⟩ := Vm.findClass_spec k3
    exact W.aast hx hb hc (fun q h => by cases h) (fun h => by cases h) k1 k2 rfl hkE ⟨i3, by rw [arrV_size]; exact i4⟩ g1 (fun q h => by rw [h] at g3; cases g3) hkC (hasg _ k3) rfl rfl hd fun H1 e1 z oq => fin H1 e1 z oq
theorem zW_new (C : zCx G k p R s m args meth c) (hW : zWd G h H) (hS : va_S (zAf G) s.heap H locs) {t idx : Nat} (h10 : t < 10) (hcl : Cond.classLink (zY k).cls idx (zcl t).1 ∈ zG) (hcells : cells + 1 ≤ R.cells) (hslots : slots + (zcl t).2.2 ≤ R.slots) (hd : decode (zB k) pc = .ok (.new idx, 3)) (kk : ∀ H1 : Heap, zWd G (znw h t (zcl t).2.2) H1 → va_S (zAf G) s.heap H1 locs → W p l e R s m args below meth c H1 locs (cells + 1) (slots + (zcl t).2.2) Q (F0 m (pc + 3) ls (zxr G (some (zn h)) :: rest))) : W p l e R s m args below meth c H locs cells slots Q (F0 m pc ls rest) := by
  obtain ⟨hx, hb, -, hown, hts, -, -, hT, hst, -⟩ := C
  have hKn := hT.1 t h10
  obtain ⟨w1, w2⟩ := zins1 h10
  refine W.newcK hx hb hown (hts _ hcl) (hts _ w1) (hts _ w2) rfl hd hcells hslots hKn.2.1 (zadn hW).symm fun H1 kC hkC e1 z1 o1 => ?_
  rw [zadn hW] at z1 o1
  refine kk H1 (hW.new z1 o1 (Or.inl ?_)) (zSnew hS z1 o1)
  have ek : zk (znw h t (zcl t).2.2) (zn h) = (t, (zcl t).2.2) := if_pos rfl
  rw [ek]
  refine ⟨h10, rfl, ?_⟩
  have hb := u_born (ztf t) hts (zuw h10) hKn hkC e1 (ztf_ok t h10)
  refine hb.to fun j hj => ?_
  have ei : zi (znw h t (zcl t).2.2) (zn h) j = 0 := if_pos rfl
  have er : zr (znw h t (zcl t).2.2) (zn h) j = none := if_pos rfl
  unfold zfv
  rw [ei, er]
  have key : ∀ t, t < 10 → (List.range (zcl t).2.2).all (fun k => match ztf t k with | .int => true | .boolean => true | .object _ => true | .array _ => true | _ => false) = true := zlt10 (by decide +kernel) (by decide +kernel) (by decide +kernel) (by decide +kernel) (by decide +kernel) (by decide +kernel) (by decide +kernel) (by decide +kernel) (by decide +kernel) (by decide +kernel)
  have h3 := List.all_eq_true.mp (key t h10) j (List.mem_range.mpr hj)
  unfold zft
  cases hf : ztf t j <;> rw [hf] at h3 <;> simp at h3 <;> rfl
theorem zW_newa (C : zCx G k p R s m args meth c) (hW : zWd G h H) (hS : va_S (zAf G) s.heap H locs) {t : Nat} {ty : ArrayType} (hty : (ty = .int ∧ t = 100) ∨ (ty = .byte ∧ t = 101) ∨ (ty = .boolean ∧ t = 102)) {n : Int32} (hn : ¬ n < 0) (hn2 : n.toNatClampNeg ≤ 100000) (hcells : cells + 1 ≤ R.cells) (hslots : slots + n.toNatClampNeg ≤ R.slots) (hd : decode (zB k) pc = .ok (.newarray ty, 2)) (harr : (Cond.arrayClass (newarray.typeOf ty)).before args s = true) (kk : ∀ H1 : Heap, zWd G (znw h t n.toNatClampNeg) H1 → va_S (zAf G) s.heap H1 locs → W p l e R s m args below meth c H1 locs (cells + 1) (slots + n.toNatClampNeg) Q (F0 m (pc + 2) ls (zxr G (some (zn h)) :: rest))) : W p l e R s m args below meth c H locs cells slots Q (F0 m pc ls (.int n :: rest)) := by
  obtain ⟨hx, hb, -, hown, hts, -, -, hT, hst, -⟩ := C
  have ek : zk (znw h t n.toNatClampNeg) (zn h) = (t, n.toNatClampNeg) := if_pos rfl
  have ei : (fun j => Value.int (zi (znw h t n.toNatClampNeg) (zn h) j)) = fun _ => .int 0 := by funext j; exact congrArg Value.int (if_pos rfl)
  refine va_newaK hx hb harr rfl hd rfl hn rfl (by rcases hty with ⟨rfl, -⟩ | ⟨rfl, -⟩ | ⟨rfl, -⟩ <;> simp only [newarray.typeOf, componentBytes] <;> omega) hcells hslots (zadn hW).symm fun H1 cA e1 z1 o1 hAr hNm => ?_
  rw [zadn hW] at z1 o1
  refine kk H1 (hW.new z1 o1 (zarrI (t := t) (by rw [ek]) (by omega) ?_)) (zSnew hS z1 o1)
  rw [ek, ei, e1]
  have hcA : cA = G.2.2.2.1 t ∧ defaultValue (newarray.typeOf ty) = .int 0 := by
    rcases hty with ⟨rfl, rfl⟩ | ⟨rfl, rfl⟩ | ⟨rfl, rfl⟩
    · exact ⟨Option.some.inj (hNm.symm.trans (hT.2.1 100 (by omega) (by omega)).2), rfl⟩
    · exact ⟨Option.some.inj (hNm.symm.trans (hT.2.1 101 (by omega) (by omega)).2), rfl⟩
    · exact ⟨Option.some.inj (hNm.symm.trans (hT.2.1 102 (by omega) (by omega)).2), rfl⟩
  rw [hcA.1, hcA.2]
theorem zW_anew (C : zCx G k p R s m args meth c) (hW : zWd G h H) (hS : va_S (zAf G) s.heap H locs) {idx : Nat} (hcl : Cond.classLink (zY k).cls idx "java/lang/Object" ∈ zG) {n : Int32} (hn : ¬ n < 0) (hn2 : n.toNatClampNeg ≤ 100000) (hcells : cells + 1 ≤ R.cells) (hslots : slots + n.toNatClampNeg ≤ R.slots) (hd : decode (zB k) pc = .ok (.anewarray idx, 3)) (kk : ∀ H1 : Heap, zWd G (znw h 103 n.toNatClampNeg) H1 → va_S (zAf G) s.heap H1 locs → W p l e R s m args below meth c H1 locs (cells + 1) (slots + n.toNatClampNeg) Q (F0 m (pc + 3) ls (zxr G (some (zn h)) :: rest))) : W p l e R s m args below meth c H locs cells slots Q (F0 m pc ls (.int n :: rest)) := by
  obtain ⟨hx, hb, -, hown, hts, -, -, hT, hst, -⟩ := C
  have ek : zk (znw h 103 n.toNatClampNeg) (zn h) = (103, n.toNatClampNeg) := if_pos rfl
  have er : (fun j => zxr G (zr (znw h 103 n.toNatClampNeg) (zn h) j)) = fun _ => Value.null := by
    funext j
    have : zr (znw h 103 n.toNatClampNeg) (zn h) j = none := if_pos rfl
    rw [this]; rfl
  refine W.anew hx hb hown (hts _ hcl) (va_AO.use hT.2.2.1) rfl hd rfl hn (by omega) hcells hslots fun cA kA comp f1 f2 f3 f4 => ?_
  generalize hH1 : H.push ({ cls := cA, slots := Array.replicate n.toNatClampNeg .null, vm := .none } : Cell) = H1
  have z1 : H1.size = H.size + 1 := by rw [← hH1, Array.size_push]
  have e1 : H1[H.size]? = some (arrV cA n.toNatClampNeg (fun _ => .null)) := by rw [← hH1, Array.getElem?_push_size, ← arrV_new]
  have o1 : ∀ q : Nat, q < H.size → H1[q]? = H[q]? := fun q hq => by rw [← hH1, Array.getElem?_push, if_neg (Nat.ne_of_lt hq)]
  obtain ⟨-, -, -, -, -, r4⟩ := (hT.2.1 103 (by omega) (by omega)).2
  have hcA : cA = G.2.2.2.1 103 := Option.some.inj (f1.symm.trans r4)
  have hz : zxr G (some (zn h)) = .ref H.size := by show Value.ref (zad G (zn h)) = _; rw [zadn hW]
  rw [← hz]
  refine kk H1 (hW.new z1 o1 (zarrR (by rw [ek]) ?_)) (zSnew hS z1 o1)
  rw [ek, er, zadn hW, e1, hcA]
theorem zcy_row {G : zg} {h : zH} {a b sp dp n : Nat} : (fun j => zxr G (zr (zcy h a b sp dp n) b j)) = fun j => va_rf (va_cpy (fun j => (zr h a j).map (zad G)) (fun j => (zr h b j).map (zad G)) sp dp n j) := by
  funext j
  simp only [zxr, zr, zcy, va_cpy, if_true]
  split <;> rfl
theorem zW_acopy (C : zCx G k p R s m args meth c) (hW : zWd G h H) (hS : va_S (zAf G) s.heap H locs) (hsz : c.maxLocals = ls.size) {idx : Nat} (hlk : Cond.methodLink (zY k).cls idx arraycopyName ∈ zG) {a b : Nat} {sp dp n : Int32} (ha : 8 ≤ a ∧ a < zn h ∧ (zk h a).1 = 103) (hb8 : 8 ≤ b ∧ b < zn h ∧ (zk h b).1 = 103) (h1 : ¬ sp < 0) (h2 : ¬ dp < 0) (h3 : ¬ n < 0) (h4 : sp.toNatClampNeg + n.toNatClampNeg ≤ (zk h a).2) (h5 : dp.toNatClampNeg + n.toNatClampNeg ≤ (zk h b).2) (hel : ∀ i, i < n.toNatClampNeg → ((zr h a (sp.toNatClampNeg + i)).all fun y => decide (zob h y)) = true) (hframes : 1 ≤ R.frames) (hlocals : (rest.map fun v => v.category).sum + 18 ≤ R.locals) (hd : decode (zB k) pc = .ok (.invokestatic idx, 3))
    (kk : ∀ (H1 : Heap) (locs1 : List Loc), zWd G (zcy h a b sp.toNatClampNeg dp.toNatClampNeg n.toNatClampNeg) H1 → va_S (zAf G) s.heap H1 locs1 → W p l e R s m args below meth c H1 locs1 cells slots Q (F0 m (pc + 3) ls rest)) : W p l e R s m args below meth c H locs cells slots Q (F0 m pc ls (.int n :: .int dp :: zxr G (some b) :: .int sp :: zxr G (some a) :: rest)) := by
  obtain ⟨hx, hb, -, hown, hts, -, -, hT, hst, -⟩ := C
  have nn : ∀ z : Int32, ¬ z < 0 → z.toInt = (z.toNatClampNeg : Int) := by
    intro z hz
    have hz0 : (0 : Int) ≤ z.toInt := by
      have := Int32.not_lt.mp hz
      simpa using Int32.le_iff_toInt_le.mp this
    show z.toInt = ((z.toInt.toNat : Nat) : Int)
    omega
  intro T hTh X
  have hc0 : H[zad G a]? = some (arrV (G.2.2.2.1 103) (zk h a).2 (fun j => va_rf ((zr h a j).map (zad G)))) := (hW.2.2.1 a ha.1 ha.2.1).refs ha.2.2
  have hc1 : H[zad G b]? = some (arrV (G.2.2.2.1 103) (zk h b).2 (fun j => va_rf ((zr h b j).map (zad G)))) := (hW.2.2.1 b hb8.1 hb8.2.1).refs hb8.2.2
  obtain ⟨kA, comp, r1, r2, r3, -⟩ := (hT.2.1 103 (by omega) (by omega)).2
  obtain ⟨vm', X', step⟩ := X.arraycopy hx hown (hts _ hlk) (hts _ zNat) (hts _ zNst) (hts _ zNin) (src := zad G a) (dst := zad G b) (cs := arrV (G.2.2.2.1 103) (zk h a).2 (fun j => va_rf ((zr h a j).map (zad G)))) (cd := arrV (G.2.2.2.1 103) (zk h b).2 (fun j => va_rf ((zr h b j).map (zad G)))) (srcPos := sp) (destPos := dp) (n := n) (by rw [hTh]; exact hc0) (by rw [hTh]; exact hc1)
    (fun _ h => by cases h) (fun _ h => by cases h) (fun h => by cases h) (fun h => by cases h) r1 r1 r2 r2 rfl h1 h2 h3
    (by rw [nn sp h1, nn n h3, arrV_size]; omega)
    (by rw [nn dp h2, nn n h3, arrV_size]; omega)
    (fun vm₁ hal i hi => by
      have e : (arrV (G.2.2.2.1 103) (zk h a).2 (fun j => va_rf ((zr h a j).map (zad G)))).slots.getD (sp.toNatClampNeg + i) .null = va_rf ((zr h a (sp.toNatClampNeg + i)).map (zad G)) := by
        rw [Array.getD_eq_getD_getElem?, arrV_read _ _ (by omega)]
        rfl
      rw [e]
      cases hy : zr h a (sp.toNatClampNeg + i) with
      | none => exact ⟨rfl, trivial⟩
      | some y =>
        have hob := hel i hi
        rw [hy, Option.all_some, decide_eq_true_eq] at hob
        obtain ⟨cellV, g1, g2, ⟨kC, hkC⟩, hasg⟩ := zAny hT hW hob
        obtain ⟨kE, hkE, -⟩ := Vm.findClass_spec r3
        obtain ⟨kC', hkC', -⟩ := hal.2.2 _ _ hkC
        obtain ⟨kE', hkE', -⟩ := hal.2.2 _ _ hkE
        refine ⟨rfl, cellV, (show T.heap[zad G y]? = some cellV by rw [hTh]; exact g1), (fun q h => by rw [h] at g2; cases g2), ⟨kC', hkC'⟩, ?_, ?_⟩
        · exact ⟨kE', hkE'⟩
        · show vm₁.assignable _ _ = true
          rw [hal.assignable]
          exact hasg _ r3)
    (g := F0 m pc ls (.int n :: .int dp :: .ref (zad G b) :: .int sp :: .ref (zad G a) :: rest)) rfl (by rw [hsz]) (rest := rest) rfl (by rw [hb]; exact hd) hframes (by show 2 * 0 + _ + _ ≤ _; have hw : nativeFrameWords "java/lang/System" "arraycopy" 5 = 7 := (by decide); omega)
  have e1 : copied (arrV (G.2.2.2.1 103) (zk h a).2 (fun j => va_rf ((zr h a j).map (zad G)))) (arrV (G.2.2.2.1 103) (zk h b).2 (fun j => va_rf ((zr h b j).map (zad G)))) sp dp n = arrV (G.2.2.2.1 103) (zk h b).2 (fun j => zxr G (zr (zcy h a b sp.toNatClampNeg dp.toNatClampNeg n.toNatClampNeg) b j)) := by
    rw [zcy_row]
    exact va_copied (fun z => va_rf z) _ _ (fun j => (zr h a j).map (zad G)) (fun j => (zr h b j).map (zad G)) h4
  rw [e1] at X' step
  generalize hcell : arrV (G.2.2.2.1 103) (zk h b).2 (fun j => zxr G (zr (zcy h a b sp.toNatClampNeg dp.toNatClampNeg n.toNatClampNeg) b j)) = nc at X' step
  have hl : zad G b < H.size := (Array.getElem?_eq_some_iff.mp hc1).1
  have hheap : ((T.setVm vm').setCell (zad G b) nc).heap = H.setIfInBounds (zad G b) nc := by rw [← hTh]; rfl
  have oq : ∀ q : Nat, q ≠ zad G b → (H.setIfInBounds (zad G b) nc)[q]? = H[q]? := fun q hq => by simp [Array.getElem?_setIfInBounds, Ne.symm hq]
  have hz : (H.setIfInBounds (zad G b) nc).size = H.size := by simp
  have hown' : (H.setIfInBounds (zad G b) nc)[zad G b]? = some nc := by simp [Array.getElem?_setIfInBounds, hl]
  obtain ⟨t, a1, b1⟩ := kk (H.setIfInBounds (zad G b) nc) _ (hW.upd hb8.1 rfl (fun _ => rfl) (fun _ _ _ => rfl) (fun d hd j => by simp [zr, zcy, hd]) hz oq (zarrR hb8.2.2 (by rw [hown', ← hcell]; rfl))) ⟨by rw [hz]; exact hS.1, fun q g1 g2 => by
      rw [oq q (fun e => g2 (by rw [e]; exact zad_A hb8.1))]
      exact hS.2.1 q g1 g2, fun q hq => by
      rcases List.mem_append.mp hq with h | h
      · exact hS.2.2 q h
      · obtain ⟨z, -, hz⟩ := List.mem_map.mp h
        rw [← hz]
        exact zad_A hb8.1⟩ _ hheap X'
  exact ⟨t, step t a1, b1⟩
end ZS3
end
section
/-! contracts; Arrays.copyOf of an Object array -/
def zwY (m : Nat) : List Cond := .code (zY m) (zB m) (zL m) (zRt m) :: zG
def zRm (m mc ms : Nat) : Room := { frames := zFr m, cells := mc, slots := ms, locals := zLo m }
def zPc (G : zg) (as : List Value) (h : zH) : Array Value → State → Prop := fun v U => v = as.toArray ∧ zTb G U ∧ zSt G U U.heap ∧ zWd G h U.heap
def zQc (G : zg) (r : Option Value) (h' : zH) : Array Value → State → Outcome → State → Prop := fun _ st o t => o = .returned r ∧ zWd G h' t.heap ∧ va_F (zAf G) st t
/-- method m, called with as in the heap h, answers r and leaves h' -/
def zMet (l : Launch) (G : zg) (m : Nat) (as : List zV) (h : zH) (r : Option zV) (h' : zH) : Prop :=
  Met l (zY m) (zwY m) (zRm m (zn h' - zn h) (zs h' - zs h)) (zPc G (as.map (zxv G)) h) (zQc G (r.map (zxv G)) h') (zn h' - zn h) (zs h' - zs h) (zAf G)
theorem zblind (G : zg) (as : List Value) (h : zH) : FrameBlind (zPc G as h) := by
  intro a U g mk q
  obtain ⟨q0, q1, q2, q3⟩ := q
  exact ⟨q0, zTb.moved (s := U) (U := U.calling g mk a) (State.WarmedH.refl _) q1, q2.moved (Vm.Alike.refl U.vm) (fun _ _ _ => rfl), q3⟩
theorem zpre {G : zg} {s : State} {H : Heap} {as : List Value} {h : zH} {locs : List Loc} (hT : zTb G s) (hst : zSt G s s.heap) (hS : va_S (zAf G) s.heap H locs) (hW : zWd G h H) : ∀ U : State, U.heap = H → s.WarmedH U.vm → zPc G as h as.toArray U := by
  intro U hU hWm
  refine ⟨rfl, hT.moved hWm, hst.moved hWm.alike (fun a h1 h2 => ?_), by rw [hU]; exact hW⟩
  rw [hU]
  exact hS.2.1 a h1 h2
theorem zgood {m : Nat} (hm : zmok m = true) : Cond.code (zY m) (zB m) (zL m) (zRt m) ∈ zG := by
  simp only [zmok, Bool.and_eq_true, decide_eq_true_eq] at hm
  exact zG_in hm.1.1.1.1 rfl
theorem zGood {m : Nat} (hm : zmok m = true) : GoodIn zG (zwY m) := by
  intro w hw
  rcases List.mem_cons.mp hw with rfl | hw
  · exact ⟨zgood hm, good_of_word rfl⟩
  · exact ⟨hw, good_of_word (zG_good hw)⟩
theorem zmok_ini {m : Nat} (hm : zmok m = true) : Cond.initialized (zY m).cls ∈ zG ∧ ((zY m).cls ≠ "java/lang/invoke/MethodHandle" ∧ (zY m).cls ≠ "java/lang/invoke/VarHandle") := by
  simp only [zmok, Bool.and_eq_true, decide_eq_true_eq] at hm
  exact ⟨zG_in hm.1.1.1.2 rfl, hm.1.2⟩
theorem zmok_st {m : Nat} (hm : zmok m = true) (hk : zKi m = 0) : Cond.static (zY m) ∈ zG := by
  simp only [zmok, hk, Bool.and_eq_true, decide_eq_true_eq] at hm
  exact zG_in hm.2 rfl
theorem zmok_vi {m : Nat} (hm : zmok m = true) (hk : zKi m = 1) : Cond.instanceMethod (zY m) ∈ zG ∧ Cond.selects (zY m).cls (zY m) (zY m) ∈ zG := by
  simp only [zmok, hk, Bool.and_eq_true, decide_eq_true_eq] at hm
  exact ⟨zG_in hm.2.1 rfl, zG_in hm.2.2 rfl⟩
theorem zmok_in {m : Nat} (hm : zmok m = true) (hk : zKi m = 2) : Cond.instanceMethod (zY m) ∈ zG ∧ (zY m).name = "<init>" ∧ zRt m = none := by
  simp only [zmok, hk, Bool.and_eq_true, decide_eq_true_eq] at hm
  exact ⟨zG_in hm.2.1.1 rfl, hm.2.1.2, hm.2.2⟩
theorem zmok_pl {m : Nat} (hm : zmok m = true) : plainFor (zY m) = true := by
  simp only [zmok, Bool.and_eq_true] at hm
  exact hm.1.1.2
theorem zGoodS {m idx : Nat} {own : String} (hm : zmok m = true) (hk : zKi m = 0) (hl : Cond.methodLink own idx (zY m) ∈ zG) : GoodIn zG (va_wsS own idx (zY m) (zwY m)) := by
  intro w hw
  unfold va_wsS at hw
  rcases List.mem_append.mp hw with hw | hw
  · simp only [List.mem_cons, List.not_mem_nil, or_false] at hw
    rcases hw with rfl | rfl | rfl
    · exact ⟨hl, good_of_word rfl⟩
    · exact ⟨zmok_st hm hk, good_of_word rfl⟩
    · exact ⟨(zmok_ini hm).1, good_of_word rfl⟩
  · exact zGood hm w hw
theorem zGoodV {m idx : Nat} {own : String} (hm : zmok m = true) (hk : zKi m = 1) (hl : Cond.methodLink own idx (zY m) ∈ zG) : GoodIn zG (wsV own idx (zY m).cls (zY m) (zwY m)) := by
  intro w hw
  unfold wsV at hw
  rcases List.mem_append.mp hw with hw | hw
  · simp only [List.mem_cons, List.not_mem_nil, or_false] at hw
    rcases hw with rfl | rfl | rfl | rfl
    · exact ⟨hl, good_of_word rfl⟩
    · exact ⟨(zmok_vi hm hk).1, good_of_word rfl⟩
    · exact ⟨(zmok_vi hm hk).2, good_of_word rfl⟩
    · exact ⟨(zmok_ini hm).1, good_of_word rfl⟩
  · exact zGood hm w hw
section ZC2
variable {p : Program} {l : Launch} {e : Env} {R : Room} {s : State} {m : MethodId} {args : Array Value} {below : List Frame} {meth : Method} {c : Code} {H : Heap} {locs : List Loc} {cells slots : Nat} {Q : State → Prop}
theorem zW_call {G : zg} {r : Option Value} {h' : zH} {a : Array Value} {pc mc ms : Nat} {ls : Array Slot} {st0 rest : List Value} (hr : va_Run p l e R s m args below meth c H locs cells slots mc ms (F0 m pc ls st0) rest (zQc G r h' a) (zAf G)) (hS : va_S (zAf G) s.heap H locs) (kk : ∀ (H1 : Heap) (locs1 : List Loc), zWd G h' H1 → va_S (zAf G) s.heap H1 locs1 → W p l e R s m args below meth c H1 locs1 (cells + mc) (slots + ms) Q (F0 m (pc + 3) ls (r.toList ++ rest))) : W p l e R s m args below meth c H locs cells slots Q (F0 m pc ls st0) := by
  intro T hT X
  obtain ⟨v, st₀, t, T', L, h0, X', hL, e1, e2, ⟨hv, hw, hz, hk⟩, st⟩ := hr T hT X
  cases hv
  rw [h0] at hz hk
  obtain ⟨t2, a1, b1⟩ := kk T'.heap (locs ++ L) (by rw [e1]; exact hw)
    ⟨Nat.le_trans hS.1 (by rw [e1]; exact hz), fun q h1 h2 => by rw [e1, hk q (Nat.lt_of_lt_of_le h1 hS.1) h2]; exact hS.2.1 q h1 h2, fun q hq => by
      rcases List.mem_append.mp hq with h | h
      · exact hS.2.2 q h
      · exact hL q h⟩ T' rfl X'
  exact ⟨t2, st t2 a1, b1⟩
end ZC2
theorem d36_0 : decode (zB 36) 0 = .ok (.aload_n 0, 1) := by decide +kernel
theorem d36_1 : decode (zB 36) 1 = .ok (.iload_n 1, 1) := by decide +kernel
theorem d36_2 : decode (zB 36) 2 = .ok (.aload_n 0, 1) := by decide +kernel
theorem d36_3 : decode (zB 36) 3 = .ok (.invokevirtual 86, 3) := by decide +kernel
theorem d36_6 : decode (zB 36) 6 = .ok (.invokestatic 300, 3) := by decide +kernel
theorem d36_9 : decode (zB 36) 9 = .ok (.areturn, 1) := by decide +kernel
theorem d37_0 : decode (zB 37) 0 = .ok (.aload_n 2, 1) := by decide +kernel
theorem d37_1 : decode (zB 37) 1 = .ok (.ldc 110, 2) := by decide +kernel
theorem d37_3 : decode (zB 37) 3 = .ok (.if_acmp .ne 10, 3) := by decide +kernel
theorem d37_6 : decode (zB 37) 6 = .ok (.iload_n 1, 1) := by decide +kernel
theorem d37_7 : decode (zB 37) 7 = .ok (.anewarray 2, 3) := by decide +kernel
theorem d37_10 : decode (zB 37) 10 = .ok (.goto 14, 3) := by decide +kernel
theorem d37_24 : decode (zB 37) 24 = .ok (.astore_n 3, 1) := by decide +kernel
theorem d37_25 : decode (zB 37) 25 = .ok (.aload_n 0, 1) := by decide +kernel
theorem d37_26 : decode (zB 37) 26 = .ok (.iconst 0, 1) := by decide +kernel
theorem d37_27 : decode (zB 37) 27 = .ok (.aload_n 3, 1) := by decide +kernel
theorem d37_28 : decode (zB 37) 28 = .ok (.iconst 0, 1) := by decide +kernel
theorem d37_29 : decode (zB 37) 29 = .ok (.aload_n 0, 1) := by decide +kernel
theorem d37_30 : decode (zB 37) 30 = .ok (.arraylength, 1) := by decide +kernel
theorem d37_31 : decode (zB 37) 31 = .ok (.iload_n 1, 1) := by decide +kernel
theorem d37_32 : decode (zB 37) 32 = .ok (.invokestatic 304, 3) := by decide +kernel
theorem d37_35 : decode (zB 37) 35 = .ok (.invokestatic 150, 3) := by decide +kernel
theorem d37_38 : decode (zB 37) 38 = .ok (.aload_n 3, 1) := by decide +kernel
theorem d37_39 : decode (zB 37) 39 = .ok (.areturn, 1) := by decide +kernel
theorem zg_lk : Cond.methodLink "java/util/Arrays" 86 ⟨"java/lang/Object", "getClass", "()Ljava/lang/Class;"⟩ ∈ zG := zG_in (i := 417) (by decide +kernel) rfl
theorem zg_in : Cond.instanceMethod ⟨"java/lang/Object", "getClass", "()Ljava/lang/Class;"⟩ ∈ zG := zG_in (i := 418) (by decide +kernel) rfl
theorem zg_na : Cond.native ⟨"java/lang/Object", "getClass", "()Ljava/lang/Class;"⟩ ∈ zG := zG_in (i := 430) (by decide +kernel) rfl
theorem zg_se : Cond.selects "[Ljava/lang/Object;" ⟨"java/lang/Object", "getClass", "()Ljava/lang/Class;"⟩ ⟨"java/lang/Object", "getClass", "()Ljava/lang/Class;"⟩ ∈ zG := zG_in (i := 1126) (by decide +kernel) rfl
theorem zc_lk : Cond.methodLink "java/util/Arrays" 300 (zY 37) ∈ zG := zG_in (i := 431) (by decide +kernel) rfl
theorem zc_kl : Cond.classLink "java/util/Arrays" 110 "[Ljava/lang/Object;" ∈ zG := zG_in (i := 434) (by decide +kernel) rfl
theorem zc_ko : Cond.classLink "java/util/Arrays" 2 "java/lang/Object" ∈ zG := zG_in (i := 436) (by decide +kernel) rfl
theorem zc_mn : Cond.methodLink "java/util/Arrays" 304 Lib.Math.min.name ∈ zG := zG_in (i := 437) (by decide +kernel) rfl
theorem zc_ms : Cond.static Lib.Math.min.name ∈ zG := zG_in (i := 438) (by decide +kernel) rfl
theorem zc_mi : Cond.initialized "java/lang/Math" ∈ zG := zG_in (i := 60) (by decide +kernel) rfl
theorem zc_mc : Cond.code Lib.Math.min.name Lib.Math.min.code 2 (some .int) ∈ zG := zG_in (i := 439) (by decide +kernel) rfl
theorem zc_ac : Cond.methodLink "java/util/Arrays" 150 arraycopyName ∈ zG := zG_in (i := 440) (by decide +kernel) rfl
theorem zm37 : zmok 37 = true := by decide +kernel
theorem zm36 : zmok 36 = true := by decide +kernel
theorem zy37 : (zY 37).cls = "java/util/Arrays" ∧ zL 37 = 4 ∧ (zY 36).cls = "java/util/Arrays" ∧ zL 36 = 2 ∧ zRt 37 = some (.array (.object "java/lang/Object")) ∧ zRt 36 = some (.array (.object "java/lang/Object")) ∧ zFr 36 = 2 ∧ zLo 36 = 52 := by decide +kernel
def zh36 (h : zH) (a : Nat) (n : Int32) : zH := zcy (znw h 103 n.toNatClampNeg) a (zn h) 0 0 (zk h a).2
set_option maxHeartbeats 4000000 in
theorem zM37 (l : Launch) (G : zg) {h : zH} {a : Nat} {n : Int32} (ha : 8 ≤ a ∧ a < zn h ∧ (zk h a).1 = 103) (hn : ¬ n < 0) (hn2 : n.toNatClampNeg ≤ 100000) (hle : (zk h a).2 ≤ n.toNatClampNeg) (hel : ∀ i, i < (zk h a).2 → ((zr h a i).all fun y => decide (zob h y)) = true) :
    Met l (zY 37) (zwY 37) { frames := 1, cells := 1, slots := n.toNatClampNeg, locals := 26 } (zPc G [zxr G (some a), .int n, .ref G.2.2.2.2.1] h) (zQc G (some (zxr G (some (zn h)))) (zh36 h a n)) 1 n.toNatClampNeg (zAf G) := by
  refine va_MetF (cc := zB 37) (maxL := zL 37) (ret := zRt 37) (by decide +kernel) rfl ?_
  intro p e s m args below meth c s₁ B hml hv
  obtain ⟨rfl, hT, hst, hW⟩ := hv
  have hx := B.exec
  have hb := B.bytes
  have hr := B.returns
  have hlocks := B.notSynchronized
  have hts0 := atoms_spec (ws := zwY 37) B.pre
  have hts : ∀ w ∈ zG, w.before [zxr G (some a), .int n, .ref G.2.2.2.2.1].toArray s = true := fun w hw => hts0 w (List.mem_cons_of_mem _ hw)
  have hown : s.vm.findClass (zY 37).cls = some m.cls := findClass_of_methodNamed B.named
  have hS : va_S (zAf G) s.heap s.heap [] := va_S.rf
  have C : zCx G 37 p { frames := 1, cells := 1, slots := n.toNatClampNeg, locals := 26 } s m [zxr G (some a), .int n, .ref G.2.2.2.2.1].toArray meth c := ⟨hx, hb, hml, hown, hts, (show zFr 37 ≤ 1 by decide +kernel), (show zLo 37 ≤ 26 by decide +kernel), hT, hst, (name_of_methodNamed B.named B.method).1⟩
  rw [zy37.1] at hown
  have hl := lv_entry ([zxr G (some a), .int n, .ref G.2.2.2.2.1]) (n := zL 37) (by rw [zy37.2.1]; exact Nat.le_of_ble_eq_true rfl)
  rw [lg_entry_eq]
  generalize (lg_sl ([zxr G (some a), .int n, .ref G.2.2.2.2.1]) ++ List.replicate (zL 37 - (lg_sl ([zxr G (some a), .int n, .ref G.2.2.2.2.1])).length) Slot.unset).toArray = ls at hl ⊢
  rw [zy37.2.1] at hl
  have hl : lv_has ls 4 [(0, zxr G (some a)), (1, .int n), (2, .ref G.2.2.2.2.1)] := hl
  refine lv_aload_n hx hb d37_0 rfl (lv_at hl 2 rfl) ?_
  refine va_ldcM hx hb hown (hts _ zc_kl) hT.2.2.2.1 d37_1 ?_
  refine lv_acmp_ne (rx := some G.2.2.2.2.1) (ry := some G.2.2.2.2.1) (tgt := 13) hx hb d37_3 (by decide) (fun q => absurd rfl q) (fun _ => ?_)
  refine lv_iload_n hx hb d37_6 rfl (lv_at hl 1 rfl) ?_
  refine zW_anew C hW hS (by rw [zy37.1]; exact zc_ko) hn hn2 (Nat.le_refl 1) (show 0 + n.toNatClampNeg ≤ n.toNatClampNeg by omega) d37_7 (fun H1 hW1 hS1 => ?_)
  refine lv_goto (tgt := 24) hx hb d37_10 (by decide) ?_
  refine lv_astore_n (lv' := [(3, zxr G (some (zn h))), (0, zxr G (some a)), (1, .int n), (2, .ref G.2.2.2.2.1)]) hx hb d37_24 rfl hl (by decide) rfl (fun ls hl => ?_)
  refine lv_aload_n hx hb d37_25 rfl (lv_at hl 1 rfl) ?_
  refine lv_iconst (v := 0) hx hb d37_26 (by decide) ?_
  refine lv_aload_n hx hb d37_27 rfl (lv_at hl 0 rfl) ?_
  refine lv_iconst (v := 0) hx hb d37_28 (by decide) ?_
  refine lv_aload_n hx hb d37_29 rfl (lv_at hl 1 rfl) ?_
  have hne : ¬ a = h.1 := Nat.ne_of_lt ha.2.1
  have eka : zk (znw h 103 n.toNatClampNeg) a = zk h a := if_neg hne
  have era : ∀ j, zr (znw h 103 n.toNatClampNeg) a j = zr h a j := fun j => if_neg hne
  have ekn : zk (znw h 103 n.toNatClampNeg) (zn h) = (103, n.toNatClampNeg) := if_pos rfl
  refine zW_alen C hW1 hS1 (Nat.lt_succ_of_lt ha.2.1) (by rw [eka, ha.2.2]; omega) d37_30 ?_
  rw [eka]
  refine lv_iload_n hx hb d37_31 rfl (lv_at hl 2 rfl) ?_
  refine va_mmin hx hb (hml.trans (by rw [zy37.2.1]; exact hl.1.symm)) hown (hts _ zc_mn) (hts _ zc_ms) (hts _ zc_mi) (hts _ zc_mc) (Nat.le_refl 1) (Nat.le_of_ble_eq_true rfl) (Nat.le_refl 1) (show 0 + n.toNatClampNeg ≤ n.toNatClampNeg by omega) d37_32 ?_
  have hc2 : (Int32.ofNat (zk h a).2).toNatClampNeg = (zk h a).2 := Int32.toNatClampNeg_ofNat_of_lt (by omega)
  have hlt : ¬ n < Int32.ofNat (zk h a).2 := by
    have h1 : (0 : Int) ≤ n.toInt := by simpa using Int32.le_iff_toInt_le.mp (Int32.not_lt.mp hn)
    have h2 : (Int32.ofNat (zk h a).2).toInt = ((zk h a).2 : Int) := Int32.toInt_ofNat_of_lt (by omega)
    rw [Int32.lt_iff_toInt_lt, h2]
    have h3 : n.toNatClampNeg = n.toInt.toNat := rfl
    omega
  rw [if_neg hlt]
  have hz0 : (0 : Int32).toNatClampNeg = 0 := by decide +kernel
  have hno : ∀ y, zob h y → zob (znw h 103 n.toNatClampNeg) y := by
    intro y hy
    have hy2 : ¬ y = h.1 := Nat.ne_of_lt hy.2.1
    have ek : zk (znw h 103 n.toNatClampNeg) y = zk h y := if_neg hy2
    exact ⟨hy.1, Nat.lt_succ_of_lt hy.2.1, by rw [ek]; exact hy.2.2⟩
  refine zW_acopy C hW1 hS1 (hml.trans (by rw [zy37.2.1]; exact hl.1.symm)) (by rw [zy37.1]; exact zc_ac) (a := a) (b := zn h) ⟨ha.1, Nat.lt_succ_of_lt ha.2.1, by rw [eka]; exact ha.2.2⟩ ⟨hW.1, Nat.lt_succ_self _, by rw [ekn]⟩ (by decide) (by decide) (by rw [Int32.lt_iff_toInt_lt, Int32.toInt_ofNat_of_lt (by omega)]; simp) (by rw [hz0, hc2, eka]; omega) (by rw [hz0, hc2, ekn]; show 0 + _ ≤ n.toNatClampNeg; omega) (fun i hi => ?_) (Nat.le_refl 1) (Nat.le_of_ble_eq_true rfl) d37_35 (fun H2 locs2 hW2 hS2 => ?_)
  · rw [hc2] at hi
    rw [hz0, Nat.zero_add, era]
    have := hel i hi
    cases hy : zr h a i with
    | none => rfl
    | some y =>
      rw [hy, Option.all_some, decide_eq_true_eq] at this
      rw [Option.all_some, decide_eq_true_eq]
      exact hno y this
  rw [hz0, hc2] at hW2
  refine lv_aload_n hx hb d37_38 rfl (lv_at hl 0 rfl) ?_
  refine W.cs (Nat.zero_add 1) (Nat.zero_add _) ?_
  exact W.aret (v := zxr G (some (zn h))) hx hb (hr.trans zy37.2.2.2.2.1) (Or.inr ⟨_, rfl⟩) (Or.inr ⟨zad G (zn h), rfl⟩) (fun t ht hWm => ⟨rfl, by rw [ht]; exact hW2, hS2.F ht⟩) hS2.2.2 d37_39


set_option maxHeartbeats 4000000 in
theorem zM36 (l : Launch) (G : zg) {h : zH} {a : Nat} {n : Int32} (ha : 8 ≤ a ∧ a < zn h ∧ (zk h a).1 = 103) (hn : ¬ n < 0) (hn2 : n.toNatClampNeg ≤ 100000) (hle : (zk h a).2 ≤ n.toNatClampNeg) (hel : ∀ i, i < (zk h a).2 → ((zr h a i).all fun y => decide (zob h y)) = true) :
    Met l (zY 36) (zwY 36) (zRm 36 1 n.toNatClampNeg) (zPc G [zxr G (some a), .int n] h) (zQc G (some (zxr G (some (zn h)))) (zh36 h a n)) 1 n.toNatClampNeg (zAf G) := by
  refine va_MetF (cc := zB 36) (maxL := zL 36) (ret := zRt 36) (by decide +kernel) rfl ?_
  intro p e s m args below meth c s₁ B hml hv
  obtain ⟨rfl, hT, hst, hW⟩ := hv
  have hx := B.exec
  have hb := B.bytes
  have hr := B.returns
  have hlocks := B.notSynchronized
  have hts0 := atoms_spec (ws := zwY 36) B.pre
  have hts : ∀ w ∈ zG, w.before [zxr G (some a), .int n].toArray s = true := fun w hw => hts0 w (List.mem_cons_of_mem _ hw)
  have hown : s.vm.findClass (zY 36).cls = some m.cls := findClass_of_methodNamed B.named
  have hS : va_S (zAf G) s.heap s.heap [] := va_S.rf
  rw [zy37.2.2.1] at hown
  have hl := lv_entry ([zxr G (some a), .int n]) (n := zL 36) (by rw [zy37.2.2.2.1]; exact Nat.le_of_ble_eq_true rfl)
  rw [lg_entry_eq]
  generalize (lg_sl ([zxr G (some a), .int n]) ++ List.replicate (zL 36 - (lg_sl ([zxr G (some a), .int n])).length) Slot.unset).toArray = ls at hl ⊢
  rw [zy37.2.2.2.1] at hl hml
  have hl : lv_has ls 2 [(0, zxr G (some a)), (1, .int n)] := hl
  have hfr : (headSpec (zwY 36) (zRm 36 1 n.toNatClampNeg)).room.frames = 2 := zy37.2.2.2.2.2.2.1
  have hlo : (headSpec (zwY 36) (zRm 36 1 n.toNatClampNeg)).room.locals = 52 := zy37.2.2.2.2.2.2.2
  refine lv_aload_n hx hb d36_0 rfl (lv_at hl 0 rfl) ?_
  refine lv_iload_n hx hb d36_1 rfl (lv_at hl 1 rfl) ?_
  refine lv_aload_n hx hb d36_2 rfl (lv_at hl 0 rfl) ?_
  have hrc : ∃ cell : Cell, s.heap[zad G a]? = some cell ∧ cell.vm.isStatics = false ∧ s.vm.findClass "[Ljava/lang/Object;" = some cell.cls :=
    ⟨_, (hW.2.2.1 a ha.1 ha.2.1).refs ha.2.2, rfl, va_nmO (hT.2.1 103 (by omega) (by omega)).2 (by decide +kernel)⟩
  refine va_getC hx hb (hml.trans hl.1.symm) hown (hts _ zg_lk) (va_Dc.use hT.2.2.2.2.1) (hts _ zg_se) (hts _ zg_in) (hts _ zg_na) hT.2.2.2.1 hrc (by rw [hfr]; omega) (by rw [hlo]; exact Nat.le_of_ble_eq_true rfl) d36_3 ?_
  refine zW_call (va_runS (As := [zxr G (some a), .int n, .ref G.2.2.2.2.1]) (rest := []) ⟨hx, hb, hml, hown, hts⟩ (zM37 l G ha hn hn2 hle hel) (va_cwS 3 hts (zGoodS zm37 (by decide +kernel) zc_lk) rfl rfl rfl (by decide +kernel) ⟨by rw [hfr]; exact Nat.le_refl 2, by rw [hlo, zy37.2.1]; exact Nat.le_of_ble_eq_true rfl⟩) ⟨zblind _ _ _, zpre hT hst hS hW⟩ rfl rfl hl.1 rfl (lv_room (Nat.le_of_ble_eq_true rfl)) d36_6 ⟨Nat.le_refl 1, show 0 + n.toNatClampNeg ≤ n.toNatClampNeg by omega⟩) hS (fun H1 locs1 hW1 hS1 => ?_)
  refine W.cs (Nat.zero_add 1) (Nat.zero_add _) ?_
  exact W.aret (v := zxr G (some (zn h))) hx hb (hr.trans zy37.2.2.2.2.2.1) (Or.inr ⟨_, rfl⟩) (Or.inr ⟨zad G (zn h), rfl⟩) (fun t ht hWm => ⟨rfl, by rw [ht]; exact hW1, hS1.F ht⟩) hS1.2.2 d36_9
end
section
/-! calls, by a contract of the callee over the small heap -/
section ZR
variable {p : Program} {l : Launch} {e : Env} {R : Room} {s : State} {m : MethodId} {args : Array Value} {below : List Frame} {meth : Method} {c : Code} {H : Heap} {locs : List Loc} {cells slots : Nat} {Q : State → Prop}
variable {G : zg} {k : Nat} {h : zH} {ls : Array Slot} {pc : Nat} {rest : List Value} {mc ms a b idx pos : Nat} {n : Int} {Qc : Array Value → State → Outcome → State → Prop} {As : List Value}
theorem zrok_all (hr : zrok k a b = true) : zmok a = true ∧ zFr a + 1 ≤ zFr k ∧ 8 + (zL a + 11) + zLo a ≤ zLo k ∧ (parseMethodDescriptor (zY a).desc).map (fun d => d.parameters.length) = some b := by
  simp only [zrok, Bool.and_eq_true, decide_eq_true_eq] at hr
  exact ⟨hr.1.1.1, hr.1.1.2, hr.1.2, hr.2⟩
theorem zlk_nest (C : zCx G k p R s m args meth c) (hlk : zlk k idx a pos n = true) : Cond.methodLink (zY k).cls idx (zY a) ∈ zG ∨ va_Nw (.methodLinkNest (zY k).cls idx (zY a) "PaperTown") s := by
  obtain ⟨-, -, -, -, -, -, -, hT, -, -⟩ := C
  unfold zlk at hlk
  split at hlk
  · rw [decide_eq_true_eq] at hlk
    exact Or.inr (hT.2.2.2.2.2.1 _ (List.mem_of_getElem? hlk) rfl)
  · rw [decide_eq_true_eq] at hlk
    exact Or.inl (zG_in hlk rfl)
theorem zrunS (C : zCx G k p R s m args meth c) (hS : va_S (zAf G) s.heap H locs) (hW : zWd G h H) (hr : zrok k a b = true) (hk : zKi a = 0) (hlk : zlk k idx a pos n = true) (hM : Met l (zY a) (zwY a) (zRm a mc ms) (zPc G As h) Qc mc ms (zAf G)) (hn : As.length = b) (hsz : ls.size = zL k) (hcs : (rest.map fun v => v.category).sum ≤ 8) (hd : decode (zB k) pc = .ok (.invokestatic idx, 3)) (hf : cells + mc ≤ R.cells ∧ slots + ms ≤ R.slots) : va_Run p l e R s m args below meth c H locs cells slots mc ms (F0 m pc ls (As.reverse ++ rest)) rest (Qc As.toArray) (zAf G) := by
  obtain ⟨r1, r2, r3, r4⟩ := zrok_all hr
  have hl2 := zlk_nest C hlk
  obtain ⟨hx, hb, hml, hown, hts, hfr, hlo, hT, hst, -⟩ := C
  rcases hl2 with hl | hl
  · exact va_runS (Ts := zG) ⟨hx, hb, hml, hown, hts⟩ hM (va_cwS b hts (zGoodS r1 hk hl) rfl rfl rfl ⟨(zmok_ini r1).2.1, (zmok_ini r1).2.2, r4⟩ ⟨Nat.le_trans r2 hfr, Nat.le_trans r3 hlo⟩) ⟨zblind _ _ _, zpre hT hst hS hW⟩ rfl hn hsz rfl (lv_room hcs) hd hf
  · exact va_runSN (Ts := zG) ⟨hx, hb, hml, hown, hts⟩ hM ⟨va_cnB b hts (zGood r1) rfl rfl rfl hl (hts _ (zmok_ini r1).1) ⟨(zmok_ini r1).2.1, (zmok_ini r1).2.2, r4⟩ ⟨Nat.le_trans r2 hfr, Nat.le_trans r3 hlo⟩, hts _ (zmok_st r1 hk), trivial⟩ ⟨zblind _ _ _, zpre hT hst hS hW⟩ rfl hn hsz rfl (lv_room hcs) hd hf
theorem zrunI (C : zCx G k p R s m args meth c) (hS : va_S (zAf G) s.heap H locs) (hW : zWd G h H) (hr : zrok k a b = true) (hk : zKi a = 2) (hlk : zlk k idx a pos n = true) {o : Nat} (hM : Met l (zY a) (zwY a) (zRm a mc ms) (zPc G (.ref o :: As) h) Qc mc ms (zAf G)) (hn : As.length = b) (hsz : ls.size = zL k) (hcs : (rest.map fun v => v.category).sum ≤ 8) (hd : decode (zB k) pc = .ok (.invokespecial idx, 3)) (hf : cells + mc ≤ R.cells ∧ slots + ms ≤ R.slots) : va_Run p l e R s m args below meth c H locs cells slots mc ms (F0 m pc ls (As.reverse ++ .ref o :: rest)) rest (Qc (Value.ref o :: As).toArray) (zAf G) := by
  obtain ⟨r1, r2, r3, r4⟩ := zrok_all hr
  have hl2 := zlk_nest C hlk
  obtain ⟨hx, hb, hml, hown, hts, hfr, hlo, hT, hst, -⟩ := C
  obtain ⟨i1, i2, i3⟩ := zmok_in r1 hk
  have ews : zwY a = Cond.code (zY a) (zB a) (zL a) none :: zG := by rw [← i3]; rfl
  rcases hl2 with hl | hl
  · exact va_runI (Ts := zG) ⟨hx, hb, hml, hown, hts⟩ hM (cwI b hts (zGood r1) ews rfl rfl (hts _ (zmok_ini r1).1) (hts _ hl) (hts _ i1) i2 ⟨(zmok_ini r1).2.1, (zmok_ini r1).2.2, r4⟩ ⟨Nat.le_trans r2 hfr, Nat.le_trans r3 hlo⟩) ⟨zblind _ _ _, zpre hT hst hS hW⟩ rfl hn hsz rfl (lv_room hcs) hd hf
  · exact va_runIN (Ts := zG) ⟨hx, hb, hml, hown, hts⟩ hM ⟨va_cnB b hts (zGood r1) ews rfl rfl hl (hts _ (zmok_ini r1).1) ⟨(zmok_ini r1).2.1, (zmok_ini r1).2.2, r4⟩ ⟨Nat.le_trans r2 hfr, Nat.le_trans r3 hlo⟩, i2, hts _ i1⟩ ⟨zblind _ _ _, zpre hT hst hS hW⟩ rfl hn hsz rfl (lv_room hcs) hd hf
theorem zrunV (C : zCx G k p R s m args meth c) (hS : va_S (zAf G) s.heap H locs) (hW : zWd G h H) (hr : zrok k a b = true) (hk : zKi a = 1) (hlk : Cond.methodLink (zY k).cls idx (zY a) ∈ zG) {o : Nat} (ho : 8 ≤ o ∧ o < zn h ∧ (zk h o).1 = zcn a) (hM : Met l (zY a) (zwY a) (zRm a mc ms) (zPc G (.ref (zad G o) :: As) h) Qc mc ms (zAf G)) (hn : As.length = b) (hsz : ls.size = zL k) (hcs : (rest.map fun v => v.category).sum ≤ 8) (hd : decode (zB k) pc = .ok (.invokevirtual idx, 3)) (hf : cells + mc ≤ R.cells ∧ slots + ms ≤ R.slots) : va_Run p l e R s m args below meth c H locs cells slots mc ms (F0 m pc ls (As.reverse ++ .ref (zad G o) :: rest)) rest (Qc (Value.ref (zad G o) :: As).toArray) (zAf G) := by
  obtain ⟨r1, r2, r3, r4⟩ := zrok_all hr
  obtain ⟨hx, hb, hml, hown, hts, hfr, hlo, hT, hst, -⟩ := C
  obtain ⟨c1, c2⟩ := zcn_ok (zKi_lt hk) hk
  obtain ⟨-, cell, q1, q2, q3, -⟩ := (hW.2.2.1 o ho.1 ho.2.1).obj ho.2.2 c1
  have hcls : s.vm.findClass (zY a).cls = some cell.cls := by rw [← c2, q2]; exact (hT.1 _ c1).2.1
  exact va_runV (Ts := zG) ⟨hx, hb, hml, hown, hts⟩ hM (cwV b hts (zGoodV r1 hk hlk) rfl rfl rfl ⟨rfl, (zmok_ini r1).2.1, (zmok_ini r1).2.2, r4⟩ ⟨Nat.le_trans r2 hfr, Nat.le_trans r3 hlo⟩) ⟨zblind _ _ _, ⟨cell, q1, by rw [q3]; rfl, hcls⟩, zpre hT hst hS hW⟩ rfl hn hsz rfl (lv_room hcs) hd hf
end ZR
theorem zce.mkobj {G : zg} {h : zH} {H : Heap} {a t : Nat} (ht : (zk h a).1 = t) (h10 : t < 10) (hlen : (zk h a).2 = (zcl t).2.2) (hob : t_OB (zad G a) (G.2.2.1.1 t) (zcl t).2.2 (G.2.2.1.2 t) H (zfv G h a t)) : zce G h H a := by
  subst ht
  exact Or.inl ⟨h10, hlen, by rw [hlen]; exact hob⟩
end
section
theorem zchk_st {k pc idx len a b pos : Nat} {n : Int} (h : zchk k (pc, .invokestatic idx, len, a, b, pos, n) = true) (h1 : ¬ a = 1000) : zrok k a b = true ∧ zKi a = 0 ∧ zlk k idx a pos n = true := by
  simp only [zchk, if_neg h1, Bool.and_eq_true, decide_eq_true_eq] at h
  exact ⟨h.2.1.1, h.2.1.2, h.2.2⟩
theorem zchk_ac {k pc idx len a b pos : Nat} {n : Int} (h : zchk k (pc, .invokestatic idx, len, a, b, pos, n) = true) (h1 : a = 1000) : lw_tbl[pos]? = some (.methodLink (zY k).cls idx arraycopyName) ∧ 1 ≤ zFr k ∧ 26 ≤ zLo k := by
  simp only [zchk, if_pos h1, Bool.and_eq_true, decide_eq_true_eq] at h
  exact ⟨h.2.1.1, h.2.1.2, h.2.2⟩
theorem zchk_sp {k pc idx len a b pos : Nat} {n : Int} (h : zchk k (pc, .invokespecial idx, len, a, b, pos, n) = true) (h1 : ¬ a = 1) : zrok k a b = true ∧ zKi a = 2 ∧ zlk k idx a pos n = true := by
  simp only [zchk, if_neg h1, Bool.and_eq_true, decide_eq_true_eq] at h
  exact ⟨h.2.1.1, h.2.1.2, h.2.2⟩
theorem zchk_vi {k pc idx len a b pos : Nat} {n : Int} (h : zchk k (pc, .invokevirtual idx, len, a, b, pos, n) = true) : zrok k a b = true ∧ zKi a = 1 ∧ Cond.methodLink (zY k).cls idx (zY a) ∈ zG := by
  simp only [zchk, Bool.and_eq_true, decide_eq_true_eq] at h
  obtain ⟨-, ⟨⟨h1, h2⟩, h3⟩, h4⟩ := h
  unfold zlk at h3
  rw [if_neg (by rw [h4]; decide), decide_eq_true_eq] at h3
  exact ⟨h1, h2, zG_in h3 rfl⟩
section ZS5
variable {p : Program} {l : Launch} {e : Env} {R : Room} {s : State} {m : MethodId} {args : Array Value} {below : List Frame} {meth : Method} {c : Code} {H : Heap} {locs : List Loc} {cells slots : Nat} {Q : State → Prop}
variable {G : zg} {k : Nat}
theorem zac_sound (C : zCx G k p R s m args meth c) {h h' : zH} (hW : zWd G h H) (hS : va_S (zAf G) s.heap H locs) {pc idx : Nat} {r1 : Nat × Nat × Nat × Nat × Int} (hc : zcod k pc = some (.invokestatic idx, r1)) {pos : Nat} (hck : lw_tbl[pos]? = some (.methodLink (zY k).cls idx arraycopyName) ∧ 1 ≤ zFr k ∧ 26 ≤ zLo k) {al al' : zLs} {st st' : List zV} {pc' : Nat} {x dp sp : Int32} {r q : Option Nat} (hp : zcM h r sp q dp x (fun h => some (pc + 3, al, st, h)) = some (pc', al', st', h')) (hcs : zcs st ≤ 8) {ls : Array Slot} (hsz : ls.size = zL k)
    (kk : al' = al → zn h' = zn h → zs h' = zs h → ∀ (H1 : Heap) (locs1 : List Loc), zWd G h' H1 → va_S (zAf G) s.heap H1 locs1 → W p l e R s m args below meth c H1 locs1 cells slots Q (F0 m pc' ls (st'.map (zxv G)))) : W p l e R s m args below meth c H locs cells slots Q (F0 m pc ls (.int x :: .int dp :: zxr G q :: .int sp :: zxr G r :: st.map (zxv G))) := by
  obtain ⟨hx, hb, hml, hown, hts, hfr, hlo, hT, hst, -⟩ := id C
  unfold zcM at hp
  split at hp
  · rename_i a1 b1
    split at hp
    · rename_i hok
      simp only [Option.some.injEq, Prod.mk.injEq] at hp
      obtain ⟨rfl, rfl, rfl, rfl⟩ := hp
      obtain ⟨k1, k2, k3, k4, k5, k6, k7, k8, k9, k10, k11, k12⟩ := hok
      refine zW_acopy C hW hS (hml.trans hsz.symm) (zG_in hck.1 rfl) ⟨k1, k2, k5⟩ ⟨k3, k4, k6⟩ k7 k8 k9 k10 k11 k12 (Nat.le_trans hck.2.1 hfr) ?_ (zcod_dec hc (by simp [zlen])) (kk rfl rfl rfl)
      rw [zcs_cat]
      have := hck.2.2
      omega
    · cases hp
  · cases hp
theorem zh36_n (h : zH) (a : Nat) (x : Int32) : zn (zh36 h a x) = zn h + 1 ∧ zs (zh36 h a x) = zs h + x.toNatClampNeg := ⟨rfl, rfl⟩
theorem zp36 : (parseMethodDescriptor (zY 36).desc).map (fun d => d.parameters.length) = some 2 := by decide +kernel
theorem zco_sound (C : zCx G k p R s m args meth c) {h : zH} (hW : zWd G h H) (hS : va_S (zAf G) s.heap H locs) {pc idx b pos : Nat} {n : Int} {r1 : Nat × Nat × Nat × Nat × Int} (hc : zcod k pc = some (.invokestatic idx, r1)) (hck : zrok k 36 b = true ∧ zKi 36 = 0 ∧ zlk k idx 36 pos n = true) {st : List zV} {x : Int32} {a1 : Nat} (hok : 8 ≤ a1 ∧ a1 < zn h ∧ (zk h a1).1 = 103 ∧ ¬ x < 0 ∧ x.toNatClampNeg ≤ 100000 ∧ (zk h a1).2 ≤ x.toNatClampNeg ∧ (∀ i, i < (zk h a1).2 → ((zr h a1 i).all fun y => decide (zob h y)) = true)) (hcs : zcs st ≤ 8) {ls : Array Slot} (hsz : ls.size = zL k) (hroom : cells + 1 ≤ R.cells ∧ slots + x.toNatClampNeg ≤ R.slots)
    (kk : ∀ (H1 : Heap) (locs1 : List Loc), zWd G (zh36 h a1 x) H1 → va_S (zAf G) s.heap H1 locs1 → W p l e R s m args below meth c H1 locs1 (cells + 1) (slots + x.toNatClampNeg) Q (F0 m (pc + 3) ls (zxr G (some (zn h)) :: st.map (zxv G)))) : W p l e R s m args below meth c H locs cells slots Q (F0 m pc ls (.int x :: zxr G (some a1) :: st.map (zxv G))) := by
  obtain ⟨k1, k2, k3, k4, k5, k6, k7⟩ := hok
  have hb2 : b = 2 := by
    have := (zrok_all hck.1).2.2.2
    rw [zp36] at this
    exact (Option.some.inj this).symm
  have hM := zM36 l G ⟨k1, k2, k3⟩ k4 k5 k6 k7
  have hrun := zrunS (p := p) (l := l) (e := e) (below := below) (cells := cells) (slots := slots) (rest := st.map (zxv G)) C hS hW hck.1 hck.2.1 hck.2.2 hM (by rw [hb2]; rfl) hsz (by rw [zcs_cat]; exact hcs) (zcod_dec hc (by simp [zlen])) hroom
  exact zW_call hrun hS kk
end ZS5
section ZS4
variable {p : Program} {l : Launch} {e : Env} {R : Room} {s : State} {m : MethodId} {args : Array Value} {below : List Frame} {meth : Method} {c : Code} {H : Heap} {locs : List Loc} {cells slots : Nat} {Q : State → Prop}
variable {G : zg} {k : Nat}
set_option maxHeartbeats 8000000 in
theorem zh1_sound (C : zCx G k p R s m args meth c) {h h' : zH} (hW : zWd G h H) (hS : va_S (zAf G) s.heap H locs) {pc : Nat} {i : Instr} {len a b pos : Nat} {n : Int} (hc : zcod k pc = some (i, len, a, b, pos, n)) {al al' : zLs} {st st' : List zV} {pc' : Nat} (hp : zh1 i a b pc al st h = some (pc', al', st', h')) {ls : Array Slot} (hsz : ls.size = zL k) (hroom : cells + (zn h' - zn h) ≤ R.cells ∧ slots + (zs h' - zs h) ≤ R.slots)
    (kk : al' = al → zn h ≤ zn h' → zs h ≤ zs h' → ∀ (H1 : Heap) (locs1 : List Loc), zWd G h' H1 → va_S (zAf G) s.heap H1 locs1 → W p l e R s m args below meth c H1 locs1 (cells + (zn h' - zn h)) (slots + (zs h' - zs h)) Q (F0 m pc' ls (st'.map (zxv G)))) : W p l e R s m args below meth c H locs cells slots Q (F0 m pc ls (st.map (zxv G))) := by
  obtain ⟨hx, hb, hml, hown, hts, hfr, hlo, hT, hst, -⟩ := id C
  have hck := zcod_chk hc
  have nz : ∀ x : Nat, cells = cells + (x - x) := fun x => by omega
  have sz : ∀ x : Nat, slots = slots + (x - x) := fun x => by omega
  cases i with
  | getfield idx =>
    simp only [zchk, Bool.and_eq_true, decide_eq_true_eq] at hck
    simp only [zh1] at hp
    split at hp
    · rename_i r st1
      split at hp
      · rename_i hft
        cases r with
        | none => simp [zgR] at hp
        | some a1 =>
          simp only [zgR] at hp
          split at hp
          · rename_i hok
            cases hp
            refine zW_get C hW hok hck.2 (zcod_dec hc (by simp [zlen])) ?_
            have e1 : zfv G h a1 a b = zxr G (zr h a1 b) := by simp [zfv, hft]
            rw [e1]
            exact W.cs (nz (zn h)) (sz (zs h)) (kk rfl (Nat.le_refl _) (Nat.le_refl _) H locs hW hS)
          · cases hp
      · rename_i hft
        cases r with
        | none => simp [zgI] at hp
        | some a1 =>
          simp only [zgI] at hp
          split at hp
          · rename_i hok
            cases hp
            refine zW_get C hW hok hck.2 (zcod_dec hc (by simp [zlen])) ?_
            have e1 : zfv G h a1 a b = .int (zi h a1 b) := by simp [zfv, hft]
            rw [e1]
            exact W.cs (nz (zn h)) (sz (zs h)) (kk rfl (Nat.le_refl _) (Nat.le_refl _) H locs hW hS)
          · cases hp
    · cases hp
  | putfield idx =>
    simp only [zchk, Bool.and_eq_true, decide_eq_true_eq, Bool.or_eq_true, Bool.not_eq_true'] at hck
    have hfin : ((zcl a).2.1 b).2.2.2 = true → (zY k).name = "<init>" ∧ ((zcl a).2.1 b).1 = (zY k).cls := by
      intro hf
      rcases hck.2.2 with q | q
      · rw [q] at hf; cases hf
      · exact q
    have h10 : a < 10 ∧ b < (zcl a).2.2 := ⟨(zlink hts hck.2.1).1, (zlink hts hck.2.1).2.1⟩
    simp only [zh1] at hp
    split at hp
    · rename_i x r st1
      split at hp
      · rename_i hft
        cases r with
        | none => simp [zpI] at hp
        | some a1 =>
          simp only [zpI] at hp
          split at hp
          · rename_i hok
            cases hp
            have hob := (hW.2.2.1 a1 hok.1 hok.2.1).obj hok.2.2.1 h10.1
            refine zW_put C hW hS hok hck.2.1 hfin (zcod_dec hc (by simp [zlen])) (v := .int x) (by rw [zft_int hft]; rfl) (by rw [zft_int hft]; rfl) (fun H1 locs1 t1 z1 o1 s1 => ?_)
            exact W.cs (nz (zn h)) (sz (zs h)) (kk rfl (Nat.le_refl _) (Nat.le_refl _) H1 locs1 (hW.ui hok.1 z1 o1 (zce.mkobj hok.2.2.1 h10.1 hob.1 (by rw [zfv_ui (by omega)]; exact t1))) s1)
          · cases hp
      · split at hp
        · rename_i hft
          cases r with
          | none => simp [zpZ] at hp
          | some a1 =>
            simp only [zpZ] at hp
            split at hp
            · rename_i hok0
              obtain ⟨hok, h01⟩ := hok0
              cases hp
              have hob := (hW.2.2.1 a1 hok.1 hok.2.1).obj hok.2.2.1 h10.1
              refine zW_put C hW hS hok hck.2.1 hfin (zcod_dec hc (by simp [zlen])) (v := .int x) (by rw [zft_bool hft]; rcases h01 with q | q <;> subst q <;> decide +kernel) (by rw [zft_bool hft]; rcases h01 with q | q <;> subst q <;> decide +kernel) (fun H1 locs1 t1 z1 o1 s1 => ?_)
              exact W.cs (nz (zn h)) (sz (zs h)) (kk rfl (Nat.le_refl _) (Nat.le_refl _) H1 locs1 (hW.ui hok.1 z1 o1 (zce.mkobj hok.2.2.1 h10.1 hob.1 (by rw [zfv_ui (by omega)]; exact t1))) s1)
            · cases hp
        · cases hp
    · rename_i x r st1
      split at hp
      · rename_i hft
        cases r with
        | none => simp [zpR] at hp
        | some a1 =>
          simp only [zpR] at hp
          split at hp
          · rename_i hok
            cases hp
            have hob := (hW.2.2.1 a1 hok.1 hok.2.1).obj hok.2.2.1 h10.1
            have hfit := zft_ref h10.1 h10.2 hft G x
            refine zW_put C hW hS hok hck.2.1 hfin (zcod_dec hc (by simp [zlen])) (v := zxr G x) hfit.1 hfit.2 (fun H1 locs1 t1 z1 o1 s1 => ?_)
            exact W.cs (nz (zn h)) (sz (zs h)) (kk rfl (Nat.le_refl _) (Nat.le_refl _) H1 locs1 (hW.ur hok.1 z1 o1 (zce.mkobj hok.2.2.1 h10.1 hob.1 (by rw [zfv_ur hft]; exact t1))) s1)
          · cases hp
      · cases hp
    · cases hp
  | iaload =>
    simp only [zh1] at hp
    split at hp
    · rename_i j r st1
      cases r with
      | none => simp [zaI] at hp
      | some a1 =>
        simp only [zaI] at hp
        split at hp
        · rename_i hok
          cases hp
          exact zW_iald C hW hS hok (zcod_dec hc (by simp [zlen])) (W.cs (nz (zn h)) (sz (zs h)) (kk rfl (Nat.le_refl _) (Nat.le_refl _) H locs hW hS))
        · cases hp
    · cases hp
  | baload =>
    simp only [zh1] at hp
    split at hp
    · rename_i j r st1
      cases r with
      | none => simp [zaB] at hp
      | some a1 =>
        simp only [zaB] at hp
        split at hp
        · rename_i hok
          cases hp
          exact zW_bald C hW hok.1 hok.2 (zcod_dec hc (by simp [zlen])) (W.cs (nz (zn h)) (sz (zs h)) (kk rfl (Nat.le_refl _) (Nat.le_refl _) H locs hW hS))
        · cases hp
    · cases hp
  | aaload =>
    simp only [zh1] at hp
    split at hp
    · rename_i j r st1
      cases r with
      | none => simp [zaR] at hp
      | some a1 =>
        simp only [zaR] at hp
        split at hp
        · rename_i hok
          cases hp
          exact zW_aald C hW hok.1 hok.2 (zcod_dec hc (by simp [zlen])) (W.cs (nz (zn h)) (sz (zs h)) (kk rfl (Nat.le_refl _) (Nat.le_refl _) H locs hW hS))
        · cases hp
    · cases hp
  | iastore =>
    simp only [zh1] at hp
    split at hp
    · rename_i x j r st1
      cases r with
      | none => simp [ztI] at hp
      | some a1 =>
        simp only [ztI] at hp
        split at hp
        · rename_i hok
          cases hp
          exact zW_iast C hW hS hok.1 hok.2 (zcod_dec hc (by simp [zlen])) (fun H1 locs1 w1 s1 => W.cs (nz (zn h)) (sz (zs h)) (kk rfl (Nat.le_refl _) (Nat.le_refl _) H1 locs1 w1 s1))
        · cases hp
    · cases hp
  | bastore =>
    simp only [zh1] at hp
    split at hp
    · rename_i x j r st1
      cases r with
      | none => simp [ztB] at hp
      | some a1 =>
        simp only [ztB] at hp
        split at hp
        · rename_i hok
          cases hp
          exact zW_bast C hW hS hok.1 hok.2 (zcod_dec hc (by simp [zlen])) (fun H1 locs1 w1 s1 => W.cs (nz (zn h)) (sz (zs h)) (kk rfl (Nat.le_refl _) (Nat.le_refl _) H1 locs1 w1 s1))
        · split at hp
          · rename_i hok
            cases hp
            exact zW_zast C hW hS hok.1 hok.2.1 hok.2.2 (zcod_dec hc (by simp [zlen])) (fun H1 locs1 w1 s1 => W.cs (nz (zn h)) (sz (zs h)) (kk rfl (Nat.le_refl _) (Nat.le_refl _) H1 locs1 w1 s1))
          · cases hp
    · cases hp
  | aastore =>
    simp only [zh1] at hp
    split at hp
    · rename_i x j r st1
      cases r with
      | none => simp [ztR] at hp
      | some a1 =>
        simp only [ztR] at hp
        split at hp
        · rename_i hok
          cases hp
          exact zW_aast C hW hS hok.1 hok.2.1 hok.2.2 (zcod_dec hc (by simp [zlen])) (fun H1 locs1 w1 s1 => W.cs (nz (zn h)) (sz (zs h)) (kk rfl (Nat.le_refl _) (Nat.le_refl _) H1 locs1 w1 s1))
        · cases hp
    · cases hp
  | arraylength =>
    simp only [zh1] at hp
    split at hp
    · rename_i r st1
      cases r with
      | none => simp [zal] at hp
      | some a1 =>
        simp only [zal] at hp
        split at hp
        · rename_i hok
          cases hp
          exact zW_alen C hW hS hok.1 hok.2 (zcod_dec hc (by simp [zlen])) (W.cs (nz (zn h)) (sz (zs h)) (kk rfl (Nat.le_refl _) (Nat.le_refl _) H locs hW hS))
        · cases hp
    · cases hp
  | new idx =>
    simp only [zchk, Bool.and_eq_true, decide_eq_true_eq] at hck
    simp only [zh1, zno] at hp
    cases hp
    have en : zn (znw h a (zcl a).2.2) = zn h + 1 := rfl
    have es : zs (znw h a (zcl a).2.2) = zs h + (zcl a).2.2 := rfl
    rw [en, es] at hroom
    refine zW_new C hW hS hck.2.1 (zG_in hck.2.2 rfl) (by omega) (by omega) (zcod_dec hc (by simp [zlen])) (fun H1 w1 s1 => ?_)
    refine W.cs ?_ ?_ (kk rfl (by rw [en]; omega) (by rw [es]; omega) H1 locs w1 s1)
    · rw [en]; omega
    · rw [es]; omega
  | newarray ty =>
    simp only [zchk, Bool.and_eq_true, decide_eq_true_eq] at hck
    simp only [zh1] at hp
    split at hp
    · rename_i x st1
      simp only [zna] at hp
      split at hp
      · rename_i hok
        cases hp
        have en : zn (znw h a x.toNatClampNeg) = zn h + 1 := rfl
        have es : zs (znw h a x.toNatClampNeg) = zs h + x.toNatClampNeg := rfl
        rw [en, es] at hroom
        have harr : (Jvm.Cond.arrayClass (newarray.typeOf ty)).before args s = true := by
          rcases hck.2 with ⟨rfl, -⟩ | ⟨rfl, -⟩ | ⟨rfl, -⟩
          · exact hts _ zAr_int
          · exact hts _ zAr_byte
          · exact hts _ zAr_boolean
        refine zW_newa C hW hS hck.2 hok.1 hok.2 (by omega) (by omega) (zcod_dec hc (by simp [zlen])) harr (fun H1 w1 s1 => ?_)
        refine W.cs ?_ ?_ (kk rfl (by rw [en]; omega) (by rw [es]; omega) H1 locs w1 s1)
        · rw [en]; omega
        · rw [es]; omega
      · cases hp
    · cases hp
  | anewarray idx =>
    simp only [zchk, Bool.and_eq_true, decide_eq_true_eq] at hck
    simp only [zh1] at hp
    split at hp
    · rename_i x st1
      simp only [zna] at hp
      split at hp
      · rename_i hok
        cases hp
        have en : zn (znw h 103 x.toNatClampNeg) = zn h + 1 := rfl
        have es : zs (znw h 103 x.toNatClampNeg) = zs h + x.toNatClampNeg := rfl
        rw [en, es] at hroom
        refine zW_anew C hW hS (zG_in hck.2 rfl) hok.1 hok.2 (by omega) (by omega) (zcod_dec hc (by simp [zlen])) (fun H1 w1 s1 => ?_)
        refine W.cs ?_ ?_ (kk rfl (by rw [en]; omega) (by rw [es]; omega) H1 locs w1 s1)
        · rw [en]; omega
        · rw [es]; omega
      · cases hp
    · cases hp
  | checkcast idx =>
    simp only [zchk, Bool.and_eq_true, decide_eq_true_eq] at hck
    simp only [zh1] at hp
    split at hp
    · rename_i r st1
      cases r with
      | none =>
        simp only [zca] at hp
        cases hp
        exact lv_castN hx hb (zcod_dec hc (by simp [zlen])) (W.cs (nz (zn h)) (sz (zs h)) (kk rfl (Nat.le_refl _) (Nat.le_refl _) H locs hW hS))
      | some a1 =>
        simp only [zca] at hp
        split at hp
        · rename_i hok
          cases hp
          obtain ⟨-, cell, q1, q2, q3, -⟩ := (hW.2.2.1 a1 hok.1 hok.2.1).obj hok.2.2 hck.2.1
          exact va_castS hx hb hown (hts _ (zG_in hck.2.2 rfl)) (hT.1 a hck.2.1).2 ⟨cell, q1, by rw [q3]; rfl, by rw [q2]; exact (hT.1 a hck.2.1).2.1⟩ (zcod_dec hc (by simp [zlen])) (W.cs (nz (zn h)) (sz (zs h)) (kk rfl (Nat.le_refl _) (Nat.le_refl _) H locs hW hS))
        · cases hp
    · cases hp
  | invokespecial idx =>
    simp only [zh1] at hp
    split at hp
    · rename_i ha
      simp only [zchk, Bool.and_eq_true, decide_eq_true_eq, ha, if_true] at hck
      split at hp
      · rename_i a1 st1
        split at hp
        · rename_i hcs
          cases hp
          refine W.objInit hx hb hown (hts _ (zG_in hck.2.1.1 rfl)) (hts _ zObI) (hts _ zObC) rfl (hsz.trans hml.symm) rfl (zcod_dec hc (by simp [zlen])) (Nat.le_trans hck.2.1.2 hfr) ?_ (W.cs (nz (zn h)) (sz (zs h)) (kk rfl (Nat.le_refl _) (Nat.le_refl _) H locs hW hS))
          have := zcs_cat G st'
          show 2 * 0 + ((st'.map (zxv G)).map fun v => v.category).sum + 12 ≤ _
          rw [this]
          have := hck.2.2
          omega
        · cases hp
      · cases hp
    · cases hp
  | invokestatic idx =>
    simp only [zh1] at hp
    split at hp
    · rename_i ha
      have hck2 := zchk_ac hck ha
      split at hp
      · split at hp
        · rename_i hcs
          exact zac_sound C hW hS hc hck2 hp hcs hsz (fun e1 e2 e3 H1 locs1 w1 s1 => W.cs (by rw [e2]; exact nz _) (by rw [e3]; exact sz _) (kk e1 (Nat.le_of_eq e2.symm) (Nat.le_of_eq e3.symm) H1 locs1 w1 s1))
        · cases hp
      · cases hp
    · split at hp
      · rename_i hne ha
        have hck2 := zchk_st hck hne
        rw [ha] at hck2
        split at hp
        · split at hp
          · rename_i hcs
            unfold zcO at hp
            split at hp
            · cases hp
            · split at hp
              · rename_i hok
                simp only [Option.some.injEq, Prod.mk.injEq] at hp
                obtain ⟨e1, e2, e3, e4⟩ := hp
                subst e1; subst e2; subst e3; subst e4
                have en : ∀ x a, zn (zcy (znw h 103 x) a (zn h) 0 0 (zk h a).2) = zn h + 1 := fun _ _ => rfl
                have es : ∀ x a, zs (zcy (znw h 103 x) a (zn h) 0 0 (zk h a).2) = zs h + x := fun _ _ => rfl
                rw [en, es] at hroom
                refine zco_sound C hW hS hc hck2 hok hcs hsz ⟨?_, ?_⟩ (fun H1 locs1 w1 s1 => W.cs ?_ ?_ (kk rfl (Nat.le_succ _) (Nat.le_add_right _ _) H1 locs1 w1 s1))
                · have := hroom.1
                  omega
                · have := hroom.2
                  omega
                · rw [en]; omega
                · rw [es]; omega
              · cases hp
          · cases hp
        · cases hp
      · cases hp
  | _ => simp [zh1] at hp
end ZS4
end
section
/-! the small machine tells the truth: what it comes to, the real one comes to -/
theorem zpop_ok : ∀ (n : Nat) (acc st as rest : List zV), zpop n acc st = some (as, rest) → ∃ xs, st = xs ++ rest ∧ xs.length = n ∧ as = xs.reverse ++ acc
  | 0, acc, st, as, rest, h => by
    simp only [zpop, Option.some.injEq, Prod.mk.injEq] at h
    exact ⟨[], by rw [h.2]; rfl, rfl, by rw [h.1]; rfl⟩
  | n + 1, acc, [], as, rest, h => by simp [zpop] at h
  | n + 1, acc, v :: st, as, rest, h => by
    obtain ⟨xs, h1, h2, h3⟩ := zpop_ok n (v :: acc) st as rest h
    exact ⟨v :: xs, by rw [h1]; rfl, by simp [h2], by rw [h3]; simp⟩
theorem zpop_at {n : Nat} {st as rest : List zV} (h : zpop n [] st = some (as, rest)) (G : zg) : as.length = n ∧ st.map (zxv G) = (as.map (zxv G)).reverse ++ rest.map (zxv G) := by
  obtain ⟨xs, h1, h2, h3⟩ := zpop_ok n [] st as rest h
  rw [List.append_nil] at h3
  subst h1; subst h3
  exact ⟨by simp [h2], by rw [List.map_append, ← List.map_reverse, List.reverse_reverse]⟩
set_option maxHeartbeats 4000000 in
theorem zh1_grow {i : Instr} {a b pc pc' : Nat} {al al' : zLs} {st st' : List zV} {h h' : zH} (hp : zh1 i a b pc al st h = some (pc', al', st', h')) : zn h ≤ zn h' ∧ zs h ≤ zs h' := by
  cases i <;> simp only [zh1, zgI, zgR, zpI, zpZ, zpR, zaI, zaB, zaR, ztI, ztB, ztR, zal, zno, zna, zca, zcO, zcM] at hp <;> (repeat' split at hp) <;> first
    | (cases hp; done)
    | (simp only [Option.some.injEq, Prod.mk.injEq] at hp
       obtain ⟨-, -, -, e4⟩ := hp
       rw [← e4]
       exact ⟨Nat.le_refl _, Nat.le_refl _⟩)
    | (simp only [Option.some.injEq, Prod.mk.injEq] at hp
       obtain ⟨-, -, -, e4⟩ := hp
       rw [← e4]
       exact ⟨Nat.le_succ _, Nat.le_add_right _ _⟩)
theorem zc1_inl {m : Nat} {i : Instr} {a b pc : Nat} {al : zLs} {st : List zV} {h : zH} {q : zQ} (hp : zc1 m i a b pc al st h = some (.inl q)) : False := by
  cases i <;> simp only [zc1] at hp <;> (repeat' split at hp) <;> cases hp
theorem zc1_ret {m : Nat} {i : Instr} {a b pc : Nat} {al : zLs} {st : List zV} {h : zH} {r : Option zV × zH} (hp : zc1 m i a b pc al st h = some (.inr (.inl r))) : r.2 = h := by
  cases i <;> simp only [zc1] at hp <;> (repeat' split at hp) <;> first | (cases hp; done) | (cases hp; rfl)
theorem zex_grow : ∀ (n m pc : Nat) (ls : zLs) (st : List zV) (h : zH) (r : Option zV × zH), zex n m pc ls st h = some r → zn h ≤ zn r.2 ∧ zs h ≤ zs r.2
  | 0, _, _, _, _, _, _, hr => by simp [zex] at hr
  | n + 1, m, pc, ls, st, h, r, hr => by
    unfold zex at hr
    cases hs : zstp m pc ls st h with
    | none => rw [hs] at hr; simp at hr
    | some q =>
      rw [hs] at hr
      unfold zstp at hs
      cases hc : zcod m pc with
      | none => rw [hc] at hs; simp at hs
      | some w =>
        obtain ⟨i, len, a, b, pos, nn⟩ := w
        rw [hc] at hs
        simp only [zst1] at hs
        cases hp : zp1 i a nn pc ls st with
        | some q1 =>
          rw [hp] at hs
          simp only [Option.some.injEq] at hs
          subst hs
          exact zex_grow n _ _ _ _ _ _ hr
        | none =>
          rw [hp] at hs
          simp only at hs
          cases hh : zh1 i a b pc ls st h with
          | some q1 =>
            rw [hh] at hs
            simp only [Option.some.injEq] at hs
            subst hs
            have g1 := zh1_grow hh
            have g2 := zex_grow n _ _ _ _ _ _ hr
            exact ⟨Nat.le_trans g1.1 g2.1, Nat.le_trans g1.2 g2.2⟩
          | none =>
            rw [hh] at hs
            simp only at hs
            match q, hs, hr with
            | .inl q, hs, hr => exact (zc1_inl hs).elim
            | .inr (.inl q), hs, hr =>
              simp only [Option.some.injEq] at hr
              subst hr
              rw [zc1_ret hs]
              exact ⟨Nat.le_refl _, Nat.le_refl _⟩
            | .inr (.inr (k, as, q)), hs, hr =>
              have e : q.2.2.2 = h := by
                clear hr hc
                cases i <;> simp only [zc1] at hs <;> (repeat' split at hs) <;> first | (cases hs; done) | (cases hs; rfl)
              simp only at hr
              cases hx : zex n k 0 (zent k as) [] q.2.2.2 with
              | none => rw [hx] at hr; simp at hr
              | some r1 =>
                rw [hx] at hr
                have g1 := zex_grow n _ _ _ _ _ _ hx
                have g2 := zex_grow n _ _ _ _ _ _ hr
                rw [e] at g1
                exact ⟨Nat.le_trans g1.1 g2.1, Nat.le_trans g1.2 g2.2⟩
def zFin (k pc : Nat) (st : List zV) (r : Option zV) (h : zH) : Prop := ∃ (i : Instr) (len a b pos : Nat) (n : Int) (al : zLs), zcod k pc = some (i, len, a, b, pos, n) ∧ zc1 k i a b pc al st h = some (.inr (.inl (r, h)))
def zInn (l : Launch) (G : zg) (n : Nat) : Prop := ∀ (k pc : Nat) (al : zLs) (st : List zV) (h h1 : zH) (r : Option zV) (p : Program) (e : Env) (R : Room) (s : State) (m : MethodId) (args : Array Value) (below : List Frame) (meth : Method) (c : Code) (H : Heap) (locs : List Loc) (cells slots : Nat) (Q : State → Prop) (ls : Array Slot), zCx G k p R s m args meth c → zex n k pc al st h = some (r, h1) → zWd G h H → va_S (zAf G) s.heap H locs → zxl G ls (zL k) al → cells + (zn h1 - zn h) ≤ R.cells → slots + (zs h1 - zs h) ≤ R.slots →
  (∀ (pc' : Nat) (st' : List zV) (ls' : Array Slot) (H' : Heap) (locs' : List Loc), zFin k pc' st' r h1 → zWd G h1 H' → va_S (zAf G) s.heap H' locs' → W p l e R s m args below meth c H' locs' (cells + (zn h1 - zn h)) (slots + (zs h1 - zs h)) Q (F0 m pc' ls' (st'.map (zxv G)))) →
  W p l e R s m args below meth c H locs cells slots Q (F0 m pc ls (st.map (zxv G)))
section ZM
variable {p : Program} {l : Launch} {e : Env} {R : Room} {s : State} {m : MethodId} {args : Array Value} {below : List Frame} {meth : Method} {c : Code} {H : Heap} {locs : List Loc} {cells slots : Nat}
theorem zfin_met {G : zg} {k pc : Nat} {st : List zV} {r : Option zV} {h : zH} {ls : Array Slot} (hx : p.tables.exec = Jvm.exec) (hb : c.code = zB k) (hr : meth.sig.returnType = zRt k) (hlocks : meth.locks = false) (hf : zFin k pc st r h) (hW : zWd G h H) (hS : va_S (zAf G) s.heap H locs) : W p l e R s m args below meth c H locs cells slots (MQ below (zQc G (r.map (zxv G)) h) args s cells slots (zAf G)) (F0 m pc ls (st.map (zxv G))) := by
  obtain ⟨i, len, a, b, pos, n, al, hc, hz⟩ := hf
  cases i with
  | ireturn =>
    simp only [zc1] at hz
    split at hz
    · rename_i x
      split at hz
      · rename_i hrt
        cases hz
        rcases hrt with q | ⟨q, h01⟩
        · have hR : zRt k = some .int := by
            unfold zrt at q
            split at q <;> simp_all
          exact W.iret (v := x) hx hb (hr.trans hR) (fun t ht _ => ⟨rfl, by rw [ht]; exact hW, hS.F ht⟩) hS.2.2 (zcod_dec hc (by simp [zlen])) hlocks
        · have hR : zRt k = some .boolean := by
            unfold zrt at q
            split at q <;> simp_all
          exact W.zret (v := x) hx hb (hr.trans hR) (by rcases h01 with w | w <;> subst w <;> decide +kernel) (fun t ht _ => ⟨rfl, by rw [ht]; exact hW, hS.F ht⟩) hS.2.2 (zcod_dec hc (by simp [zlen])) hlocks
      · cases hz
    · cases hz
  | areturn =>
    simp only [zc1] at hz
    split at hz
    · rename_i x
      split at hz
      · rename_i q
        cases hz
        have hR : ∃ ty, zRt k = some ty ∧ ((∃ n, ty = .object n) ∨ ∃ t, ty = .array t) := by
          unfold zrt at q
          split at q <;> simp_all
        obtain ⟨ty, hR1, hR2⟩ := hR
        exact W.aret (v := zxr G x) hx hb (hr.trans hR1) hR2 (va_rf_or _) (fun t ht _ => ⟨rfl, by rw [ht]; exact hW, hS.F ht⟩) hS.2.2 (zcod_dec hc (by simp [zlen])) hlocks
      · cases hz
    · cases hz
  | return_ =>
    simp only [zc1] at hz
    split at hz
    · split at hz
      · rename_i q
        cases hz
        have hR : zRt k = none := by
          unfold zrt at q
          split at q <;> simp_all
        exact W.vret hx hb (hr.trans hR) (fun t ht _ => ⟨rfl, by rw [ht]; exact hW, hS.F ht⟩) hS.2.2 (zcod_dec hc (by simp [zlen])) hlocks
      · cases hz
    · cases hz
  | invokevirtual _ => simp only [zc1] at hz; (repeat' split at hz) <;> cases hz
  | invokespecial _ => simp only [zc1] at hz; (repeat' split at hz) <;> cases hz
  | invokestatic _ => simp only [zc1] at hz; (repeat' split at hz) <;> cases hz
  | _ => simp [zc1] at hz
end ZM
theorem zInn_met {l : Launch} {G : zg} {n : Nat} (hI : zInn l G n) {a : Nat} {as : List zV} {h h2 : zH} {r : Option zV} (hm : zmok a = true) (hlen : (zexp as).length ≤ zL a) (hz : zex n a 0 (zent a as) [] h = some (r, h2)) : zMet l G a as h r h2 := by
  refine va_MetF (cc := zB a) (maxL := zL a) (ret := zRt a) (zmok_pl hm) rfl ?_
  intro p e s m args below meth c s₁ B hml hv
  obtain ⟨rfl, hT, hst, hW⟩ := hv
  have hts0 := atoms_spec (ws := zwY a) B.pre
  have hts : ∀ w ∈ zG, w.before (as.map (zxv G)).toArray s = true := fun w hw => hts0 w (List.mem_cons_of_mem _ hw)
  have hown : s.vm.findClass (zY a).cls = some m.cls := findClass_of_methodNamed B.named
  have C : zCx G a p (zRm a (zn h2 - zn h) (zs h2 - zs h)) s m (as.map (zxv G)).toArray meth c := ⟨B.exec, B.bytes, hml, hown, hts, Nat.le_refl _, Nat.le_refl _, hT, hst, (name_of_methodNamed B.named B.method).1⟩
  rw [lg_entry_eq]
  refine hI a 0 (zent a as) [] h h2 r p e _ s m _ below meth c s.heap [] 0 0 _ _ C hz hW va_S.rf (zent_xl hlen) (by rw [Nat.zero_add]; exact Nat.le_refl _) (by rw [Nat.zero_add]; exact Nat.le_refl _) ?_
  intro pc' st' ls' H' locs' hf hW' hS'
  refine W.cs (Nat.zero_add _) (Nat.zero_add _) ?_
  exact zfin_met B.exec B.bytes B.returns B.notSynchronized hf hW' hS'
set_option maxHeartbeats 4000000 in
theorem zInn_all (l : Launch) (G : zg) : ∀ n, zInn l G n := by
  intro n
  induction n with
  | zero =>
    intro k pc al st h h1 r p e R s m args below meth c H locs cells slots Q ls C hz
    simp [zex] at hz
  | succ n ih =>
    intro k pc al st h h1 r p e R s m args below meth c H locs cells slots Q ls C hz hW hS hl hrc hrs hfin
    unfold zex at hz
    cases hs : zstp k pc al st h with
    | none => rw [hs] at hz; simp at hz
    | some q =>
      rw [hs] at hz
      unfold zstp at hs
      cases hc : zcod k pc with
      | none => rw [hc] at hs; simp at hs
      | some w =>
        obtain ⟨i, len, a, b, pos, nn⟩ := w
        rw [hc] at hs
        simp only [zst1] at hs
        cases hp : zp1 i a nn pc al st with
        | some q1 =>
          rw [hp] at hs
          simp only [Option.some.injEq] at hs
          subst hs
          obtain ⟨pc1, al1, st1⟩ := q1
          exact zp1_sound C hS hc hp hl (fun ls' hl' => ih k pc1 al1 st1 h h1 r p e R s m args below meth c H locs cells slots Q ls' C hz hW hS hl' hrc hrs hfin)
        | none =>
          rw [hp] at hs
          simp only at hs
          cases hh : zh1 i a b pc al st h with
          | some q1 =>
            rw [hh] at hs
            simp only [Option.some.injEq] at hs
            subst hs
            obtain ⟨pc1, al1, st1, h2⟩ := q1
            have g1 := zh1_grow hh
            have g2 := zex_grow n _ _ _ _ _ _ hz
            dsimp only at g1 g2 hz
            refine zh1_sound C hW hS hc hh hl.1 ⟨by omega, by omega⟩ (fun e1 _ _ H1 locs1 w1 s1 => ?_)
            subst e1
            refine ih k pc1 al1 st1 h2 h1 r p e R s m args below meth c H1 locs1 _ _ Q ls C hz w1 s1 hl (by omega) (by omega) ?_
            intro pc' st' ls' H' locs' hf hW' hS'
            refine W.cs ?_ ?_ (hfin pc' st' ls' H' locs' hf hW' hS')
            · omega
            · omega
          | none =>
            rw [hh] at hs
            simp only at hs
            match q, hs, hz with
            | .inl q, hs, hz => exact (zc1_inl hs).elim
            | .inr (.inl q), hs, hz =>
              simp only [Option.some.injEq] at hz
              have e1 := zc1_ret hs
              subst hz
              dsimp only at e1
              subst e1
              refine W.cs ?_ ?_ (hfin pc st ls H locs ⟨i, len, a, b, pos, nn, al, hc, hs⟩ hW hS)
              · omega
              · omega
            | .inr (.inr (k1, as, pc1, al1, st1, h2)), hs, hz =>
              simp only at hz
              cases hx : zex n k1 0 (zent k1 as) [] h2 with
              | none => rw [hx] at hz; simp at hz
              | some r1 =>
                rw [hx] at hz
                obtain ⟨r2, h3⟩ := r1
                have g1 := zex_grow n _ _ _ _ _ _ hx
                have g2 := zex_grow n _ _ _ _ _ _ hz
                dsimp only at g1 g2 hz
                have cont : h2 = h → al1 = al → pc1 = pc + 3 → ∀ (H1 : Heap) (locs1 : List Loc), zWd G h3 H1 → va_S (zAf G) s.heap H1 locs1 → W p l e R s m args below meth c H1 locs1 (cells + (zn h3 - zn h)) (slots + (zs h3 - zs h)) Q (F0 m (pc + 3) ls ((r2.map (zxv G)).toList ++ st1.map (zxv G))) := by
                  intro e1 e2 e3 H1 locs1 w1 s1
                  subst e1; subst e2; subst e3
                  have hmap : (r2.map (zxv G)).toList ++ st1.map (zxv G) = (r2.toList ++ st1).map (zxv G) := by cases r2 <;> simp
                  rw [hmap]
                  refine ih k (pc + 3) al1 (r2.toList ++ st1) h3 h1 r p e R s m args below meth c H1 locs1 _ _ Q ls C hz w1 s1 hl (by omega) (by omega) ?_
                  intro pc' st' ls' H' locs' hf hW' hS'
                  refine W.cs ?_ ?_ (hfin pc' st' ls' H' locs' hf hW' hS')
                  · omega
                  · omega
                have hck := zcod_chk hc
                cases i with
                | invokevirtual idx =>
                  simp only [zc1] at hs
                  split at hs
                  · rename_i as1 o st2 hpop
                    split at hs
                    · rename_i hok
                      simp only [Option.some.injEq, Sum.inr.injEq, Prod.mk.injEq] at hs
                      obtain ⟨e1, e2, e3, e4, e5, e6⟩ := hs
                      subst e1; subst e2; subst e3; subst e4; subst e5; subst e6
                      obtain ⟨c1, c2, c3⟩ := zchk_vi hck
                      obtain ⟨p1, p2⟩ := zpop_at hpop G
                      rw [p2]
                      have hM := zInn_met ih (zrok_all c1).1 hok.2.2.2.2 hx
                      exact zW_call (zrunV (p := p) (l := l) (e := e) (below := below) (As := as1.map (zxv G)) (rest := st2.map (zxv G)) C hS hW c1 c2 c3 ⟨hok.1, hok.2.1, hok.2.2.1⟩ hM (by rw [List.length_map]; exact p1) hl.1 (by rw [zcs_cat]; exact hok.2.2.2.1) (zcod_dec hc (by simp [zlen])) ⟨by omega, by omega⟩) hS (cont rfl rfl rfl)
                    · cases hs
                  · cases hs
                | invokespecial idx =>
                  simp only [zc1] at hs
                  split at hs
                  · cases hs
                  · rename_i hne
                    split at hs
                    · rename_i as1 o st2 hpop
                      split at hs
                      · rename_i hok
                        simp only [Option.some.injEq, Sum.inr.injEq, Prod.mk.injEq] at hs
                        obtain ⟨e1, e2, e3, e4, e5, e6⟩ := hs
                        subst e1; subst e2; subst e3; subst e4; subst e5; subst e6
                        obtain ⟨c1, c2, c3⟩ := zchk_sp hck hne
                        obtain ⟨p1, p2⟩ := zpop_at hpop G
                        rw [p2]
                        have hM := zInn_met ih (zrok_all c1).1 hok.2 hx
                        exact zW_call (zrunI (p := p) (l := l) (e := e) (below := below) (As := as1.map (zxv G)) (rest := st2.map (zxv G)) C hS hW c1 c2 c3 hM (by rw [List.length_map]; exact p1) hl.1 (by rw [zcs_cat]; exact hok.1) (zcod_dec hc (by simp [zlen])) ⟨by omega, by omega⟩) hS (cont rfl rfl rfl)
                      · cases hs
                    · cases hs
                | invokestatic idx =>
                  simp only [zc1] at hs
                  split at hs
                  · cases hs
                  · rename_i hne
                    split at hs
                    · rename_i as1 st2 hpop
                      split at hs
                      · rename_i hok
                        simp only [Option.some.injEq, Sum.inr.injEq, Prod.mk.injEq] at hs
                        obtain ⟨e1, e2, e3, e4, e5, e6⟩ := hs
                        subst e1; subst e2; subst e3; subst e4; subst e5; subst e6
                        obtain ⟨c1, c2, c3⟩ := zchk_st hck (fun q => hne (Or.inl q))
                        obtain ⟨p1, p2⟩ := zpop_at hpop G
                        rw [p2]
                        have hM := zInn_met ih (zrok_all c1).1 hok.2 hx
                        exact zW_call (zrunS (p := p) (l := l) (e := e) (below := below) (As := as1.map (zxv G)) (rest := st2.map (zxv G)) C hS hW c1 c2 c3 hM (by rw [List.length_map]; exact p1) hl.1 (by rw [zcs_cat]; exact hok.1) (zcod_dec hc (by simp [zlen])) ⟨by omega, by omega⟩) hS (cont rfl rfl rfl)
                      · cases hs
                    · cases hs
                | ireturn => simp only [zc1] at hs; (repeat' split at hs) <;> cases hs
                | areturn => simp only [zc1] at hs; (repeat' split at hs) <;> cases hs
                | return_ => simp only [zc1] at hs; (repeat' split at hs) <;> cases hs
                | _ => simp [zc1] at hs
end
section
/-! one equation an instruction, over zev -/
theorem zv_p {m pc : Nat} {i : Instr} {len a b pos : Nat} {n : Int} (hc : zcod m pc = some (i, len, a, b, pos, n)) {ls ls' : zLs} {st st' : List zV} {pc' : Nat} {h : zH} (hp : zp1 i a n pc ls st = some (pc', ls', st')) : zev m pc ls st h = zev m pc' ls' st' h := by
  refine zev_go (q := (pc', ls', st', h)) ?_
  unfold zstp
  rw [hc]
  simp only [zst1, hp]
theorem zv_h {m pc : Nat} {i : Instr} {len a b pos : Nat} {n : Int} (hc : zcod m pc = some (i, len, a, b, pos, n)) {ls : zLs} {st : List zV} {h : zH} (hp : zp1 i a n pc ls st = none) (hn : zc1 m i a b pc ls st h = none) : zev m pc ls st h = (zh1 i a b pc ls st h).bind fun q => zev m q.1 q.2.1 q.2.2.1 q.2.2.2 := by
  cases hq : zh1 i a b pc ls st h with
  | none =>
    refine zev_no ?_
    unfold zstp
    rw [hc]
    simp only [zst1, hp, hq, hn]
  | some q =>
    refine zev_go (q := q) ?_
    unfold zstp
    rw [hc]
    simp only [zst1, hp, hq]
theorem zv_c {m pc : Nat} {i : Instr} {len a b pos : Nat} {n : Int} (hc : zcod m pc = some (i, len, a, b, pos, n)) {ls : zLs} {st : List zV} {h : zH} (hp : zp1 i a n pc ls st = none) (hn : zh1 i a b pc ls st h = none) : zstp m pc ls st h = zc1 m i a b pc ls st h := by
  unfold zstp
  rw [hc]
  simp only [zst1, hp, hn]
section ZV
variable {m pc : Nat} {ls ls' : zLs} {st : List zV} {h : zH} {len a b pos : Nat} {n : Int}
theorem zv_null (hc : zcod m pc = some (.aconst_null, len, a, b, pos, n))  : zev m pc ls st h = zev m (pc + 1) ls (vR none :: st) h := zv_p hc rfl
theorem zv_k {k : Int} {v : Int32} (hc : zcod m pc = some (.iconst k, len, a, b, pos, n)) (hv : Int32.ofInt k = v) : zev m pc ls st h = zev m (pc + 1) ls (vI v :: st) h := zv_p hc (by subst hv; rfl)
theorem zv_bi {k : Int} {v : Int32} (hc : zcod m pc = some (.bipush k, len, a, b, pos, n)) (hv : (Int8.ofInt k).toInt32 = v) : zev m pc ls st h = zev m (pc + 2) ls (vI v :: st) h := zv_p hc (by subst hv; rfl)
theorem zv_si {k : Int} {v : Int32} (hc : zcod m pc = some (.sipush k, len, a, b, pos, n)) (hv : (Int16.ofInt k).toInt32 = v) : zev m pc ls st h = zev m (pc + 3) ls (vI v :: st) h := zv_p hc (by subst hv; rfl)
theorem zv_lc {k : Fin 2} {v : Int64} (hc : zcod m pc = some (.lconst k, len, a, b, pos, n)) (hv : Int64.ofNat k.val = v) : zev m pc ls st h = zev m (pc + 1) ls (vL v :: st) h := zv_p hc (by subst hv; rfl)
theorem zv_ldc {k : Nat} {v : Int32} (hc : zcod m pc = some (.ldc k, len, a, b, pos, n)) (hv : Int32.ofInt n = v) : zev m pc ls st h = zev m (pc + 2) ls (vI v :: st) h := zv_p hc (by subst hv; rfl)
theorem zv_ld2 {k : Nat} {v : Int64} (hc : zcod m pc = some (.ldc2_w k, len, a, b, pos, n)) (hv : Int64.ofInt n = v) : zev m pc ls st h = zev m (pc + 3) ls (vL v :: st) h := zv_p hc (by subst hv; rfl)
theorem zv_il {k : Nat} {x : Int32} (hc : zcod m pc = some (.iload k, len, a, b, pos, n)) (hl : ls[k]? = some (some (vI x))) : zev m pc ls st h = zev m (pc + 2) ls (vI x :: st) h := zv_p hc (by simp only [zp1, hl])
theorem zv_in {k : Fin 4} {x : Int32} (hc : zcod m pc = some (.iload_n k, len, a, b, pos, n)) (hl : ls[k.val]? = some (some (vI x))) : zev m pc ls st h = zev m (pc + 1) ls (vI x :: st) h := zv_p hc (by simp only [zp1, hl])
theorem zv_is {k : Nat} {x : Int32} (hc : zcod m pc = some (.istore k, len, a, b, pos, n)) (hs : zsto ls k (vI x) = some ls') : zev m pc ls (vI x :: st) h = zev m (pc + 2) ls' st h := zv_p hc (by simp only [zp1, hs, Option.map_some])
theorem zv_it {k : Fin 4} {x : Int32} (hc : zcod m pc = some (.istore_n k, len, a, b, pos, n)) (hs : zsto ls k.val (vI x) = some ls') : zev m pc ls (vI x :: st) h = zev m (pc + 1) ls' st h := zv_p hc (by simp only [zp1, hs, Option.map_some])
theorem zv_ll {k : Nat} {x : Int64} (hc : zcod m pc = some (.lload k, len, a, b, pos, n)) (hl : ls[k]? = some (some (vL x))) : zev m pc ls st h = zev m (pc + 2) ls (vL x :: st) h := zv_p hc (by simp only [zp1, hl])
theorem zv_ln {k : Fin 4} {x : Int64} (hc : zcod m pc = some (.lload_n k, len, a, b, pos, n)) (hl : ls[k.val]? = some (some (vL x))) : zev m pc ls st h = zev m (pc + 1) ls (vL x :: st) h := zv_p hc (by simp only [zp1, hl])
theorem zv_ls {k : Nat} {x : Int64} (hc : zcod m pc = some (.lstore k, len, a, b, pos, n)) (hs : zstl2 ls k (vL x) = some ls') : zev m pc ls (vL x :: st) h = zev m (pc + 2) ls' st h := zv_p hc (by simp only [zp1, hs, Option.map_some])
theorem zv_lt {k : Fin 4} {x : Int64} (hc : zcod m pc = some (.lstore_n k, len, a, b, pos, n)) (hs : zstl2 ls k.val (vL x) = some ls') : zev m pc ls (vL x :: st) h = zev m (pc + 1) ls' st h := zv_p hc (by simp only [zp1, hs, Option.map_some])
theorem zv_al {k : Nat} {x : Option Nat} (hc : zcod m pc = some (.aload k, len, a, b, pos, n)) (hl : ls[k]? = some (some (vR x))) : zev m pc ls st h = zev m (pc + 2) ls (vR x :: st) h := zv_p hc (by simp only [zp1, hl])
theorem zv_an {k : Fin 4} {x : Option Nat} (hc : zcod m pc = some (.aload_n k, len, a, b, pos, n)) (hl : ls[k.val]? = some (some (vR x))) : zev m pc ls st h = zev m (pc + 1) ls (vR x :: st) h := zv_p hc (by simp only [zp1, hl])
theorem zv_as {k : Nat} {x : Option Nat} (hc : zcod m pc = some (.astore k, len, a, b, pos, n)) (hs : zsto ls k (vR x) = some ls') : zev m pc ls (vR x :: st) h = zev m (pc + 2) ls' st h := zv_p hc (by simp only [zp1, hs, Option.map_some])
theorem zv_at {k : Fin 4} {x : Option Nat} (hc : zcod m pc = some (.astore_n k, len, a, b, pos, n)) (hs : zsto ls k.val (vR x) = some ls') : zev m pc ls (vR x :: st) h = zev m (pc + 1) ls' st h := zv_p hc (by simp only [zp1, hs, Option.map_some])
theorem zv_inc {k : Nat} {d : Int} {x y : Int32} (hc : zcod m pc = some (.iinc k d, len, a, b, pos, n)) (hl : ls[k]? = some (some (vI x))) (hv : Int32.ofInt d = y) (hs : zsto ls k (vI (x + y)) = some ls') : zev m pc ls st h = zev m (pc + 3) ls' st h := zv_p hc (by subst hv; simp only [zp1, hl, hs, Option.map_some])
theorem zv_iadd {x y : Int32} (hc : zcod m pc = some (.iadd, len, a, b, pos, n))  : zev m pc ls (vI y :: vI x :: st) h = zev m (pc + 1) ls (vI (x + y) :: st) h := zv_p hc rfl
theorem zv_isub {x y : Int32} (hc : zcod m pc = some (.isub, len, a, b, pos, n))  : zev m pc ls (vI y :: vI x :: st) h = zev m (pc + 1) ls (vI (x - y) :: st) h := zv_p hc rfl
theorem zv_imul {x y : Int32} (hc : zcod m pc = some (.imul, len, a, b, pos, n))  : zev m pc ls (vI y :: vI x :: st) h = zev m (pc + 1) ls (vI (x * y) :: st) h := zv_p hc rfl
theorem zv_iand {x y : Int32} (hc : zcod m pc = some (.iand, len, a, b, pos, n))  : zev m pc ls (vI y :: vI x :: st) h = zev m (pc + 1) ls (vI (x &&& y) :: st) h := zv_p hc rfl
theorem zv_ishr {x y : Int32} (hc : zcod m pc = some (.ishr, len, a, b, pos, n))  : zev m pc ls (vI y :: vI x :: st) h = zev m (pc + 1) ls (vI (x >>> (y &&& 31)) :: st) h := zv_p hc rfl
theorem zv_ineg {x : Int32} (hc : zcod m pc = some (.ineg, len, a, b, pos, n))  : zev m pc ls (vI x :: st) h = zev m (pc + 1) ls (vI (-x) :: st) h := zv_p hc rfl
theorem zv_land {x y : Int64} (hc : zcod m pc = some (.land, len, a, b, pos, n))  : zev m pc ls (vL y :: vL x :: st) h = zev m (pc + 1) ls (vL (x &&& y) :: st) h := zv_p hc rfl
theorem zv_lor {x y : Int64} (hc : zcod m pc = some (.lor, len, a, b, pos, n))  : zev m pc ls (vL y :: vL x :: st) h = zev m (pc + 1) ls (vL (x ||| y) :: st) h := zv_p hc rfl
theorem zv_lcmp {x y : Int64} (hc : zcod m pc = some (.lcmp, len, a, b, pos, n))  : zev m pc ls (vL y :: vL x :: st) h = zev m (pc + 1) ls (vI (lg_cmp x y) :: st) h := zv_p hc rfl
theorem zv_lshl {x : Int64} {y : Int32} (hc : zcod m pc = some (.lshl, len, a, b, pos, n))  : zev m pc ls (vI y :: vL x :: st) h = zev m (pc + 1) ls (vL (x <<< (y.toInt64 &&& 63)) :: st) h := zv_p hc rfl
theorem zv_lshr {x : Int64} {y : Int32} (hc : zcod m pc = some (.lshr, len, a, b, pos, n))  : zev m pc ls (vI y :: vL x :: st) h = zev m (pc + 1) ls (vL (x >>> (y.toInt64 &&& 63)) :: st) h := zv_p hc rfl
theorem zv_i2l {x : Int32} (hc : zcod m pc = some (.i2l, len, a, b, pos, n))  : zev m pc ls (vI x :: st) h = zev m (pc + 1) ls (vL x.toInt64 :: st) h := zv_p hc rfl
theorem zv_l2i {x : Int64} (hc : zcod m pc = some (.l2i, len, a, b, pos, n))  : zev m pc ls (vL x :: st) h = zev m (pc + 1) ls (vI x.toInt32 :: st) h := zv_p hc rfl
theorem zv_i2b {x : Int32} (hc : zcod m pc = some (.i2b, len, a, b, pos, n))  : zev m pc ls (vI x :: st) h = zev m (pc + 1) ls (vI x.toInt8.toInt32 :: st) h := zv_p hc rfl
theorem zv_pop {v : zV} (hc : zcod m pc = some (.pop, len, a, b, pos, n)) (hv : zsm v = true) : zev m pc ls (v :: st) h = zev m (pc + 1) ls st h := zv_p hc (by simp only [zp1, hv, if_true])
theorem zv_dup {v : zV} (hc : zcod m pc = some (.dup, len, a, b, pos, n)) (hv : zsm v = true) : zev m pc ls (v :: st) h = zev m (pc + 1) ls (v :: v :: st) h := zv_p hc (by simp only [zp1, hv, if_true])
theorem zv_dx1 {v w : zV} (hc : zcod m pc = some (.dup_x1, len, a, b, pos, n)) (hv : zsm v = true) (hw : zsm w = true) : zev m pc ls (v :: w :: st) h = zev m (pc + 1) ls (v :: w :: v :: st) h := zv_p hc (by simp only [zp1, hv, hw, Bool.and_self, if_true])
theorem zv_dup2 {v w : zV} (hc : zcod m pc = some (.dup2, len, a, b, pos, n)) (hv : zsm v = true) (hw : zsm w = true) : zev m pc ls (v :: w :: st) h = zev m (pc + 1) ls (v :: w :: v :: w :: st) h := zv_p hc (by simp only [zp1, hv, hw, Bool.and_self, if_true])
theorem zv_goto {k : Int} (hc : zcod m pc = some (.goto k, len, a, b, pos, n))  : zev m pc ls st h = zev m a ls st h := zv_p hc rfl
theorem zv_gs {k : Nat} (hc : zcod m pc = some (.getstatic k, len, a, b, pos, n))  : zev m pc ls st h = zev m (pc + 3) ls (vR (some a) :: st) h := zv_p hc rfl
theorem zv_if {cnd : Jvm.ClassFile.Cond} {k : Int} {x : Int32} (hc : zcod m pc = some (.ifCond cnd k, len, a, b, pos, n)) : zev m pc ls (vI x :: st) h = if zj1 cnd x = true then zev m a ls st h else zev m (pc + 3) ls st h := by
  by_cases hj : zj1 cnd x = true
  · rw [if_pos hj]
    exact zv_p hc (by simp only [zp1, hj, if_true])
  · rw [if_neg hj]
    exact zv_p hc (by simp only [zp1, hj, if_false, Bool.false_eq_true])
theorem zv_ic {cnd : Jvm.ClassFile.Cond} {k : Int} {x y : Int32} (hc : zcod m pc = some (.if_icmp cnd k, len, a, b, pos, n)) : zev m pc ls (vI y :: vI x :: st) h = if zj2 cnd x y = true then zev m a ls st h else zev m (pc + 3) ls st h := by
  by_cases hj : zj2 cnd x y = true
  · rw [if_pos hj]
    exact zv_p hc (by simp only [zp1, hj, if_true])
  · rw [if_neg hj]
    exact zv_p hc (by simp only [zp1, hj, if_false, Bool.false_eq_true])
theorem zite {α : Type} {c d : Prop} [Decidable c] [Decidable d] (e : c ↔ d) (x y : α) : (if c then x else y) = if d then x else y := by
  by_cases hc : c
  · rw [if_pos hc, if_pos (e.mp hc)]
  · rw [if_neg hc, if_neg (fun q => hc (e.mpr q))]
theorem ziteN {α : Type} {c d : Prop} [Decidable c] [Decidable d] (e : c ↔ ¬ d) (x y : α) : (if c then x else y) = if d then y else x := by
  by_cases hc : c
  · rw [if_pos hc, if_neg (e.mp hc)]
  · rw [if_neg hc, if_pos (Decidable.byContradiction fun q => hc (e.mpr q))]
theorem zv_ifeq {k : Int} {x : Int32} (hc : zcod m pc = some (.ifCond .eq k, len, a, b, pos, n)) : zev m pc ls (vI x :: st) h = if x = 0 then zev m a ls st h else zev m (pc + 3) ls st h := (zv_if hc).trans (zite (by simp [zj1]) _ _)
theorem zv_ifne {k : Int} {x : Int32} (hc : zcod m pc = some (.ifCond .ne k, len, a, b, pos, n)) : zev m pc ls (vI x :: st) h = if x = 0 then zev m (pc + 3) ls st h else zev m a ls st h := (zv_if hc).trans (ziteN (by simp [zj1]) _ _)
theorem zv_iflt {k : Int} {x : Int32} (hc : zcod m pc = some (.ifCond .lt k, len, a, b, pos, n)) : zev m pc ls (vI x :: st) h = if x < 0 then zev m a ls st h else zev m (pc + 3) ls st h := (zv_if hc).trans (zite (by simp [zj1]) _ _)
theorem zv_ifge {k : Int} {x : Int32} (hc : zcod m pc = some (.ifCond .ge k, len, a, b, pos, n)) : zev m pc ls (vI x :: st) h = if x < 0 then zev m (pc + 3) ls st h else zev m a ls st h := (zv_if hc).trans (ziteN (by simp [zj1, Int32.not_lt]) _ _)
theorem zv_ifgt {k : Int} {x : Int32} (hc : zcod m pc = some (.ifCond .gt k, len, a, b, pos, n)) : zev m pc ls (vI x :: st) h = if 0 < x then zev m a ls st h else zev m (pc + 3) ls st h := (zv_if hc).trans (zite (by simp [zj1]) _ _)
theorem zv_ifle {k : Int} {x : Int32} (hc : zcod m pc = some (.ifCond .le k, len, a, b, pos, n)) : zev m pc ls (vI x :: st) h = if 0 < x then zev m (pc + 3) ls st h else zev m a ls st h := (zv_if hc).trans (ziteN (by simp [zj1, Int32.not_lt]) _ _)
theorem zv_iceq {k : Int} {x y : Int32} (hc : zcod m pc = some (.if_icmp .eq k, len, a, b, pos, n)) : zev m pc ls (vI y :: vI x :: st) h = if x = y then zev m a ls st h else zev m (pc + 3) ls st h := (zv_ic hc).trans (zite (by simp [zj2]) _ _)
theorem zv_icne {k : Int} {x y : Int32} (hc : zcod m pc = some (.if_icmp .ne k, len, a, b, pos, n)) : zev m pc ls (vI y :: vI x :: st) h = if x = y then zev m (pc + 3) ls st h else zev m a ls st h := (zv_ic hc).trans (ziteN (by simp [zj2]) _ _)
theorem zv_iclt {k : Int} {x y : Int32} (hc : zcod m pc = some (.if_icmp .lt k, len, a, b, pos, n)) : zev m pc ls (vI y :: vI x :: st) h = if x < y then zev m a ls st h else zev m (pc + 3) ls st h := (zv_ic hc).trans (zite (by simp [zj2]) _ _)
theorem zv_icge {k : Int} {x y : Int32} (hc : zcod m pc = some (.if_icmp .ge k, len, a, b, pos, n)) : zev m pc ls (vI y :: vI x :: st) h = if x < y then zev m (pc + 3) ls st h else zev m a ls st h := (zv_ic hc).trans (ziteN (by simp [zj2, Int32.not_lt]) _ _)
theorem zv_icgt {k : Int} {x y : Int32} (hc : zcod m pc = some (.if_icmp .gt k, len, a, b, pos, n)) : zev m pc ls (vI y :: vI x :: st) h = if y < x then zev m a ls st h else zev m (pc + 3) ls st h := (zv_ic hc).trans (zite (by simp [zj2]) _ _)
theorem zv_icle {k : Int} {x y : Int32} (hc : zcod m pc = some (.if_icmp .le k, len, a, b, pos, n)) : zev m pc ls (vI y :: vI x :: st) h = if y < x then zev m (pc + 3) ls st h else zev m a ls st h := (zv_ic hc).trans (ziteN (by simp [zj2, Int32.not_lt]) _ _)
def zul {α : Type} (r : Option Nat) (f g : Option α) : Option α := match r with
  | none => f
  | some _ => g
theorem zv_nu {k : Int} {r : Option Nat} (hc : zcod m pc = some (.ifnull k, len, a, b, pos, n)) : zev m pc ls (vR r :: st) h = zul r (zev m a ls st h) (zev m (pc + 3) ls st h) := by
  cases r with
  | none => exact zv_p hc rfl
  | some x => exact zv_p hc rfl
theorem zv_nn {k : Int} {r : Option Nat} (hc : zcod m pc = some (.ifnonnull k, len, a, b, pos, n)) : zev m pc ls (vR r :: st) h = zul r (zev m (pc + 3) ls st h) (zev m a ls st h) := by
  cases r with
  | none => exact zv_p hc rfl
  | some x => exact zv_p hc rfl
theorem zv_div {x y : Int32} (hc : zcod m pc = some (.idiv, len, a, b, pos, n)) : zev m pc ls (vI y :: vI x :: st) h = zdv y (zev m (pc + 1) ls (vI (x / y) :: st) h) := by
  unfold zdv
  by_cases hy : y = 0
  · rw [if_pos hy]
    refine zev_no ?_
    unfold zstp
    rw [hc]
    simp [zst1, zp1, zdv, hy, zh1, zc1]
  · rw [if_neg hy]
    exact zv_p hc (by simp [zp1, zdv, hy])
theorem zv_rem {x y : Int32} (hc : zcod m pc = some (.irem, len, a, b, pos, n)) : zev m pc ls (vI y :: vI x :: st) h = zdv y (zev m (pc + 1) ls (vI (x - x / y * y) :: st) h) := by
  unfold zdv
  by_cases hy : y = 0
  · rw [if_pos hy]
    refine zev_no ?_
    unfold zstp
    rw [hc]
    simp [zst1, zp1, zdv, hy, zh1, zc1]
  · rw [if_neg hy]
    exact zv_p hc (by simp [zp1, zdv, hy])
theorem zv_aeq {k : Int} {x y : Option Nat} (hc : zcod m pc = some (.if_acmp .eq k, len, a, b, pos, n)) : zev m pc ls (vR y :: vR x :: st) h = zac x y (zev m a ls st h) (zev m (pc + 3) ls st h) := by
  unfold zac
  split
  · rename_i hall
    split
    · rename_i hxy
      exact zv_p hc (by simp only [zp1, zac]; rw [if_pos hall, if_pos hxy])
    · rename_i hxy
      exact zv_p hc (by simp only [zp1, zac]; rw [if_pos hall, if_neg hxy])
  · rename_i hall
    refine zev_no ?_
    unfold zstp
    rw [hc]
    simp only [zst1, zp1, zac, if_neg hall, zh1, zc1]
theorem zv_gI {k : Nat} {r : Option Nat} (hc : zcod m pc = some (.getfield k, len, a, b, pos, n)) (hf : zft a b ≠ 2) : zev m pc ls (vR r :: st) h = zgI h r a b (fun x => zev m (pc + 3) ls (vI x :: st) h) := by
  rw [zv_h hc rfl rfl]
  simp only [zh1, if_neg hf]
  unfold zgI
  repeat' split
  all_goals first | rfl | simp_all
theorem zv_gR {k : Nat} {r : Option Nat} (hc : zcod m pc = some (.getfield k, len, a, b, pos, n)) (hf : zft a b = 2) : zev m pc ls (vR r :: st) h = zgR h r a b (fun x => zev m (pc + 3) ls (vR x :: st) h) := by
  rw [zv_h hc rfl rfl]
  simp only [zh1, if_pos hf]
  unfold zgR
  repeat' split
  all_goals first | rfl | simp_all
theorem zv_pI {k : Nat} {r : Option Nat} {x : Int32} (hc : zcod m pc = some (.putfield k, len, a, b, pos, n)) (hf : zft a b = 0) : zev m pc ls (vI x :: vR r :: st) h = zpI h r a b x (fun h => zev m (pc + 3) ls st h) := by
  rw [zv_h hc rfl rfl]
  simp only [zh1, if_pos hf]
  unfold zpI
  repeat' split
  all_goals first | rfl | simp_all
theorem zv_pZ {k : Nat} {r : Option Nat} {x : Int32} (hc : zcod m pc = some (.putfield k, len, a, b, pos, n)) (hf : zft a b = 1) : zev m pc ls (vI x :: vR r :: st) h = zpZ h r a b x (fun h => zev m (pc + 3) ls st h) := by
  rw [zv_h hc rfl rfl]
  simp only [zh1, if_neg (show ¬ zft a b = 0 by omega), if_pos hf]
  unfold zpZ
  repeat' split
  all_goals first | rfl | simp_all
theorem zv_pR {k : Nat} {r x : Option Nat} (hc : zcod m pc = some (.putfield k, len, a, b, pos, n)) (hf : zft a b = 2) : zev m pc ls (vR x :: vR r :: st) h = zpR h r a b x (fun h => zev m (pc + 3) ls st h) := by
  rw [zv_h hc rfl rfl]
  simp only [zh1, if_pos hf]
  unfold zpR
  repeat' split
  all_goals first | rfl | simp_all
theorem zv_aI {r : Option Nat} {i : Int32} (hc : zcod m pc = some (.iaload, len, a, b, pos, n))  : zev m pc ls (vI i :: vR r :: st) h = zaI h r i (fun x => zev m (pc + 1) ls (vI x :: st) h) := by
  rw [zv_h hc rfl rfl]
  simp only [zh1]
  unfold zaI
  repeat' split
  all_goals first | rfl | simp_all
theorem zv_aB {r : Option Nat} {i : Int32} (hc : zcod m pc = some (.baload, len, a, b, pos, n))  : zev m pc ls (vI i :: vR r :: st) h = zaB h r i (fun x => zev m (pc + 1) ls (vI x :: st) h) := by
  rw [zv_h hc rfl rfl]
  simp only [zh1]
  unfold zaB
  repeat' split
  all_goals first | rfl | simp_all
theorem zv_aR {r : Option Nat} {i : Int32} (hc : zcod m pc = some (.aaload, len, a, b, pos, n))  : zev m pc ls (vI i :: vR r :: st) h = zaR h r i (fun x => zev m (pc + 1) ls (vR x :: st) h) := by
  rw [zv_h hc rfl rfl]
  simp only [zh1]
  unfold zaR
  repeat' split
  all_goals first | rfl | simp_all
theorem zv_tI {r : Option Nat} {i x : Int32} (hc : zcod m pc = some (.iastore, len, a, b, pos, n))  : zev m pc ls (vI x :: vI i :: vR r :: st) h = ztI h r i x (fun h => zev m (pc + 1) ls st h) := by
  rw [zv_h hc rfl rfl]
  simp only [zh1]
  unfold ztI
  repeat' split
  all_goals first | rfl | simp_all
theorem zv_tB {r : Option Nat} {i x : Int32} (hc : zcod m pc = some (.bastore, len, a, b, pos, n))  : zev m pc ls (vI x :: vI i :: vR r :: st) h = ztB h r i x (fun h => zev m (pc + 1) ls st h) := by
  rw [zv_h hc rfl rfl]
  simp only [zh1]
  unfold ztB
  repeat' split
  all_goals first | rfl | simp_all
theorem zv_tR {r x : Option Nat} {i : Int32} (hc : zcod m pc = some (.aastore, len, a, b, pos, n))  : zev m pc ls (vR x :: vI i :: vR r :: st) h = ztR h r i x (fun h => zev m (pc + 1) ls st h) := by
  rw [zv_h hc rfl rfl]
  simp only [zh1]
  unfold ztR
  repeat' split
  all_goals first | rfl | simp_all
theorem zv_al2 {r : Option Nat} (hc : zcod m pc = some (.arraylength, len, a, b, pos, n))  : zev m pc ls (vR r :: st) h = zal h r (fun x => zev m (pc + 1) ls (vI x :: st) h) := by
  rw [zv_h hc rfl rfl]
  simp only [zh1]
  unfold zal
  repeat' split
  all_goals first | rfl | simp_all
theorem zv_new {k : Nat} (hc : zcod m pc = some (.new k, len, a, b, pos, n))  : zev m pc ls (st) h = zno h a (fun r h => zev m (pc + 3) ls (vR r :: st) h) := by
  rw [zv_h hc rfl rfl]
  simp only [zh1]
  unfold zno
  repeat' split
  all_goals first | rfl | simp_all
theorem zv_na {k : ArrayType} {x : Int32} (hc : zcod m pc = some (.newarray k, len, a, b, pos, n))  : zev m pc ls (vI x :: st) h = zna h a x (fun r h => zev m (pc + 2) ls (vR r :: st) h) := by
  rw [zv_h hc rfl rfl]
  simp only [zh1]
  unfold zna
  repeat' split
  all_goals first | rfl | simp_all
theorem zv_an2 {k : Nat} {x : Int32} (hc : zcod m pc = some (.anewarray k, len, a, b, pos, n))  : zev m pc ls (vI x :: st) h = zna h 103 x (fun r h => zev m (pc + 3) ls (vR r :: st) h) := by
  rw [zv_h hc rfl rfl]
  simp only [zh1]
  unfold zna
  repeat' split
  all_goals first | rfl | simp_all
theorem zv_ca {k : Nat} {r : Option Nat} (hc : zcod m pc = some (.checkcast k, len, a, b, pos, n))  : zev m pc ls (vR r :: st) h = zca h a r (zev m (pc + 3) ls (vR r :: st) h) := by
  rw [zv_h hc rfl rfl]
  simp only [zh1]
  unfold zca
  repeat' split
  all_goals first | rfl | simp_all
theorem zv_ob {k : Nat} {r : Option Nat} (hc : zcod m pc = some (.invokespecial k, len, 1, b, pos, n)) (hs : zcs st ≤ 8) : zev m pc ls (vR r :: st) h = zul r none (zev m (pc + 3) ls st h) := by
  rw [zv_h hc rfl (by simp [zc1])]
  cases r with
  | none => simp [zh1, zul]
  | some x => simp [zh1, zul, hs]
theorem zv_cM {k : Nat} {r q : Option Nat} {sp dp x : Int32} (hc : zcod m pc = some (.invokestatic k, len, 1000, b, pos, n)) (hs : zcs st ≤ 8) : zev m pc ls (vI x :: vI dp :: vR q :: vI sp :: vR r :: st) h = zcM h r sp q dp x (fun h => zev m (pc + 3) ls st h) := by
  rw [zv_h hc rfl (by simp [zc1])]
  simp only [zh1, if_true, hs]
  unfold zcM
  repeat' split
  all_goals first | rfl | simp_all
theorem zv_cO {k : Nat} {r : Option Nat} {x : Int32} (hc : zcod m pc = some (.invokestatic k, len, 36, b, pos, n)) (hs : zcs st ≤ 8) : zev m pc ls (vI x :: vR r :: st) h = zcO h r x (fun q h => zev m (pc + 3) ls (vR q :: st) h) := by
  rw [zv_h hc rfl (by simp [zc1])]
  simp only [zh1, if_true, hs, show ¬ (36 : Nat) = 1000 by decide, if_false]
  unfold zcO
  repeat' split
  all_goals first | rfl | simp_all
theorem zv_ir {x : Int32} (hc : zcod m pc = some (.ireturn, len, a, b, pos, n)) (hr : zrt m = 1) : zev m pc ls [vI x] h = some (some (vI x), h) := by
  refine zev_rt ?_
  rw [zv_c hc rfl rfl]
  simp [zc1, hr]
def zbo {α : Type} (x : Int32) (f : Option α) : Option α := if x = 0 ∨ x = 1 then f else none
theorem zv_iz {x : Int32} (hc : zcod m pc = some (.ireturn, len, a, b, pos, n)) (hr : zrt m = 2) : zev m pc ls [vI x] h = zbo x (some (some (vI x), h)) := by
  unfold zbo
  by_cases h01 : x = 0 ∨ x = 1
  · rw [if_pos h01]
    refine zev_rt ?_
    rw [zv_c hc rfl rfl]
    simp only [zc1, hr]
    rw [if_pos (Or.inr ⟨trivial, h01⟩)]
  · rw [if_neg h01]
    refine zev_no ?_
    rw [zv_c hc rfl rfl]
    simp only [zc1, hr]
    rw [if_neg]
    rintro (q | q)
    · cases q
    · exact h01 q.2
theorem zv_ar {r : Option Nat} (hc : zcod m pc = some (.areturn, len, a, b, pos, n)) (hr : zrt m = 3) : zev m pc ls [vR r] h = some (some (vR r), h) := by
  refine zev_rt ?_
  rw [zv_c hc rfl rfl]
  simp [zc1, hr]
theorem zv_vr (hc : zcod m pc = some (.return_, len, a, b, pos, n)) (hr : zrt m = 0) : zev m pc ls [] h = some (none, h) := by
  refine zev_rt ?_
  rw [zv_c hc rfl rfl]
  simp [zc1, hr]
end ZV
/-- what a method answers is of its kind -/
def zrk (m : Nat) (r : Option zV) : Prop := (zrt m = 0 → r = none) ∧ (zrt m = 1 ∨ zrt m = 2 → ∃ x, r = some (vI x)) ∧ (zrt m = 3 → ∃ x, r = some (vR x))
theorem zc1_rk {m : Nat} {i : Instr} {a b pc : Nat} {al : zLs} {st : List zV} {h : zH} {r : Option zV × zH} (hp : zc1 m i a b pc al st h = some (.inr (.inl r))) : zrk m r.1 := by
  cases i with
  | ireturn =>
    simp only [zc1] at hp
    split at hp
    · split at hp
      · rename_i hr
        cases hp
        refine ⟨fun q => ?_, fun _ => ⟨_, rfl⟩, fun q => ?_⟩ <;> rcases hr with w | ⟨w, -⟩ <;> omega
      · cases hp
    · cases hp
  | areturn =>
    simp only [zc1] at hp
    split at hp
    · split at hp
      · cases hp
        refine ⟨fun q => ?_, fun q => ?_, fun _ => ⟨_, rfl⟩⟩ <;> omega
      · cases hp
    · cases hp
  | return_ =>
    simp only [zc1] at hp
    split at hp
    · split at hp
      · cases hp
        refine ⟨fun _ => rfl, fun q => ?_, fun q => ?_⟩ <;> omega
      · cases hp
    · cases hp
  | invokevirtual _ => simp only [zc1] at hp; (repeat' split at hp) <;> cases hp
  | invokespecial _ => simp only [zc1] at hp; (repeat' split at hp) <;> cases hp
  | invokestatic _ => simp only [zc1] at hp; (repeat' split at hp) <;> cases hp
  | _ => simp [zc1] at hp
theorem zex_rk : ∀ (n m pc : Nat) (ls : zLs) (st : List zV) (h : zH) (r : Option zV × zH), zex n m pc ls st h = some r → zrk m r.1
  | 0, _, _, _, _, _, _, hr => by simp [zex] at hr
  | n + 1, m, pc, ls, st, h, r, hr => by
    unfold zex at hr
    cases hs : zstp m pc ls st h with
    | none => rw [hs] at hr; simp at hr
    | some q =>
      rw [hs] at hr
      match q, hs, hr with
      | .inl q, hs, hr => exact zex_rk n _ _ _ _ _ _ hr
      | .inr (.inl q), hs, hr =>
        simp only [Option.some.injEq] at hr
        subst hr
        unfold zstp at hs
        split at hs
        · cases hs
        · simp only [zst1] at hs
          split at hs
          · cases hs
          · split at hs
            · cases hs
            · exact zc1_rk hs
      | .inr (.inr (k, as, q)), hs, hr =>
        simp only at hr
        split at hr
        · cases hr
        · exact zex_rk n _ _ _ _ _ _ hr
section ZW
variable {α : Type}
noncomputable def zcI (k : Nat) (as : List zV) (h : zH) (f : Int32 → zH → Option α) : Option α := (zcall k as h).bind fun q => match q.1 with
  | some (.inl x) => f x q.2
  | _ => none
noncomputable def zcR (k : Nat) (as : List zV) (h : zH) (f : Option Nat → zH → Option α) : Option α := (zcall k as h).bind fun q => match q.1 with
  | some (.inr (.inr x)) => f x q.2
  | _ => none
noncomputable def zcV (k : Nat) (as : List zV) (h : zH) (f : zH → Option α) : Option α := (zcall k as h).bind fun q => match q.1 with
  | none => f q.2
  | _ => none
def zvr (h : zH) (r : Option Nat) (t : Nat) (f : Option α) : Option α := match r with
  | none => none
  | some a => if 8 ≤ a ∧ a < zn h ∧ (zk h a).1 = t then f else none
end ZW
theorem zcall_rk {k : Nat} {as : List zV} {h : zH} {r : Option zV × zH} (hz : zcall k as h = some r) : zrk k r.1 := by
  obtain ⟨n, hn⟩ := zev_ex hz
  exact zex_rk n _ _ _ _ _ _ hn
section ZX
variable {m pc : Nat} {ls : zLs} {st st' as : List zV} {h : zH} {len a b pos : Nat} {n : Int} {α : Type}
theorem zbI {f : Option zV × zH → Option α} (hr : zrt a = 1 ∨ zrt a = 2) : ((zcall a as h).bind fun r => f r) = zcI a as h (fun x h' => f (some (vI x), h')) := by
  unfold zcI
  cases hz : zcall a as h with
  | none => rfl
  | some q =>
    obtain ⟨x, hx⟩ := (zcall_rk hz).2.1 hr
    obtain ⟨q1, q2⟩ := q
    simp only at hx
    subst hx
    rfl
theorem zbR {f : Option zV × zH → Option α} (hr : zrt a = 3) : ((zcall a as h).bind fun r => f r) = zcR a as h (fun x h' => f (some (vR x), h')) := by
  unfold zcR
  cases hz : zcall a as h with
  | none => rfl
  | some q =>
    obtain ⟨x, hx⟩ := (zcall_rk hz).2.2 hr
    obtain ⟨q1, q2⟩ := q
    simp only at hx
    subst hx
    rfl
theorem zbV {f : Option zV × zH → Option α} (hr : zrt a = 0) : ((zcall a as h).bind fun r => f r) = zcV a as h (fun h' => f (none, h')) := by
  unfold zcV
  cases hz : zcall a as h with
  | none => rfl
  | some q =>
    have hx := (zcall_rk hz).1 hr
    obtain ⟨q1, q2⟩ := q
    simp only at hx
    subst hx
    rfl
theorem zv_st {k : Nat} (hc : zcod m pc = some (.invokestatic k, len, a, b, pos, n)) (ha : ¬ (a = 1000 ∨ a = 36)) (hp : zpop b [] st = some (as, st')) (hs : zcs st' ≤ 8) (hx : (zexp as).length ≤ zL a) : zev m pc ls st h = (zcall a as h).bind fun r => zev m (pc + 3) ls (r.1.toList ++ st') r.2 := by
  refine zev_cl (q := (pc + 3, ls, st', h)) ?_
  rw [zv_c hc rfl (by simp only [zh1]; rw [if_neg (fun q => ha (Or.inl q)), if_neg (fun q => ha (Or.inr q))])]
  simp only [zc1, if_neg ha, hp]
  rw [if_pos ⟨hs, hx⟩]
theorem zv_sp {k : Nat} {r : Option Nat} (hc : zcod m pc = some (.invokespecial k, len, a, b, pos, n)) (ha : ¬ a = 1) (hp : zpop b [] st = some (as, vR r :: st')) (hs : zcs st' ≤ 8) (hx : (zexp (vR none :: as)).length ≤ zL a) : zev m pc ls st h = zul r none ((zcall a (vR r :: as) h).bind fun r => zev m (pc + 3) ls (r.1.toList ++ st') r.2) := by
  cases r with
  | none =>
    refine zev_no ?_
    rw [zv_c hc rfl (by simp only [zh1]; rw [if_neg ha])]
    simp only [zc1, if_neg ha, hp]
  | some r =>
    refine zev_cl (q := (pc + 3, ls, st', h)) ?_
    rw [zv_c hc rfl (by simp only [zh1]; rw [if_neg ha])]
    simp only [zc1, if_neg ha, hp]
    rw [if_pos ⟨hs, hx⟩]
theorem zv_vi {k t : Nat} {r : Option Nat} (hc : zcod m pc = some (.invokevirtual k, len, a, b, pos, n)) (ht : zcn a = t) (hp : zpop b [] st = some (as, vR r :: st')) (hs : zcs st' ≤ 8) (hx : (zexp (vR none :: as)).length ≤ zL a) : zev m pc ls st h = zvr h r t ((zcall a (vR r :: as) h).bind fun r => zev m (pc + 3) ls (r.1.toList ++ st') r.2) := by
  subst ht
  cases r with
  | none =>
    refine zev_no ?_
    rw [zv_c hc rfl rfl]
    simp only [zc1, hp]
  | some r =>
    unfold zvr
    simp only
    by_cases hk : 8 ≤ r ∧ r < zn h ∧ (zk h r).1 = zcn a
    · rw [if_pos hk]
      refine zev_cl (q := (pc + 3, ls, st', h)) ?_
      rw [zv_c hc rfl rfl]
      simp only [zc1, hp]
      rw [if_pos ⟨hk.1, hk.2.1, hk.2.2, hs, hx⟩]
    · rw [if_neg hk]
      refine zev_no ?_
      rw [zv_c hc rfl rfl]
      simp only [zc1, hp]
      rw [if_neg]
      rintro ⟨q1, q2, q3, -⟩
      exact hk ⟨q1, q2, q3⟩
end ZX
end
section
/-! the same residue under a binder; calls by the kind of their answer -/
section ZCg
variable {α : Type} {h : zH} {r q : Option Nat} {t k : Nat} {x y : Int32}
theorem zgI_c {f g : Int32 → Option α} (e : ∀ v, f v = g v) : zgI h r t k f = zgI h r t k g := by rw [funext e]
theorem zgR_c {f g : Option Nat → Option α} (e : ∀ v, f v = g v) : zgR h r t k f = zgR h r t k g := by rw [funext e]
theorem zpI_c {f g : zH → Option α} (e : ∀ v, f v = g v) : zpI h r t k x f = zpI h r t k x g := by rw [funext e]
theorem zpZ_c {f g : zH → Option α} (e : ∀ v, f v = g v) : zpZ h r t k x f = zpZ h r t k x g := by rw [funext e]
theorem zpR_c {f g : zH → Option α} (e : ∀ v, f v = g v) : zpR h r t k q f = zpR h r t k q g := by rw [funext e]
theorem zaI_c {f g : Int32 → Option α} (e : ∀ v, f v = g v) : zaI h r x f = zaI h r x g := by rw [funext e]
theorem zaB_c {f g : Int32 → Option α} (e : ∀ v, f v = g v) : zaB h r x f = zaB h r x g := by rw [funext e]
theorem zaR_c {f g : Option Nat → Option α} (e : ∀ v, f v = g v) : zaR h r x f = zaR h r x g := by rw [funext e]
theorem ztI_c {f g : zH → Option α} (e : ∀ v, f v = g v) : ztI h r x y f = ztI h r x y g := by rw [funext e]
theorem ztB_c {f g : zH → Option α} (e : ∀ v, f v = g v) : ztB h r x y f = ztB h r x y g := by rw [funext e]
theorem ztR_c {f g : zH → Option α} (e : ∀ v, f v = g v) : ztR h r x q f = ztR h r x q g := by rw [funext e]
theorem zal_c {f g : Int32 → Option α} (e : ∀ v, f v = g v) : zal h r f = zal h r g := by rw [funext e]
theorem zno_c {f g : Option Nat → zH → Option α} (e : ∀ v w, f v w = g v w) : zno h t f = zno h t g := by rw [funext fun v => funext (e v)]
theorem zna_c {f g : Option Nat → zH → Option α} (e : ∀ v w, f v w = g v w) : zna h t x f = zna h t x g := by rw [funext fun v => funext (e v)]
theorem zca_c {f g : Option α} (e : f = g) : zca h t r f = zca h t r g := by rw [e]
theorem zcO_c {f g : Option Nat → zH → Option α} (e : ∀ v w, f v w = g v w) : zcO h r x f = zcO h r x g := by rw [funext fun v => funext (e v)]
theorem zdv_c {f g : Option α} (e : f = g) : zdv x f = zdv x g := by rw [e]
theorem zvr_c {f g : Option α} (e : f = g) : zvr h r t f = zvr h r t g := by rw [e]
theorem zcM_c {dp n : Int32} {f g : zH → Option α} (e : ∀ v, f v = g v) : zcM h r x q dp n f = zcM h r x q dp n g := by rw [funext e]
theorem zul_c {f g f2 g2 : Option α} (e : f = f2) (e2 : g = g2) : zul r f g = zul r f2 g2 := by rw [e, e2]
theorem zac_c {f g f2 g2 : Option α} (e : f = f2) (e2 : g = g2) : zac r q f g = zac r q f2 g2 := by rw [e, e2]
theorem zif_c {c : Prop} [Decidable c] {f g f2 g2 : Option α} (e : f = f2) (e2 : g = g2) : (if c then f else g) = if c then f2 else g2 := by rw [e, e2]
theorem zcI_c {as : List zV} {f g : Int32 → zH → Option α} (e : ∀ v w, f v w = g v w) : zcI k as h f = zcI k as h g := by rw [funext fun v => funext (e v)]
theorem zcR_c {as : List zV} {f g : Option Nat → zH → Option α} (e : ∀ v w, f v w = g v w) : zcR k as h f = zcR k as h g := by rw [funext fun v => funext (e v)]
theorem zcV_c {as : List zV} {f g : zH → Option α} (e : ∀ v, f v = g v) : zcV k as h f = zcV k as h g := by rw [funext e]
end ZCg
section ZY
variable {m pc : Nat} {ls : zLs} {st st' as : List zV} {h : zH} {len a b pos N t k : Nat} {n : Int} {r : Option Nat}
theorem zle {x y : Nat} (h : Nat.ble x y = true) : x ≤ y := Nat.le_of_ble_eq_true h
theorem zv_stI (hc : zcod m pc = some (.invokestatic k, len, a, b, pos, n)) (ha : ¬ (a = 1000 ∨ a = 36)) (hp : zpop b [] st = some (as, st')) (hL : zL a = N) (hr : zrt a = 1 ∨ zrt a = 2) (hs : Nat.ble (zcs st') 8 = true) (hx : Nat.ble (zexp as).length N = true) : zev m pc ls st h = zcI a as h (fun x h => zev m (pc + 3) ls (vI x :: st') h) := (zv_st hc ha hp (zle hs) (by rw [hL]; exact zle hx)).trans (zbI hr)
theorem zv_stR (hc : zcod m pc = some (.invokestatic k, len, a, b, pos, n)) (ha : ¬ (a = 1000 ∨ a = 36)) (hp : zpop b [] st = some (as, st')) (hL : zL a = N) (hr : zrt a = 3) (hs : Nat.ble (zcs st') 8 = true) (hx : Nat.ble (zexp as).length N = true) : zev m pc ls st h = zcR a as h (fun x h => zev m (pc + 3) ls (vR x :: st') h) := (zv_st hc ha hp (zle hs) (by rw [hL]; exact zle hx)).trans (zbR hr)
theorem zv_stV (hc : zcod m pc = some (.invokestatic k, len, a, b, pos, n)) (ha : ¬ (a = 1000 ∨ a = 36)) (hp : zpop b [] st = some (as, st')) (hL : zL a = N) (hr : zrt a = 0) (hs : Nat.ble (zcs st') 8 = true) (hx : Nat.ble (zexp as).length N = true) : zev m pc ls st h = zcV a as h (fun h => zev m (pc + 3) ls st' h) := (zv_st hc ha hp (zle hs) (by rw [hL]; exact zle hx)).trans (zbV hr)
theorem zv_spI (hc : zcod m pc = some (.invokespecial k, len, a, b, pos, n)) (ha : ¬ a = 1) (hp : zpop b [] st = some (as, vR r :: st')) (hL : zL a = N) (hr : zrt a = 1 ∨ zrt a = 2) (hs : Nat.ble (zcs st') 8 = true) (hx : Nat.ble (zexp (vR none :: as)).length N = true) : zev m pc ls st h = zul r none (zcI a (vR r :: as) h (fun x h => zev m (pc + 3) ls (vI x :: st') h)) := (zv_sp hc ha hp (zle hs) (by rw [hL]; exact zle hx)).trans (zul_c rfl (zbI hr))
theorem zv_spR (hc : zcod m pc = some (.invokespecial k, len, a, b, pos, n)) (ha : ¬ a = 1) (hp : zpop b [] st = some (as, vR r :: st')) (hL : zL a = N) (hr : zrt a = 3) (hs : Nat.ble (zcs st') 8 = true) (hx : Nat.ble (zexp (vR none :: as)).length N = true) : zev m pc ls st h = zul r none (zcR a (vR r :: as) h (fun x h => zev m (pc + 3) ls (vR x :: st') h)) := (zv_sp hc ha hp (zle hs) (by rw [hL]; exact zle hx)).trans (zul_c rfl (zbR hr))
theorem zv_spV (hc : zcod m pc = some (.invokespecial k, len, a, b, pos, n)) (ha : ¬ a = 1) (hp : zpop b [] st = some (as, vR r :: st')) (hL : zL a = N) (hr : zrt a = 0) (hs : Nat.ble (zcs st') 8 = true) (hx : Nat.ble (zexp (vR none :: as)).length N = true) : zev m pc ls st h = zul r none (zcV a (vR r :: as) h (fun h => zev m (pc + 3) ls st' h)) := (zv_sp hc ha hp (zle hs) (by rw [hL]; exact zle hx)).trans (zul_c rfl (zbV hr))
theorem zv_viI (hc : zcod m pc = some (.invokevirtual k, len, a, b, pos, n)) (ht : zcn a = t) (hp : zpop b [] st = some (as, vR r :: st')) (hL : zL a = N) (hr : zrt a = 1 ∨ zrt a = 2) (hs : Nat.ble (zcs st') 8 = true) (hx : Nat.ble (zexp (vR none :: as)).length N = true) : zev m pc ls st h = zvr h r t (zcI a (vR r :: as) h (fun x h => zev m (pc + 3) ls (vI x :: st') h)) := (zv_vi hc ht hp (zle hs) (by rw [hL]; exact zle hx)).trans (zvr_c (zbI hr))
theorem zv_viR (hc : zcod m pc = some (.invokevirtual k, len, a, b, pos, n)) (ht : zcn a = t) (hp : zpop b [] st = some (as, vR r :: st')) (hL : zL a = N) (hr : zrt a = 3) (hs : Nat.ble (zcs st') 8 = true) (hx : Nat.ble (zexp (vR none :: as)).length N = true) : zev m pc ls st h = zvr h r t (zcR a (vR r :: as) h (fun x h => zev m (pc + 3) ls (vR x :: st') h)) := (zv_vi hc ht hp (zle hs) (by rw [hL]; exact zle hx)).trans (zvr_c (zbR hr))
theorem zv_viV (hc : zcod m pc = some (.invokevirtual k, len, a, b, pos, n)) (ht : zcn a = t) (hp : zpop b [] st = some (as, vR r :: st')) (hL : zL a = N) (hr : zrt a = 0) (hs : Nat.ble (zcs st') 8 = true) (hx : Nat.ble (zexp (vR none :: as)).length N = true) : zev m pc ls st h = zvr h r t (zcV a (vR r :: as) h (fun h => zev m (pc + 3) ls st' h)) := (zv_vi hc ht hp (zle hs) (by rw [hL]; exact zle hx)).trans (zvr_c (zbV hr))
end ZY
/-- a tableswitch from 0 on -/
noncomputable def zsl (m : Nat) (ls : zLs) (st : List zV) (h : zH) (x : Int32) (d : Nat) (T : List Nat) (k : Nat) : Option (Option zV × zH) := match T with
  | [] => zev m d ls st h
  | t :: r => if x = Int32.ofNat k then zev m t ls st h else zsl m ls st h x d r (k + 1)
theorem zsl_out (m : Nat) (ls : zLs) (st : List zV) (h : zH) (x : Int32) (d : Nat) : ∀ (T : List Nat) (k : Nat), k + T.length < 2 ^ 31 → (x.toInt < k ∨ (k : Int) + T.length ≤ x.toInt) → zsl m ls st h x d T k = zev m d ls st h
  | [], _, _, _ => rfl
  | t :: r, k, hk, hx => by
    rw [List.length_cons] at hk hx
    have hne : ¬ x = Int32.ofNat k := by
      intro q
      have : x.toInt = (k : Int) := by rw [q]; exact Int32.toInt_ofNat_of_lt (by omega)
      omega
    unfold zsl
    rw [if_neg hne]
    exact zsl_out m ls st h x d r (k + 1) (by omega) (by omega)
theorem zsl_in (m : Nat) (ls : zLs) (st : List zV) (h : zH) (x : Int32) (d : Nat) : ∀ (T : List Nat) (k j t : Nat), k + T.length < 2 ^ 31 → x.toInt = (k : Int) + j → T[j]? = some t → zsl m ls st h x d T k = zev m t ls st h
  | [], _, _, _, _, _, h => by simp at h
  | t :: r, k, 0, u, hk, hx, hu => by
    rw [List.length_cons] at hk
    have he : x = Int32.ofNat k := by
      apply Int32.toInt_inj.mp
      rw [Int32.toInt_ofNat_of_lt (by omega)]
      omega
    unfold zsl
    rw [if_pos he]
    simp at hu
    rw [hu]
  | t :: r, k, j + 1, u, hk, hx, hu => by
    rw [List.length_cons] at hk
    have hne : ¬ x = Int32.ofNat k := by
      intro q
      have : x.toInt = (k : Int) := by rw [q]; exact Int32.toInt_ofNat_of_lt (by omega)
      omega
    unfold zsl
    rw [if_neg hne]
    exact zsl_in m ls st h x d r (k + 1) j u (by omega) (by omega) (by simpa using hu)
theorem zv_ts {m pc : Nat} {ls : zLs} {st : List zV} {h : zH} {len a b pos : Nat} {n : Int} {d hi : Int} {offs : Array Int} {x : Int32} {T : List Nat} {dt : Nat} (hc : zcod m pc = some (.tableswitch d 0 hi offs, len, a, b, pos, n)) (hd : ((pc : Int) + d).toNat = dt) (hT : offs.toList.map (fun o => ((pc : Int) + o).toNat) = T) (hh : hi + 1 = (T.length : Int)) (hs : T.length < 1000) : zev m pc ls (vI x :: st) h = zsl m ls st h x dt T 0 := by
  by_cases ho : x.toInt < 0 ∨ hi < x.toInt
  · rw [zsl_out m ls st h x dt T 0 (by omega) (by omega)]
    refine zv_p hc ?_
    simp only [zp1]
    rw [if_pos ho, hd]
  · have hj : (x.toInt - 0).toNat < T.length := by omega
    have hj2 : (x.toInt - 0).toNat < offs.size := by rw [← hT, List.length_map, Array.length_toList] at hj; exact hj
    have hTj : T[(x.toInt - 0).toNat]? = some (((pc : Int) + offs[(x.toInt - 0).toNat]).toNat) := by
      rw [← hT, List.getElem?_map, Array.getElem?_toList, Array.getElem?_eq_getElem hj2]
      rfl
    rw [zsl_in m ls st h x dt T 0 _ _ (by omega) (by omega) hTj]
    refine zv_p hc ?_
    simp only [zp1]
    rw [if_neg ho, Array.getElem?_eq_getElem hj2]
    rfl
theorem zv_lk {m pc : Nat} {ls : zLs} {st : List zV} {h : zH} {len a b pos : Nat} {n : Int} {d : Int} {ps : Array (Int × Int)} {x : Int32} (hc : zcod m pc = some (.lookupswitch d ps, len, a, b, pos, n)) : zev m pc ls (vI x :: st) h = zev m (((pc : Int) + Op.lookupswitch.offset ps.toList d x.toInt).toNat) ls st h := zv_p hc rfl
theorem zv_lk3 {m pc : Nat} {ls : zLs} {st : List zV} {h : zH} {len a b pos : Nat} {n : Int} {d o1 o2 o3 : Int} {k1 k2 k3 x : Int32} {i1 i2 i3 : Int} {t1 t2 t3 dt : Nat} (hc : zcod m pc = some (.lookupswitch d #[(i1, o1), (i2, o2), (i3, o3)], len, a, b, pos, n)) (e1 : k1.toInt = i1) (e2 : k2.toInt = i2) (e3 : k3.toInt = i3) (h1 : ((pc : Int) + o1).toNat = t1) (h2 : ((pc : Int) + o2).toNat = t2) (h3 : ((pc : Int) + o3).toNat = t3) (hd : ((pc : Int) + d).toNat = dt) : zev m pc ls (vI x :: st) h = if x = k1 then zev m t1 ls st h else if x = k2 then zev m t2 ls st h else if x = k3 then zev m t3 ls st h else zev m dt ls st h := by
  have key : ∀ {k : Int32} {i : Int}, k.toInt = i → (i = x.toInt ↔ x = k) := fun {k i} e => ⟨fun q => Int32.toInt_inj.mp (q.symm.trans e.symm), fun q => by rw [q, e]⟩
  rw [zv_lk hc]
  simp only [Op.lookupswitch.offset_cons, key e1, key e2, key e3]
  by_cases c1 : x = k1
  · rw [if_pos c1, if_pos c1, h1]
  · rw [if_neg c1, if_neg c1]
    by_cases c2 : x = k2
    · rw [if_pos c2, if_pos c2, h2]
    · rw [if_neg c2, if_neg c2]
      by_cases c3 : x = k3
      · rw [if_pos c3, if_pos c3, h3]
      · rw [if_neg c3, if_neg c3, ← hd]
        rfl
end
section
theorem zv_x {m pc : Nat} {ls : zLs} {st : List zV} {h : zH} (hc : zcod m pc = none) : zev m pc ls st h = none := by
  refine zev_no ?_
  unfold zstp
  rw [hc]
theorem zsl_k {m : Nat} {ls : zLs} {st : List zV} {h : zH} {x v : Int32} {d t k : Nat} {r : List Nat} (hv : Int32.ofNat k = v) : zsl m ls st h x d (t :: r) k = if x = v then zev m t ls st h else zsl m ls st h x d r (k + 1) := by
  subst hv; rfl
theorem zsl_n {m : Nat} {ls : zLs} {st : List zV} {h : zH} {x : Int32} {d k : Nat} : zsl m ls st h x d [] k = zev m d ls st h := rfl
theorem zf0_0 : zft 0 0 = 0 := by decide +kernel
theorem zg0_0 : zft 0 0 ≠ 2 := by decide +kernel
theorem zf0_1 : zft 0 1 = 2 := by decide +kernel
theorem zf0_2 : zft 0 2 = 0 := by decide +kernel
theorem zg0_2 : zft 0 2 ≠ 2 := by decide +kernel
theorem zf1_0 : zft 1 0 = 0 := by decide +kernel
theorem zg1_0 : zft 1 0 ≠ 2 := by decide +kernel
theorem zf1_1 : zft 1 1 = 0 := by decide +kernel
theorem zg1_1 : zft 1 1 ≠ 2 := by decide +kernel
theorem zf2_0 : zft 2 0 = 0 := by decide +kernel
theorem zg2_0 : zft 2 0 ≠ 2 := by decide +kernel
theorem zf2_1 : zft 2 1 = 0 := by decide +kernel
theorem zg2_1 : zft 2 1 ≠ 2 := by decide +kernel
theorem zf2_2 : zft 2 2 = 0 := by decide +kernel
theorem zg2_2 : zft 2 2 ≠ 2 := by decide +kernel
theorem zf2_3 : zft 2 3 = 0 := by decide +kernel
theorem zg2_3 : zft 2 3 ≠ 2 := by decide +kernel
theorem zf2_4 : zft 2 4 = 1 := by decide +kernel
theorem zg2_4 : zft 2 4 ≠ 2 := by decide +kernel
theorem zf2_5 : zft 2 5 = 0 := by decide +kernel
theorem zg2_5 : zft 2 5 ≠ 2 := by decide +kernel
theorem zf2_6 : zft 2 6 = 2 := by decide +kernel
theorem zf2_7 : zft 2 7 = 0 := by decide +kernel
theorem zg2_7 : zft 2 7 ≠ 2 := by decide +kernel
theorem zf2_8 : zft 2 8 = 0 := by decide +kernel
theorem zg2_8 : zft 2 8 ≠ 2 := by decide +kernel
theorem zf2_9 : zft 2 9 = 2 := by decide +kernel
theorem zf2_10 : zft 2 10 = 1 := by decide +kernel
theorem zg2_10 : zft 2 10 ≠ 2 := by decide +kernel
theorem zf2_11 : zft 2 11 = 0 := by decide +kernel
theorem zg2_11 : zft 2 11 ≠ 2 := by decide +kernel
theorem zf2_12 : zft 2 12 = 0 := by decide +kernel
theorem zg2_12 : zft 2 12 ≠ 2 := by decide +kernel
theorem zf2_13 : zft 2 13 = 0 := by decide +kernel
theorem zg2_13 : zft 2 13 ≠ 2 := by decide +kernel
theorem zf2_14 : zft 2 14 = 0 := by decide +kernel
theorem zg2_14 : zft 2 14 ≠ 2 := by decide +kernel
theorem zf2_15 : zft 2 15 = 0 := by decide +kernel
theorem zg2_15 : zft 2 15 ≠ 2 := by decide +kernel
theorem zf2_16 : zft 2 16 = 0 := by decide +kernel
theorem zg2_16 : zft 2 16 ≠ 2 := by decide +kernel
theorem zf3_0 : zft 3 0 = 2 := by decide +kernel
theorem zf3_1 : zft 3 1 = 2 := by decide +kernel
theorem zf3_2 : zft 3 2 = 0 := by decide +kernel
theorem zg3_2 : zft 3 2 ≠ 2 := by decide +kernel
theorem zf3_3 : zft 3 3 = 0 := by decide +kernel
theorem zg3_3 : zft 3 3 ≠ 2 := by decide +kernel
theorem zf3_4 : zft 3 4 = 0 := by decide +kernel
theorem zg3_4 : zft 3 4 ≠ 2 := by decide +kernel
theorem zf3_5 : zft 3 5 = 0 := by decide +kernel
theorem zg3_5 : zft 3 5 ≠ 2 := by decide +kernel
theorem zf3_6 : zft 3 6 = 0 := by decide +kernel
theorem zg3_6 : zft 3 6 ≠ 2 := by decide +kernel
theorem zf3_7 : zft 3 7 = 0 := by decide +kernel
theorem zg3_7 : zft 3 7 ≠ 2 := by decide +kernel
theorem zf3_8 : zft 3 8 = 0 := by decide +kernel
theorem zg3_8 : zft 3 8 ≠ 2 := by decide +kernel
theorem zf4_0 : zft 4 0 = 2 := by decide +kernel
theorem zf4_1 : zft 4 1 = 0 := by decide +kernel
theorem zg4_1 : zft 4 1 ≠ 2 := by decide +kernel
theorem zf5_0 : zft 5 0 = 2 := by decide +kernel
theorem zf5_1 : zft 5 1 = 2 := by decide +kernel
theorem zf5_2 : zft 5 2 = 2 := by decide +kernel
theorem zf5_3 : zft 5 3 = 0 := by decide +kernel
theorem zg5_3 : zft 5 3 ≠ 2 := by decide +kernel
theorem zf5_4 : zft 5 4 = 0 := by decide +kernel
theorem zg5_4 : zft 5 4 ≠ 2 := by decide +kernel
theorem zf6_0 : zft 6 0 = 2 := by decide +kernel
theorem zf6_1 : zft 6 1 = 2 := by decide +kernel
theorem zf6_2 : zft 6 2 = 0 := by decide +kernel
theorem zg6_2 : zft 6 2 ≠ 2 := by decide +kernel
theorem zf6_3 : zft 6 3 = 0 := by decide +kernel
theorem zg6_3 : zft 6 3 ≠ 2 := by decide +kernel
theorem zf6_4 : zft 6 4 = 0 := by decide +kernel
theorem zg6_4 : zft 6 4 ≠ 2 := by decide +kernel
theorem zf6_5 : zft 6 5 = 0 := by decide +kernel
theorem zg6_5 : zft 6 5 ≠ 2 := by decide +kernel
theorem zf7_0 : zft 7 0 = 0 := by decide +kernel
theorem zg7_0 : zft 7 0 ≠ 2 := by decide +kernel
theorem zf7_1 : zft 7 1 = 0 := by decide +kernel
theorem zg7_1 : zft 7 1 ≠ 2 := by decide +kernel
theorem zf7_2 : zft 7 2 = 2 := by decide +kernel
theorem zf8_0 : zft 8 0 = 2 := by decide +kernel
theorem zf8_1 : zft 8 1 = 2 := by decide +kernel
theorem zf9_0 : zft 9 0 = 2 := by decide +kernel
theorem zf9_1 : zft 9 1 = 0 := by decide +kernel
theorem zg9_1 : zft 9 1 ≠ 2 := by decide +kernel
theorem zf9_2 : zft 9 2 = 0 := by decide +kernel
theorem zg9_2 : zft 9 2 ≠ 2 := by decide +kernel
theorem zf9_3 : zft 9 3 = 2 := by decide +kernel
theorem zf9_4 : zft 9 4 = 2 := by decide +kernel
theorem zf9_5 : zft 9 5 = 0 := by decide +kernel
theorem zg9_5 : zft 9 5 ≠ 2 := by decide +kernel
theorem zf9_6 : zft 9 6 = 2 := by decide +kernel
theorem zf9_7 : zft 9 7 = 2 := by decide +kernel
theorem zf9_8 : zft 9 8 = 2 := by decide +kernel
theorem zf9_9 : zft 9 9 = 2 := by decide +kernel
theorem zf9_10 : zft 9 10 = 2 := by decide +kernel
theorem zf9_11 : zft 9 11 = 2 := by decide +kernel
theorem zf9_12 : zft 9 12 = 2 := by decide +kernel
theorem zf9_13 : zft 9 13 = 2 := by decide +kernel
theorem zf9_14 : zft 9 14 = 2 := by decide +kernel
theorem zf9_15 : zft 9 15 = 2 := by decide +kernel
theorem zf9_16 : zft 9 16 = 0 := by decide +kernel
theorem zg9_16 : zft 9 16 ≠ 2 := by decide +kernel
theorem zf9_17 : zft 9 17 = 2 := by decide +kernel
theorem zf9_18 : zft 9 18 = 0 := by decide +kernel
theorem zg9_18 : zft 9 18 ≠ 2 := by decide +kernel
theorem zf9_19 : zft 9 19 = 2 := by decide +kernel
theorem zf9_20 : zft 9 20 = 2 := by decide +kernel
theorem zf9_21 : zft 9 21 = 2 := by decide +kernel
theorem zf9_22 : zft 9 22 = 2 := by decide +kernel
theorem zf9_23 : zft 9 23 = 2 := by decide +kernel
theorem zf9_24 : zft 9 24 = 0 := by decide +kernel
theorem zg9_24 : zft 9 24 ≠ 2 := by decide +kernel
theorem zf9_25 : zft 9 25 = 0 := by decide +kernel
theorem zg9_25 : zft 9 25 ≠ 2 := by decide +kernel
theorem zf9_26 : zft 9 26 = 0 := by decide +kernel
theorem zg9_26 : zft 9 26 ≠ 2 := by decide +kernel
theorem zf9_27 : zft 9 27 = 0 := by decide +kernel
theorem zg9_27 : zft 9 27 ≠ 2 := by decide +kernel
theorem zf9_28 : zft 9 28 = 0 := by decide +kernel
theorem zg9_28 : zft 9 28 ≠ 2 := by decide +kernel
theorem zf9_29 : zft 9 29 = 0 := by decide +kernel
theorem zg9_29 : zft 9 29 ≠ 2 := by decide +kernel
theorem zf9_30 : zft 9 30 = 0 := by decide +kernel
theorem zg9_30 : zft 9 30 ≠ 2 := by decide +kernel
theorem zf9_31 : zft 9 31 = 0 := by decide +kernel
theorem zg9_31 : zft 9 31 ≠ 2 := by decide +kernel
theorem zf9_32 : zft 9 32 = 2 := by decide +kernel
theorem zf9_33 : zft 9 33 = 2 := by decide +kernel
theorem zf9_34 : zft 9 34 = 2 := by decide +kernel
theorem zf9_35 : zft 9 35 = 0 := by decide +kernel
theorem zg9_35 : zft 9 35 ≠ 2 := by decide +kernel
theorem zf9_36 : zft 9 36 = 0 := by decide +kernel
theorem zg9_36 : zft 9 36 ≠ 2 := by decide +kernel
theorem zf9_37 : zft 9 37 = 0 := by decide +kernel
theorem zg9_37 : zft 9 37 ≠ 2 := by decide +kernel
theorem zf9_38 : zft 9 38 = 2 := by decide +kernel
theorem zf9_39 : zft 9 39 = 2 := by decide +kernel
theorem zf9_40 : zft 9 40 = 2 := by decide +kernel
theorem zL_0 : zL 0 = 1 := by decide +kernel
theorem zrt_0 : zrt 0 = 0 := by decide +kernel
theorem zL_1 : zL 1 = 1 := by decide +kernel
theorem zrt_1 : zrt 1 = 0 := by decide +kernel
theorem zL_2 : zL 2 = 1 := by decide +kernel
theorem zrt_2 : zrt 2 = 0 := by decide +kernel
theorem zL_3 : zL 3 = 1 := by decide +kernel
theorem zrt_3 : zrt 3 = 0 := by decide +kernel
theorem zL_4 : zL 4 = 1 := by decide +kernel
theorem zrt_4 : zrt 4 = 0 := by decide +kernel
theorem zL_5 : zL 5 = 1 := by decide +kernel
theorem zrt_5 : zrt 5 = 0 := by decide +kernel
theorem zL_6 : zL 6 = 1 := by decide +kernel
theorem zrt_6 : zrt 6 = 0 := by decide +kernel
theorem zL_7 : zL 7 = 1 := by decide +kernel
theorem zrt_7 : zrt 7 = 0 := by decide +kernel
theorem zL_8 : zL 8 = 4 := by decide +kernel
theorem zrt_8 : zrt 8 = 0 := by decide +kernel
theorem zL_9 : zL 9 = 1 := by decide +kernel
theorem zrt_9 : zrt 9 = 0 := by decide +kernel
theorem zL_10 : zL 10 = 4 := by decide +kernel
theorem zrt_10 : zrt 10 = 1 := by decide +kernel
theorem zcn_10 : zcn 10 = 8 := by decide +kernel
theorem zL_11 : zL 11 = 5 := by decide +kernel
theorem zrt_11 : zrt 11 = 2 := by decide +kernel
theorem zcn_11 : zcn 11 = 6 := by decide +kernel
theorem zL_12 : zL 12 = 2 := by decide +kernel
theorem zrt_12 : zrt 12 = 1 := by decide +kernel
theorem zcn_12 : zcn 12 = 8 := by decide +kernel
theorem zL_13 : zL 13 = 5 := by decide +kernel
theorem zrt_13 : zrt 13 = 1 := by decide +kernel
theorem zcn_13 : zcn 13 = 6 := by decide +kernel
theorem zL_14 : zL 14 = 1 := by decide +kernel
theorem zrt_14 : zrt 14 = 1 := by decide +kernel
theorem zcn_14 : zcn 14 = 0 := by decide +kernel
theorem zL_15 : zL 15 = 1 := by decide +kernel
theorem zrt_15 : zrt 15 = 2 := by decide +kernel
theorem zcn_15 : zcn 15 = 6 := by decide +kernel
theorem zL_16 : zL 16 = 1 := by decide +kernel
theorem zrt_16 : zrt 16 = 0 := by decide +kernel
theorem zcn_16 : zcn 16 = 6 := by decide +kernel
theorem zL_17 : zL 17 = 2 := by decide +kernel
theorem zrt_17 : zrt 17 = 1 := by decide +kernel
theorem zcn_17 : zcn 17 = 6 := by decide +kernel
theorem zL_18 : zL 18 = 3 := by decide +kernel
theorem zrt_18 : zrt 18 = 0 := by decide +kernel
theorem zcn_18 : zcn 18 = 6 := by decide +kernel
theorem zL_19 : zL 19 = 4 := by decide +kernel
theorem zrt_19 : zrt 19 = 2 := by decide +kernel
theorem zcn_19 : zcn 19 = 6 := by decide +kernel
theorem zL_20 : zL 20 = 3 := by decide +kernel
theorem zrt_20 : zrt 20 = 0 := by decide +kernel
theorem zcn_20 : zcn 20 = 6 := by decide +kernel
theorem zL_21 : zL 21 = 5 := by decide +kernel
theorem zrt_21 : zrt 21 = 1 := by decide +kernel
theorem zcn_21 : zcn 21 = 6 := by decide +kernel
theorem zL_22 : zL 22 = 1 := by decide +kernel
theorem zrt_22 : zrt 22 = 2 := by decide +kernel
theorem zL_23 : zL 23 = 10 := by decide +kernel
theorem zrt_23 : zrt 23 = 0 := by decide +kernel
theorem zcn_23 : zcn 23 = 6 := by decide +kernel
theorem zL_24 : zL 24 = 9 := by decide +kernel
theorem zrt_24 : zrt 24 = 2 := by decide +kernel
theorem zcn_24 : zcn 24 = 5 := by decide +kernel
theorem zL_25 : zL 25 = 3 := by decide +kernel
theorem zrt_25 : zrt 25 = 1 := by decide +kernel
theorem zcn_25 : zcn 25 = 5 := by decide +kernel
theorem zL_26 : zL 26 = 2 := by decide +kernel
theorem zrt_26 : zrt 26 = 2 := by decide +kernel
theorem zL_27 : zL 27 = 7 := by decide +kernel
theorem zrt_27 : zrt 27 = 0 := by decide +kernel
theorem zcn_27 : zcn 27 = 5 := by decide +kernel
theorem zL_28 : zL 28 = 6 := by decide +kernel
theorem zrt_28 : zrt 28 = 0 := by decide +kernel
theorem zL_29 : zL 29 = 2 := by decide +kernel
theorem zrt_29 : zrt 29 = 2 := by decide +kernel
theorem zcn_29 : zcn 29 = 0 := by decide +kernel
theorem zL_30 : zL 30 = 4 := by decide +kernel
theorem zrt_30 : zrt 30 = 0 := by decide +kernel
theorem zcn_30 : zcn 30 = 0 := by decide +kernel
theorem zL_31 : zL 31 = 1 := by decide +kernel
theorem zrt_31 : zrt 31 = 3 := by decide +kernel
theorem zcn_31 : zcn 31 = 0 := by decide +kernel
theorem zL_32 : zL 32 = 4 := by decide +kernel
theorem zrt_32 : zrt 32 = 3 := by decide +kernel
theorem zcn_32 : zcn 32 = 0 := by decide +kernel
theorem zL_33 : zL 33 = 4 := by decide +kernel
theorem zrt_33 : zrt 33 = 1 := by decide +kernel
theorem zL_34 : zL 34 = 2 := by decide +kernel
theorem zrt_34 : zrt 34 = 1 := by decide +kernel
theorem zL_35 : zL 35 = 3 := by decide +kernel
theorem zrt_35 : zrt 35 = 1 := by decide +kernel
theorem zL_36 : zL 36 = 2 := by decide +kernel
theorem zrt_36 : zrt 36 = 3 := by decide +kernel
theorem zL_37 : zL 37 = 4 := by decide +kernel
theorem zrt_37 : zrt 37 = 3 := by decide +kernel
theorem zL_38 : zL 38 = 2 := by decide +kernel
theorem zrt_38 : zrt 38 = 1 := by decide +kernel
theorem zL_39 : zL 39 = 8 := by decide +kernel
theorem zrt_39 : zrt 39 = 0 := by decide +kernel
theorem zcn_39 : zcn 39 = 5 := by decide +kernel
theorem zL_40 : zL 40 = 7 := by decide +kernel
theorem zrt_40 : zrt 40 = 0 := by decide +kernel
theorem zcn_40 : zcn 40 = 6 := by decide +kernel
theorem zL_41 : zL 41 = 6 := by decide +kernel
theorem zrt_41 : zrt 41 = 0 := by decide +kernel
theorem zcn_41 : zcn 41 = 5 := by decide +kernel
theorem zL_42 : zL 42 = 7 := by decide +kernel
theorem zrt_42 : zrt 42 = 0 := by decide +kernel
theorem zcn_42 : zcn 42 = 5 := by decide +kernel
theorem zL_43 : zL 43 = 4 := by decide +kernel
theorem zrt_43 : zrt 43 = 3 := by decide +kernel
theorem zcn_43 : zcn 43 = 0 := by decide +kernel
theorem zL_44 : zL 44 = 2 := by decide +kernel
theorem zrt_44 : zrt 44 = 1 := by decide +kernel
theorem zL_45 : zL 45 = 3 := by decide +kernel
theorem zrt_45 : zrt 45 = 1 := by decide +kernel
theorem zL_46 : zL 46 = 4 := by decide +kernel
theorem zrt_46 : zrt 46 = 0 := by decide +kernel
theorem zcn_46 : zcn 46 = 0 := by decide +kernel
theorem zL_47 : zL 47 = 1 := by decide +kernel
theorem zrt_47 : zrt 47 = 1 := by decide +kernel
theorem zcn_47 : zcn 47 = 8 := by decide +kernel
theorem zL_48 : zL 48 = 3 := by decide +kernel
theorem zrt_48 : zrt 48 = 1 := by decide +kernel
theorem zcn_48 : zcn 48 = 8 := by decide +kernel
theorem zL_49 : zL 49 = 4 := by decide +kernel
theorem zrt_49 : zrt 49 = 1 := by decide +kernel
theorem zcn_49 : zcn 49 = 8 := by decide +kernel
theorem zL_50 : zL 50 = 2 := by decide +kernel
theorem zrt_50 : zrt 50 = 3 := by decide +kernel
theorem zcn_50 : zcn 50 = 5 := by decide +kernel
theorem zL_51 : zL 51 = 2 := by decide +kernel
theorem zrt_51 : zrt 51 = 3 := by decide +kernel
theorem zcn_51 : zcn 51 = 0 := by decide +kernel
theorem zL_52 : zL 52 = 2 := by decide +kernel
theorem zrt_52 : zrt 52 = 3 := by decide +kernel
theorem zcn_52 : zcn 52 = 0 := by decide +kernel
theorem zL_53 : zL 53 = 1 := by decide +kernel
theorem zrt_53 : zrt 53 = 1 := by decide +kernel
theorem zcn_53 : zcn 53 = 2 := by decide +kernel
theorem zL_54 : zL 54 = 4 := by decide +kernel
theorem zrt_54 : zrt 54 = 1 := by decide +kernel
theorem zcn_54 : zcn 54 = 5 := by decide +kernel
theorem zL_55 : zL 55 = 1 := by decide +kernel
theorem zrt_55 : zrt 55 = 1 := by decide +kernel
theorem zL_56 : zL 56 = 5 := by decide +kernel
theorem zrt_56 : zrt 56 = 1 := by decide +kernel
theorem zcn_56 : zcn 56 = 5 := by decide +kernel
theorem zL_57 : zL 57 = 9 := by decide +kernel
theorem zrt_57 : zrt 57 = 2 := by decide +kernel
theorem zcn_57 : zcn 57 = 2 := by decide +kernel
theorem zL_58 : zL 58 = 5 := by decide +kernel
theorem zrt_58 : zrt 58 = 2 := by decide +kernel
theorem zcn_58 : zcn 58 = 5 := by decide +kernel
theorem zL_59 : zL 59 = 2 := by decide +kernel
theorem zrt_59 : zrt 59 = 1 := by decide +kernel
theorem zcn_59 : zcn 59 = 8 := by decide +kernel
theorem zL_60 : zL 60 = 2 := by decide +kernel
theorem zrt_60 : zrt 60 = 2 := by decide +kernel
theorem zcn_60 : zcn 60 = 5 := by decide +kernel
theorem zL_61 : zL 61 = 2 := by decide +kernel
theorem zrt_61 : zrt 61 = 2 := by decide +kernel
theorem zcn_61 : zcn 61 = 5 := by decide +kernel
theorem zL_62 : zL 62 = 4 := by decide +kernel
theorem zrt_62 : zrt 62 = 1 := by decide +kernel
theorem zcn_62 : zcn 62 = 5 := by decide +kernel
theorem zL_63 : zL 63 = 7 := by decide +kernel
theorem zrt_63 : zrt 63 = 2 := by decide +kernel
theorem zcn_63 : zcn 63 = 5 := by decide +kernel
theorem zL_64 : zL 64 = 4 := by decide +kernel
theorem zrt_64 : zrt 64 = 1 := by decide +kernel
theorem zcn_64 : zcn 64 = 8 := by decide +kernel
theorem zL_65 : zL 65 = 2 := by decide +kernel
theorem zrt_65 : zrt 65 = 1 := by decide +kernel
theorem zcn_65 : zcn 65 = 8 := by decide +kernel
theorem zL_66 : zL 66 = 3 := by decide +kernel
theorem zrt_66 : zrt 66 = 1 := by decide +kernel
theorem zcn_66 : zcn 66 = 4 := by decide +kernel
theorem zL_67 : zL 67 = 4 := by decide +kernel
theorem zrt_67 : zrt 67 = 1 := by decide +kernel
theorem zcn_67 : zcn 67 = 8 := by decide +kernel
theorem zL_68 : zL 68 = 2 := by decide +kernel
theorem zrt_68 : zrt 68 = 2 := by decide +kernel
theorem zcn_68 : zcn 68 = 4 := by decide +kernel
theorem zL_69 : zL 69 = 2 := by decide +kernel
theorem zrt_69 : zrt 69 = 1 := by decide +kernel
theorem zcn_69 : zcn 69 = 4 := by decide +kernel
theorem zL_70 : zL 70 = 3 := by decide +kernel
theorem zrt_70 : zrt 70 = 0 := by decide +kernel
theorem zcn_70 : zcn 70 = 4 := by decide +kernel
theorem zL_71 : zL 71 = 5 := by decide +kernel
theorem zrt_71 : zrt 71 = 1 := by decide +kernel
theorem zcn_71 : zcn 71 = 8 := by decide +kernel
theorem zL_72 : zL 72 = 4 := by decide +kernel
theorem zrt_72 : zrt 72 = 0 := by decide +kernel
theorem zcn_72 : zcn 72 = 2 := by decide +kernel
theorem zL_73 : zL 73 = 3 := by decide +kernel
theorem zrt_73 : zrt 73 = 0 := by decide +kernel
theorem zL_74 : zL 74 = 3 := by decide +kernel
theorem zrt_74 : zrt 74 = 1 := by decide +kernel
theorem zcn_74 : zcn 74 = 8 := by decide +kernel
theorem zL_75 : zL 75 = 1 := by decide +kernel
theorem zrt_75 : zrt 75 = 2 := by decide +kernel
theorem zcn_75 : zcn 75 = 0 := by decide +kernel
theorem zL_76 : zL 76 = 4 := by decide +kernel
theorem zrt_76 : zrt 76 = 1 := by decide +kernel
theorem zcn_76 : zcn 76 = 3 := by decide +kernel
theorem zL_77 : zL 77 = 6 := by decide +kernel
theorem zrt_77 : zrt 77 = 3 := by decide +kernel
theorem zcn_77 : zcn 77 = 3 := by decide +kernel
theorem zL_78 : zL 78 = 4 := by decide +kernel
theorem zrt_78 : zrt 78 = 0 := by decide +kernel
theorem zcn_78 : zcn 78 = 0 := by decide +kernel
theorem zL_79 : zL 79 = 3 := by decide +kernel
theorem zrt_79 : zrt 79 = 2 := by decide +kernel
theorem zcn_79 : zcn 79 = 4 := by decide +kernel
theorem zL_80 : zL 80 = 3 := by decide +kernel
theorem zrt_80 : zrt 80 = 0 := by decide +kernel
theorem zcn_80 : zcn 80 = 2 := by decide +kernel
theorem zL_81 : zL 81 = 3 := by decide +kernel
theorem zrt_81 : zrt 81 = 0 := by decide +kernel
theorem zcn_81 : zcn 81 = 3 := by decide +kernel
theorem zL_82 : zL 82 = 1 := by decide +kernel
theorem zrt_82 : zrt 82 = 0 := by decide +kernel
theorem zcn_82 : zcn 82 = 2 := by decide +kernel
theorem zL_83 : zL 83 = 1 := by decide +kernel
theorem zrt_83 : zrt 83 = 0 := by decide +kernel
theorem zcn_83 : zcn 83 = 2 := by decide +kernel
theorem zL_84 : zL 84 = 4 := by decide +kernel
theorem zrt_84 : zrt 84 = 0 := by decide +kernel
theorem zL_85 : zL 85 = 3 := by decide +kernel
theorem zrt_85 : zrt 85 = 0 := by decide +kernel
theorem zcn_85 : zcn 85 = 2 := by decide +kernel
theorem zL_86 : zL 86 = 4 := by decide +kernel
theorem zrt_86 : zrt 86 = 1 := by decide +kernel
theorem zcn_86 : zcn 86 = 8 := by decide +kernel
theorem zL_87 : zL 87 = 5 := by decide +kernel
theorem zrt_87 : zrt 87 = 1 := by decide +kernel
theorem zcn_87 : zcn 87 = 8 := by decide +kernel
theorem zL_88 : zL 88 = 3 := by decide +kernel
theorem zrt_88 : zrt 88 = 1 := by decide +kernel
theorem zcn_88 : zcn 88 = 8 := by decide +kernel
theorem zL_89 : zL 89 = 3 := by decide +kernel
theorem zrt_89 : zrt 89 = 1 := by decide +kernel
theorem zcn_89 : zcn 89 = 8 := by decide +kernel
theorem zL_90 : zL 90 = 1 := by decide +kernel
theorem zrt_90 : zrt 90 = 0 := by decide +kernel
theorem zcn_90 : zcn 90 = 3 := by decide +kernel
theorem zL_91 : zL 91 = 3 := by decide +kernel
theorem zrt_91 : zrt 91 = 0 := by decide +kernel
theorem zcn_91 : zcn 91 = 3 := by decide +kernel
theorem zL_92 : zL 92 = 3 := by decide +kernel
theorem zrt_92 : zrt 92 = 0 := by decide +kernel
theorem zcn_92 : zcn 92 = 3 := by decide +kernel
theorem zL_93 : zL 93 = 1 := by decide +kernel
theorem zrt_93 : zrt 93 = 1 := by decide +kernel
theorem zcn_93 : zcn 93 = 2 := by decide +kernel
theorem zL_94 : zL 94 = 1 := by decide +kernel
theorem zrt_94 : zrt 94 = 0 := by decide +kernel
theorem zcn_94 : zcn 94 = 2 := by decide +kernel
theorem zL_95 : zL 95 = 3 := by decide +kernel
theorem zrt_95 : zrt 95 = 0 := by decide +kernel
theorem zcn_95 : zcn 95 = 3 := by decide +kernel
theorem zL_96 : zL 96 = 3 := by decide +kernel
theorem zrt_96 : zrt 96 = 0 := by decide +kernel
theorem zcn_96 : zcn 96 = 3 := by decide +kernel
theorem zL_97 : zL 97 = 3 := by decide +kernel
theorem zrt_97 : zrt 97 = 0 := by decide +kernel
theorem zcn_97 : zcn 97 = 3 := by decide +kernel
theorem zL_98 : zL 98 = 4 := by decide +kernel
theorem zrt_98 : zrt 98 = 1 := by decide +kernel
theorem zcn_98 : zcn 98 = 5 := by decide +kernel
theorem zL_99 : zL 99 = 7 := by decide +kernel
theorem zrt_99 : zrt 99 = 3 := by decide +kernel
theorem zcn_99 : zcn 99 = 5 := by decide +kernel
theorem zL_100 : zL 100 = 3 := by decide +kernel
theorem zrt_100 : zrt 100 = 0 := by decide +kernel
theorem zcn_100 : zcn 100 = 3 := by decide +kernel
theorem zL_101 : zL 101 = 4 := by decide +kernel
theorem zrt_101 : zrt 101 = 1 := by decide +kernel
theorem zcn_101 : zcn 101 = 8 := by decide +kernel
theorem zL_102 : zL 102 = 3 := by decide +kernel
theorem zrt_102 : zrt 102 = 1 := by decide +kernel
theorem zcn_102 : zcn 102 = 2 := by decide +kernel
theorem zL_103 : zL 103 = 3 := by decide +kernel
theorem zrt_103 : zrt 103 = 1 := by decide +kernel
theorem zcn_103 : zcn 103 = 8 := by decide +kernel
theorem zL_104 : zL 104 = 4 := by decide +kernel
theorem zrt_104 : zrt 104 = 1 := by decide +kernel
theorem zcn_104 : zcn 104 = 5 := by decide +kernel
theorem zL_105 : zL 105 = 5 := by decide +kernel
theorem zrt_105 : zrt 105 = 1 := by decide +kernel
theorem zcn_105 : zcn 105 = 5 := by decide +kernel
theorem zL_106 : zL 106 = 2 := by decide +kernel
theorem zrt_106 : zrt 106 = 1 := by decide +kernel
theorem zcn_106 : zcn 106 = 8 := by decide +kernel
theorem zL_107 : zL 107 = 3 := by decide +kernel
theorem zrt_107 : zrt 107 = 1 := by decide +kernel
theorem zcn_107 : zcn 107 = 5 := by decide +kernel
theorem zL_108 : zL 108 = 3 := by decide +kernel
theorem zrt_108 : zrt 108 = 1 := by decide +kernel
theorem zcn_108 : zcn 108 = 5 := by decide +kernel
theorem zL_109 : zL 109 = 5 := by decide +kernel
theorem zrt_109 : zrt 109 = 1 := by decide +kernel
theorem zcn_109 : zcn 109 = 8 := by decide +kernel
theorem zL_110 : zL 110 = 7 := by decide +kernel
theorem zrt_110 : zrt 110 = 1 := by decide +kernel
theorem zcn_110 : zcn 110 = 3 := by decide +kernel
theorem zL_111 : zL 111 = 2 := by decide +kernel
theorem zrt_111 : zrt 111 = 0 := by decide +kernel
theorem zL_112 : zL 112 = 5 := by decide +kernel
theorem zrt_112 : zrt 112 = 1 := by decide +kernel
theorem zcn_112 : zcn 112 = 9 := by decide +kernel
theorem zL_113 : zL 113 = 6 := by decide +kernel
theorem zrt_113 : zrt 113 = 2 := by decide +kernel
theorem zL_114 : zL 114 = 3 := by decide +kernel
theorem zrt_114 : zrt 114 = 1 := by decide +kernel
theorem zcn_114 : zcn 114 = 9 := by decide +kernel
theorem zL_115 : zL 115 = 2 := by decide +kernel
theorem zrt_115 : zrt 115 = 1 := by decide +kernel
theorem zcn_115 : zcn 115 = 9 := by decide +kernel
theorem zL_116 : zL 116 = 1 := by decide +kernel
theorem zrt_116 : zrt 116 = 0 := by decide +kernel
theorem zcn_116 : zcn 116 = 9 := by decide +kernel
theorem zL_117 : zL 117 = 7 := by decide +kernel
theorem zrt_117 : zrt 117 = 1 := by decide +kernel
theorem zcn_117 : zcn 117 = 9 := by decide +kernel
theorem zL_118 : zL 118 = 3 := by decide +kernel
theorem zrt_118 : zrt 118 = 1 := by decide +kernel
theorem zcn_118 : zcn 118 = 9 := by decide +kernel
theorem zL_119 : zL 119 = 6 := by decide +kernel
theorem zrt_119 : zrt 119 = 1 := by decide +kernel
theorem zcn_119 : zcn 119 = 9 := by decide +kernel
theorem zL_120 : zL 120 = 2 := by decide +kernel
theorem zrt_120 : zrt 120 = 1 := by decide +kernel
theorem zL_121 : zL 121 = 2 := by decide +kernel
theorem zrt_121 : zrt 121 = 1 := by decide +kernel
theorem zL_122 : zL 122 = 5 := by decide +kernel
theorem zrt_122 : zrt 122 = 2 := by decide +kernel
theorem zcn_122 : zcn 122 = 9 := by decide +kernel
theorem zL_123 : zL 123 = 4 := by decide +kernel
theorem zrt_123 : zrt 123 = 2 := by decide +kernel
theorem zcn_123 : zcn 123 = 9 := by decide +kernel
theorem zL_124 : zL 124 = 9 := by decide +kernel
theorem zrt_124 : zrt 124 = 2 := by decide +kernel
theorem zcn_124 : zcn 124 = 9 := by decide +kernel
theorem zL_125 : zL 125 = 1 := by decide +kernel
theorem zrt_125 : zrt 125 = 1 := by decide +kernel
theorem zcn_125 : zcn 125 = 9 := by decide +kernel
theorem zL_126 : zL 126 = 4 := by decide +kernel
theorem zrt_126 : zrt 126 = 1 := by decide +kernel
theorem zcn_126 : zcn 126 = 9 := by decide +kernel
theorem zL_127 : zL 127 = 2 := by decide +kernel
theorem zrt_127 : zrt 127 = 2 := by decide +kernel
theorem zL_128 : zL 128 = 3 := by decide +kernel
theorem zrt_128 : zrt 128 = 1 := by decide +kernel
theorem zcn_128 : zcn 128 = 9 := by decide +kernel
theorem zL_129 : zL 129 = 2 := by decide +kernel
theorem zrt_129 : zrt 129 = 2 := by decide +kernel
theorem zcn_129 : zcn 129 = 9 := by decide +kernel
theorem zL_130 : zL 130 = 11 := by decide +kernel
theorem zrt_130 : zrt 130 = 1 := by decide +kernel
theorem zcn_130 : zcn 130 = 9 := by decide +kernel
theorem zL_131 : zL 131 = 3 := by decide +kernel
theorem zrt_131 : zrt 131 = 1 := by decide +kernel
theorem zcn_131 : zcn 131 = 9 := by decide +kernel
theorem zL_132 : zL 132 = 1 := by decide +kernel
theorem zrt_132 : zrt 132 = 1 := by decide +kernel
theorem zL_133 : zL 133 = 5 := by decide +kernel
theorem zrt_133 : zrt 133 = 1 := by decide +kernel
theorem zcn_133 : zcn 133 = 9 := by decide +kernel
theorem zL_134 : zL 134 = 4 := by decide +kernel
theorem zrt_134 : zrt 134 = 1 := by decide +kernel
theorem zcn_134 : zcn 134 = 9 := by decide +kernel
theorem zL_135 : zL 135 = 2 := by decide +kernel
theorem zrt_135 : zrt 135 = 1 := by decide +kernel
theorem zcn_135 : zcn 135 = 9 := by decide +kernel
theorem zL_136 : zL 136 = 8 := by decide +kernel
theorem zrt_136 : zrt 136 = 1 := by decide +kernel
theorem zcn_136 : zcn 136 = 9 := by decide +kernel
theorem zL_137 : zL 137 = 4 := by decide +kernel
theorem zrt_137 : zrt 137 = 1 := by decide +kernel
theorem zcn_137 : zcn 137 = 9 := by decide +kernel
theorem zL_138 : zL 138 = 2 := by decide +kernel
theorem zrt_138 : zrt 138 = 1 := by decide +kernel
theorem zcn_138 : zcn 138 = 9 := by decide +kernel
theorem zL_139 : zL 139 = 3 := by decide +kernel
theorem zrt_139 : zrt 139 = 1 := by decide +kernel
theorem zcn_139 : zcn 139 = 9 := by decide +kernel
theorem zL_140 : zL 140 = 2 := by decide +kernel
theorem zrt_140 : zrt 140 = 2 := by decide +kernel
theorem zcn_140 : zcn 140 = 9 := by decide +kernel
theorem zL_141 : zL 141 = 6 := by decide +kernel
theorem zrt_141 : zrt 141 = 1 := by decide +kernel
theorem zcn_141 : zcn 141 = 9 := by decide +kernel
theorem zL_142 : zL 142 = 6 := by decide +kernel
theorem zrt_142 : zrt 142 = 1 := by decide +kernel
theorem zcn_142 : zcn 142 = 9 := by decide +kernel
theorem zL_143 : zL 143 = 4 := by decide +kernel
theorem zrt_143 : zrt 143 = 0 := by decide +kernel
theorem zcn_143 : zcn 143 = 9 := by decide +kernel
theorem zL_144 : zL 144 = 3 := by decide +kernel
theorem zrt_144 : zrt 144 = 1 := by decide +kernel
theorem zcn_144 : zcn 144 = 9 := by decide +kernel
theorem zL_145 : zL 145 = 4 := by decide +kernel
theorem zrt_145 : zrt 145 = 1 := by decide +kernel
theorem zcn_145 : zcn 145 = 9 := by decide +kernel
theorem zL_146 : zL 146 = 3 := by decide +kernel
theorem zrt_146 : zrt 146 = 1 := by decide +kernel
theorem zcn_146 : zcn 146 = 9 := by decide +kernel
theorem zL_147 : zL 147 = 3 := by decide +kernel
theorem zrt_147 : zrt 147 = 1 := by decide +kernel
theorem zcn_147 : zcn 147 = 9 := by decide +kernel
theorem zL_148 : zL 148 = 2 := by decide +kernel
theorem zrt_148 : zrt 148 = 0 := by decide +kernel
theorem zcn_148 : zcn 148 = 9 := by decide +kernel
theorem zL_149 : zL 149 = 3 := by decide +kernel
theorem zrt_149 : zrt 149 = 0 := by decide +kernel
theorem zcn_149 : zcn 149 = 9 := by decide +kernel
theorem zL_150 : zL 150 = 2 := by decide +kernel
theorem zrt_150 : zrt 150 = 0 := by decide +kernel
theorem zcn_150 : zcn 150 = 9 := by decide +kernel
theorem zL_151 : zL 151 = 4 := by decide +kernel
theorem zrt_151 : zrt 151 = 0 := by decide +kernel
theorem zcn_151 : zcn 151 = 9 := by decide +kernel
theorem zL_152 : zL 152 = 4 := by decide +kernel
theorem zrt_152 : zrt 152 = 0 := by decide +kernel
theorem zcn_152 : zcn 152 = 9 := by decide +kernel
theorem zL_153 : zL 153 = 5 := by decide +kernel
theorem zrt_153 : zrt 153 = 1 := by decide +kernel
theorem zcn_153 : zcn 153 = 9 := by decide +kernel
theorem zL_154 : zL 154 = 5 := by decide +kernel
theorem zrt_154 : zrt 154 = 1 := by decide +kernel
theorem zcn_154 : zcn 154 = 9 := by decide +kernel
theorem zL_155 : zL 155 = 4 := by decide +kernel
theorem zrt_155 : zrt 155 = 1 := by decide +kernel
theorem zcn_155 : zcn 155 = 9 := by decide +kernel
theorem zL_156 : zL 156 = 4 := by decide +kernel
theorem zrt_156 : zrt 156 = 1 := by decide +kernel
theorem zcn_156 : zcn 156 = 9 := by decide +kernel
theorem zL_157 : zL 157 = 3 := by decide +kernel
theorem zrt_157 : zrt 157 = 1 := by decide +kernel
theorem zcn_157 : zcn 157 = 9 := by decide +kernel
theorem zL_158 : zL 158 = 6 := by decide +kernel
theorem zrt_158 : zrt 158 = 1 := by decide +kernel
theorem zcn_158 : zcn 158 = 9 := by decide +kernel
theorem zL_159 : zL 159 = 4 := by decide +kernel
theorem zrt_159 : zrt 159 = 2 := by decide +kernel
end
section
theorem c0_0 : zcod 0 0 = some (.aload_n 0, 1, 0, 0, 0, 0) := by decide +kernel
theorem c0_1 : zcod 0 1 = some (.invokespecial 3, 3, 1, 0, 71, 0) := by decide +kernel
theorem c0_4 : zcod 0 4 = some (.aload_n 0, 1, 0, 0, 0, 0) := by decide +kernel
theorem c0_5 : zcod 0 5 = some (.new 9, 3, 6, 0, 74, 0) := by decide +kernel
theorem c0_8 : zcod 0 8 = some (.dup, 1, 0, 0, 0, 0) := by decide +kernel
theorem c0_9 : zcod 0 9 = some (.invokespecial 11, 3, 2, 0, 76, 1) := by decide +kernel
theorem c0_12 : zcod 0 12 = some (.putfield 12, 3, 8, 0, 219, 0) := by decide +kernel
theorem c0_15 : zcod 0 15 = some (.aload_n 0, 1, 0, 0, 0, 0) := by decide +kernel
theorem c0_16 : zcod 0 16 = some (.new 16, 3, 3, 0, 103, 0) := by decide +kernel
theorem c0_19 : zcod 0 19 = some (.dup, 1, 0, 0, 0, 0) := by decide +kernel
theorem c0_20 : zcod 0 20 = some (.invokespecial 18, 3, 3, 0, 105, 1) := by decide +kernel
theorem c0_23 : zcod 0 23 = some (.putfield 19, 3, 8, 1, 220, 0) := by decide +kernel
theorem c0_26 : zcod 0 26 = some (.return_, 1, 0, 0, 0, 0) := by decide +kernel
set_option maxRecDepth 100000 in
theorem b0_0 (l0 : Option Nat) (h : zH) : zev 0 0 [some (vR l0)] [] h = (zul l0 none ((zno h 6 fun x1 h2 => (zul x1 none (zcV 2 [vR x1] h2 fun h3 => (zpR h3 l0 8 0 x1 fun h4 => (zno h4 3 fun x5 h6 => (zul x5 none (zcV 3 [vR x5] h6 fun h7 => (zpR h7 l0 8 1 x5 fun h8 => some (none, h8))))))))))) := by
  refine (zv_an c0_0 rfl).trans ?_
  refine (zv_ob c0_1 (zle rfl)).trans (zul_c rfl ?_)
  refine (zv_an c0_4 rfl).trans ?_
  refine (zv_new c0_5).trans (zno_c fun x1 h2 => ?_)
  refine (zv_dup c0_8 rfl).trans ?_
  refine (zv_spV c0_9 (by decide) rfl zL_2 zrt_2 rfl rfl).trans (zul_c rfl (zcV_c fun h3 => ?_))
  refine (zv_pR c0_12 zf8_0).trans (zpR_c fun h4 => ?_)
  refine (zv_an c0_15 rfl).trans ?_
  refine (zv_new c0_16).trans (zno_c fun x5 h6 => ?_)
  refine (zv_dup c0_19 rfl).trans ?_
  refine (zv_spV c0_20 (by decide) rfl zL_3 zrt_3 rfl rfl).trans (zul_c rfl (zcV_c fun h7 => ?_))
  refine (zv_pR c0_23 zf8_1).trans (zpR_c fun h8 => ?_)
  exact zv_vr c0_26 zrt_0
theorem e0 (l0 : Option Nat) (h : zH) : zcall 0 [vR l0] h = (zul l0 none ((zno h 6 fun x1 h2 => (zul x1 none (zcV 2 [vR x1] h2 fun h3 => (zpR h3 l0 8 0 x1 fun h4 => (zno h4 3 fun x5 h6 => (zul x5 none (zcV 3 [vR x5] h6 fun h7 => (zpR h7 l0 8 1 x5 fun h8 => some (none, h8))))))))))) := by
  refine Eq.trans ?_ (b0_0 l0 h)
  unfold zcall zent
  rw [zL_0]
  rfl
theorem c2_0 : zcod 2 0 = some (.aload_n 0, 1, 0, 0, 0, 0) := by decide +kernel
theorem c2_1 : zcod 2 1 = some (.invokespecial 3, 3, 1, 0, 79, 0) := by decide +kernel
theorem c2_4 : zcod 2 4 = some (.aload_n 0, 1, 0, 0, 0, 0) := by decide +kernel
theorem c2_5 : zcod 2 5 = some (.sipush 200, 3, 0, 0, 0, 0) := by decide +kernel
theorem c2_8 : zcod 2 8 = some (.newarray .byte, 2, 101, 0, 0, 0) := by decide +kernel
theorem c2_10 : zcod 2 10 = some (.putfield 9, 3, 6, 0, 80, 0) := by decide +kernel
theorem c2_13 : zcod 2 13 = some (.aload_n 0, 1, 0, 0, 0, 0) := by decide +kernel
theorem c2_14 : zcod 2 14 = some (.iconst 5, 1, 0, 0, 0, 0) := by decide +kernel
theorem c2_15 : zcod 2 15 = some (.newarray .int, 2, 100, 0, 0, 0) := by decide +kernel
theorem c2_17 : zcod 2 17 = some (.putfield 15, 3, 6, 1, 81, 0) := by decide +kernel
theorem c2_20 : zcod 2 20 = some (.aload_n 0, 1, 0, 0, 0, 0) := by decide +kernel
theorem c2_21 : zcod 2 21 = some (.iconst (-1), 1, 0, 0, 0, 0) := by decide +kernel
theorem c2_22 : zcod 2 22 = some (.putfield 19, 3, 6, 3, 84, 0) := by decide +kernel
theorem c2_25 : zcod 2 25 = some (.return_, 1, 0, 0, 0, 0) := by decide +kernel
set_option maxRecDepth 100000 in
theorem b2_0 (l0 : Option Nat) (h : zH) : zev 2 0 [some (vR l0)] [] h = (zul l0 none ((zna h 101 200 fun x1 h2 => (zpR h2 l0 6 0 x1 fun h3 => (zna h3 100 5 fun x4 h5 => (zpR h5 l0 6 1 x4 fun h6 => (zpI h6 l0 6 3 (-1) fun h7 => some (none, h7)))))))) := by
  refine (zv_an c2_0 rfl).trans ?_
  refine (zv_ob c2_1 (zle rfl)).trans (zul_c rfl ?_)
  refine (zv_an c2_4 rfl).trans ?_
  refine (zv_si (v := 200) c2_5 (by decide)).trans ?_
  refine (zv_na c2_8).trans (zna_c fun x1 h2 => ?_)
  refine (zv_pR c2_10 zf6_0).trans (zpR_c fun h3 => ?_)
  refine (zv_an c2_13 rfl).trans ?_
  refine (zv_k (v := 5) c2_14 (by decide)).trans ?_
  refine (zv_na c2_15).trans (zna_c fun x4 h5 => ?_)
  refine (zv_pR c2_17 zf6_1).trans (zpR_c fun h6 => ?_)
  refine (zv_an c2_20 rfl).trans ?_
  refine (zv_k (v := -1) c2_21 (by decide)).trans ?_
  refine (zv_pI c2_22 zf6_3).trans (zpI_c fun h7 => ?_)
  exact zv_vr c2_25 zrt_2
theorem e2 (l0 : Option Nat) (h : zH) : zcall 2 [vR l0] h = (zul l0 none ((zna h 101 200 fun x1 h2 => (zpR h2 l0 6 0 x1 fun h3 => (zna h3 100 5 fun x4 h5 => (zpR h5 l0 6 1 x4 fun h6 => (zpI h6 l0 6 3 (-1) fun h7 => some (none, h7)))))))) := by
  refine Eq.trans ?_ (b2_0 l0 h)
  unfold zcall zent
  rw [zL_2]
  rfl
theorem c3_0 : zcod 3 0 = some (.aload_n 0, 1, 0, 0, 0, 0) := by decide +kernel
theorem c3_1 : zcod 3 1 = some (.invokespecial 3, 3, 1, 0, 108, 0) := by decide +kernel
theorem c3_4 : zcod 3 4 = some (.aload_n 0, 1, 0, 0, 0, 0) := by decide +kernel
theorem c3_5 : zcod 3 5 = some (.new 9, 3, 5, 0, 109, 0) := by decide +kernel
theorem c3_8 : zcod 3 8 = some (.dup, 1, 0, 0, 0, 0) := by decide +kernel
theorem c3_9 : zcod 3 9 = some (.invokespecial 11, 3, 4, 0, 111, 0) := by decide +kernel
theorem c3_12 : zcod 3 12 = some (.putfield 12, 3, 3, 0, 182, 0) := by decide +kernel
theorem c3_15 : zcod 3 15 = some (.aload_n 0, 1, 0, 0, 0, 0) := by decide +kernel
theorem c3_16 : zcod 3 16 = some (.new 18, 3, 4, 0, 167, 0) := by decide +kernel
theorem c3_19 : zcod 3 19 = some (.dup, 1, 0, 0, 0, 0) := by decide +kernel
theorem c3_20 : zcod 3 20 = some (.invokespecial 20, 3, 9, 0, 169, 1) := by decide +kernel
theorem c3_23 : zcod 3 23 = some (.putfield 21, 3, 3, 1, 184, 0) := by decide +kernel
theorem c3_26 : zcod 3 26 = some (.return_, 1, 0, 0, 0, 0) := by decide +kernel
set_option maxRecDepth 100000 in
theorem b3_0 (l0 : Option Nat) (h : zH) : zev 3 0 [some (vR l0)] [] h = (zul l0 none ((zno h 5 fun x1 h2 => (zul x1 none (zcV 4 [vR x1] h2 fun h3 => (zpR h3 l0 3 0 x1 fun h4 => (zno h4 4 fun x5 h6 => (zul x5 none (zcV 9 [vR x5] h6 fun h7 => (zpR h7 l0 3 1 x5 fun h8 => some (none, h8))))))))))) := by
  refine (zv_an c3_0 rfl).trans ?_
  refine (zv_ob c3_1 (zle rfl)).trans (zul_c rfl ?_)
  refine (zv_an c3_4 rfl).trans ?_
  refine (zv_new c3_5).trans (zno_c fun x1 h2 => ?_)
  refine (zv_dup c3_8 rfl).trans ?_
  refine (zv_spV c3_9 (by decide) rfl zL_4 zrt_4 rfl rfl).trans (zul_c rfl (zcV_c fun h3 => ?_))
  refine (zv_pR c3_12 zf3_0).trans (zpR_c fun h4 => ?_)
  refine (zv_an c3_15 rfl).trans ?_
  refine (zv_new c3_16).trans (zno_c fun x5 h6 => ?_)
  refine (zv_dup c3_19 rfl).trans ?_
  refine (zv_spV c3_20 (by decide) rfl zL_9 zrt_9 rfl rfl).trans (zul_c rfl (zcV_c fun h7 => ?_))
  refine (zv_pR c3_23 zf3_1).trans (zpR_c fun h8 => ?_)
  exact zv_vr c3_26 zrt_3
theorem e3 (l0 : Option Nat) (h : zH) : zcall 3 [vR l0] h = (zul l0 none ((zno h 5 fun x1 h2 => (zul x1 none (zcV 4 [vR x1] h2 fun h3 => (zpR h3 l0 3 0 x1 fun h4 => (zno h4 4 fun x5 h6 => (zul x5 none (zcV 9 [vR x5] h6 fun h7 => (zpR h7 l0 3 1 x5 fun h8 => some (none, h8))))))))))) := by
  refine Eq.trans ?_ (b3_0 l0 h)
  unfold zcall zent
  rw [zL_3]
  rfl
theorem c4_0 : zcod 4 0 = some (.aload_n 0, 1, 0, 0, 0, 0) := by decide +kernel
theorem c4_1 : zcod 4 1 = some (.invokespecial 3, 3, 1, 0, 114, 0) := by decide +kernel
theorem c4_4 : zcod 4 4 = some (.aload_n 0, 1, 0, 0, 0, 0) := by decide +kernel
theorem c4_5 : zcod 4 5 = some (.sipush 320, 3, 0, 0, 0, 0) := by decide +kernel
theorem c4_8 : zcod 4 8 = some (.newarray .int, 2, 100, 0, 0, 0) := by decide +kernel
theorem c4_10 : zcod 4 10 = some (.putfield 9, 3, 5, 0, 145, 0) := by decide +kernel
theorem c4_13 : zcod 4 13 = some (.aload_n 0, 1, 0, 0, 0, 0) := by decide +kernel
theorem c4_14 : zcod 4 14 = some (.bipush 12, 2, 0, 0, 0, 0) := by decide +kernel
theorem c4_16 : zcod 4 16 = some (.newarray .boolean, 2, 102, 0, 0, 0) := by decide +kernel
theorem c4_18 : zcod 4 18 = some (.putfield 15, 3, 5, 1, 146, 0) := by decide +kernel
theorem c4_21 : zcod 4 21 = some (.aload_n 0, 1, 0, 0, 0, 0) := by decide +kernel
theorem c4_22 : zcod 4 22 = some (.new 19, 3, 0, 0, 115, 0) := by decide +kernel
theorem c4_25 : zcod 4 25 = some (.dup, 1, 0, 0, 0, 0) := by decide +kernel
theorem c4_26 : zcod 4 26 = some (.invokespecial 21, 3, 5, 0, 117, 0) := by decide +kernel
theorem c4_29 : zcod 4 29 = some (.putfield 22, 3, 5, 2, 147, 0) := by decide +kernel
theorem c4_32 : zcod 4 32 = some (.aload_n 0, 1, 0, 0, 0, 0) := by decide +kernel
theorem c4_33 : zcod 4 33 = some (.getfield 9, 3, 5, 0, 145, 0) := by decide +kernel
theorem c4_36 : zcod 4 36 = some (.iconst (-1), 1, 0, 0, 0, 0) := by decide +kernel
theorem c4_37 : zcod 4 37 = some (.invokestatic 26, 3, 8, 2, 142, 0) := by decide +kernel
theorem c4_40 : zcod 4 40 = some (.return_, 1, 0, 0, 0, 0) := by decide +kernel
set_option maxRecDepth 100000 in
theorem b4_0 (l0 : Option Nat) (h : zH) : zev 4 0 [some (vR l0)] [] h = (zul l0 none ((zna h 100 320 fun x1 h2 => (zpR h2 l0 5 0 x1 fun h3 => (zna h3 102 12 fun x4 h5 => (zpR h5 l0 5 1 x4 fun h6 => (zno h6 0 fun x7 h8 => (zul x7 none (zcV 5 [vR x7] h8 fun h9 => (zpR h9 l0 5 2 x7 fun h10 => (zgR h10 l0 5 0 fun x11 => (zcV 8 [vR x11, vI (-1)] h10 fun h12 => some (none, h12))))))))))))) := by
  refine (zv_an c4_0 rfl).trans ?_
  refine (zv_ob c4_1 (zle rfl)).trans (zul_c rfl ?_)
  refine (zv_an c4_4 rfl).trans ?_
  refine (zv_si (v := 320) c4_5 (by decide)).trans ?_
  refine (zv_na c4_8).trans (zna_c fun x1 h2 => ?_)
  refine (zv_pR c4_10 zf5_0).trans (zpR_c fun h3 => ?_)
  refine (zv_an c4_13 rfl).trans ?_
  refine (zv_bi (v := 12) c4_14 (by decide)).trans ?_
  refine (zv_na c4_16).trans (zna_c fun x4 h5 => ?_)
  refine (zv_pR c4_18 zf5_1).trans (zpR_c fun h6 => ?_)
  refine (zv_an c4_21 rfl).trans ?_
  refine (zv_new c4_22).trans (zno_c fun x7 h8 => ?_)
  refine (zv_dup c4_25 rfl).trans ?_
  refine (zv_spV c4_26 (by decide) rfl zL_5 zrt_5 rfl rfl).trans (zul_c rfl (zcV_c fun h9 => ?_))
  refine (zv_pR c4_29 zf5_2).trans (zpR_c fun h10 => ?_)
  refine (zv_an c4_32 rfl).trans ?_
  refine (zv_gR c4_33 zf5_0).trans (zgR_c fun x11 => ?_)
  refine (zv_k (v := -1) c4_36 (by decide)).trans ?_
  refine (zv_stV c4_37 (by decide) rfl zL_8 zrt_8 rfl rfl).trans (zcV_c fun h12 => ?_)
  exact zv_vr c4_40 zrt_4
theorem e4 (l0 : Option Nat) (h : zH) : zcall 4 [vR l0] h = (zul l0 none ((zna h 100 320 fun x1 h2 => (zpR h2 l0 5 0 x1 fun h3 => (zna h3 102 12 fun x4 h5 => (zpR h5 l0 5 1 x4 fun h6 => (zno h6 0 fun x7 h8 => (zul x7 none (zcV 5 [vR x7] h8 fun h9 => (zpR h9 l0 5 2 x7 fun h10 => (zgR h10 l0 5 0 fun x11 => (zcV 8 [vR x11, vI (-1)] h10 fun h12 => some (none, h12))))))))))))) := by
  refine Eq.trans ?_ (b4_0 l0 h)
  unfold zcall zent
  rw [zL_4]
  rfl
theorem c5_0 : zcod 5 0 = some (.aload_n 0, 1, 0, 0, 0, 0) := by decide +kernel
theorem c5_1 : zcod 5 1 = some (.invokespecial 1, 3, 6, 0, 120, 0) := by decide +kernel
theorem c5_4 : zcod 5 4 = some (.aload_n 0, 1, 0, 0, 0, 0) := by decide +kernel
theorem c5_5 : zcod 5 5 = some (.getstatic 39, 3, 7, 0, 127, 0) := by decide +kernel
theorem c5_8 : zcod 5 8 = some (.putfield 9, 3, 0, 1, 129, 0) := by decide +kernel
theorem c5_11 : zcod 5 11 = some (.return_, 1, 0, 0, 0, 0) := by decide +kernel
set_option maxRecDepth 100000 in
theorem b5_0 (l0 : Option Nat) (h : zH) : zev 5 0 [some (vR l0)] [] h = (zul l0 none (zcV 6 [vR l0] h fun h1 => (zpR h1 l0 0 1 (some 7) fun h2 => some (none, h2)))) := by
  refine (zv_an c5_0 rfl).trans ?_
  refine (zv_spV c5_1 (by decide) rfl zL_6 zrt_6 rfl rfl).trans (zul_c rfl (zcV_c fun h1 => ?_))
  refine (zv_an c5_4 rfl).trans ?_
  refine (zv_gs c5_5).trans ?_
  refine (zv_pR c5_8 zf0_1).trans (zpR_c fun h2 => ?_)
  exact zv_vr c5_11 zrt_5
theorem e5 (l0 : Option Nat) (h : zH) : zcall 5 [vR l0] h = (zul l0 none (zcV 6 [vR l0] h fun h1 => (zpR h1 l0 0 1 (some 7) fun h2 => some (none, h2)))) := by
  refine Eq.trans ?_ (b5_0 l0 h)
  unfold zcall zent
  rw [zL_5]
  rfl
theorem c6_0 : zcod 6 0 = some (.aload_n 0, 1, 0, 0, 0, 0) := by decide +kernel
theorem c6_1 : zcod 6 1 = some (.invokespecial 1, 3, 7, 0, 123, 0) := by decide +kernel
theorem c6_4 : zcod 6 4 = some (.aload_n 0, 1, 0, 0, 0, 0) := by decide +kernel
theorem c6_5 : zcod 6 5 = some (.iconst 0, 1, 0, 0, 0, 0) := by decide +kernel
theorem c6_6 : zcod 6 6 = some (.putfield 7, 3, 0, 0, 131, 0) := by decide +kernel
theorem c6_9 : zcod 6 9 = some (.return_, 1, 0, 0, 0, 0) := by decide +kernel
set_option maxRecDepth 100000 in
theorem b6_0 (l0 : Option Nat) (h : zH) : zev 6 0 [some (vR l0)] [] h = (zul l0 none (zcV 7 [vR l0] h fun h1 => (zpI h1 l0 0 0 0 fun h2 => some (none, h2)))) := by
  refine (zv_an c6_0 rfl).trans ?_
  refine (zv_spV c6_1 (by decide) rfl zL_7 zrt_7 rfl rfl).trans (zul_c rfl (zcV_c fun h1 => ?_))
  refine (zv_an c6_4 rfl).trans ?_
  refine (zv_k (v := 0) c6_5 (by decide)).trans ?_
  refine (zv_pI c6_6 zf0_0).trans (zpI_c fun h2 => ?_)
  exact zv_vr c6_9 zrt_6
theorem e6 (l0 : Option Nat) (h : zH) : zcall 6 [vR l0] h = (zul l0 none (zcV 7 [vR l0] h fun h1 => (zpI h1 l0 0 0 0 fun h2 => some (none, h2)))) := by
  refine Eq.trans ?_ (b6_0 l0 h)
  unfold zcall zent
  rw [zL_6]
  rfl
theorem c7_0 : zcod 7 0 = some (.aload_n 0, 1, 0, 0, 0, 0) := by decide +kernel
theorem c7_1 : zcod 7 1 = some (.invokespecial 1, 3, 1, 0, 126, 0) := by decide +kernel
theorem c7_4 : zcod 7 4 = some (.return_, 1, 0, 0, 0, 0) := by decide +kernel
set_option maxRecDepth 100000 in
theorem b7_0 (l0 : Option Nat) (h : zH) : zev 7 0 [some (vR l0)] [] h = (zul l0 none (some (none, h))) := by
  refine (zv_an c7_0 rfl).trans ?_
  refine (zv_ob c7_1 (zle rfl)).trans (zul_c rfl ?_)
  exact zv_vr c7_4 zrt_7
theorem e7 (l0 : Option Nat) (h : zH) : zcall 7 [vR l0] h = (zul l0 none (some (none, h))) := by
  refine Eq.trans ?_ (b7_0 l0 h)
  unfold zcall zent
  rw [zL_7]
  rfl
theorem c8_0 : zcod 8 0 = some (.iconst 0, 1, 0, 0, 0, 0) := by decide +kernel
theorem c8_1 : zcod 8 1 = some (.istore_n 2, 1, 0, 0, 0, 0) := by decide +kernel
theorem c8_2 : zcod 8 2 = some (.aload_n 0, 1, 0, 0, 0, 0) := by decide +kernel
theorem c8_3 : zcod 8 3 = some (.arraylength, 1, 0, 0, 0, 0) := by decide +kernel
theorem c8_4 : zcod 8 4 = some (.istore_n 3, 1, 0, 0, 0, 0) := by decide +kernel
theorem c8_5 : zcod 8 5 = some (.iload_n 2, 1, 0, 0, 0, 0) := by decide +kernel
theorem c8_6 : zcod 8 6 = some (.iload_n 3, 1, 0, 0, 0, 0) := by decide +kernel
theorem c8_7 : zcod 8 7 = some (.if_icmp .ge 13, 3, 20, 0, 0, 0) := by decide +kernel
theorem c8_10 : zcod 8 10 = some (.aload_n 0, 1, 0, 0, 0, 0) := by decide +kernel
theorem c8_11 : zcod 8 11 = some (.iload_n 2, 1, 0, 0, 0, 0) := by decide +kernel
theorem c8_12 : zcod 8 12 = some (.iload_n 1, 1, 0, 0, 0, 0) := by decide +kernel
theorem c8_13 : zcod 8 13 = some (.iastore, 1, 0, 0, 0, 0) := by decide +kernel
theorem c8_14 : zcod 8 14 = some (.iinc 2 1, 3, 0, 0, 0, 0) := by decide +kernel
theorem c8_17 : zcod 8 17 = some (.goto (-12), 3, 5, 0, 0, 0) := by decide +kernel
theorem c8_20 : zcod 8 20 = some (.return_, 1, 0, 0, 0, 0) := by decide +kernel
set_option maxRecDepth 100000 in
theorem b8_0 (l0 : Option Nat) (l1 : Int32) (h : zH) : zev 8 0 [some (vR l0), some (vI l1), none, none] [] h = (zal h l0 fun x1 => zev 8 5 [some (vR l0), some (vI l1), some (vI 0), some (vI x1)] [] h) := by
  refine (zv_k (v := 0) c8_0 (by decide)).trans ?_
  refine (zv_it c8_1 rfl).trans ?_
  refine (zv_an c8_2 rfl).trans ?_
  refine (zv_al2 c8_3).trans (zal_c fun x1 => ?_)
  refine (zv_it c8_4 rfl).trans ?_
  rfl
theorem e8 (l0 : Option Nat) (l1 : Int32) (h : zH) : zcall 8 [vR l0, vI l1] h = (zal h l0 fun x1 => zev 8 5 [some (vR l0), some (vI l1), some (vI 0), some (vI x1)] [] h) := by
  refine Eq.trans ?_ (b8_0 l0 l1 h)
  unfold zcall zent
  rw [zL_8]
  rfl
set_option maxRecDepth 100000 in
theorem b8_5 (l0 : Option Nat) (l1 : Int32) (l2 : Int32) (l3 : Int32) (h : zH) : zev 8 5 [some (vR l0), some (vI l1), some (vI l2), some (vI l3)] [] h = (if l2 < l3 then (ztI h l0 l2 l1 fun h1 => zev 8 5 [some (vR l0), some (vI l1), some (vI (l2 + 1)), some (vI l3)] [] h1) else some (none, h)) := by
  refine (zv_in c8_5 rfl).trans ?_
  refine (zv_in c8_6 rfl).trans ?_
  refine (zv_icge c8_7).trans (zif_c ?_ ?_)
  · refine (zv_an c8_10 rfl).trans ?_
    refine (zv_in c8_11 rfl).trans ?_
    refine (zv_in c8_12 rfl).trans ?_
    refine (zv_tI c8_13).trans (ztI_c fun h1 => ?_)
    refine (zv_inc (y := 1) c8_14 rfl (by decide) rfl).trans ?_
    refine (zv_goto c8_17).trans ?_
    rfl
  · exact zv_vr c8_20 zrt_8
theorem c9_0 : zcod 9 0 = some (.aload_n 0, 1, 0, 0, 0, 0) := by decide +kernel
theorem c9_1 : zcod 9 1 = some (.invokespecial 3, 3, 1, 0, 172, 0) := by decide +kernel
theorem c9_4 : zcod 9 4 = some (.aload_n 0, 1, 0, 0, 0, 0) := by decide +kernel
theorem c9_5 : zcod 9 5 = some (.bipush 20, 2, 0, 0, 0, 0) := by decide +kernel
theorem c9_7 : zcod 9 7 = some (.newarray .int, 2, 100, 0, 0, 0) := by decide +kernel
theorem c9_9 : zcod 9 9 = some (.putfield 9, 3, 4, 0, 173, 0) := by decide +kernel
theorem c9_12 : zcod 9 12 = some (.return_, 1, 0, 0, 0, 0) := by decide +kernel
set_option maxRecDepth 100000 in
theorem b9_0 (l0 : Option Nat) (h : zH) : zev 9 0 [some (vR l0)] [] h = (zul l0 none ((zna h 100 20 fun x1 h2 => (zpR h2 l0 4 0 x1 fun h3 => some (none, h3))))) := by
  refine (zv_an c9_0 rfl).trans ?_
  refine (zv_ob c9_1 (zle rfl)).trans (zul_c rfl ?_)
  refine (zv_an c9_4 rfl).trans ?_
  refine (zv_bi (v := 20) c9_5 (by decide)).trans ?_
  refine (zv_na c9_7).trans (zna_c fun x1 h2 => ?_)
  refine (zv_pR c9_9 zf4_0).trans (zpR_c fun h3 => ?_)
  exact zv_vr c9_12 zrt_9
theorem e9 (l0 : Option Nat) (h : zH) : zcall 9 [vR l0] h = (zul l0 none ((zna h 100 20 fun x1 h2 => (zpR h2 l0 4 0 x1 fun h3 => some (none, h3))))) := by
  refine Eq.trans ?_ (b9_0 l0 h)
  unfold zcall zent
  rw [zL_9]
  rfl
theorem c10_0 : zcod 10 0 = some (.iload_n 1, 1, 0, 0, 0, 0) := by decide +kernel
theorem c10_1 : zcod 10 1 = some (.iconst 1, 1, 0, 0, 0, 0) := by decide +kernel
theorem c10_2 : zcod 10 2 = some (.if_icmp .lt 9, 3, 11, 0, 0, 0) := by decide +kernel
theorem c10_5 : zcod 10 5 = some (.iload_n 1, 1, 0, 0, 0, 0) := by decide +kernel
theorem c10_6 : zcod 10 6 = some (.bipush 8, 2, 0, 0, 0, 0) := by decide +kernel
theorem c10_8 : zcod 10 8 = some (.if_icmp .le 7, 3, 15, 0, 0, 0) := by decide +kernel
theorem c10_11 : zcod 10 11 = some (.sipush (-1002), 3, 0, 0, 0, 0) := by decide +kernel
theorem c10_14 : zcod 10 14 = some (.ireturn, 1, 0, 0, 0, 0) := by decide +kernel
theorem c10_15 : zcod 10 15 = some (.aload_n 0, 1, 0, 0, 0, 0) := by decide +kernel
theorem c10_16 : zcod 10 16 = some (.getfield 12, 3, 8, 0, 219, 0) := by decide +kernel
theorem c10_19 : zcod 10 19 = some (.iload_n 1, 1, 0, 0, 0, 0) := by decide +kernel
theorem c10_20 : zcod 10 20 = some (.lload_n 2, 1, 0, 0, 0, 0) := by decide +kernel
theorem c10_21 : zcod 10 21 = some (.invokevirtual 23, 3, 11, 2, 230, 0) := by decide +kernel
theorem c10_24 : zcod 10 24 = some (.ifCond .eq 13, 3, 37, 0, 0, 0) := by decide +kernel
theorem c10_27 : zcod 10 27 = some (.aload_n 0, 1, 0, 0, 0, 0) := by decide +kernel
theorem c10_28 : zcod 10 28 = some (.getfield 12, 3, 8, 0, 219, 0) := by decide +kernel
theorem c10_31 : zcod 10 31 = some (.getfield 27, 3, 6, 2, 83, 0) := by decide +kernel
theorem c10_34 : zcod 10 34 = some (.goto 6, 3, 40, 0, 0, 0) := by decide +kernel
theorem c10_37 : zcod 10 37 = some (.sipush (-1004), 3, 0, 0, 0, 0) := by decide +kernel
theorem c10_40 : zcod 10 40 = some (.ireturn, 1, 0, 0, 0, 0) := by decide +kernel
set_option maxRecDepth 100000 in
theorem b10_0 (l0 : Option Nat) (l1 : Int32) (l2 : Int64) (h : zH) : zev 10 0 [some (vR l0), some (vI l1), some (vL l2), none] [] h = (if l1 < 1 then some (some (vI (-1002)), h) else (if 8 < l1 then some (some (vI (-1002)), h) else (zgR h l0 8 0 fun x1 => (zvr h x1 6 (zcI 11 [vR x1, vI l1, vL l2] h fun x3 h2 => (if x3 = 0 then some (some (vI (-1004)), h2) else (zgR h2 l0 8 0 fun x4 => (zgI h2 x4 6 2 fun x5 => some (some (vI x5), h2))))))))) := by
  refine (zv_in c10_0 rfl).trans ?_
  refine (zv_k (v := 1) c10_1 (by decide)).trans ?_
  refine (zv_iclt c10_2).trans (zif_c ?_ ?_)
  · refine (zv_si (v := -1002) c10_11 (by decide)).trans ?_
    exact zv_ir c10_14 zrt_10
  · refine (zv_in c10_5 rfl).trans ?_
    refine (zv_bi (v := 8) c10_6 (by decide)).trans ?_
    refine (zv_icle c10_8).trans (zif_c ?_ ?_)
    · refine (zv_si (v := -1002) c10_11 (by decide)).trans ?_
      exact zv_ir c10_14 zrt_10
    · refine (zv_an c10_15 rfl).trans ?_
      refine (zv_gR c10_16 zf8_0).trans (zgR_c fun x1 => ?_)
      refine (zv_in c10_19 rfl).trans ?_
      refine (zv_ln c10_20 rfl).trans ?_
      refine (zv_viI c10_21 zcn_11 rfl zL_11 (Or.inr zrt_11) rfl rfl).trans (zvr_c (zcI_c fun x3 h2 => ?_))
      refine (zv_ifeq c10_24).trans (zif_c ?_ ?_)
      · refine (zv_si (v := -1004) c10_37 (by decide)).trans ?_
        exact zv_ir c10_40 zrt_10
      · refine (zv_an c10_27 rfl).trans ?_
        refine (zv_gR c10_28 zf8_0).trans (zgR_c fun x4 => ?_)
        refine (zv_gI c10_31 zg6_2).trans (zgI_c fun x5 => ?_)
        refine (zv_goto c10_34).trans ?_
        exact zv_ir c10_40 zrt_10
theorem e10 (l0 : Option Nat) (l1 : Int32) (l2 : Int64) (h : zH) : zcall 10 [vR l0, vI l1, vL l2] h = (if l1 < 1 then some (some (vI (-1002)), h) else (if 8 < l1 then some (some (vI (-1002)), h) else (zgR h l0 8 0 fun x1 => (zvr h x1 6 (zcI 11 [vR x1, vI l1, vL l2] h fun x3 h2 => (if x3 = 0 then some (some (vI (-1004)), h2) else (zgR h2 l0 8 0 fun x4 => (zgI h2 x4 6 2 fun x5 => some (some (vI x5), h2))))))))) := by
  refine Eq.trans ?_ (b10_0 l0 l1 l2 h)
  unfold zcall zent
  rw [zL_10]
  rfl
theorem c11_0 : zcod 11 0 = some (.aload_n 0, 1, 0, 0, 0, 0) := by decide +kernel
theorem c11_1 : zcod 11 1 = some (.getfield 23, 3, 6, 2, 82, 0) := by decide +kernel
theorem c11_4 : zcod 11 4 = some (.iload_n 1, 1, 0, 0, 0, 0) := by decide +kernel
theorem c11_5 : zcod 11 5 = some (.iadd, 1, 0, 0, 0, 0) := by decide +kernel
theorem c11_6 : zcod 11 6 = some (.aload_n 0, 1, 0, 0, 0, 0) := by decide +kernel
theorem c11_7 : zcod 11 7 = some (.getfield 9, 3, 6, 0, 80, 0) := by decide +kernel
theorem c11_10 : zcod 11 10 = some (.arraylength, 1, 0, 0, 0, 0) := by decide +kernel
theorem c11_11 : zcod 11 11 = some (.if_icmp .le 5, 3, 16, 0, 0, 0) := by decide +kernel
theorem c11_14 : zcod 11 14 = some (.iconst 0, 1, 0, 0, 0, 0) := by decide +kernel
theorem c11_15 : zcod 11 15 = some (.ireturn, 1, 0, 0, 0, 0) := by decide +kernel
theorem c11_16 : zcod 11 16 = some (.iload_n 1, 1, 0, 0, 0, 0) := by decide +kernel
theorem c11_17 : zcod 11 17 = some (.iconst 1, 1, 0, 0, 0, 0) := by decide +kernel
theorem c11_18 : zcod 11 18 = some (.isub, 1, 0, 0, 0, 0) := by decide +kernel
theorem c11_19 : zcod 11 19 = some (.istore 4, 2, 0, 0, 0, 0) := by decide +kernel
theorem c11_21 : zcod 11 21 = some (.iload 4, 2, 0, 0, 0, 0) := by decide +kernel
theorem c11_23 : zcod 11 23 = some (.ifCond .lt 49, 3, 72, 0, 0, 0) := by decide +kernel
theorem c11_26 : zcod 11 26 = some (.aload_n 0, 1, 0, 0, 0, 0) := by decide +kernel
theorem c11_27 : zcod 11 27 = some (.getfield 23, 3, 6, 2, 82, 0) := by decide +kernel
theorem c11_30 : zcod 11 30 = some (.aload_n 0, 1, 0, 0, 0, 0) := by decide +kernel
theorem c11_31 : zcod 11 31 = some (.getfield 9, 3, 6, 0, 80, 0) := by decide +kernel
theorem c11_34 : zcod 11 34 = some (.arraylength, 1, 0, 0, 0, 0) := by decide +kernel
theorem c11_35 : zcod 11 35 = some (.if_icmp .ge 37, 3, 72, 0, 0, 0) := by decide +kernel
theorem c11_38 : zcod 11 38 = some (.aload_n 0, 1, 0, 0, 0, 0) := by decide +kernel
theorem c11_39 : zcod 11 39 = some (.getfield 9, 3, 6, 0, 80, 0) := by decide +kernel
theorem c11_42 : zcod 11 42 = some (.aload_n 0, 1, 0, 0, 0, 0) := by decide +kernel
theorem c11_43 : zcod 11 43 = some (.getfield 23, 3, 6, 2, 82, 0) := by decide +kernel
theorem c11_46 : zcod 11 46 = some (.lload_n 2, 1, 0, 0, 0, 0) := by decide +kernel
theorem c11_47 : zcod 11 47 = some (.bipush 8, 2, 0, 0, 0, 0) := by decide +kernel
theorem c11_49 : zcod 11 49 = some (.iload 4, 2, 0, 0, 0, 0) := by decide +kernel
theorem c11_51 : zcod 11 51 = some (.imul, 1, 0, 0, 0, 0) := by decide +kernel
theorem c11_52 : zcod 11 52 = some (.lshr, 1, 0, 0, 0, 0) := by decide +kernel
theorem c11_53 : zcod 11 53 = some (.l2i, 1, 0, 0, 0, 0) := by decide +kernel
theorem c11_54 : zcod 11 54 = some (.i2b, 1, 0, 0, 0, 0) := by decide +kernel
theorem c11_55 : zcod 11 55 = some (.bastore, 1, 0, 0, 0, 0) := by decide +kernel
theorem c11_56 : zcod 11 56 = some (.aload_n 0, 1, 0, 0, 0, 0) := by decide +kernel
theorem c11_57 : zcod 11 57 = some (.dup, 1, 0, 0, 0, 0) := by decide +kernel
theorem c11_58 : zcod 11 58 = some (.getfield 23, 3, 6, 2, 82, 0) := by decide +kernel
theorem c11_61 : zcod 11 61 = some (.iconst 1, 1, 0, 0, 0, 0) := by decide +kernel
theorem c11_62 : zcod 11 62 = some (.iadd, 1, 0, 0, 0, 0) := by decide +kernel
theorem c11_63 : zcod 11 63 = some (.putfield 23, 3, 6, 2, 82, 0) := by decide +kernel
theorem c11_66 : zcod 11 66 = some (.iinc 4 (-1), 3, 0, 0, 0, 0) := by decide +kernel
theorem c11_69 : zcod 11 69 = some (.goto (-48), 3, 21, 0, 0, 0) := by decide +kernel
theorem c11_72 : zcod 11 72 = some (.iconst 1, 1, 0, 0, 0, 0) := by decide +kernel
theorem c11_73 : zcod 11 73 = some (.ireturn, 1, 0, 0, 0, 0) := by decide +kernel
set_option maxRecDepth 100000 in
theorem b11_0 (l0 : Option Nat) (l1 : Int32) (l2 : Int64) (h : zH) : zev 11 0 [some (vR l0), some (vI l1), some (vL l2), none, none] [] h = (zgI h l0 6 2 fun x1 => (zgR h l0 6 0 fun x2 => (zal h x2 fun x3 => (if x3 < (x1 + l1) then zbo 0 (some (some (vI 0), h)) else zev 11 21 [some (vR l0), some (vI l1), some (vL l2), none, some (vI (l1 - 1))] [] h)))) := by
  refine (zv_an c11_0 rfl).trans ?_
  refine (zv_gI c11_1 zg6_2).trans (zgI_c fun x1 => ?_)
  refine (zv_in c11_4 rfl).trans ?_
  refine (zv_iadd c11_5).trans ?_
  refine (zv_an c11_6 rfl).trans ?_
  refine (zv_gR c11_7 zf6_0).trans (zgR_c fun x2 => ?_)
  refine (zv_al2 c11_10).trans (zal_c fun x3 => ?_)
  refine (zv_icle c11_11).trans (zif_c ?_ ?_)
  · refine (zv_k (v := 0) c11_14 (by decide)).trans ?_
    exact zv_iz c11_15 zrt_11
  · refine (zv_in c11_16 rfl).trans ?_
    refine (zv_k (v := 1) c11_17 (by decide)).trans ?_
    refine (zv_isub c11_18).trans ?_
    refine (zv_is c11_19 rfl).trans ?_
    rfl
theorem e11 (l0 : Option Nat) (l1 : Int32) (l2 : Int64) (h : zH) : zcall 11 [vR l0, vI l1, vL l2] h = (zgI h l0 6 2 fun x1 => (zgR h l0 6 0 fun x2 => (zal h x2 fun x3 => (if x3 < (x1 + l1) then zbo 0 (some (some (vI 0), h)) else zev 11 21 [some (vR l0), some (vI l1), some (vL l2), none, some (vI (l1 - 1))] [] h)))) := by
  refine Eq.trans ?_ (b11_0 l0 l1 l2 h)
  unfold zcall zent
  rw [zL_11]
  rfl
set_option maxRecDepth 100000 in
theorem b11_21 (l0 : Option Nat) (l1 : Int32) (l2 : Int64) (l4 : Int32) (h : zH) : zev 11 21 [some (vR l0), some (vI l1), some (vL l2), none, some (vI l4)] [] h = (if l4 < 0 then zbo 1 (some (some (vI 1), h)) else (zgI h l0 6 2 fun x1 => (zgR h l0 6 0 fun x2 => (zal h x2 fun x3 => (if x1 < x3 then (zgR h l0 6 0 fun x4 => (zgI h l0 6 2 fun x5 => (ztB h x4 x5 (Int8.toInt32 (Int32.toInt8 (Int64.toInt32 (l2 >>> (Int32.toInt64 (8 * l4) &&& 63))))) fun h6 => (zgI h6 l0 6 2 fun x7 => (zpI h6 l0 6 2 (x7 + 1) fun h8 => zev 11 21 [some (vR l0), some (vI l1), some (vL l2), none, some (vI (l4 + (-1)))] [] h8))))) else zbo 1 (some (some (vI 1), h))))))) := by
  refine (zv_il c11_21 rfl).trans ?_
  refine (zv_iflt c11_23).trans (zif_c ?_ ?_)
  · refine (zv_k (v := 1) c11_72 (by decide)).trans ?_
    exact zv_iz c11_73 zrt_11
  · refine (zv_an c11_26 rfl).trans ?_
    refine (zv_gI c11_27 zg6_2).trans (zgI_c fun x1 => ?_)
    refine (zv_an c11_30 rfl).trans ?_
    refine (zv_gR c11_31 zf6_0).trans (zgR_c fun x2 => ?_)
    refine (zv_al2 c11_34).trans (zal_c fun x3 => ?_)
    refine (zv_icge c11_35).trans (zif_c ?_ ?_)
    · refine (zv_an c11_38 rfl).trans ?_
      refine (zv_gR c11_39 zf6_0).trans (zgR_c fun x4 => ?_)
      refine (zv_an c11_42 rfl).trans ?_
      refine (zv_gI c11_43 zg6_2).trans (zgI_c fun x5 => ?_)
      refine (zv_ln c11_46 rfl).trans ?_
      refine (zv_bi (v := 8) c11_47 (by decide)).trans ?_
      refine (zv_il c11_49 rfl).trans ?_
      refine (zv_imul c11_51).trans ?_
      refine (zv_lshr c11_52).trans ?_
      refine (zv_l2i c11_53).trans ?_
      refine (zv_i2b c11_54).trans ?_
      refine (zv_tB c11_55).trans (ztB_c fun h6 => ?_)
      refine (zv_an c11_56 rfl).trans ?_
      refine (zv_dup c11_57 rfl).trans ?_
      refine (zv_gI c11_58 zg6_2).trans (zgI_c fun x7 => ?_)
      refine (zv_k (v := 1) c11_61 (by decide)).trans ?_
      refine (zv_iadd c11_62).trans ?_
      refine (zv_pI c11_63 zf6_2).trans (zpI_c fun h8 => ?_)
      refine (zv_inc (y := -1) c11_66 rfl (by decide) rfl).trans ?_
      refine (zv_goto c11_69).trans ?_
      rfl
    · refine (zv_k (v := 1) c11_72 (by decide)).trans ?_
      exact zv_iz c11_73 zrt_11
theorem c12_0 : zcod 12 0 = some (.aload_n 0, 1, 0, 0, 0, 0) := by decide +kernel
theorem c12_1 : zcod 12 1 = some (.getfield 12, 3, 8, 0, 219, 0) := by decide +kernel
theorem c12_4 : zcod 12 4 = some (.aload_n 0, 1, 0, 0, 0, 0) := by decide +kernel
theorem c12_5 : zcod 12 5 = some (.getfield 19, 3, 8, 1, 220, 0) := by decide +kernel
theorem c12_8 : zcod 12 8 = some (.getfield 31, 3, 3, 0, 183, 0) := by decide +kernel
theorem c12_11 : zcod 12 11 = some (.invokevirtual 35, 3, 13, 1, 238, 0) := by decide +kernel
theorem c12_14 : zcod 12 14 = some (.istore_n 1, 1, 0, 0, 0, 0) := by decide +kernel
theorem c12_15 : zcod 12 15 = some (.iload_n 1, 1, 0, 0, 0, 0) := by decide +kernel
theorem c12_16 : zcod 12 16 = some (.ifCond .ne 19, 3, 35, 0, 0, 0) := by decide +kernel
theorem c12_19 : zcod 12 19 = some (.aload_n 0, 1, 0, 0, 0, 0) := by decide +kernel
theorem c12_20 : zcod 12 20 = some (.getfield 19, 3, 8, 1, 220, 0) := by decide +kernel
theorem c12_23 : zcod 12 23 = some (.getfield 31, 3, 3, 0, 183, 0) := by decide +kernel
theorem c12_26 : zcod 12 26 = some (.getfield 39, 3, 5, 2, 149, 0) := by decide +kernel
theorem c12_29 : zcod 12 29 = some (.invokevirtual 45, 3, 14, 0, 484, 0) := by decide +kernel
theorem c12_32 : zcod 12 32 = some (.goto 7, 3, 39, 0, 0, 0) := by decide +kernel
theorem c12_35 : zcod 12 35 = some (.bipush (-10), 2, 0, 0, 0, 0) := by decide +kernel
theorem c12_37 : zcod 12 37 = some (.iload_n 1, 1, 0, 0, 0, 0) := by decide +kernel
theorem c12_38 : zcod 12 38 = some (.isub, 1, 0, 0, 0, 0) := by decide +kernel
theorem c12_39 : zcod 12 39 = some (.ireturn, 1, 0, 0, 0, 0) := by decide +kernel
set_option maxRecDepth 100000 in
theorem b12_0 (l0 : Option Nat) (h : zH) : zev 12 0 [some (vR l0), none] [] h = (zgR h l0 8 0 fun x1 => (zgR h l0 8 1 fun x2 => (zgR h x2 3 0 fun x3 => (zvr h x1 6 (zcI 13 [vR x1, vR x3] h fun x5 h4 => (if x5 = 0 then (zgR h4 l0 8 1 fun x6 => (zgR h4 x6 3 0 fun x7 => (zgR h4 x7 5 2 fun x8 => (zvr h4 x8 0 (zcI 14 [vR x8] h4 fun x10 h9 => some (some (vI x10), h9)))))) else some (some (vI ((-10) - x5)), h4))))))) := by
  refine (zv_an c12_0 rfl).trans ?_
  refine (zv_gR c12_1 zf8_0).trans (zgR_c fun x1 => ?_)
  refine (zv_an c12_4 rfl).trans ?_
  refine (zv_gR c12_5 zf8_1).trans (zgR_c fun x2 => ?_)
  refine (zv_gR c12_8 zf3_0).trans (zgR_c fun x3 => ?_)
  refine (zv_viI c12_11 zcn_13 rfl zL_13 (Or.inl zrt_13) rfl rfl).trans (zvr_c (zcI_c fun x5 h4 => ?_))
  refine (zv_it c12_14 rfl).trans ?_
  refine (zv_in c12_15 rfl).trans ?_
  refine (zv_ifne c12_16).trans (zif_c ?_ ?_)
  · refine (zv_an c12_19 rfl).trans ?_
    refine (zv_gR c12_20 zf8_1).trans (zgR_c fun x6 => ?_)
    refine (zv_gR c12_23 zf3_0).trans (zgR_c fun x7 => ?_)
    refine (zv_gR c12_26 zf5_2).trans (zgR_c fun x8 => ?_)
    refine (zv_viI c12_29 zcn_14 rfl zL_14 (Or.inl zrt_14) rfl rfl).trans (zvr_c (zcI_c fun x10 h9 => ?_))
    refine (zv_goto c12_32).trans ?_
    exact zv_ir c12_39 zrt_12
  · refine (zv_bi (v := -10) c12_35 (by decide)).trans ?_
    refine (zv_in c12_37 rfl).trans ?_
    refine (zv_isub c12_38).trans ?_
    exact zv_ir c12_39 zrt_12
theorem e12 (l0 : Option Nat) (h : zH) : zcall 12 [vR l0] h = (zgR h l0 8 0 fun x1 => (zgR h l0 8 1 fun x2 => (zgR h x2 3 0 fun x3 => (zvr h x1 6 (zcI 13 [vR x1, vR x3] h fun x5 h4 => (if x5 = 0 then (zgR h4 l0 8 1 fun x6 => (zgR h4 x6 3 0 fun x7 => (zgR h4 x7 5 2 fun x8 => (zvr h4 x8 0 (zcI 14 [vR x8] h4 fun x10 h9 => some (some (vI x10), h9)))))) else some (some (vI ((-10) - x5)), h4))))))) := by
  refine Eq.trans ?_ (b12_0 l0 h)
  unfold zcall zent
  rw [zL_12]
  rfl
theorem c13_0 : zcod 13 0 = some (.aload_n 1, 1, 0, 0, 0, 0) := by decide +kernel
theorem c13_1 : zcod 13 1 = some (.getfield 26, 3, 5, 2, 148, 0) := by decide +kernel
theorem c13_4 : zcod 13 4 = some (.invokevirtual 32, 3, 14, 0, 242, 0) := by decide +kernel
theorem c13_7 : zcod 13 7 = some (.istore_n 2, 1, 0, 0, 0, 0) := by decide +kernel
theorem c13_8 : zcod 13 8 = some (.aload_n 1, 1, 0, 0, 0, 0) := by decide +kernel
theorem c13_9 : zcod 13 9 = some (.getfield 38, 3, 5, 3, 151, 0) := by decide +kernel
theorem c13_12 : zcod 13 12 = some (.istore_n 3, 1, 0, 0, 0, 0) := by decide +kernel
theorem c13_13 : zcod 13 13 = some (.aload_n 0, 1, 0, 0, 0, 0) := by decide +kernel
theorem c13_14 : zcod 13 14 = some (.iconst 0, 1, 0, 0, 0, 0) := by decide +kernel
theorem c13_15 : zcod 13 15 = some (.putfield 41, 3, 6, 5, 87, 0) := by decide +kernel
theorem c13_18 : zcod 13 18 = some (.aload_n 0, 1, 0, 0, 0, 0) := by decide +kernel
theorem c13_19 : zcod 13 19 = some (.iconst 0, 1, 0, 0, 0, 0) := by decide +kernel
theorem c13_20 : zcod 13 20 = some (.putfield 44, 3, 6, 4, 86, 0) := by decide +kernel
theorem c13_23 : zcod 13 23 = some (.aload_n 0, 1, 0, 0, 0, 0) := by decide +kernel
theorem c13_24 : zcod 13 24 = some (.iconst (-1), 1, 0, 0, 0, 0) := by decide +kernel
theorem c13_25 : zcod 13 25 = some (.putfield 19, 3, 6, 3, 84, 0) := by decide +kernel
theorem c13_28 : zcod 13 28 = some (.iconst 0, 1, 0, 0, 0, 0) := by decide +kernel
theorem c13_29 : zcod 13 29 = some (.istore 4, 2, 0, 0, 0, 0) := by decide +kernel
theorem c13_31 : zcod 13 31 = some (.iload 4, 2, 0, 0, 0, 0) := by decide +kernel
theorem c13_33 : zcod 13 33 = some (.sipush 200, 3, 0, 0, 0, 0) := by decide +kernel
theorem c13_36 : zcod 13 36 = some (.if_icmp .ge 21, 3, 57, 0, 0, 0) := by decide +kernel
theorem c13_39 : zcod 13 39 = some (.aload_n 0, 1, 0, 0, 0, 0) := by decide +kernel
theorem c13_40 : zcod 13 40 = some (.invokevirtual 47, 3, 15, 0, 246, 0) := by decide +kernel
theorem c13_43 : zcod 13 43 = some (.ifCond .eq 14, 3, 57, 0, 0, 0) := by decide +kernel
theorem c13_46 : zcod 13 46 = some (.aload_n 0, 1, 0, 0, 0, 0) := by decide +kernel
theorem c13_47 : zcod 13 47 = some (.aload_n 1, 1, 0, 0, 0, 0) := by decide +kernel
theorem c13_48 : zcod 13 48 = some (.invokevirtual 51, 3, 18, 1, 258, 0) := by decide +kernel
theorem c13_51 : zcod 13 51 = some (.iinc 4 1, 3, 0, 0, 0, 0) := by decide +kernel
theorem c13_54 : zcod 13 54 = some (.goto (-23), 3, 31, 0, 0, 0) := by decide +kernel
theorem c13_57 : zcod 13 57 = some (.aload_n 0, 1, 0, 0, 0, 0) := by decide +kernel
theorem c13_58 : zcod 13 58 = some (.getfield 44, 3, 6, 4, 86, 0) := by decide +kernel
theorem c13_61 : zcod 13 61 = some (.ifCond .eq 9, 3, 70, 0, 0, 0) := by decide +kernel
theorem c13_64 : zcod 13 64 = some (.aload_n 1, 1, 0, 0, 0, 0) := by decide +kernel
theorem c13_65 : zcod 13 65 = some (.iload_n 2, 1, 0, 0, 0, 0) := by decide +kernel
theorem c13_66 : zcod 13 66 = some (.iload_n 3, 1, 0, 0, 0, 0) := by decide +kernel
theorem c13_67 : zcod 13 67 = some (.invokevirtual 55, 3, 42, 2, 465, 0) := by decide +kernel
theorem c13_70 : zcod 13 70 = some (.aload_n 0, 1, 0, 0, 0, 0) := by decide +kernel
theorem c13_71 : zcod 13 71 = some (.iconst 0, 1, 0, 0, 0, 0) := by decide +kernel
theorem c13_72 : zcod 13 72 = some (.putfield 23, 3, 6, 2, 82, 0) := by decide +kernel
theorem c13_75 : zcod 13 75 = some (.aload_n 0, 1, 0, 0, 0, 0) := by decide +kernel
theorem c13_76 : zcod 13 76 = some (.getfield 44, 3, 6, 4, 86, 0) := by decide +kernel
theorem c13_79 : zcod 13 79 = some (.ireturn, 1, 0, 0, 0, 0) := by decide +kernel
set_option maxRecDepth 100000 in
theorem b13_0 (l0 : Option Nat) (l1 : Option Nat) (h : zH) : zev 13 0 [some (vR l0), some (vR l1), none, none, none] [] h = (zgR h l1 5 2 fun x1 => (zvr h x1 0 (zcI 14 [vR x1] h fun x3 h2 => (zgI h2 l1 5 3 fun x4 => (zpI h2 l0 6 5 0 fun h5 => (zpI h5 l0 6 4 0 fun h6 => (zpI h6 l0 6 3 (-1) fun h7 => zev 13 31 [some (vR l0), some (vR l1), some (vI x3), some (vI x4), some (vI 0)] [] h7))))))) := by
  refine (zv_an c13_0 rfl).trans ?_
  refine (zv_gR c13_1 zf5_2).trans (zgR_c fun x1 => ?_)
  refine (zv_viI c13_4 zcn_14 rfl zL_14 (Or.inl zrt_14) rfl rfl).trans (zvr_c (zcI_c fun x3 h2 => ?_))
  refine (zv_it c13_7 rfl).trans ?_
  refine (zv_an c13_8 rfl).trans ?_
  refine (zv_gI c13_9 zg5_3).trans (zgI_c fun x4 => ?_)
  refine (zv_it c13_12 rfl).trans ?_
  refine (zv_an c13_13 rfl).trans ?_
  refine (zv_k (v := 0) c13_14 (by decide)).trans ?_
  refine (zv_pI c13_15 zf6_5).trans (zpI_c fun h5 => ?_)
  refine (zv_an c13_18 rfl).trans ?_
  refine (zv_k (v := 0) c13_19 (by decide)).trans ?_
  refine (zv_pI c13_20 zf6_4).trans (zpI_c fun h6 => ?_)
  refine (zv_an c13_23 rfl).trans ?_
  refine (zv_k (v := -1) c13_24 (by decide)).trans ?_
  refine (zv_pI c13_25 zf6_3).trans (zpI_c fun h7 => ?_)
  refine (zv_k (v := 0) c13_28 (by decide)).trans ?_
  refine (zv_is c13_29 rfl).trans ?_
  rfl
theorem e13 (l0 : Option Nat) (l1 : Option Nat) (h : zH) : zcall 13 [vR l0, vR l1] h = (zgR h l1 5 2 fun x1 => (zvr h x1 0 (zcI 14 [vR x1] h fun x3 h2 => (zgI h2 l1 5 3 fun x4 => (zpI h2 l0 6 5 0 fun h5 => (zpI h5 l0 6 4 0 fun h6 => (zpI h6 l0 6 3 (-1) fun h7 => zev 13 31 [some (vR l0), some (vR l1), some (vI x3), some (vI x4), some (vI 0)] [] h7))))))) := by
  refine Eq.trans ?_ (b13_0 l0 l1 h)
  unfold zcall zent
  rw [zL_13]
  rfl
set_option maxRecDepth 100000 in
theorem b13_31 (l0 : Option Nat) (l1 : Option Nat) (l2 : Int32) (l3 : Int32) (l4 : Int32) (h : zH) : zev 13 31 [some (vR l0), some (vR l1), some (vI l2), some (vI l3), some (vI l4)] [] h = (if l4 < 200 then (zvr h l0 6 (zcI 15 [vR l0] h fun x2 h1 => (if x2 = 0 then zev 13 57 [some (vR l0), some (vR l1), some (vI l2), some (vI l3), some (vI l4)] [] h1 else (zvr h1 l0 6 (zcV 18 [vR l0, vR l1] h1 fun h3 => zev 13 31 [some (vR l0), some (vR l1), some (vI l2), some (vI l3), some (vI (l4 + 1))] [] h3))))) else zev 13 57 [some (vR l0), some (vR l1), some (vI l2), some (vI l3), some (vI l4)] [] h) := by
  refine (zv_il c13_31 rfl).trans ?_
  refine (zv_si (v := 200) c13_33 (by decide)).trans ?_
  refine (zv_icge c13_36).trans (zif_c ?_ ?_)
  · refine (zv_an c13_39 rfl).trans ?_
    refine (zv_viI c13_40 zcn_15 rfl zL_15 (Or.inr zrt_15) rfl rfl).trans (zvr_c (zcI_c fun x2 h1 => ?_))
    refine (zv_ifeq c13_43).trans (zif_c ?_ ?_)
    · rfl
    · refine (zv_an c13_46 rfl).trans ?_
      refine (zv_an c13_47 rfl).trans ?_
      refine (zv_viV c13_48 zcn_18 rfl zL_18 zrt_18 rfl rfl).trans (zvr_c (zcV_c fun h3 => ?_))
      refine (zv_inc (y := 1) c13_51 rfl (by decide) rfl).trans ?_
      refine (zv_goto c13_54).trans ?_
      rfl
  · rfl
set_option maxRecDepth 100000 in
theorem b13_57 (l0 : Option Nat) (l1 : Option Nat) (l2 : Int32) (l3 : Int32) (l4 : Int32) (h : zH) : zev 13 57 [some (vR l0), some (vR l1), some (vI l2), some (vI l3), some (vI l4)] [] h = (zgI h l0 6 4 fun x1 => (if x1 = 0 then (zpI h l0 6 2 0 fun h2 => (zgI h2 l0 6 4 fun x3 => some (some (vI x3), h2))) else (zvr h l1 5 (zcV 42 [vR l1, vI l2, vI l3] h fun h4 => (zpI h4 l0 6 2 0 fun h5 => (zgI h5 l0 6 4 fun x6 => some (some (vI x6), h5))))))) := by
  refine (zv_an c13_57 rfl).trans ?_
  refine (zv_gI c13_58 zg6_4).trans (zgI_c fun x1 => ?_)
  refine (zv_ifeq c13_61).trans (zif_c ?_ ?_)
  · refine (zv_an c13_70 rfl).trans ?_
    refine (zv_k (v := 0) c13_71 (by decide)).trans ?_
    refine (zv_pI c13_72 zf6_2).trans (zpI_c fun h2 => ?_)
    refine (zv_an c13_75 rfl).trans ?_
    refine (zv_gI c13_76 zg6_4).trans (zgI_c fun x3 => ?_)
    exact zv_ir c13_79 zrt_13
  · refine (zv_an c13_64 rfl).trans ?_
    refine (zv_in c13_65 rfl).trans ?_
    refine (zv_in c13_66 rfl).trans ?_
    refine (zv_viV c13_67 zcn_42 rfl zL_42 zrt_42 rfl rfl).trans (zvr_c (zcV_c fun h4 => ?_))
    refine (zv_an c13_70 rfl).trans ?_
    refine (zv_k (v := 0) c13_71 (by decide)).trans ?_
    refine (zv_pI c13_72 zf6_2).trans (zpI_c fun h5 => ?_)
    refine (zv_an c13_75 rfl).trans ?_
    refine (zv_gI c13_76 zg6_4).trans (zgI_c fun x6 => ?_)
    exact zv_ir c13_79 zrt_13
theorem c14_0 : zcod 14 0 = some (.aload_n 0, 1, 0, 0, 0, 0) := by decide +kernel
theorem c14_1 : zcod 14 1 = some (.getfield 48, 3, 0, 2, 130, 0) := by decide +kernel
theorem c14_4 : zcod 14 4 = some (.ireturn, 1, 0, 0, 0, 0) := by decide +kernel
set_option maxRecDepth 100000 in
theorem b14_0 (l0 : Option Nat) (h : zH) : zev 14 0 [some (vR l0)] [] h = (zgI h l0 0 2 fun x1 => some (some (vI x1), h)) := by
  refine (zv_an c14_0 rfl).trans ?_
  refine (zv_gI c14_1 zg0_2).trans (zgI_c fun x1 => ?_)
  exact zv_ir c14_4 zrt_14
theorem e14 (l0 : Option Nat) (h : zH) : zcall 14 [vR l0] h = (zgI h l0 0 2 fun x1 => some (some (vI x1), h)) := by
  refine Eq.trans ?_ (b14_0 l0 h)
  unfold zcall zent
  rw [zL_14]
  rfl
theorem c15_0 : zcod 15 0 = some (.aload_n 0, 1, 0, 0, 0, 0) := by decide +kernel
theorem c15_1 : zcod 15 1 = some (.getfield 44, 3, 6, 4, 86, 0) := by decide +kernel
theorem c15_4 : zcod 15 4 = some (.ifCond .eq 5, 3, 9, 0, 0, 0) := by decide +kernel
theorem c15_7 : zcod 15 7 = some (.iconst 0, 1, 0, 0, 0, 0) := by decide +kernel
theorem c15_8 : zcod 15 8 = some (.ireturn, 1, 0, 0, 0, 0) := by decide +kernel
theorem c15_9 : zcod 15 9 = some (.aload_n 0, 1, 0, 0, 0, 0) := by decide +kernel
theorem c15_10 : zcod 15 10 = some (.invokevirtual 59, 3, 16, 0, 250, 0) := by decide +kernel
theorem c15_13 : zcod 15 13 = some (.aload_n 0, 1, 0, 0, 0, 0) := by decide +kernel
theorem c15_14 : zcod 15 14 = some (.getfield 41, 3, 6, 5, 87, 0) := by decide +kernel
theorem c15_17 : zcod 15 17 = some (.aload_n 0, 1, 0, 0, 0, 0) := by decide +kernel
theorem c15_18 : zcod 15 18 = some (.getfield 23, 3, 6, 2, 82, 0) := by decide +kernel
theorem c15_21 : zcod 15 21 = some (.if_icmp .ge 7, 3, 28, 0, 0, 0) := by decide +kernel
theorem c15_24 : zcod 15 24 = some (.iconst 1, 1, 0, 0, 0, 0) := by decide +kernel
theorem c15_25 : zcod 15 25 = some (.goto 4, 3, 29, 0, 0, 0) := by decide +kernel
theorem c15_28 : zcod 15 28 = some (.iconst 0, 1, 0, 0, 0, 0) := by decide +kernel
theorem c15_29 : zcod 15 29 = some (.ireturn, 1, 0, 0, 0, 0) := by decide +kernel
set_option maxRecDepth 100000 in
theorem b15_0 (l0 : Option Nat) (h : zH) : zev 15 0 [some (vR l0)] [] h = (zgI h l0 6 4 fun x1 => (if x1 = 0 then (zvr h l0 6 (zcV 16 [vR l0] h fun h2 => (zgI h2 l0 6 5 fun x3 => (zgI h2 l0 6 2 fun x4 => (if x3 < x4 then zbo 1 (some (some (vI 1), h2)) else zbo 0 (some (some (vI 0), h2))))))) else zbo 0 (some (some (vI 0), h)))) := by
  refine (zv_an c15_0 rfl).trans ?_
  refine (zv_gI c15_1 zg6_4).trans (zgI_c fun x1 => ?_)
  refine (zv_ifeq c15_4).trans (zif_c ?_ ?_)
  · refine (zv_an c15_9 rfl).trans ?_
    refine (zv_viV c15_10 zcn_16 rfl zL_16 zrt_16 rfl rfl).trans (zvr_c (zcV_c fun h2 => ?_))
    refine (zv_an c15_13 rfl).trans ?_
    refine (zv_gI c15_14 zg6_5).trans (zgI_c fun x3 => ?_)
    refine (zv_an c15_17 rfl).trans ?_
    refine (zv_gI c15_18 zg6_2).trans (zgI_c fun x4 => ?_)
    refine (zv_icge c15_21).trans (zif_c ?_ ?_)
    · refine (zv_k (v := 1) c15_24 (by decide)).trans ?_
      refine (zv_goto c15_25).trans ?_
      exact zv_iz c15_29 zrt_15
    · refine (zv_k (v := 0) c15_28 (by decide)).trans ?_
      exact zv_iz c15_29 zrt_15
  · refine (zv_k (v := 0) c15_7 (by decide)).trans ?_
    exact zv_iz c15_8 zrt_15
theorem e15 (l0 : Option Nat) (h : zH) : zcall 15 [vR l0] h = (zgI h l0 6 4 fun x1 => (if x1 = 0 then (zvr h l0 6 (zcV 16 [vR l0] h fun h2 => (zgI h2 l0 6 5 fun x3 => (zgI h2 l0 6 2 fun x4 => (if x3 < x4 then zbo 1 (some (some (vI 1), h2)) else zbo 0 (some (some (vI 0), h2))))))) else zbo 0 (some (some (vI 0), h)))) := by
  refine Eq.trans ?_ (b15_0 l0 h)
  unfold zcall zent
  rw [zL_15]
  rfl
theorem c16_0 : zcod 16 0 = some (.aload_n 0, 1, 0, 0, 0, 0) := by decide +kernel
theorem c16_1 : zcod 16 1 = some (.getfield 41, 3, 6, 5, 87, 0) := by decide +kernel
theorem c16_4 : zcod 16 4 = some (.aload_n 0, 1, 0, 0, 0, 0) := by decide +kernel
theorem c16_5 : zcod 16 5 = some (.getfield 23, 3, 6, 2, 82, 0) := by decide +kernel
theorem c16_8 : zcod 16 8 = some (.if_icmp .ge 29, 3, 37, 0, 0, 0) := by decide +kernel
theorem c16_11 : zcod 16 11 = some (.aload_n 0, 1, 0, 0, 0, 0) := by decide +kernel
theorem c16_12 : zcod 16 12 = some (.aload_n 0, 1, 0, 0, 0, 0) := by decide +kernel
theorem c16_13 : zcod 16 13 = some (.getfield 41, 3, 6, 5, 87, 0) := by decide +kernel
theorem c16_16 : zcod 16 16 = some (.invokevirtual 62, 3, 17, 1, 254, 0) := by decide +kernel
theorem c16_19 : zcod 16 19 = some (.bipush 32, 2, 0, 0, 0, 0) := by decide +kernel
theorem c16_21 : zcod 16 21 = some (.if_icmp .ne 16, 3, 37, 0, 0, 0) := by decide +kernel
theorem c16_24 : zcod 16 24 = some (.aload_n 0, 1, 0, 0, 0, 0) := by decide +kernel
theorem c16_25 : zcod 16 25 = some (.dup, 1, 0, 0, 0, 0) := by decide +kernel
theorem c16_26 : zcod 16 26 = some (.getfield 41, 3, 6, 5, 87, 0) := by decide +kernel
theorem c16_29 : zcod 16 29 = some (.iconst 1, 1, 0, 0, 0, 0) := by decide +kernel
theorem c16_30 : zcod 16 30 = some (.iadd, 1, 0, 0, 0, 0) := by decide +kernel
theorem c16_31 : zcod 16 31 = some (.putfield 41, 3, 6, 5, 87, 0) := by decide +kernel
theorem c16_34 : zcod 16 34 = some (.goto (-34), 3, 0, 0, 0, 0) := by decide +kernel
theorem c16_37 : zcod 16 37 = some (.return_, 1, 0, 0, 0, 0) := by decide +kernel
set_option maxRecDepth 100000 in
theorem b16_0 (l0 : Option Nat) (h : zH) : zev 16 0 [some (vR l0)] [] h = (zgI h l0 6 5 fun x1 => (zgI h l0 6 2 fun x2 => (if x1 < x2 then (zgI h l0 6 5 fun x3 => (zvr h l0 6 (zcI 17 [vR l0, vI x3] h fun x5 h4 => (if x5 = 32 then (zgI h4 l0 6 5 fun x6 => (zpI h4 l0 6 5 (x6 + 1) fun h7 => zev 16 0 [some (vR l0)] [] h7)) else some (none, h4))))) else some (none, h)))) := by
  refine (zv_an c16_0 rfl).trans ?_
  refine (zv_gI c16_1 zg6_5).trans (zgI_c fun x1 => ?_)
  refine (zv_an c16_4 rfl).trans ?_
  refine (zv_gI c16_5 zg6_2).trans (zgI_c fun x2 => ?_)
  refine (zv_icge c16_8).trans (zif_c ?_ ?_)
  · refine (zv_an c16_11 rfl).trans ?_
    refine (zv_an c16_12 rfl).trans ?_
    refine (zv_gI c16_13 zg6_5).trans (zgI_c fun x3 => ?_)
    refine (zv_viI c16_16 zcn_17 rfl zL_17 (Or.inl zrt_17) rfl rfl).trans (zvr_c (zcI_c fun x5 h4 => ?_))
    refine (zv_bi (v := 32) c16_19 (by decide)).trans ?_
    refine (zv_icne c16_21).trans (zif_c ?_ ?_)
    · refine (zv_an c16_24 rfl).trans ?_
      refine (zv_dup c16_25 rfl).trans ?_
      refine (zv_gI c16_26 zg6_5).trans (zgI_c fun x6 => ?_)
      refine (zv_k (v := 1) c16_29 (by decide)).trans ?_
      refine (zv_iadd c16_30).trans ?_
      refine (zv_pI c16_31 zf6_5).trans (zpI_c fun h7 => ?_)
      refine (zv_goto c16_34).trans ?_
      rfl
    · exact zv_vr c16_37 zrt_16
  · exact zv_vr c16_37 zrt_16
theorem e16 (l0 : Option Nat) (h : zH) : zcall 16 [vR l0] h = (zgI h l0 6 5 fun x1 => (zgI h l0 6 2 fun x2 => (if x1 < x2 then (zgI h l0 6 5 fun x3 => (zvr h l0 6 (zcI 17 [vR l0, vI x3] h fun x5 h4 => (if x5 = 32 then (zgI h4 l0 6 5 fun x6 => (zpI h4 l0 6 5 (x6 + 1) fun h7 => zev 16 0 [some (vR l0)] [] h7)) else some (none, h4))))) else some (none, h)))) := by
  refine Eq.trans ?_ (b16_0 l0 h)
  unfold zcall zent
  rw [zL_16]
  rfl
theorem c17_0 : zcod 17 0 = some (.iload_n 1, 1, 0, 0, 0, 0) := by decide +kernel
theorem c17_1 : zcod 17 1 = some (.ifCond .lt 33, 3, 34, 0, 0, 0) := by decide +kernel
theorem c17_4 : zcod 17 4 = some (.iload_n 1, 1, 0, 0, 0, 0) := by decide +kernel
theorem c17_5 : zcod 17 5 = some (.aload_n 0, 1, 0, 0, 0, 0) := by decide +kernel
theorem c17_6 : zcod 17 6 = some (.getfield 23, 3, 6, 2, 82, 0) := by decide +kernel
theorem c17_9 : zcod 17 9 = some (.if_icmp .ge 25, 3, 34, 0, 0, 0) := by decide +kernel
theorem c17_12 : zcod 17 12 = some (.iload_n 1, 1, 0, 0, 0, 0) := by decide +kernel
theorem c17_13 : zcod 17 13 = some (.aload_n 0, 1, 0, 0, 0, 0) := by decide +kernel
theorem c17_14 : zcod 17 14 = some (.getfield 9, 3, 6, 0, 80, 0) := by decide +kernel
theorem c17_17 : zcod 17 17 = some (.arraylength, 1, 0, 0, 0, 0) := by decide +kernel
theorem c17_18 : zcod 17 18 = some (.if_icmp .ge 16, 3, 34, 0, 0, 0) := by decide +kernel
theorem c17_21 : zcod 17 21 = some (.aload_n 0, 1, 0, 0, 0, 0) := by decide +kernel
theorem c17_22 : zcod 17 22 = some (.getfield 9, 3, 6, 0, 80, 0) := by decide +kernel
theorem c17_25 : zcod 17 25 = some (.iload_n 1, 1, 0, 0, 0, 0) := by decide +kernel
theorem c17_26 : zcod 17 26 = some (.baload, 1, 0, 0, 0, 0) := by decide +kernel
theorem c17_27 : zcod 17 27 = some (.sipush 255, 3, 0, 0, 0, 0) := by decide +kernel
theorem c17_30 : zcod 17 30 = some (.iand, 1, 0, 0, 0, 0) := by decide +kernel
theorem c17_31 : zcod 17 31 = some (.goto 4, 3, 35, 0, 0, 0) := by decide +kernel
theorem c17_34 : zcod 17 34 = some (.iconst (-1), 1, 0, 0, 0, 0) := by decide +kernel
theorem c17_35 : zcod 17 35 = some (.ireturn, 1, 0, 0, 0, 0) := by decide +kernel
set_option maxRecDepth 100000 in
theorem b17_0 (l0 : Option Nat) (l1 : Int32) (h : zH) : zev 17 0 [some (vR l0), some (vI l1)] [] h = (if l1 < 0 then some (some (vI (-1)), h) else (zgI h l0 6 2 fun x1 => (if l1 < x1 then (zgR h l0 6 0 fun x2 => (zal h x2 fun x3 => (if l1 < x3 then (zgR h l0 6 0 fun x4 => (zaB h x4 l1 fun x5 => some (some (vI (x5 &&& 255)), h))) else some (some (vI (-1)), h)))) else some (some (vI (-1)), h)))) := by
  refine (zv_in c17_0 rfl).trans ?_
  refine (zv_iflt c17_1).trans (zif_c ?_ ?_)
  · refine (zv_k (v := -1) c17_34 (by decide)).trans ?_
    exact zv_ir c17_35 zrt_17
  · refine (zv_in c17_4 rfl).trans ?_
    refine (zv_an c17_5 rfl).trans ?_
    refine (zv_gI c17_6 zg6_2).trans (zgI_c fun x1 => ?_)
    refine (zv_icge c17_9).trans (zif_c ?_ ?_)
    · refine (zv_in c17_12 rfl).trans ?_
      refine (zv_an c17_13 rfl).trans ?_
      refine (zv_gR c17_14 zf6_0).trans (zgR_c fun x2 => ?_)
      refine (zv_al2 c17_17).trans (zal_c fun x3 => ?_)
      refine (zv_icge c17_18).trans (zif_c ?_ ?_)
      · refine (zv_an c17_21 rfl).trans ?_
        refine (zv_gR c17_22 zf6_0).trans (zgR_c fun x4 => ?_)
        refine (zv_in c17_25 rfl).trans ?_
        refine (zv_aB c17_26).trans (zaB_c fun x5 => ?_)
        refine (zv_si (v := 255) c17_27 (by decide)).trans ?_
        refine (zv_iand c17_30).trans ?_
        refine (zv_goto c17_31).trans ?_
        exact zv_ir c17_35 zrt_17
      · refine (zv_k (v := -1) c17_34 (by decide)).trans ?_
        exact zv_ir c17_35 zrt_17
    · refine (zv_k (v := -1) c17_34 (by decide)).trans ?_
      exact zv_ir c17_35 zrt_17
theorem e17 (l0 : Option Nat) (l1 : Int32) (h : zH) : zcall 17 [vR l0, vI l1] h = (if l1 < 0 then some (some (vI (-1)), h) else (zgI h l0 6 2 fun x1 => (if l1 < x1 then (zgR h l0 6 0 fun x2 => (zal h x2 fun x3 => (if l1 < x3 then (zgR h l0 6 0 fun x4 => (zaB h x4 l1 fun x5 => some (some (vI (x5 &&& 255)), h))) else some (some (vI (-1)), h)))) else some (some (vI (-1)), h)))) := by
  refine Eq.trans ?_ (b17_0 l0 l1 h)
  unfold zcall zent
  rw [zL_17]
  rfl
theorem c18_0 : zcod 18 0 = some (.aload_n 0, 1, 0, 0, 0, 0) := by decide +kernel
theorem c18_1 : zcod 18 1 = some (.getfield 41, 3, 6, 5, 87, 0) := by decide +kernel
theorem c18_4 : zcod 18 4 = some (.istore_n 2, 1, 0, 0, 0, 0) := by decide +kernel
theorem c18_5 : zcod 18 5 = some (.aload_n 0, 1, 0, 0, 0, 0) := by decide +kernel
theorem c18_6 : zcod 18 6 = some (.dup, 1, 0, 0, 0, 0) := by decide +kernel
theorem c18_7 : zcod 18 7 = some (.getfield 41, 3, 6, 5, 87, 0) := by decide +kernel
theorem c18_10 : zcod 18 10 = some (.iconst 1, 1, 0, 0, 0, 0) := by decide +kernel
theorem c18_11 : zcod 18 11 = some (.iadd, 1, 0, 0, 0, 0) := by decide +kernel
theorem c18_12 : zcod 18 12 = some (.putfield 41, 3, 6, 5, 87, 0) := by decide +kernel
theorem c18_15 : zcod 18 15 = some (.aload_n 0, 1, 0, 0, 0, 0) := by decide +kernel
theorem c18_16 : zcod 18 16 = some (.iload_n 2, 1, 0, 0, 0, 0) := by decide +kernel
theorem c18_17 : zcod 18 17 = some (.invokevirtual 62, 3, 17, 1, 254, 0) := by decide +kernel
theorem c18_20 : zcod 18 20 = some (.lookupswitch 111 #[(98, 36), (103, 87), (115, 65)], 36, 0, 0, 0, 0) := by decide +kernel
theorem c18_56 : zcod 18 56 = some (.aload_n 0, 1, 0, 0, 0, 0) := by decide +kernel
theorem c18_57 : zcod 18 57 = some (.getstatic 66, 3, 1, 0, 262, 0) := by decide +kernel
theorem c18_60 : zcod 18 60 = some (.getstatic 69, 3, 2, 0, 264, 0) := by decide +kernel
theorem c18_63 : zcod 18 63 = some (.invokevirtual 72, 3, 19, 2, 266, 0) := by decide +kernel
theorem c18_66 : zcod 18 66 = some (.ifCond .eq 71, 3, 137, 0, 0, 0) := by decide +kernel
theorem c18_69 : zcod 18 69 = some (.aload_n 0, 1, 0, 0, 0, 0) := by decide +kernel
theorem c18_70 : zcod 18 70 = some (.aload_n 1, 1, 0, 0, 0, 0) := by decide +kernel
theorem c18_71 : zcod 18 71 = some (.iload_n 2, 1, 0, 0, 0, 0) := by decide +kernel
theorem c18_72 : zcod 18 72 = some (.aload_n 0, 1, 0, 0, 0, 0) := by decide +kernel
theorem c18_73 : zcod 18 73 = some (.getfield 15, 3, 6, 1, 81, 0) := by decide +kernel
theorem c18_76 : zcod 18 76 = some (.iconst 4, 1, 0, 0, 0, 0) := by decide +kernel
theorem c18_77 : zcod 18 77 = some (.iaload, 1, 0, 0, 0, 0) := by decide +kernel
theorem c18_78 : zcod 18 78 = some (.iconst 0, 1, 0, 0, 0, 0) := by decide +kernel
theorem c18_79 : zcod 18 79 = some (.invokevirtual 76, 3, 23, 4, 281, 0) := by decide +kernel
theorem c18_82 : zcod 18 82 = some (.goto 55, 3, 137, 0, 0, 0) := by decide +kernel
theorem c18_85 : zcod 18 85 = some (.aload_n 0, 1, 0, 0, 0, 0) := by decide +kernel
theorem c18_86 : zcod 18 86 = some (.getstatic 80, 3, 3, 0, 449, 0) := by decide +kernel
theorem c18_89 : zcod 18 89 = some (.getstatic 83, 3, 4, 0, 451, 0) := by decide +kernel
theorem c18_92 : zcod 18 92 = some (.invokevirtual 72, 3, 19, 2, 266, 0) := by decide +kernel
theorem c18_95 : zcod 18 95 = some (.ifCond .eq 42, 3, 137, 0, 0, 0) := by decide +kernel
theorem c18_98 : zcod 18 98 = some (.aload_n 0, 1, 0, 0, 0, 0) := by decide +kernel
theorem c18_99 : zcod 18 99 = some (.aload_n 1, 1, 0, 0, 0, 0) := by decide +kernel
theorem c18_100 : zcod 18 100 = some (.iload_n 2, 1, 0, 0, 0, 0) := by decide +kernel
theorem c18_101 : zcod 18 101 = some (.invokevirtual 86, 3, 40, 2, 453, 0) := by decide +kernel
theorem c18_104 : zcod 18 104 = some (.goto 33, 3, 137, 0, 0, 0) := by decide +kernel
theorem c18_107 : zcod 18 107 = some (.aload_n 0, 1, 0, 0, 0, 0) := by decide +kernel
theorem c18_108 : zcod 18 108 = some (.getstatic 90, 3, 5, 0, 461, 0) := by decide +kernel
theorem c18_111 : zcod 18 111 = some (.getstatic 93, 3, 6, 0, 463, 0) := by decide +kernel
theorem c18_114 : zcod 18 114 = some (.invokevirtual 72, 3, 19, 2, 266, 0) := by decide +kernel
theorem c18_117 : zcod 18 117 = some (.ifCond .eq 20, 3, 137, 0, 0, 0) := by decide +kernel
theorem c18_120 : zcod 18 120 = some (.aload_n 0, 1, 0, 0, 0, 0) := by decide +kernel
theorem c18_121 : zcod 18 121 = some (.aload_n 1, 1, 0, 0, 0, 0) := by decide +kernel
theorem c18_122 : zcod 18 122 = some (.iload_n 2, 1, 0, 0, 0, 0) := by decide +kernel
theorem c18_123 : zcod 18 123 = some (.iconst 1, 1, 0, 0, 0, 0) := by decide +kernel
theorem c18_124 : zcod 18 124 = some (.iconst 1, 1, 0, 0, 0, 0) := by decide +kernel
theorem c18_125 : zcod 18 125 = some (.invokevirtual 76, 3, 23, 4, 281, 0) := by decide +kernel
theorem c18_128 : zcod 18 128 = some (.goto 9, 3, 137, 0, 0, 0) := by decide +kernel
theorem c18_131 : zcod 18 131 = some (.aload_n 0, 1, 0, 0, 0, 0) := by decide +kernel
theorem c18_132 : zcod 18 132 = some (.iconst 1, 1, 0, 0, 0, 0) := by decide +kernel
theorem c18_133 : zcod 18 133 = some (.iload_n 2, 1, 0, 0, 0, 0) := by decide +kernel
theorem c18_134 : zcod 18 134 = some (.invokevirtual 96, 3, 20, 2, 270, 0) := by decide +kernel
theorem c18_137 : zcod 18 137 = some (.aload_n 0, 1, 0, 0, 0, 0) := by decide +kernel
theorem c18_138 : zcod 18 138 = some (.getfield 44, 3, 6, 4, 86, 0) := by decide +kernel
theorem c18_141 : zcod 18 141 = some (.ifCond .ne 36, 3, 177, 0, 0, 0) := by decide +kernel
theorem c18_144 : zcod 18 144 = some (.aload_n 0, 1, 0, 0, 0, 0) := by decide +kernel
theorem c18_145 : zcod 18 145 = some (.getfield 41, 3, 6, 5, 87, 0) := by decide +kernel
theorem c18_148 : zcod 18 148 = some (.aload_n 0, 1, 0, 0, 0, 0) := by decide +kernel
theorem c18_149 : zcod 18 149 = some (.getfield 23, 3, 6, 2, 82, 0) := by decide +kernel
theorem c18_152 : zcod 18 152 = some (.if_icmp .ge 25, 3, 177, 0, 0, 0) := by decide +kernel
theorem c18_155 : zcod 18 155 = some (.aload_n 0, 1, 0, 0, 0, 0) := by decide +kernel
theorem c18_156 : zcod 18 156 = some (.aload_n 0, 1, 0, 0, 0, 0) := by decide +kernel
theorem c18_157 : zcod 18 157 = some (.getfield 41, 3, 6, 5, 87, 0) := by decide +kernel
theorem c18_160 : zcod 18 160 = some (.invokevirtual 62, 3, 17, 1, 254, 0) := by decide +kernel
theorem c18_163 : zcod 18 163 = some (.bipush 32, 2, 0, 0, 0, 0) := by decide +kernel
theorem c18_165 : zcod 18 165 = some (.if_icmp .eq 12, 3, 177, 0, 0, 0) := by decide +kernel
theorem c18_168 : zcod 18 168 = some (.aload_n 0, 1, 0, 0, 0, 0) := by decide +kernel
theorem c18_169 : zcod 18 169 = some (.iconst 1, 1, 0, 0, 0, 0) := by decide +kernel
theorem c18_170 : zcod 18 170 = some (.aload_n 0, 1, 0, 0, 0, 0) := by decide +kernel
theorem c18_171 : zcod 18 171 = some (.getfield 41, 3, 6, 5, 87, 0) := by decide +kernel
theorem c18_174 : zcod 18 174 = some (.invokevirtual 96, 3, 20, 2, 270, 0) := by decide +kernel
theorem c18_177 : zcod 18 177 = some (.return_, 1, 0, 0, 0, 0) := by decide +kernel
set_option maxRecDepth 100000 in
theorem b18_0 (l0 : Option Nat) (l1 : Option Nat) (h : zH) : zev 18 0 [some (vR l0), some (vR l1), none] [] h = (zgI h l0 6 5 fun x1 => (zgI h l0 6 5 fun x2 => (zpI h l0 6 5 (x2 + 1) fun h3 => (zvr h3 l0 6 (zcI 17 [vR l0, vI x1] h3 fun x5 h4 => (if x5 = 98 then zev 18 56 [some (vR l0), some (vR l1), some (vI x1)] [] h4 else (if x5 = 103 then zev 18 107 [some (vR l0), some (vR l1), some (vI x1)] [] h4 else (if x5 = 115 then (zvr h4 l0 6 (zcI 19 [vR l0, vR (some 3), vR (some 4)] h4 fun x7 h6 => (if x7 = 0 then zev 18 137 [some (vR l0), some (vR l1), some (vI x1)] [] h6 else (zvr h6 l0 6 (zcV 40 [vR l0, vR l1, vI x1] h6 fun h8 => zev 18 137 [some (vR l0), some (vR l1), some (vI x1)] [] h8))))) else (zvr h4 l0 6 (zcV 20 [vR l0, vI 1, vI x1] h4 fun h9 => zev 18 137 [some (vR l0), some (vR l1), some (vI x1)] [] h9)))))))))) := by
  refine (zv_an c18_0 rfl).trans ?_
  refine (zv_gI c18_1 zg6_5).trans (zgI_c fun x1 => ?_)
  refine (zv_it c18_4 rfl).trans ?_
  refine (zv_an c18_5 rfl).trans ?_
  refine (zv_dup c18_6 rfl).trans ?_
  refine (zv_gI c18_7 zg6_5).trans (zgI_c fun x2 => ?_)
  refine (zv_k (v := 1) c18_10 (by decide)).trans ?_
  refine (zv_iadd c18_11).trans ?_
  refine (zv_pI c18_12 zf6_5).trans (zpI_c fun h3 => ?_)
  refine (zv_an c18_15 rfl).trans ?_
  refine (zv_in c18_16 rfl).trans ?_
  refine (zv_viI c18_17 zcn_17 rfl zL_17 (Or.inl zrt_17) rfl rfl).trans (zvr_c (zcI_c fun x5 h4 => ?_))
  refine (zv_lk3 c18_20 (k1 := 98) (k2 := 103) (k3 := 115) (t1 := 56) (t2 := 107) (t3 := 85) (dt := 131) (by decide) (by decide) (by decide) (by decide) (by decide) (by decide) (by decide)).trans (zif_c ?_ (zif_c ?_ (zif_c ?_ ?_)))
  · rfl
  · rfl
  · refine (zv_an c18_85 rfl).trans ?_
    refine (zv_gs c18_86).trans ?_
    refine (zv_gs c18_89).trans ?_
    refine (zv_viI c18_92 zcn_19 rfl zL_19 (Or.inr zrt_19) rfl rfl).trans (zvr_c (zcI_c fun x7 h6 => ?_))
    refine (zv_ifeq c18_95).trans (zif_c ?_ ?_)
    · rfl
    · refine (zv_an c18_98 rfl).trans ?_
      refine (zv_an c18_99 rfl).trans ?_
      refine (zv_in c18_100 rfl).trans ?_
      refine (zv_viV c18_101 zcn_40 rfl zL_40 zrt_40 rfl rfl).trans (zvr_c (zcV_c fun h8 => ?_))
      refine (zv_goto c18_104).trans ?_
      rfl
  · refine (zv_an c18_131 rfl).trans ?_
    refine (zv_k (v := 1) c18_132 (by decide)).trans ?_
    refine (zv_in c18_133 rfl).trans ?_
    refine (zv_viV c18_134 zcn_20 rfl zL_20 zrt_20 rfl rfl).trans (zvr_c (zcV_c fun h9 => ?_))
    rfl
theorem e18 (l0 : Option Nat) (l1 : Option Nat) (h : zH) : zcall 18 [vR l0, vR l1] h = (zgI h l0 6 5 fun x1 => (zgI h l0 6 5 fun x2 => (zpI h l0 6 5 (x2 + 1) fun h3 => (zvr h3 l0 6 (zcI 17 [vR l0, vI x1] h3 fun x5 h4 => (if x5 = 98 then zev 18 56 [some (vR l0), some (vR l1), some (vI x1)] [] h4 else (if x5 = 103 then zev 18 107 [some (vR l0), some (vR l1), some (vI x1)] [] h4 else (if x5 = 115 then (zvr h4 l0 6 (zcI 19 [vR l0, vR (some 3), vR (some 4)] h4 fun x7 h6 => (if x7 = 0 then zev 18 137 [some (vR l0), some (vR l1), some (vI x1)] [] h6 else (zvr h6 l0 6 (zcV 40 [vR l0, vR l1, vI x1] h6 fun h8 => zev 18 137 [some (vR l0), some (vR l1), some (vI x1)] [] h8))))) else (zvr h4 l0 6 (zcV 20 [vR l0, vI 1, vI x1] h4 fun h9 => zev 18 137 [some (vR l0), some (vR l1), some (vI x1)] [] h9)))))))))) := by
  refine Eq.trans ?_ (b18_0 l0 l1 h)
  unfold zcall zent
  rw [zL_18]
  rfl
set_option maxRecDepth 100000 in
theorem b18_56 (l0 : Option Nat) (l1 : Option Nat) (l2 : Int32) (h : zH) : zev 18 56 [some (vR l0), some (vR l1), some (vI l2)] [] h = (zvr h l0 6 (zcI 19 [vR l0, vR (some 1), vR (some 2)] h fun x2 h1 => (if x2 = 0 then zev 18 137 [some (vR l0), some (vR l1), some (vI l2)] [] h1 else (zgR h1 l0 6 1 fun x3 => (zaI h1 x3 4 fun x4 => (zvr h1 l0 6 (zcV 23 [vR l0, vR l1, vI l2, vI x4, vI 0] h1 fun h5 => zev 18 137 [some (vR l0), some (vR l1), some (vI l2)] [] h5))))))) := by
  refine (zv_an c18_56 rfl).trans ?_
  refine (zv_gs c18_57).trans ?_
  refine (zv_gs c18_60).trans ?_
  refine (zv_viI c18_63 zcn_19 rfl zL_19 (Or.inr zrt_19) rfl rfl).trans (zvr_c (zcI_c fun x2 h1 => ?_))
  refine (zv_ifeq c18_66).trans (zif_c ?_ ?_)
  · rfl
  · refine (zv_an c18_69 rfl).trans ?_
    refine (zv_an c18_70 rfl).trans ?_
    refine (zv_in c18_71 rfl).trans ?_
    refine (zv_an c18_72 rfl).trans ?_
    refine (zv_gR c18_73 zf6_1).trans (zgR_c fun x3 => ?_)
    refine (zv_k (v := 4) c18_76 (by decide)).trans ?_
    refine (zv_aI c18_77).trans (zaI_c fun x4 => ?_)
    refine (zv_k (v := 0) c18_78 (by decide)).trans ?_
    refine (zv_viV c18_79 zcn_23 rfl zL_23 zrt_23 rfl rfl).trans (zvr_c (zcV_c fun h5 => ?_))
    refine (zv_goto c18_82).trans ?_
    rfl
set_option maxRecDepth 100000 in
theorem b18_107 (l0 : Option Nat) (l1 : Option Nat) (l2 : Int32) (h : zH) : zev 18 107 [some (vR l0), some (vR l1), some (vI l2)] [] h = (zvr h l0 6 (zcI 19 [vR l0, vR (some 5), vR (some 6)] h fun x2 h1 => (if x2 = 0 then zev 18 137 [some (vR l0), some (vR l1), some (vI l2)] [] h1 else (zvr h1 l0 6 (zcV 23 [vR l0, vR l1, vI l2, vI 1, vI 1] h1 fun h3 => zev 18 137 [some (vR l0), some (vR l1), some (vI l2)] [] h3))))) := by
  refine (zv_an c18_107 rfl).trans ?_
  refine (zv_gs c18_108).trans ?_
  refine (zv_gs c18_111).trans ?_
  refine (zv_viI c18_114 zcn_19 rfl zL_19 (Or.inr zrt_19) rfl rfl).trans (zvr_c (zcI_c fun x2 h1 => ?_))
  refine (zv_ifeq c18_117).trans (zif_c ?_ ?_)
  · rfl
  · refine (zv_an c18_120 rfl).trans ?_
    refine (zv_an c18_121 rfl).trans ?_
    refine (zv_in c18_122 rfl).trans ?_
    refine (zv_k (v := 1) c18_123 (by decide)).trans ?_
    refine (zv_k (v := 1) c18_124 (by decide)).trans ?_
    refine (zv_viV c18_125 zcn_23 rfl zL_23 zrt_23 rfl rfl).trans (zvr_c (zcV_c fun h3 => ?_))
    refine (zv_goto c18_128).trans ?_
    rfl
set_option maxRecDepth 100000 in
theorem b18_137 (l0 : Option Nat) (l1 : Option Nat) (l2 : Int32) (h : zH) : zev 18 137 [some (vR l0), some (vR l1), some (vI l2)] [] h = (zgI h l0 6 4 fun x1 => (if x1 = 0 then (zgI h l0 6 5 fun x2 => (zgI h l0 6 2 fun x3 => (if x2 < x3 then (zgI h l0 6 5 fun x4 => (zvr h l0 6 (zcI 17 [vR l0, vI x4] h fun x6 h5 => (if x6 = 32 then some (none, h5) else (zgI h5 l0 6 5 fun x7 => (zvr h5 l0 6 (zcV 20 [vR l0, vI 1, vI x7] h5 fun h8 => some (none, h8)))))))) else some (none, h)))) else some (none, h))) := by
  refine (zv_an c18_137 rfl).trans ?_
  refine (zv_gI c18_138 zg6_4).trans (zgI_c fun x1 => ?_)
  refine (zv_ifne c18_141).trans (zif_c ?_ ?_)
  · refine (zv_an c18_144 rfl).trans ?_
    refine (zv_gI c18_145 zg6_5).trans (zgI_c fun x2 => ?_)
    refine (zv_an c18_148 rfl).trans ?_
    refine (zv_gI c18_149 zg6_2).trans (zgI_c fun x3 => ?_)
    refine (zv_icge c18_152).trans (zif_c ?_ ?_)
    · refine (zv_an c18_155 rfl).trans ?_
      refine (zv_an c18_156 rfl).trans ?_
      refine (zv_gI c18_157 zg6_5).trans (zgI_c fun x4 => ?_)
      refine (zv_viI c18_160 zcn_17 rfl zL_17 (Or.inl zrt_17) rfl rfl).trans (zvr_c (zcI_c fun x6 h5 => ?_))
      refine (zv_bi (v := 32) c18_163 (by decide)).trans ?_
      refine (zv_iceq c18_165).trans (zif_c ?_ ?_)
      · exact zv_vr c18_177 zrt_18
      · refine (zv_an c18_168 rfl).trans ?_
        refine (zv_k (v := 1) c18_169 (by decide)).trans ?_
        refine (zv_an c18_170 rfl).trans ?_
        refine (zv_gI c18_171 zg6_5).trans (zgI_c fun x7 => ?_)
        refine (zv_viV c18_174 zcn_20 rfl zL_20 zrt_20 rfl rfl).trans (zvr_c (zcV_c fun h8 => ?_))
        exact zv_vr c18_177 zrt_18
    · exact zv_vr c18_177 zrt_18
  · exact zv_vr c18_177 zrt_18
theorem c19_0 : zcod 19 0 = some (.iconst 0, 1, 0, 0, 0, 0) := by decide +kernel
theorem c19_1 : zcod 19 1 = some (.istore_n 3, 1, 0, 0, 0, 0) := by decide +kernel
theorem c19_2 : zcod 19 2 = some (.iload_n 3, 1, 0, 0, 0, 0) := by decide +kernel
theorem c19_3 : zcod 19 3 = some (.aload_n 1, 1, 0, 0, 0, 0) := by decide +kernel
theorem c19_4 : zcod 19 4 = some (.arraylength, 1, 0, 0, 0, 0) := by decide +kernel
theorem c19_5 : zcod 19 5 = some (.if_icmp .ge 81, 3, 86, 0, 0, 0) := by decide +kernel
theorem c19_8 : zcod 19 8 = some (.iload_n 3, 1, 0, 0, 0, 0) := by decide +kernel
theorem c19_9 : zcod 19 9 = some (.aload_n 2, 1, 0, 0, 0, 0) := by decide +kernel
theorem c19_10 : zcod 19 10 = some (.arraylength, 1, 0, 0, 0, 0) := by decide +kernel
theorem c19_11 : zcod 19 11 = some (.if_icmp .ge 75, 3, 86, 0, 0, 0) := by decide +kernel
theorem c19_14 : zcod 19 14 = some (.iload_n 3, 1, 0, 0, 0, 0) := by decide +kernel
theorem c19_15 : zcod 19 15 = some (.aload_n 0, 1, 0, 0, 0, 0) := by decide +kernel
theorem c19_16 : zcod 19 16 = some (.getfield 15, 3, 6, 1, 81, 0) := by decide +kernel
theorem c19_19 : zcod 19 19 = some (.arraylength, 1, 0, 0, 0, 0) := by decide +kernel
theorem c19_20 : zcod 19 20 = some (.if_icmp .ge 66, 3, 86, 0, 0, 0) := by decide +kernel
theorem c19_23 : zcod 19 23 = some (.iload_n 3, 1, 0, 0, 0, 0) := by decide +kernel
theorem c19_24 : zcod 19 24 = some (.ifCond .le 27, 3, 51, 0, 0, 0) := by decide +kernel
theorem c19_27 : zcod 19 27 = some (.aload_n 0, 1, 0, 0, 0, 0) := by decide +kernel
theorem c19_28 : zcod 19 28 = some (.aload_n 0, 1, 0, 0, 0, 0) := by decide +kernel
theorem c19_29 : zcod 19 29 = some (.getfield 41, 3, 6, 5, 87, 0) := by decide +kernel
theorem c19_32 : zcod 19 32 = some (.invokevirtual 62, 3, 17, 1, 254, 0) := by decide +kernel
theorem c19_35 : zcod 19 35 = some (.bipush 32, 2, 0, 0, 0, 0) := by decide +kernel
theorem c19_37 : zcod 19 37 = some (.if_icmp .eq 14, 3, 51, 0, 0, 0) := by decide +kernel
theorem c19_40 : zcod 19 40 = some (.aload_n 0, 1, 0, 0, 0, 0) := by decide +kernel
theorem c19_41 : zcod 19 41 = some (.iconst 1, 1, 0, 0, 0, 0) := by decide +kernel
theorem c19_42 : zcod 19 42 = some (.aload_n 0, 1, 0, 0, 0, 0) := by decide +kernel
theorem c19_43 : zcod 19 43 = some (.getfield 41, 3, 6, 5, 87, 0) := by decide +kernel
theorem c19_46 : zcod 19 46 = some (.invokevirtual 96, 3, 20, 2, 270, 0) := by decide +kernel
theorem c19_49 : zcod 19 49 = some (.iconst 0, 1, 0, 0, 0, 0) := by decide +kernel
theorem c19_50 : zcod 19 50 = some (.ireturn, 1, 0, 0, 0, 0) := by decide +kernel
theorem c19_51 : zcod 19 51 = some (.aload_n 0, 1, 0, 0, 0, 0) := by decide +kernel
theorem c19_52 : zcod 19 52 = some (.invokevirtual 59, 3, 16, 0, 250, 0) := by decide +kernel
theorem c19_55 : zcod 19 55 = some (.aload_n 0, 1, 0, 0, 0, 0) := by decide +kernel
theorem c19_56 : zcod 19 56 = some (.getfield 15, 3, 6, 1, 81, 0) := by decide +kernel
theorem c19_59 : zcod 19 59 = some (.iload_n 3, 1, 0, 0, 0, 0) := by decide +kernel
theorem c19_60 : zcod 19 60 = some (.aload_n 0, 1, 0, 0, 0, 0) := by decide +kernel
theorem c19_61 : zcod 19 61 = some (.aload_n 1, 1, 0, 0, 0, 0) := by decide +kernel
theorem c19_62 : zcod 19 62 = some (.iload_n 3, 1, 0, 0, 0, 0) := by decide +kernel
theorem c19_63 : zcod 19 63 = some (.iaload, 1, 0, 0, 0, 0) := by decide +kernel
theorem c19_64 : zcod 19 64 = some (.aload_n 2, 1, 0, 0, 0, 0) := by decide +kernel
theorem c19_65 : zcod 19 65 = some (.iload_n 3, 1, 0, 0, 0, 0) := by decide +kernel
theorem c19_66 : zcod 19 66 = some (.iaload, 1, 0, 0, 0, 0) := by decide +kernel
theorem c19_67 : zcod 19 67 = some (.invokevirtual 99, 3, 21, 2, 274, 0) := by decide +kernel
theorem c19_70 : zcod 19 70 = some (.iastore, 1, 0, 0, 0, 0) := by decide +kernel
theorem c19_71 : zcod 19 71 = some (.aload_n 0, 1, 0, 0, 0, 0) := by decide +kernel
theorem c19_72 : zcod 19 72 = some (.getfield 44, 3, 6, 4, 86, 0) := by decide +kernel
theorem c19_75 : zcod 19 75 = some (.ifCond .eq 5, 3, 80, 0, 0, 0) := by decide +kernel
theorem c19_78 : zcod 19 78 = some (.iconst 0, 1, 0, 0, 0, 0) := by decide +kernel
theorem c19_79 : zcod 19 79 = some (.ireturn, 1, 0, 0, 0, 0) := by decide +kernel
theorem c19_80 : zcod 19 80 = some (.iinc 3 1, 3, 0, 0, 0, 0) := by decide +kernel
theorem c19_83 : zcod 19 83 = some (.goto (-81), 3, 2, 0, 0, 0) := by decide +kernel
theorem c19_86 : zcod 19 86 = some (.iconst 1, 1, 0, 0, 0, 0) := by decide +kernel
theorem c19_87 : zcod 19 87 = some (.ireturn, 1, 0, 0, 0, 0) := by decide +kernel
set_option maxRecDepth 100000 in
theorem b19_0 (l0 : Option Nat) (l1 : Option Nat) (l2 : Option Nat) (h : zH) : zev 19 0 [some (vR l0), some (vR l1), some (vR l2), none] [] h = zev 19 2 [some (vR l0), some (vR l1), some (vR l2), some (vI 0)] [] h := by
  refine (zv_k (v := 0) c19_0 (by decide)).trans ?_
  refine (zv_it c19_1 rfl).trans ?_
  rfl
theorem e19 (l0 : Option Nat) (l1 : Option Nat) (l2 : Option Nat) (h : zH) : zcall 19 [vR l0, vR l1, vR l2] h = zev 19 2 [some (vR l0), some (vR l1), some (vR l2), some (vI 0)] [] h := by
  refine Eq.trans ?_ (b19_0 l0 l1 l2 h)
  unfold zcall zent
  rw [zL_19]
  rfl
set_option maxRecDepth 100000 in
theorem b19_2 (l0 : Option Nat) (l1 : Option Nat) (l2 : Option Nat) (l3 : Int32) (h : zH) : zev 19 2 [some (vR l0), some (vR l1), some (vR l2), some (vI l3)] [] h = (zal h l1 fun x1 => (if l3 < x1 then (zal h l2 fun x2 => (if l3 < x2 then (zgR h l0 6 1 fun x3 => (zal h x3 fun x4 => (if l3 < x4 then (if 0 < l3 then (zgI h l0 6 5 fun x5 => (zvr h l0 6 (zcI 17 [vR l0, vI x5] h fun x7 h6 => (if x7 = 32 then zev 19 51 [some (vR l0), some (vR l1), some (vR l2), some (vI l3)] [] h6 else (zgI h6 l0 6 5 fun x8 => (zvr h6 l0 6 (zcV 20 [vR l0, vI 1, vI x8] h6 fun h9 => zbo 0 (some (some (vI 0), h9))))))))) else zev 19 51 [some (vR l0), some (vR l1), some (vR l2), some (vI l3)] [] h) else zbo 1 (some (some (vI 1), h))))) else zbo 1 (some (some (vI 1), h)))) else zbo 1 (some (some (vI 1), h)))) := by
  refine (zv_in c19_2 rfl).trans ?_
  refine (zv_an c19_3 rfl).trans ?_
  refine (zv_al2 c19_4).trans (zal_c fun x1 => ?_)
  refine (zv_icge c19_5).trans (zif_c ?_ ?_)
  · refine (zv_in c19_8 rfl).trans ?_
    refine (zv_an c19_9 rfl).trans ?_
    refine (zv_al2 c19_10).trans (zal_c fun x2 => ?_)
    refine (zv_icge c19_11).trans (zif_c ?_ ?_)
    · refine (zv_in c19_14 rfl).trans ?_
      refine (zv_an c19_15 rfl).trans ?_
      refine (zv_gR c19_16 zf6_1).trans (zgR_c fun x3 => ?_)
      refine (zv_al2 c19_19).trans (zal_c fun x4 => ?_)
      refine (zv_icge c19_20).trans (zif_c ?_ ?_)
      · refine (zv_in c19_23 rfl).trans ?_
        refine (zv_ifle c19_24).trans (zif_c ?_ ?_)
        · refine (zv_an c19_27 rfl).trans ?_
          refine (zv_an c19_28 rfl).trans ?_
          refine (zv_gI c19_29 zg6_5).trans (zgI_c fun x5 => ?_)
          refine (zv_viI c19_32 zcn_17 rfl zL_17 (Or.inl zrt_17) rfl rfl).trans (zvr_c (zcI_c fun x7 h6 => ?_))
          refine (zv_bi (v := 32) c19_35 (by decide)).trans ?_
          refine (zv_iceq c19_37).trans (zif_c ?_ ?_)
          · rfl
          · refine (zv_an c19_40 rfl).trans ?_
            refine (zv_k (v := 1) c19_41 (by decide)).trans ?_
            refine (zv_an c19_42 rfl).trans ?_
            refine (zv_gI c19_43 zg6_5).trans (zgI_c fun x8 => ?_)
            refine (zv_viV c19_46 zcn_20 rfl zL_20 zrt_20 rfl rfl).trans (zvr_c (zcV_c fun h9 => ?_))
            refine (zv_k (v := 0) c19_49 (by decide)).trans ?_
            exact zv_iz c19_50 zrt_19
        · rfl
      · refine (zv_k (v := 1) c19_86 (by decide)).trans ?_
        exact zv_iz c19_87 zrt_19
    · refine (zv_k (v := 1) c19_86 (by decide)).trans ?_
      exact zv_iz c19_87 zrt_19
  · refine (zv_k (v := 1) c19_86 (by decide)).trans ?_
    exact zv_iz c19_87 zrt_19
set_option maxRecDepth 100000 in
theorem b19_51 (l0 : Option Nat) (l1 : Option Nat) (l2 : Option Nat) (l3 : Int32) (h : zH) : zev 19 51 [some (vR l0), some (vR l1), some (vR l2), some (vI l3)] [] h = (zvr h l0 6 (zcV 16 [vR l0] h fun h1 => (zgR h1 l0 6 1 fun x2 => (zaI h1 l1 l3 fun x3 => (zaI h1 l2 l3 fun x4 => (zvr h1 l0 6 (zcI 21 [vR l0, vI x3, vI x4] h1 fun x6 h5 => (ztI h5 x2 l3 x6 fun h7 => (zgI h7 l0 6 4 fun x8 => (if x8 = 0 then zev 19 2 [some (vR l0), some (vR l1), some (vR l2), some (vI (l3 + 1))] [] h7 else zbo 0 (some (some (vI 0), h7)))))))))))) := by
  refine (zv_an c19_51 rfl).trans ?_
  refine (zv_viV c19_52 zcn_16 rfl zL_16 zrt_16 rfl rfl).trans (zvr_c (zcV_c fun h1 => ?_))
  refine (zv_an c19_55 rfl).trans ?_
  refine (zv_gR c19_56 zf6_1).trans (zgR_c fun x2 => ?_)
  refine (zv_in c19_59 rfl).trans ?_
  refine (zv_an c19_60 rfl).trans ?_
  refine (zv_an c19_61 rfl).trans ?_
  refine (zv_in c19_62 rfl).trans ?_
  refine (zv_aI c19_63).trans (zaI_c fun x3 => ?_)
  refine (zv_an c19_64 rfl).trans ?_
  refine (zv_in c19_65 rfl).trans ?_
  refine (zv_aI c19_66).trans (zaI_c fun x4 => ?_)
  refine (zv_viI c19_67 zcn_21 rfl zL_21 (Or.inl zrt_21) rfl rfl).trans (zvr_c (zcI_c fun x6 h5 => ?_))
  refine (zv_tI c19_70).trans (ztI_c fun h7 => ?_)
  refine (zv_an c19_71 rfl).trans ?_
  refine (zv_gI c19_72 zg6_4).trans (zgI_c fun x8 => ?_)
  refine (zv_ifeq c19_75).trans (zif_c ?_ ?_)
  · refine (zv_inc (y := 1) c19_80 rfl (by decide) rfl).trans ?_
    refine (zv_goto c19_83).trans ?_
    rfl
  · refine (zv_k (v := 0) c19_78 (by decide)).trans ?_
    exact zv_iz c19_79 zrt_19
theorem c20_0 : zcod 20 0 = some (.aload_n 0, 1, 0, 0, 0, 0) := by decide +kernel
theorem c20_1 : zcod 20 1 = some (.iload_n 1, 1, 0, 0, 0, 0) := by decide +kernel
theorem c20_2 : zcod 20 2 = some (.putfield 44, 3, 6, 4, 86, 0) := by decide +kernel
theorem c20_5 : zcod 20 5 = some (.aload_n 0, 1, 0, 0, 0, 0) := by decide +kernel
theorem c20_6 : zcod 20 6 = some (.iload_n 2, 1, 0, 0, 0, 0) := by decide +kernel
theorem c20_7 : zcod 20 7 = some (.putfield 19, 3, 6, 3, 84, 0) := by decide +kernel
theorem c20_10 : zcod 20 10 = some (.return_, 1, 0, 0, 0, 0) := by decide +kernel
set_option maxRecDepth 100000 in
theorem b20_0 (l0 : Option Nat) (l1 : Int32) (l2 : Int32) (h : zH) : zev 20 0 [some (vR l0), some (vI l1), some (vI l2)] [] h = (zpI h l0 6 4 l1 fun h1 => (zpI h1 l0 6 3 l2 fun h2 => some (none, h2))) := by
  refine (zv_an c20_0 rfl).trans ?_
  refine (zv_in c20_1 rfl).trans ?_
  refine (zv_pI c20_2 zf6_4).trans (zpI_c fun h1 => ?_)
  refine (zv_an c20_5 rfl).trans ?_
  refine (zv_in c20_6 rfl).trans ?_
  refine (zv_pI c20_7 zf6_3).trans (zpI_c fun h2 => ?_)
  exact zv_vr c20_10 zrt_20
theorem e20 (l0 : Option Nat) (l1 : Int32) (l2 : Int32) (h : zH) : zcall 20 [vR l0, vI l1, vI l2] h = (zpI h l0 6 4 l1 fun h1 => (zpI h1 l0 6 3 l2 fun h2 => some (none, h2))) := by
  refine Eq.trans ?_ (b20_0 l0 l1 l2 h)
  unfold zcall zent
  rw [zL_20]
  rfl
theorem c21_0 : zcod 21 0 = some (.aload_n 0, 1, 0, 0, 0, 0) := by decide +kernel
theorem c21_1 : zcod 21 1 = some (.getfield 41, 3, 6, 5, 87, 0) := by decide +kernel
theorem c21_4 : zcod 21 4 = some (.istore_n 3, 1, 0, 0, 0, 0) := by decide +kernel
theorem c21_5 : zcod 21 5 = some (.iconst 0, 1, 0, 0, 0, 0) := by decide +kernel
theorem c21_6 : zcod 21 6 = some (.istore 4, 2, 0, 0, 0, 0) := by decide +kernel
theorem c21_8 : zcod 21 8 = some (.aload_n 0, 1, 0, 0, 0, 0) := by decide +kernel
theorem c21_9 : zcod 21 9 = some (.getfield 41, 3, 6, 5, 87, 0) := by decide +kernel
theorem c21_12 : zcod 21 12 = some (.aload_n 0, 1, 0, 0, 0, 0) := by decide +kernel
theorem c21_13 : zcod 21 13 = some (.getfield 23, 3, 6, 2, 82, 0) := by decide +kernel
theorem c21_16 : zcod 21 16 = some (.if_icmp .ge 49, 3, 65, 0, 0, 0) := by decide +kernel
theorem c21_19 : zcod 21 19 = some (.aload_n 0, 1, 0, 0, 0, 0) := by decide +kernel
theorem c21_20 : zcod 21 20 = some (.aload_n 0, 1, 0, 0, 0, 0) := by decide +kernel
theorem c21_21 : zcod 21 21 = some (.getfield 41, 3, 6, 5, 87, 0) := by decide +kernel
theorem c21_24 : zcod 21 24 = some (.invokevirtual 62, 3, 17, 1, 254, 0) := by decide +kernel
theorem c21_27 : zcod 21 27 = some (.invokestatic 103, 3, 22, 1, 278, 0) := by decide +kernel
theorem c21_30 : zcod 21 30 = some (.ifCond .eq 35, 3, 65, 0, 0, 0) := by decide +kernel
theorem c21_33 : zcod 21 33 = some (.bipush 10, 2, 0, 0, 0, 0) := by decide +kernel
theorem c21_35 : zcod 21 35 = some (.iload 4, 2, 0, 0, 0, 0) := by decide +kernel
theorem c21_37 : zcod 21 37 = some (.imul, 1, 0, 0, 0, 0) := by decide +kernel
theorem c21_38 : zcod 21 38 = some (.aload_n 0, 1, 0, 0, 0, 0) := by decide +kernel
theorem c21_39 : zcod 21 39 = some (.aload_n 0, 1, 0, 0, 0, 0) := by decide +kernel
theorem c21_40 : zcod 21 40 = some (.getfield 41, 3, 6, 5, 87, 0) := by decide +kernel
theorem c21_43 : zcod 21 43 = some (.invokevirtual 62, 3, 17, 1, 254, 0) := by decide +kernel
theorem c21_46 : zcod 21 46 = some (.iadd, 1, 0, 0, 0, 0) := by decide +kernel
theorem c21_47 : zcod 21 47 = some (.bipush 48, 2, 0, 0, 0, 0) := by decide +kernel
theorem c21_49 : zcod 21 49 = some (.isub, 1, 0, 0, 0, 0) := by decide +kernel
theorem c21_50 : zcod 21 50 = some (.istore 4, 2, 0, 0, 0, 0) := by decide +kernel
theorem c21_52 : zcod 21 52 = some (.aload_n 0, 1, 0, 0, 0, 0) := by decide +kernel
theorem c21_53 : zcod 21 53 = some (.dup, 1, 0, 0, 0, 0) := by decide +kernel
theorem c21_54 : zcod 21 54 = some (.getfield 41, 3, 6, 5, 87, 0) := by decide +kernel
theorem c21_57 : zcod 21 57 = some (.iconst 1, 1, 0, 0, 0, 0) := by decide +kernel
theorem c21_58 : zcod 21 58 = some (.iadd, 1, 0, 0, 0, 0) := by decide +kernel
theorem c21_59 : zcod 21 59 = some (.putfield 41, 3, 6, 5, 87, 0) := by decide +kernel
theorem c21_62 : zcod 21 62 = some (.goto (-54), 3, 8, 0, 0, 0) := by decide +kernel
theorem c21_65 : zcod 21 65 = some (.aload_n 0, 1, 0, 0, 0, 0) := by decide +kernel
theorem c21_66 : zcod 21 66 = some (.getfield 41, 3, 6, 5, 87, 0) := by decide +kernel
theorem c21_69 : zcod 21 69 = some (.iload_n 3, 1, 0, 0, 0, 0) := by decide +kernel
theorem c21_70 : zcod 21 70 = some (.if_icmp .ne 15, 3, 85, 0, 0, 0) := by decide +kernel
theorem c21_73 : zcod 21 73 = some (.aload_n 0, 1, 0, 0, 0, 0) := by decide +kernel
theorem c21_74 : zcod 21 74 = some (.iconst 1, 1, 0, 0, 0, 0) := by decide +kernel
theorem c21_75 : zcod 21 75 = some (.aload_n 0, 1, 0, 0, 0, 0) := by decide +kernel
theorem c21_76 : zcod 21 76 = some (.getfield 41, 3, 6, 5, 87, 0) := by decide +kernel
theorem c21_79 : zcod 21 79 = some (.invokevirtual 96, 3, 20, 2, 270, 0) := by decide +kernel
theorem c21_82 : zcod 21 82 = some (.goto 31, 3, 113, 0, 0, 0) := by decide +kernel
theorem c21_85 : zcod 21 85 = some (.aload_n 0, 1, 0, 0, 0, 0) := by decide +kernel
theorem c21_86 : zcod 21 86 = some (.getfield 41, 3, 6, 5, 87, 0) := by decide +kernel
theorem c21_89 : zcod 21 89 = some (.iload_n 3, 1, 0, 0, 0, 0) := by decide +kernel
theorem c21_90 : zcod 21 90 = some (.isub, 1, 0, 0, 0, 0) := by decide +kernel
theorem c21_91 : zcod 21 91 = some (.iconst 2, 1, 0, 0, 0, 0) := by decide +kernel
theorem c21_92 : zcod 21 92 = some (.if_icmp .gt 15, 3, 107, 0, 0, 0) := by decide +kernel
theorem c21_95 : zcod 21 95 = some (.iload 4, 2, 0, 0, 0, 0) := by decide +kernel
theorem c21_97 : zcod 21 97 = some (.iload_n 1, 1, 0, 0, 0, 0) := by decide +kernel
theorem c21_98 : zcod 21 98 = some (.if_icmp .lt 9, 3, 107, 0, 0, 0) := by decide +kernel
theorem c21_101 : zcod 21 101 = some (.iload 4, 2, 0, 0, 0, 0) := by decide +kernel
theorem c21_103 : zcod 21 103 = some (.iload_n 2, 1, 0, 0, 0, 0) := by decide +kernel
theorem c21_104 : zcod 21 104 = some (.if_icmp .le 9, 3, 113, 0, 0, 0) := by decide +kernel
theorem c21_107 : zcod 21 107 = some (.aload_n 0, 1, 0, 0, 0, 0) := by decide +kernel
theorem c21_108 : zcod 21 108 = some (.iconst 2, 1, 0, 0, 0, 0) := by decide +kernel
theorem c21_109 : zcod 21 109 = some (.iload_n 3, 1, 0, 0, 0, 0) := by decide +kernel
theorem c21_110 : zcod 21 110 = some (.invokevirtual 96, 3, 20, 2, 270, 0) := by decide +kernel
theorem c21_113 : zcod 21 113 = some (.iload 4, 2, 0, 0, 0, 0) := by decide +kernel
theorem c21_115 : zcod 21 115 = some (.ireturn, 1, 0, 0, 0, 0) := by decide +kernel
set_option maxRecDepth 100000 in
theorem b21_0 (l0 : Option Nat) (l1 : Int32) (l2 : Int32) (h : zH) : zev 21 0 [some (vR l0), some (vI l1), some (vI l2), none, none] [] h = (zgI h l0 6 5 fun x1 => zev 21 8 [some (vR l0), some (vI l1), some (vI l2), some (vI x1), some (vI 0)] [] h) := by
  refine (zv_an c21_0 rfl).trans ?_
  refine (zv_gI c21_1 zg6_5).trans (zgI_c fun x1 => ?_)
  refine (zv_it c21_4 rfl).trans ?_
  refine (zv_k (v := 0) c21_5 (by decide)).trans ?_
  refine (zv_is c21_6 rfl).trans ?_
  rfl
theorem e21 (l0 : Option Nat) (l1 : Int32) (l2 : Int32) (h : zH) : zcall 21 [vR l0, vI l1, vI l2] h = (zgI h l0 6 5 fun x1 => zev 21 8 [some (vR l0), some (vI l1), some (vI l2), some (vI x1), some (vI 0)] [] h) := by
  refine Eq.trans ?_ (b21_0 l0 l1 l2 h)
  unfold zcall zent
  rw [zL_21]
  rfl
set_option maxRecDepth 100000 in
theorem b21_8 (l0 : Option Nat) (l1 : Int32) (l2 : Int32) (l3 : Int32) (l4 : Int32) (h : zH) : zev 21 8 [some (vR l0), some (vI l1), some (vI l2), some (vI l3), some (vI l4)] [] h = (zgI h l0 6 5 fun x1 => (zgI h l0 6 2 fun x2 => (if x1 < x2 then (zgI h l0 6 5 fun x3 => (zvr h l0 6 (zcI 17 [vR l0, vI x3] h fun x5 h4 => (zcI 22 [vI x5] h4 fun x7 h6 => (if x7 = 0 then zev 21 65 [some (vR l0), some (vI l1), some (vI l2), some (vI l3), some (vI l4)] [] h6 else (zgI h6 l0 6 5 fun x8 => (zvr h6 l0 6 (zcI 17 [vR l0, vI x8] h6 fun x10 h9 => (zgI h9 l0 6 5 fun x11 => (zpI h9 l0 6 5 (x11 + 1) fun h12 => zev 21 8 [some (vR l0), some (vI l1), some (vI l2), some (vI l3), some (vI (((10 * l4) + x10) - 48))] [] h12)))))))))) else zev 21 65 [some (vR l0), some (vI l1), some (vI l2), some (vI l3), some (vI l4)] [] h))) := by
  refine (zv_an c21_8 rfl).trans ?_
  refine (zv_gI c21_9 zg6_5).trans (zgI_c fun x1 => ?_)
  refine (zv_an c21_12 rfl).trans ?_
  refine (zv_gI c21_13 zg6_2).trans (zgI_c fun x2 => ?_)
  refine (zv_icge c21_16).trans (zif_c ?_ ?_)
  · refine (zv_an c21_19 rfl).trans ?_
    refine (zv_an c21_20 rfl).trans ?_
    refine (zv_gI c21_21 zg6_5).trans (zgI_c fun x3 => ?_)
    refine (zv_viI c21_24 zcn_17 rfl zL_17 (Or.inl zrt_17) rfl rfl).trans (zvr_c (zcI_c fun x5 h4 => ?_))
    refine (zv_stI c21_27 (by decide) rfl zL_22 (Or.inr zrt_22) rfl rfl).trans (zcI_c fun x7 h6 => ?_)
    refine (zv_ifeq c21_30).trans (zif_c ?_ ?_)
    · rfl
    · refine (zv_bi (v := 10) c21_33 (by decide)).trans ?_
      refine (zv_il c21_35 rfl).trans ?_
      refine (zv_imul c21_37).trans ?_
      refine (zv_an c21_38 rfl).trans ?_
      refine (zv_an c21_39 rfl).trans ?_
      refine (zv_gI c21_40 zg6_5).trans (zgI_c fun x8 => ?_)
      refine (zv_viI c21_43 zcn_17 rfl zL_17 (Or.inl zrt_17) rfl rfl).trans (zvr_c (zcI_c fun x10 h9 => ?_))
      refine (zv_iadd c21_46).trans ?_
      refine (zv_bi (v := 48) c21_47 (by decide)).trans ?_
      refine (zv_isub c21_49).trans ?_
      refine (zv_is c21_50 rfl).trans ?_
      refine (zv_an c21_52 rfl).trans ?_
      refine (zv_dup c21_53 rfl).trans ?_
      refine (zv_gI c21_54 zg6_5).trans (zgI_c fun x11 => ?_)
      refine (zv_k (v := 1) c21_57 (by decide)).trans ?_
      refine (zv_iadd c21_58).trans ?_
      refine (zv_pI c21_59 zf6_5).trans (zpI_c fun h12 => ?_)
      refine (zv_goto c21_62).trans ?_
      rfl
  · rfl
set_option maxRecDepth 100000 in
theorem b21_65 (l0 : Option Nat) (l1 : Int32) (l2 : Int32) (l3 : Int32) (l4 : Int32) (h : zH) : zev 21 65 [some (vR l0), some (vI l1), some (vI l2), some (vI l3), some (vI l4)] [] h = (zgI h l0 6 5 fun x1 => (if x1 = l3 then (zgI h l0 6 5 fun x2 => (zvr h l0 6 (zcV 20 [vR l0, vI 1, vI x2] h fun h3 => some (some (vI l4), h3)))) else (zgI h l0 6 5 fun x4 => (if 2 < (x4 - l3) then (zvr h l0 6 (zcV 20 [vR l0, vI 2, vI l3] h fun h5 => some (some (vI l4), h5))) else (if l4 < l1 then (zvr h l0 6 (zcV 20 [vR l0, vI 2, vI l3] h fun h6 => some (some (vI l4), h6))) else (if l2 < l4 then (zvr h l0 6 (zcV 20 [vR l0, vI 2, vI l3] h fun h7 => some (some (vI l4), h7))) else some (some (vI l4), h))))))) := by
  refine (zv_an c21_65 rfl).trans ?_
  refine (zv_gI c21_66 zg6_5).trans (zgI_c fun x1 => ?_)
  refine (zv_in c21_69 rfl).trans ?_
  refine (zv_icne c21_70).trans (zif_c ?_ ?_)
  · refine (zv_an c21_73 rfl).trans ?_
    refine (zv_k (v := 1) c21_74 (by decide)).trans ?_
    refine (zv_an c21_75 rfl).trans ?_
    refine (zv_gI c21_76 zg6_5).trans (zgI_c fun x2 => ?_)
    refine (zv_viV c21_79 zcn_20 rfl zL_20 zrt_20 rfl rfl).trans (zvr_c (zcV_c fun h3 => ?_))
    refine (zv_goto c21_82).trans ?_
    refine (zv_il c21_113 rfl).trans ?_
    exact zv_ir c21_115 zrt_21
  · refine (zv_an c21_85 rfl).trans ?_
    refine (zv_gI c21_86 zg6_5).trans (zgI_c fun x4 => ?_)
    refine (zv_in c21_89 rfl).trans ?_
    refine (zv_isub c21_90).trans ?_
    refine (zv_k (v := 2) c21_91 (by decide)).trans ?_
    refine (zv_icgt c21_92).trans (zif_c ?_ ?_)
    · refine (zv_an c21_107 rfl).trans ?_
      refine (zv_k (v := 2) c21_108 (by decide)).trans ?_
      refine (zv_in c21_109 rfl).trans ?_
      refine (zv_viV c21_110 zcn_20 rfl zL_20 zrt_20 rfl rfl).trans (zvr_c (zcV_c fun h5 => ?_))
      refine (zv_il c21_113 rfl).trans ?_
      exact zv_ir c21_115 zrt_21
    · refine (zv_il c21_95 rfl).trans ?_
      refine (zv_in c21_97 rfl).trans ?_
      refine (zv_iclt c21_98).trans (zif_c ?_ ?_)
      · refine (zv_an c21_107 rfl).trans ?_
        refine (zv_k (v := 2) c21_108 (by decide)).trans ?_
        refine (zv_in c21_109 rfl).trans ?_
        refine (zv_viV c21_110 zcn_20 rfl zL_20 zrt_20 rfl rfl).trans (zvr_c (zcV_c fun h6 => ?_))
        refine (zv_il c21_113 rfl).trans ?_
        exact zv_ir c21_115 zrt_21
      · refine (zv_il c21_101 rfl).trans ?_
        refine (zv_in c21_103 rfl).trans ?_
        refine (zv_icle c21_104).trans (zif_c ?_ ?_)
        · refine (zv_an c21_107 rfl).trans ?_
          refine (zv_k (v := 2) c21_108 (by decide)).trans ?_
          refine (zv_in c21_109 rfl).trans ?_
          refine (zv_viV c21_110 zcn_20 rfl zL_20 zrt_20 rfl rfl).trans (zvr_c (zcV_c fun h7 => ?_))
          refine (zv_il c21_113 rfl).trans ?_
          exact zv_ir c21_115 zrt_21
        · refine (zv_il c21_113 rfl).trans ?_
          exact zv_ir c21_115 zrt_21
theorem c22_0 : zcod 22 0 = some (.iload_n 0, 1, 0, 0, 0, 0) := by decide +kernel
theorem c22_1 : zcod 22 1 = some (.bipush 48, 2, 0, 0, 0, 0) := by decide +kernel
theorem c22_3 : zcod 22 3 = some (.if_icmp .lt 13, 3, 16, 0, 0, 0) := by decide +kernel
theorem c22_6 : zcod 22 6 = some (.iload_n 0, 1, 0, 0, 0, 0) := by decide +kernel
theorem c22_7 : zcod 22 7 = some (.bipush 57, 2, 0, 0, 0, 0) := by decide +kernel
theorem c22_9 : zcod 22 9 = some (.if_icmp .gt 7, 3, 16, 0, 0, 0) := by decide +kernel
theorem c22_12 : zcod 22 12 = some (.iconst 1, 1, 0, 0, 0, 0) := by decide +kernel
theorem c22_13 : zcod 22 13 = some (.goto 4, 3, 17, 0, 0, 0) := by decide +kernel
theorem c22_16 : zcod 22 16 = some (.iconst 0, 1, 0, 0, 0, 0) := by decide +kernel
theorem c22_17 : zcod 22 17 = some (.ireturn, 1, 0, 0, 0, 0) := by decide +kernel
set_option maxRecDepth 100000 in
theorem b22_0 (l0 : Int32) (h : zH) : zev 22 0 [some (vI l0)] [] h = (if l0 < 48 then zbo 0 (some (some (vI 0), h)) else (if 57 < l0 then zbo 0 (some (some (vI 0), h)) else zbo 1 (some (some (vI 1), h)))) := by
  refine (zv_in c22_0 rfl).trans ?_
  refine (zv_bi (v := 48) c22_1 (by decide)).trans ?_
  refine (zv_iclt c22_3).trans (zif_c ?_ ?_)
  · refine (zv_k (v := 0) c22_16 (by decide)).trans ?_
    exact zv_iz c22_17 zrt_22
  · refine (zv_in c22_6 rfl).trans ?_
    refine (zv_bi (v := 57) c22_7 (by decide)).trans ?_
    refine (zv_icgt c22_9).trans (zif_c ?_ ?_)
    · refine (zv_k (v := 0) c22_16 (by decide)).trans ?_
      exact zv_iz c22_17 zrt_22
    · refine (zv_k (v := 1) c22_12 (by decide)).trans ?_
      refine (zv_goto c22_13).trans ?_
      exact zv_iz c22_17 zrt_22
theorem e22 (l0 : Int32) (h : zH) : zcall 22 [vI l0] h = (if l0 < 48 then zbo 0 (some (some (vI 0), h)) else (if 57 < l0 then zbo 0 (some (some (vI 0), h)) else zbo 1 (some (some (vI 1), h)))) := by
  refine Eq.trans ?_ (b22_0 l0 h)
  unfold zcall zent
  rw [zL_22]
  rfl
theorem c23_0 : zcod 23 0 = some (.aload_n 0, 1, 0, 0, 0, 0) := by decide +kernel
theorem c23_1 : zcod 23 1 = some (.getfield 15, 3, 6, 1, 81, 0) := by decide +kernel
theorem c23_4 : zcod 23 4 = some (.iconst 0, 1, 0, 0, 0, 0) := by decide +kernel
theorem c23_5 : zcod 23 5 = some (.iaload, 1, 0, 0, 0, 0) := by decide +kernel
theorem c23_6 : zcod 23 6 = some (.istore 5, 2, 0, 0, 0, 0) := by decide +kernel
theorem c23_8 : zcod 23 8 = some (.aload_n 0, 1, 0, 0, 0, 0) := by decide +kernel
theorem c23_9 : zcod 23 9 = some (.getfield 15, 3, 6, 1, 81, 0) := by decide +kernel
theorem c23_12 : zcod 23 12 = some (.iconst 1, 1, 0, 0, 0, 0) := by decide +kernel
theorem c23_13 : zcod 23 13 = some (.iaload, 1, 0, 0, 0, 0) := by decide +kernel
theorem c23_14 : zcod 23 14 = some (.istore 6, 2, 0, 0, 0, 0) := by decide +kernel
theorem c23_16 : zcod 23 16 = some (.aload_n 0, 1, 0, 0, 0, 0) := by decide +kernel
theorem c23_17 : zcod 23 17 = some (.getfield 15, 3, 6, 1, 81, 0) := by decide +kernel
theorem c23_20 : zcod 23 20 = some (.iconst 2, 1, 0, 0, 0, 0) := by decide +kernel
theorem c23_21 : zcod 23 21 = some (.iaload, 1, 0, 0, 0, 0) := by decide +kernel
theorem c23_22 : zcod 23 22 = some (.istore 7, 2, 0, 0, 0, 0) := by decide +kernel
theorem c23_24 : zcod 23 24 = some (.aload_n 0, 1, 0, 0, 0, 0) := by decide +kernel
theorem c23_25 : zcod 23 25 = some (.getfield 15, 3, 6, 1, 81, 0) := by decide +kernel
theorem c23_28 : zcod 23 28 = some (.iconst 3, 1, 0, 0, 0, 0) := by decide +kernel
theorem c23_29 : zcod 23 29 = some (.iaload, 1, 0, 0, 0, 0) := by decide +kernel
theorem c23_30 : zcod 23 30 = some (.istore 8, 2, 0, 0, 0, 0) := by decide +kernel
theorem c23_32 : zcod 23 32 = some (.aload_n 1, 1, 0, 0, 0, 0) := by decide +kernel
theorem c23_33 : zcod 23 33 = some (.iload 5, 2, 0, 0, 0, 0) := by decide +kernel
theorem c23_35 : zcod 23 35 = some (.iload 6, 2, 0, 0, 0, 0) := by decide +kernel
theorem c23_37 : zcod 23 37 = some (.iload_n 3, 1, 0, 0, 0, 0) := by decide +kernel
theorem c23_38 : zcod 23 38 = some (.iload 7, 2, 0, 0, 0, 0) := by decide +kernel
theorem c23_40 : zcod 23 40 = some (.imul, 1, 0, 0, 0, 0) := by decide +kernel
theorem c23_41 : zcod 23 41 = some (.iload 8, 2, 0, 0, 0, 0) := by decide +kernel
theorem c23_43 : zcod 23 43 = some (.iconst 0, 1, 0, 0, 0, 0) := by decide +kernel
theorem c23_44 : zcod 23 44 = some (.invokevirtual 107, 3, 24, 5, 285, 0) := by decide +kernel
theorem c23_47 : zcod 23 47 = some (.ifCond .ne 12, 3, 59, 0, 0, 0) := by decide +kernel
theorem c23_50 : zcod 23 50 = some (.aload_n 0, 1, 0, 0, 0, 0) := by decide +kernel
theorem c23_51 : zcod 23 51 = some (.iconst 3, 1, 0, 0, 0, 0) := by decide +kernel
theorem c23_52 : zcod 23 52 = some (.iload_n 2, 1, 0, 0, 0, 0) := by decide +kernel
theorem c23_53 : zcod 23 53 = some (.invokevirtual 96, 3, 20, 2, 270, 0) := by decide +kernel
theorem c23_56 : zcod 23 56 = some (.goto 61, 3, 117, 0, 0, 0) := by decide +kernel
theorem c23_59 : zcod 23 59 = some (.aload_n 1, 1, 0, 0, 0, 0) := by decide +kernel
theorem c23_60 : zcod 23 60 = some (.getfield 26, 3, 5, 2, 148, 0) := by decide +kernel
theorem c23_63 : zcod 23 63 = some (.invokevirtual 32, 3, 14, 0, 242, 0) := by decide +kernel
theorem c23_66 : zcod 23 66 = some (.iload_n 3, 1, 0, 0, 0, 0) := by decide +kernel
theorem c23_67 : zcod 23 67 = some (.iadd, 1, 0, 0, 0, 0) := by decide +kernel
theorem c23_68 : zcod 23 68 = some (.bipush 40, 2, 0, 0, 0, 0) := by decide +kernel
theorem c23_70 : zcod 23 70 = some (.if_icmp .le 12, 3, 82, 0, 0, 0) := by decide +kernel
theorem c23_73 : zcod 23 73 = some (.aload_n 0, 1, 0, 0, 0, 0) := by decide +kernel
theorem c23_74 : zcod 23 74 = some (.iconst 4, 1, 0, 0, 0, 0) := by decide +kernel
theorem c23_75 : zcod 23 75 = some (.iload_n 2, 1, 0, 0, 0, 0) := by decide +kernel
theorem c23_76 : zcod 23 76 = some (.invokevirtual 96, 3, 20, 2, 270, 0) := by decide +kernel
theorem c23_79 : zcod 23 79 = some (.goto 38, 3, 117, 0, 0, 0) := by decide +kernel
theorem c23_82 : zcod 23 82 = some (.iconst 0, 1, 0, 0, 0, 0) := by decide +kernel
theorem c23_83 : zcod 23 83 = some (.istore 9, 2, 0, 0, 0, 0) := by decide +kernel
theorem c23_85 : zcod 23 85 = some (.iload 9, 2, 0, 0, 0, 0) := by decide +kernel
theorem c23_87 : zcod 23 87 = some (.iload_n 3, 1, 0, 0, 0, 0) := by decide +kernel
theorem c23_88 : zcod 23 88 = some (.if_icmp .ge 29, 3, 117, 0, 0, 0) := by decide +kernel
theorem c23_91 : zcod 23 91 = some (.aload_n 1, 1, 0, 0, 0, 0) := by decide +kernel
theorem c23_92 : zcod 23 92 = some (.iload 5, 2, 0, 0, 0, 0) := by decide +kernel
theorem c23_94 : zcod 23 94 = some (.iload 9, 2, 0, 0, 0, 0) := by decide +kernel
theorem c23_96 : zcod 23 96 = some (.iload 7, 2, 0, 0, 0, 0) := by decide +kernel
theorem c23_98 : zcod 23 98 = some (.imul, 1, 0, 0, 0, 0) := by decide +kernel
theorem c23_99 : zcod 23 99 = some (.iadd, 1, 0, 0, 0, 0) := by decide +kernel
theorem c23_100 : zcod 23 100 = some (.iload 6, 2, 0, 0, 0, 0) := by decide +kernel
theorem c23_102 : zcod 23 102 = some (.iload 7, 2, 0, 0, 0, 0) := by decide +kernel
theorem c23_104 : zcod 23 104 = some (.iload 8, 2, 0, 0, 0, 0) := by decide +kernel
theorem c23_106 : zcod 23 106 = some (.iload 4, 2, 0, 0, 0, 0) := by decide +kernel
theorem c23_108 : zcod 23 108 = some (.invokevirtual 111, 3, 27, 5, 296, 0) := by decide +kernel
theorem c23_111 : zcod 23 111 = some (.iinc 9 1, 3, 0, 0, 0, 0) := by decide +kernel
theorem c23_114 : zcod 23 114 = some (.goto (-29), 3, 85, 0, 0, 0) := by decide +kernel
theorem c23_117 : zcod 23 117 = some (.return_, 1, 0, 0, 0, 0) := by decide +kernel
set_option maxRecDepth 100000 in
theorem b23_0 (l0 : Option Nat) (l1 : Option Nat) (l2 : Int32) (l3 : Int32) (l4 : Int32) (h : zH) : zev 23 0 [some (vR l0), some (vR l1), some (vI l2), some (vI l3), some (vI l4), none, none, none, none, none] [] h = (zgR h l0 6 1 fun x1 => (zaI h x1 0 fun x2 => (zgR h l0 6 1 fun x3 => (zaI h x3 1 fun x4 => (zgR h l0 6 1 fun x5 => (zaI h x5 2 fun x6 => (zgR h l0 6 1 fun x7 => (zaI h x7 3 fun x8 => (zvr h l1 5 (zcI 24 [vR l1, vI x2, vI x4, vI (l3 * x6), vI x8, vI 0] h fun x10 h9 => (if x10 = 0 then (zvr h9 l0 6 (zcV 20 [vR l0, vI 3, vI l2] h9 fun h11 => some (none, h11))) else (zgR h9 l1 5 2 fun x12 => (zvr h9 x12 0 (zcI 14 [vR x12] h9 fun x14 h13 => (if 40 < (x14 + l3) then (zvr h13 l0 6 (zcV 20 [vR l0, vI 4, vI l2] h13 fun h15 => some (none, h15))) else zev 23 85 [some (vR l0), some (vR l1), some (vI l2), some (vI l3), some (vI l4), some (vI x2), some (vI x4), some (vI x6), some (vI x8), some (vI 0)] [] h13))))))))))))))) := by
  refine (zv_an c23_0 rfl).trans ?_
  refine (zv_gR c23_1 zf6_1).trans (zgR_c fun x1 => ?_)
  refine (zv_k (v := 0) c23_4 (by decide)).trans ?_
  refine (zv_aI c23_5).trans (zaI_c fun x2 => ?_)
  refine (zv_is c23_6 rfl).trans ?_
  refine (zv_an c23_8 rfl).trans ?_
  refine (zv_gR c23_9 zf6_1).trans (zgR_c fun x3 => ?_)
  refine (zv_k (v := 1) c23_12 (by decide)).trans ?_
  refine (zv_aI c23_13).trans (zaI_c fun x4 => ?_)
  refine (zv_is c23_14 rfl).trans ?_
  refine (zv_an c23_16 rfl).trans ?_
  refine (zv_gR c23_17 zf6_1).trans (zgR_c fun x5 => ?_)
  refine (zv_k (v := 2) c23_20 (by decide)).trans ?_
  refine (zv_aI c23_21).trans (zaI_c fun x6 => ?_)
  refine (zv_is c23_22 rfl).trans ?_
  refine (zv_an c23_24 rfl).trans ?_
  refine (zv_gR c23_25 zf6_1).trans (zgR_c fun x7 => ?_)
  refine (zv_k (v := 3) c23_28 (by decide)).trans ?_
  refine (zv_aI c23_29).trans (zaI_c fun x8 => ?_)
  refine (zv_is c23_30 rfl).trans ?_
  refine (zv_an c23_32 rfl).trans ?_
  refine (zv_il c23_33 rfl).trans ?_
  refine (zv_il c23_35 rfl).trans ?_
  refine (zv_in c23_37 rfl).trans ?_
  refine (zv_il c23_38 rfl).trans ?_
  refine (zv_imul c23_40).trans ?_
  refine (zv_il c23_41 rfl).trans ?_
  refine (zv_k (v := 0) c23_43 (by decide)).trans ?_
  refine (zv_viI c23_44 zcn_24 rfl zL_24 (Or.inr zrt_24) rfl rfl).trans (zvr_c (zcI_c fun x10 h9 => ?_))
  refine (zv_ifne c23_47).trans (zif_c ?_ ?_)
  · refine (zv_an c23_50 rfl).trans ?_
    refine (zv_k (v := 3) c23_51 (by decide)).trans ?_
    refine (zv_in c23_52 rfl).trans ?_
    refine (zv_viV c23_53 zcn_20 rfl zL_20 zrt_20 rfl rfl).trans (zvr_c (zcV_c fun h11 => ?_))
    refine (zv_goto c23_56).trans ?_
    exact zv_vr c23_117 zrt_23
  · refine (zv_an c23_59 rfl).trans ?_
    refine (zv_gR c23_60 zf5_2).trans (zgR_c fun x12 => ?_)
    refine (zv_viI c23_63 zcn_14 rfl zL_14 (Or.inl zrt_14) rfl rfl).trans (zvr_c (zcI_c fun x14 h13 => ?_))
    refine (zv_in c23_66 rfl).trans ?_
    refine (zv_iadd c23_67).trans ?_
    refine (zv_bi (v := 40) c23_68 (by decide)).trans ?_
    refine (zv_icle c23_70).trans (zif_c ?_ ?_)
    · refine (zv_an c23_73 rfl).trans ?_
      refine (zv_k (v := 4) c23_74 (by decide)).trans ?_
      refine (zv_in c23_75 rfl).trans ?_
      refine (zv_viV c23_76 zcn_20 rfl zL_20 zrt_20 rfl rfl).trans (zvr_c (zcV_c fun h15 => ?_))
      refine (zv_goto c23_79).trans ?_
      exact zv_vr c23_117 zrt_23
    · refine (zv_k (v := 0) c23_82 (by decide)).trans ?_
      refine (zv_is c23_83 rfl).trans ?_
      rfl
theorem e23 (l0 : Option Nat) (l1 : Option Nat) (l2 : Int32) (l3 : Int32) (l4 : Int32) (h : zH) : zcall 23 [vR l0, vR l1, vI l2, vI l3, vI l4] h = (zgR h l0 6 1 fun x1 => (zaI h x1 0 fun x2 => (zgR h l0 6 1 fun x3 => (zaI h x3 1 fun x4 => (zgR h l0 6 1 fun x5 => (zaI h x5 2 fun x6 => (zgR h l0 6 1 fun x7 => (zaI h x7 3 fun x8 => (zvr h l1 5 (zcI 24 [vR l1, vI x2, vI x4, vI (l3 * x6), vI x8, vI 0] h fun x10 h9 => (if x10 = 0 then (zvr h9 l0 6 (zcV 20 [vR l0, vI 3, vI l2] h9 fun h11 => some (none, h11))) else (zgR h9 l1 5 2 fun x12 => (zvr h9 x12 0 (zcI 14 [vR x12] h9 fun x14 h13 => (if 40 < (x14 + l3) then (zvr h13 l0 6 (zcV 20 [vR l0, vI 4, vI l2] h13 fun h15 => some (none, h15))) else zev 23 85 [some (vR l0), some (vR l1), some (vI l2), some (vI l3), some (vI l4), some (vI x2), some (vI x4), some (vI x6), some (vI x8), some (vI 0)] [] h13))))))))))))))) := by
  refine Eq.trans ?_ (b23_0 l0 l1 l2 l3 l4 h)
  unfold zcall zent
  rw [zL_23]
  rfl
set_option maxRecDepth 100000 in
theorem b23_85 (l0 : Option Nat) (l1 : Option Nat) (l2 : Int32) (l3 : Int32) (l4 : Int32) (l5 : Int32) (l6 : Int32) (l7 : Int32) (l8 : Int32) (l9 : Int32) (h : zH) : zev 23 85 [some (vR l0), some (vR l1), some (vI l2), some (vI l3), some (vI l4), some (vI l5), some (vI l6), some (vI l7), some (vI l8), some (vI l9)] [] h = (if l9 < l3 then (zvr h l1 5 (zcV 27 [vR l1, vI (l5 + (l9 * l7)), vI l6, vI l7, vI l8, vI l4] h fun h1 => zev 23 85 [some (vR l0), some (vR l1), some (vI l2), some (vI l3), some (vI l4), some (vI l5), some (vI l6), some (vI l7), some (vI l8), some (vI (l9 + 1))] [] h1)) else some (none, h)) := by
  refine (zv_il c23_85 rfl).trans ?_
  refine (zv_in c23_87 rfl).trans ?_
  refine (zv_icge c23_88).trans (zif_c ?_ ?_)
  · refine (zv_an c23_91 rfl).trans ?_
    refine (zv_il c23_92 rfl).trans ?_
    refine (zv_il c23_94 rfl).trans ?_
    refine (zv_il c23_96 rfl).trans ?_
    refine (zv_imul c23_98).trans ?_
    refine (zv_iadd c23_99).trans ?_
    refine (zv_il c23_100 rfl).trans ?_
    refine (zv_il c23_102 rfl).trans ?_
    refine (zv_il c23_104 rfl).trans ?_
    refine (zv_il c23_106 rfl).trans ?_
    refine (zv_viV c23_108 zcn_27 rfl zL_27 zrt_27 rfl rfl).trans (zvr_c (zcV_c fun h1 => ?_))
    refine (zv_inc (y := 1) c23_111 rfl (by decide) rfl).trans ?_
    refine (zv_goto c23_114).trans ?_
    rfl
  · exact zv_vr c23_117 zrt_23
theorem c24_0 : zcod 24 0 = some (.iload_n 1, 1, 0, 0, 0, 0) := by decide +kernel
theorem c24_1 : zcod 24 1 = some (.ifCond .lt 24, 3, 25, 0, 0, 0) := by decide +kernel
theorem c24_4 : zcod 24 4 = some (.iload_n 2, 1, 0, 0, 0, 0) := by decide +kernel
theorem c24_5 : zcod 24 5 = some (.ifCond .lt 20, 3, 25, 0, 0, 0) := by decide +kernel
theorem c24_8 : zcod 24 8 = some (.iload_n 1, 1, 0, 0, 0, 0) := by decide +kernel
theorem c24_9 : zcod 24 9 = some (.iload_n 3, 1, 0, 0, 0, 0) := by decide +kernel
theorem c24_10 : zcod 24 10 = some (.iadd, 1, 0, 0, 0, 0) := by decide +kernel
theorem c24_11 : zcod 24 11 = some (.bipush 20, 2, 0, 0, 0, 0) := by decide +kernel
theorem c24_13 : zcod 24 13 = some (.if_icmp .gt 12, 3, 25, 0, 0, 0) := by decide +kernel
theorem c24_16 : zcod 24 16 = some (.iload_n 2, 1, 0, 0, 0, 0) := by decide +kernel
theorem c24_17 : zcod 24 17 = some (.iload 4, 2, 0, 0, 0, 0) := by decide +kernel
theorem c24_19 : zcod 24 19 = some (.iadd, 1, 0, 0, 0, 0) := by decide +kernel
theorem c24_20 : zcod 24 20 = some (.bipush 16, 2, 0, 0, 0, 0) := by decide +kernel
theorem c24_22 : zcod 24 22 = some (.if_icmp .le 5, 3, 27, 0, 0, 0) := by decide +kernel
theorem c24_25 : zcod 24 25 = some (.iconst 0, 1, 0, 0, 0, 0) := by decide +kernel
theorem c24_26 : zcod 24 26 = some (.ireturn, 1, 0, 0, 0, 0) := by decide +kernel
theorem c24_27 : zcod 24 27 = some (.iload_n 2, 1, 0, 0, 0, 0) := by decide +kernel
theorem c24_28 : zcod 24 28 = some (.istore 6, 2, 0, 0, 0, 0) := by decide +kernel
theorem c24_30 : zcod 24 30 = some (.iload 6, 2, 0, 0, 0, 0) := by decide +kernel
theorem c24_32 : zcod 24 32 = some (.iload_n 2, 1, 0, 0, 0, 0) := by decide +kernel
theorem c24_33 : zcod 24 33 = some (.iload 4, 2, 0, 0, 0, 0) := by decide +kernel
theorem c24_35 : zcod 24 35 = some (.iadd, 1, 0, 0, 0, 0) := by decide +kernel
theorem c24_36 : zcod 24 36 = some (.if_icmp .ge 56, 3, 92, 0, 0, 0) := by decide +kernel
theorem c24_39 : zcod 24 39 = some (.iload_n 1, 1, 0, 0, 0, 0) := by decide +kernel
theorem c24_40 : zcod 24 40 = some (.istore 7, 2, 0, 0, 0, 0) := by decide +kernel
theorem c24_42 : zcod 24 42 = some (.iload 7, 2, 0, 0, 0, 0) := by decide +kernel
theorem c24_44 : zcod 24 44 = some (.iload_n 1, 1, 0, 0, 0, 0) := by decide +kernel
theorem c24_45 : zcod 24 45 = some (.iload_n 3, 1, 0, 0, 0, 0) := by decide +kernel
theorem c24_46 : zcod 24 46 = some (.iadd, 1, 0, 0, 0, 0) := by decide +kernel
theorem c24_47 : zcod 24 47 = some (.if_icmp .ge 39, 3, 86, 0, 0, 0) := by decide +kernel
theorem c24_50 : zcod 24 50 = some (.aload_n 0, 1, 0, 0, 0, 0) := by decide +kernel
theorem c24_51 : zcod 24 51 = some (.iload 7, 2, 0, 0, 0, 0) := by decide +kernel
theorem c24_53 : zcod 24 53 = some (.iload 6, 2, 0, 0, 0, 0) := by decide +kernel
theorem c24_55 : zcod 24 55 = some (.invokevirtual 50, 3, 25, 2, 289, 0) := by decide +kernel
theorem c24_58 : zcod 24 58 = some (.istore 8, 2, 0, 0, 0, 0) := by decide +kernel
theorem c24_60 : zcod 24 60 = some (.iload 8, 2, 0, 0, 0, 0) := by decide +kernel
theorem c24_62 : zcod 24 62 = some (.iconst (-1), 1, 0, 0, 0, 0) := by decide +kernel
theorem c24_63 : zcod 24 63 = some (.if_icmp .eq 17, 3, 80, 0, 0, 0) := by decide +kernel
theorem c24_66 : zcod 24 66 = some (.iload 5, 2, 0, 0, 0, 0) := by decide +kernel
theorem c24_68 : zcod 24 68 = some (.ifCond .eq 10, 3, 78, 0, 0, 0) := by decide +kernel
theorem c24_71 : zcod 24 71 = some (.iload 8, 2, 0, 0, 0, 0) := by decide +kernel
theorem c24_73 : zcod 24 73 = some (.bipush 100, 2, 0, 0, 0, 0) := by decide +kernel
theorem c24_75 : zcod 24 75 = some (.if_icmp .ge 5, 3, 80, 0, 0, 0) := by decide +kernel
theorem c24_78 : zcod 24 78 = some (.iconst 0, 1, 0, 0, 0, 0) := by decide +kernel
theorem c24_79 : zcod 24 79 = some (.ireturn, 1, 0, 0, 0, 0) := by decide +kernel
theorem c24_80 : zcod 24 80 = some (.iinc 7 1, 3, 0, 0, 0, 0) := by decide +kernel
theorem c24_83 : zcod 24 83 = some (.goto (-41), 3, 42, 0, 0, 0) := by decide +kernel
theorem c24_86 : zcod 24 86 = some (.iinc 6 1, 3, 0, 0, 0, 0) := by decide +kernel
theorem c24_89 : zcod 24 89 = some (.goto (-59), 3, 30, 0, 0, 0) := by decide +kernel
theorem c24_92 : zcod 24 92 = some (.iconst 1, 1, 0, 0, 0, 0) := by decide +kernel
theorem c24_93 : zcod 24 93 = some (.ireturn, 1, 0, 0, 0, 0) := by decide +kernel
set_option maxRecDepth 100000 in
theorem b24_0 (l0 : Option Nat) (l1 : Int32) (l2 : Int32) (l3 : Int32) (l4 : Int32) (l5 : Int32) (h : zH) : zev 24 0 [some (vR l0), some (vI l1), some (vI l2), some (vI l3), some (vI l4), some (vI l5), none, none, none] [] h = (if l1 < 0 then zbo 0 (some (some (vI 0), h)) else (if l2 < 0 then zbo 0 (some (some (vI 0), h)) else (if 20 < (l1 + l3) then zbo 0 (some (some (vI 0), h)) else (if 16 < (l2 + l4) then zbo 0 (some (some (vI 0), h)) else zev 24 30 [some (vR l0), some (vI l1), some (vI l2), some (vI l3), some (vI l4), some (vI l5), some (vI l2), none, none] [] h)))) := by
  refine (zv_in c24_0 rfl).trans ?_
  refine (zv_iflt c24_1).trans (zif_c ?_ ?_)
  · refine (zv_k (v := 0) c24_25 (by decide)).trans ?_
    exact zv_iz c24_26 zrt_24
  · refine (zv_in c24_4 rfl).trans ?_
    refine (zv_iflt c24_5).trans (zif_c ?_ ?_)
    · refine (zv_k (v := 0) c24_25 (by decide)).trans ?_
      exact zv_iz c24_26 zrt_24
    · refine (zv_in c24_8 rfl).trans ?_
      refine (zv_in c24_9 rfl).trans ?_
      refine (zv_iadd c24_10).trans ?_
      refine (zv_bi (v := 20) c24_11 (by decide)).trans ?_
      refine (zv_icgt c24_13).trans (zif_c ?_ ?_)
      · refine (zv_k (v := 0) c24_25 (by decide)).trans ?_
        exact zv_iz c24_26 zrt_24
      · refine (zv_in c24_16 rfl).trans ?_
        refine (zv_il c24_17 rfl).trans ?_
        refine (zv_iadd c24_19).trans ?_
        refine (zv_bi (v := 16) c24_20 (by decide)).trans ?_
        refine (zv_icle c24_22).trans (zif_c ?_ ?_)
        · refine (zv_k (v := 0) c24_25 (by decide)).trans ?_
          exact zv_iz c24_26 zrt_24
        · refine (zv_in c24_27 rfl).trans ?_
          refine (zv_is c24_28 rfl).trans ?_
          rfl
theorem e24 (l0 : Option Nat) (l1 : Int32) (l2 : Int32) (l3 : Int32) (l4 : Int32) (l5 : Int32) (h : zH) : zcall 24 [vR l0, vI l1, vI l2, vI l3, vI l4, vI l5] h = (if l1 < 0 then zbo 0 (some (some (vI 0), h)) else (if l2 < 0 then zbo 0 (some (some (vI 0), h)) else (if 20 < (l1 + l3) then zbo 0 (some (some (vI 0), h)) else (if 16 < (l2 + l4) then zbo 0 (some (some (vI 0), h)) else zev 24 30 [some (vR l0), some (vI l1), some (vI l2), some (vI l3), some (vI l4), some (vI l5), some (vI l2), none, none] [] h)))) := by
  refine Eq.trans ?_ (b24_0 l0 l1 l2 l3 l4 l5 h)
  unfold zcall zent
  rw [zL_24]
  rfl
set_option maxRecDepth 100000 in
theorem b24_30 (l0 : Option Nat) (l1 : Int32) (l2 : Int32) (l3 : Int32) (l4 : Int32) (l5 : Int32) (l6 : Int32) (l7 : Option zV) (l8 : Option zV) (h : zH) : zev 24 30 [some (vR l0), some (vI l1), some (vI l2), some (vI l3), some (vI l4), some (vI l5), some (vI l6), l7, l8] [] h = (if l6 < (l2 + l4) then zev 24 42 [some (vR l0), some (vI l1), some (vI l2), some (vI l3), some (vI l4), some (vI l5), some (vI l6), some (vI l1), l8] [] h else zbo 1 (some (some (vI 1), h))) := by
  refine (zv_il c24_30 rfl).trans ?_
  refine (zv_in c24_32 rfl).trans ?_
  refine (zv_il c24_33 rfl).trans ?_
  refine (zv_iadd c24_35).trans ?_
  refine (zv_icge c24_36).trans (zif_c ?_ ?_)
  · refine (zv_in c24_39 rfl).trans ?_
    refine (zv_is c24_40 rfl).trans ?_
    rfl
  · refine (zv_k (v := 1) c24_92 (by decide)).trans ?_
    exact zv_iz c24_93 zrt_24
set_option maxRecDepth 100000 in
theorem b24_42 (l0 : Option Nat) (l1 : Int32) (l2 : Int32) (l3 : Int32) (l4 : Int32) (l5 : Int32) (l6 : Int32) (l7 : Int32) (l8 : Option zV) (h : zH) : zev 24 42 [some (vR l0), some (vI l1), some (vI l2), some (vI l3), some (vI l4), some (vI l5), some (vI l6), some (vI l7), l8] [] h = (if l7 < (l1 + l3) then (zvr h l0 5 (zcI 25 [vR l0, vI l7, vI l6] h fun x2 h1 => (if x2 = (-1) then zev 24 42 [some (vR l0), some (vI l1), some (vI l2), some (vI l3), some (vI l4), some (vI l5), some (vI l6), some (vI (l7 + 1)), some (vI x2)] [] h1 else (if l5 = 0 then zbo 0 (some (some (vI 0), h1)) else (if x2 < 100 then zbo 0 (some (some (vI 0), h1)) else zev 24 42 [some (vR l0), some (vI l1), some (vI l2), some (vI l3), some (vI l4), some (vI l5), some (vI l6), some (vI (l7 + 1)), some (vI x2)] [] h1))))) else zev 24 30 [some (vR l0), some (vI l1), some (vI l2), some (vI l3), some (vI l4), some (vI l5), some (vI (l6 + 1)), some (vI l7), l8] [] h) := by
  refine (zv_il c24_42 rfl).trans ?_
  refine (zv_in c24_44 rfl).trans ?_
  refine (zv_in c24_45 rfl).trans ?_
  refine (zv_iadd c24_46).trans ?_
  refine (zv_icge c24_47).trans (zif_c ?_ ?_)
  · refine (zv_an c24_50 rfl).trans ?_
    refine (zv_il c24_51 rfl).trans ?_
    refine (zv_il c24_53 rfl).trans ?_
    refine (zv_viI c24_55 zcn_25 rfl zL_25 (Or.inl zrt_25) rfl rfl).trans (zvr_c (zcI_c fun x2 h1 => ?_))
    refine (zv_is c24_58 rfl).trans ?_
    refine (zv_il c24_60 rfl).trans ?_
    refine (zv_k (v := -1) c24_62 (by decide)).trans ?_
    refine (zv_iceq c24_63).trans (zif_c ?_ ?_)
    · refine (zv_inc (y := 1) c24_80 rfl (by decide) rfl).trans ?_
      refine (zv_goto c24_83).trans ?_
      rfl
    · refine (zv_il c24_66 rfl).trans ?_
      refine (zv_ifeq c24_68).trans (zif_c ?_ ?_)
      · refine (zv_k (v := 0) c24_78 (by decide)).trans ?_
        exact zv_iz c24_79 zrt_24
      · refine (zv_il c24_71 rfl).trans ?_
        refine (zv_bi (v := 100) c24_73 (by decide)).trans ?_
        refine (zv_icge c24_75).trans (zif_c ?_ ?_)
        · refine (zv_k (v := 0) c24_78 (by decide)).trans ?_
          exact zv_iz c24_79 zrt_24
        · refine (zv_inc (y := 1) c24_80 rfl (by decide) rfl).trans ?_
          refine (zv_goto c24_83).trans ?_
          rfl
  · refine (zv_inc (y := 1) c24_86 rfl (by decide) rfl).trans ?_
    refine (zv_goto c24_89).trans ?_
    rfl
theorem c25_0 : zcod 25 0 = some (.iload_n 1, 1, 0, 0, 0, 0) := by decide +kernel
theorem c25_1 : zcod 25 1 = some (.iload_n 2, 1, 0, 0, 0, 0) := by decide +kernel
theorem c25_2 : zcod 25 2 = some (.invokestatic 32, 3, 26, 2, 293, 1) := by decide +kernel
theorem c25_5 : zcod 25 5 = some (.ifCond .eq 17, 3, 22, 0, 0, 0) := by decide +kernel
theorem c25_8 : zcod 25 8 = some (.aload_n 0, 1, 0, 0, 0, 0) := by decide +kernel
theorem c25_9 : zcod 25 9 = some (.getfield 9, 3, 5, 0, 145, 0) := by decide +kernel
theorem c25_12 : zcod 25 12 = some (.iload_n 2, 1, 0, 0, 0, 0) := by decide +kernel
theorem c25_13 : zcod 25 13 = some (.bipush 20, 2, 0, 0, 0, 0) := by decide +kernel
theorem c25_15 : zcod 25 15 = some (.imul, 1, 0, 0, 0, 0) := by decide +kernel
theorem c25_16 : zcod 25 16 = some (.iload_n 1, 1, 0, 0, 0, 0) := by decide +kernel
theorem c25_17 : zcod 25 17 = some (.iadd, 1, 0, 0, 0, 0) := by decide +kernel
theorem c25_18 : zcod 25 18 = some (.iaload, 1, 0, 0, 0, 0) := by decide +kernel
theorem c25_19 : zcod 25 19 = some (.goto 4, 3, 23, 0, 0, 0) := by decide +kernel
theorem c25_22 : zcod 25 22 = some (.iconst (-1), 1, 0, 0, 0, 0) := by decide +kernel
theorem c25_23 : zcod 25 23 = some (.ireturn, 1, 0, 0, 0, 0) := by decide +kernel
set_option maxRecDepth 100000 in
theorem b25_0 (l0 : Option Nat) (l1 : Int32) (l2 : Int32) (h : zH) : zev 25 0 [some (vR l0), some (vI l1), some (vI l2)] [] h = (zcI 26 [vI l1, vI l2] h fun x2 h1 => (if x2 = 0 then some (some (vI (-1)), h1) else (zgR h1 l0 5 0 fun x3 => (zaI h1 x3 ((l2 * 20) + l1) fun x4 => some (some (vI x4), h1))))) := by
  refine (zv_in c25_0 rfl).trans ?_
  refine (zv_in c25_1 rfl).trans ?_
  refine (zv_stI c25_2 (by decide) rfl zL_26 (Or.inr zrt_26) rfl rfl).trans (zcI_c fun x2 h1 => ?_)
  refine (zv_ifeq c25_5).trans (zif_c ?_ ?_)
  · refine (zv_k (v := -1) c25_22 (by decide)).trans ?_
    exact zv_ir c25_23 zrt_25
  · refine (zv_an c25_8 rfl).trans ?_
    refine (zv_gR c25_9 zf5_0).trans (zgR_c fun x3 => ?_)
    refine (zv_in c25_12 rfl).trans ?_
    refine (zv_bi (v := 20) c25_13 (by decide)).trans ?_
    refine (zv_imul c25_15).trans ?_
    refine (zv_in c25_16 rfl).trans ?_
    refine (zv_iadd c25_17).trans ?_
    refine (zv_aI c25_18).trans (zaI_c fun x4 => ?_)
    refine (zv_goto c25_19).trans ?_
    exact zv_ir c25_23 zrt_25
theorem e25 (l0 : Option Nat) (l1 : Int32) (l2 : Int32) (h : zH) : zcall 25 [vR l0, vI l1, vI l2] h = (zcI 26 [vI l1, vI l2] h fun x2 h1 => (if x2 = 0 then some (some (vI (-1)), h1) else (zgR h1 l0 5 0 fun x3 => (zaI h1 x3 ((l2 * 20) + l1) fun x4 => some (some (vI x4), h1))))) := by
  refine Eq.trans ?_ (b25_0 l0 l1 l2 h)
  unfold zcall zent
  rw [zL_25]
  rfl
theorem c26_0 : zcod 26 0 = some (.iload_n 0, 1, 0, 0, 0, 0) := by decide +kernel
theorem c26_1 : zcod 26 1 = some (.ifCond .lt 23, 3, 24, 0, 0, 0) := by decide +kernel
theorem c26_4 : zcod 26 4 = some (.iload_n 0, 1, 0, 0, 0, 0) := by decide +kernel
theorem c26_5 : zcod 26 5 = some (.bipush 20, 2, 0, 0, 0, 0) := by decide +kernel
theorem c26_7 : zcod 26 7 = some (.if_icmp .ge 17, 3, 24, 0, 0, 0) := by decide +kernel
theorem c26_10 : zcod 26 10 = some (.iload_n 1, 1, 0, 0, 0, 0) := by decide +kernel
theorem c26_11 : zcod 26 11 = some (.ifCond .lt 13, 3, 24, 0, 0, 0) := by decide +kernel
theorem c26_14 : zcod 26 14 = some (.iload_n 1, 1, 0, 0, 0, 0) := by decide +kernel
theorem c26_15 : zcod 26 15 = some (.bipush 16, 2, 0, 0, 0, 0) := by decide +kernel
theorem c26_17 : zcod 26 17 = some (.if_icmp .ge 7, 3, 24, 0, 0, 0) := by decide +kernel
theorem c26_20 : zcod 26 20 = some (.iconst 1, 1, 0, 0, 0, 0) := by decide +kernel
theorem c26_21 : zcod 26 21 = some (.goto 4, 3, 25, 0, 0, 0) := by decide +kernel
theorem c26_24 : zcod 26 24 = some (.iconst 0, 1, 0, 0, 0, 0) := by decide +kernel
theorem c26_25 : zcod 26 25 = some (.ireturn, 1, 0, 0, 0, 0) := by decide +kernel
set_option maxRecDepth 100000 in
theorem b26_0 (l0 : Int32) (l1 : Int32) (h : zH) : zev 26 0 [some (vI l0), some (vI l1)] [] h = (if l0 < 0 then zbo 0 (some (some (vI 0), h)) else (if l0 < 20 then (if l1 < 0 then zbo 0 (some (some (vI 0), h)) else (if l1 < 16 then zbo 1 (some (some (vI 1), h)) else zbo 0 (some (some (vI 0), h)))) else zbo 0 (some (some (vI 0), h)))) := by
  refine (zv_in c26_0 rfl).trans ?_
  refine (zv_iflt c26_1).trans (zif_c ?_ ?_)
  · refine (zv_k (v := 0) c26_24 (by decide)).trans ?_
    exact zv_iz c26_25 zrt_26
  · refine (zv_in c26_4 rfl).trans ?_
    refine (zv_bi (v := 20) c26_5 (by decide)).trans ?_
    refine (zv_icge c26_7).trans (zif_c ?_ ?_)
    · refine (zv_in c26_10 rfl).trans ?_
      refine (zv_iflt c26_11).trans (zif_c ?_ ?_)
      · refine (zv_k (v := 0) c26_24 (by decide)).trans ?_
        exact zv_iz c26_25 zrt_26
      · refine (zv_in c26_14 rfl).trans ?_
        refine (zv_bi (v := 16) c26_15 (by decide)).trans ?_
        refine (zv_icge c26_17).trans (zif_c ?_ ?_)
        · refine (zv_k (v := 1) c26_20 (by decide)).trans ?_
          refine (zv_goto c26_21).trans ?_
          exact zv_iz c26_25 zrt_26
        · refine (zv_k (v := 0) c26_24 (by decide)).trans ?_
          exact zv_iz c26_25 zrt_26
    · refine (zv_k (v := 0) c26_24 (by decide)).trans ?_
      exact zv_iz c26_25 zrt_26
theorem e26 (l0 : Int32) (l1 : Int32) (h : zH) : zcall 26 [vI l0, vI l1] h = (if l0 < 0 then zbo 0 (some (some (vI 0), h)) else (if l0 < 20 then (if l1 < 0 then zbo 0 (some (some (vI 0), h)) else (if l1 < 16 then zbo 1 (some (some (vI 1), h)) else zbo 0 (some (some (vI 0), h)))) else zbo 0 (some (some (vI 0), h)))) := by
  refine Eq.trans ?_ (b26_0 l0 l1 h)
  unfold zcall zent
  rw [zL_26]
  rfl
theorem c27_0 : zcod 27 0 = some (.aload_n 0, 1, 0, 0, 0, 0) := by decide +kernel
theorem c27_1 : zcod 27 1 = some (.getfield 22, 3, 5, 2, 147, 0) := by decide +kernel
theorem c27_4 : zcod 27 4 = some (.invokevirtual 36, 3, 14, 0, 300, 0) := by decide +kernel
theorem c27_7 : zcod 27 7 = some (.istore 6, 2, 0, 0, 0, 0) := by decide +kernel
theorem c27_9 : zcod 27 9 = some (.aload_n 0, 1, 0, 0, 0, 0) := by decide +kernel
theorem c27_10 : zcod 27 10 = some (.getfield 22, 3, 5, 2, 147, 0) := by decide +kernel
theorem c27_13 : zcod 27 13 = some (.new 44, 3, 2, 0, 301, 0) := by decide +kernel
theorem c27_16 : zcod 27 16 = some (.dup, 1, 0, 0, 0, 0) := by decide +kernel
theorem c27_17 : zcod 27 17 = some (.iload_n 1, 1, 0, 0, 0, 0) := by decide +kernel
theorem c27_18 : zcod 27 18 = some (.iload_n 2, 1, 0, 0, 0, 0) := by decide +kernel
theorem c27_19 : zcod 27 19 = some (.iload_n 3, 1, 0, 0, 0, 0) := by decide +kernel
theorem c27_20 : zcod 27 20 = some (.iload 4, 2, 0, 0, 0, 0) := by decide +kernel
theorem c27_22 : zcod 27 22 = some (.iload 5, 2, 0, 0, 0, 0) := by decide +kernel
theorem c27_24 : zcod 27 24 = some (.invokespecial 54, 3, 28, 5, 303, 0) := by decide +kernel
theorem c27_27 : zcod 27 27 = some (.invokevirtual 57, 3, 29, 1, 388, 0) := by decide +kernel
theorem c27_30 : zcod 27 30 = some (.pop, 1, 0, 0, 0, 0) := by decide +kernel
theorem c27_31 : zcod 27 31 = some (.aload_n 0, 1, 0, 0, 0, 0) := by decide +kernel
theorem c27_32 : zcod 27 32 = some (.iload_n 1, 1, 0, 0, 0, 0) := by decide +kernel
theorem c27_33 : zcod 27 33 = some (.iload_n 2, 1, 0, 0, 0, 0) := by decide +kernel
theorem c27_34 : zcod 27 34 = some (.iload_n 3, 1, 0, 0, 0, 0) := by decide +kernel
theorem c27_35 : zcod 27 35 = some (.iload 4, 2, 0, 0, 0, 0) := by decide +kernel
theorem c27_37 : zcod 27 37 = some (.iload 6, 2, 0, 0, 0, 0) := by decide +kernel
theorem c27_39 : zcod 27 39 = some (.invokevirtual 61, 3, 39, 5, 445, 0) := by decide +kernel
theorem c27_42 : zcod 27 42 = some (.return_, 1, 0, 0, 0, 0) := by decide +kernel
set_option maxRecDepth 100000 in
theorem b27_0 (l0 : Option Nat) (l1 : Int32) (l2 : Int32) (l3 : Int32) (l4 : Int32) (l5 : Int32) (h : zH) : zev 27 0 [some (vR l0), some (vI l1), some (vI l2), some (vI l3), some (vI l4), some (vI l5), none] [] h = (zgR h l0 5 2 fun x1 => (zvr h x1 0 (zcI 14 [vR x1] h fun x3 h2 => (zgR h2 l0 5 2 fun x4 => (zno h2 2 fun x5 h6 => (zul x5 none (zcV 28 [vR x5, vI l1, vI l2, vI l3, vI l4, vI l5] h6 fun h7 => (zvr h7 x4 0 (zcI 29 [vR x4, vR x5] h7 fun x9 h8 => (zvr h8 l0 5 (zcV 39 [vR l0, vI l1, vI l2, vI l3, vI l4, vI x3] h8 fun h10 => some (none, h10)))))))))))) := by
  refine (zv_an c27_0 rfl).trans ?_
  refine (zv_gR c27_1 zf5_2).trans (zgR_c fun x1 => ?_)
  refine (zv_viI c27_4 zcn_14 rfl zL_14 (Or.inl zrt_14) rfl rfl).trans (zvr_c (zcI_c fun x3 h2 => ?_))
  refine (zv_is c27_7 rfl).trans ?_
  refine (zv_an c27_9 rfl).trans ?_
  refine (zv_gR c27_10 zf5_2).trans (zgR_c fun x4 => ?_)
  refine (zv_new c27_13).trans (zno_c fun x5 h6 => ?_)
  refine (zv_dup c27_16 rfl).trans ?_
  refine (zv_in c27_17 rfl).trans ?_
  refine (zv_in c27_18 rfl).trans ?_
  refine (zv_in c27_19 rfl).trans ?_
  refine (zv_il c27_20 rfl).trans ?_
  refine (zv_il c27_22 rfl).trans ?_
  refine (zv_spV c27_24 (by decide) rfl zL_28 zrt_28 rfl rfl).trans (zul_c rfl (zcV_c fun h7 => ?_))
  refine (zv_viI c27_27 zcn_29 rfl zL_29 (Or.inr zrt_29) rfl rfl).trans (zvr_c (zcI_c fun x9 h8 => ?_))
  refine (zv_pop c27_30 rfl).trans ?_
  refine (zv_an c27_31 rfl).trans ?_
  refine (zv_in c27_32 rfl).trans ?_
  refine (zv_in c27_33 rfl).trans ?_
  refine (zv_in c27_34 rfl).trans ?_
  refine (zv_il c27_35 rfl).trans ?_
  refine (zv_il c27_37 rfl).trans ?_
  refine (zv_viV c27_39 zcn_39 rfl zL_39 zrt_39 rfl rfl).trans (zvr_c (zcV_c fun h10 => ?_))
  exact zv_vr c27_42 zrt_27
theorem e27 (l0 : Option Nat) (l1 : Int32) (l2 : Int32) (l3 : Int32) (l4 : Int32) (l5 : Int32) (h : zH) : zcall 27 [vR l0, vI l1, vI l2, vI l3, vI l4, vI l5] h = (zgR h l0 5 2 fun x1 => (zvr h x1 0 (zcI 14 [vR x1] h fun x3 h2 => (zgR h2 l0 5 2 fun x4 => (zno h2 2 fun x5 h6 => (zul x5 none (zcV 28 [vR x5, vI l1, vI l2, vI l3, vI l4, vI l5] h6 fun h7 => (zvr h7 x4 0 (zcI 29 [vR x4, vR x5] h7 fun x9 h8 => (zvr h8 l0 5 (zcV 39 [vR l0, vI l1, vI l2, vI l3, vI l4, vI x3] h8 fun h10 => some (none, h10)))))))))))) := by
  refine Eq.trans ?_ (b27_0 l0 l1 l2 l3 l4 l5 h)
  unfold zcall zent
  rw [zL_27]
  rfl
theorem c28_0 : zcod 28 0 = some (.aload_n 0, 1, 0, 0, 0, 0) := by decide +kernel
theorem c28_1 : zcod 28 1 = some (.invokespecial 3, 3, 1, 0, 306, 0) := by decide +kernel
theorem c28_4 : zcod 28 4 = some (.aload_n 0, 1, 0, 0, 0, 0) := by decide +kernel
theorem c28_5 : zcod 28 5 = some (.new 9, 3, 0, 0, 307, 0) := by decide +kernel
theorem c28_8 : zcod 28 8 = some (.dup, 1, 0, 0, 0, 0) := by decide +kernel
theorem c28_9 : zcod 28 9 = some (.invokespecial 11, 3, 5, 0, 308, 0) := by decide +kernel
theorem c28_12 : zcod 28 12 = some (.putfield 12, 3, 2, 6, 323, 0) := by decide +kernel
theorem c28_15 : zcod 28 15 = some (.aload_n 0, 1, 0, 0, 0, 0) := by decide +kernel
theorem c28_16 : zcod 28 16 = some (.iconst (-1), 1, 0, 0, 0, 0) := by decide +kernel
theorem c28_17 : zcod 28 17 = some (.putfield 18, 3, 2, 7, 326, 0) := by decide +kernel
theorem c28_20 : zcod 28 20 = some (.aload_n 0, 1, 0, 0, 0, 0) := by decide +kernel
theorem c28_21 : zcod 28 21 = some (.iconst (-1), 1, 0, 0, 0, 0) := by decide +kernel
theorem c28_22 : zcod 28 22 = some (.putfield 22, 3, 2, 8, 330, 0) := by decide +kernel
theorem c28_25 : zcod 28 25 = some (.aload_n 0, 1, 0, 0, 0, 0) := by decide +kernel
theorem c28_26 : zcod 28 26 = some (.iconst (-1), 1, 0, 0, 0, 0) := by decide +kernel
theorem c28_27 : zcod 28 27 = some (.putfield 25, 3, 2, 16, 350, 0) := by decide +kernel
theorem c28_30 : zcod 28 30 = some (.aload_n 0, 1, 0, 0, 0, 0) := by decide +kernel
theorem c28_31 : zcod 28 31 = some (.iload_n 1, 1, 0, 0, 0, 0) := by decide +kernel
theorem c28_32 : zcod 28 32 = some (.putfield 28, 3, 2, 0, 309, 0) := by decide +kernel
theorem c28_35 : zcod 28 35 = some (.aload_n 0, 1, 0, 0, 0, 0) := by decide +kernel
theorem c28_36 : zcod 28 36 = some (.iload_n 2, 1, 0, 0, 0, 0) := by decide +kernel
theorem c28_37 : zcod 28 37 = some (.putfield 31, 3, 2, 1, 312, 0) := by decide +kernel
theorem c28_40 : zcod 28 40 = some (.aload_n 0, 1, 0, 0, 0, 0) := by decide +kernel
theorem c28_41 : zcod 28 41 = some (.iload_n 3, 1, 0, 0, 0, 0) := by decide +kernel
theorem c28_42 : zcod 28 42 = some (.putfield 34, 3, 2, 2, 315, 0) := by decide +kernel
theorem c28_45 : zcod 28 45 = some (.aload_n 0, 1, 0, 0, 0, 0) := by decide +kernel
theorem c28_46 : zcod 28 46 = some (.iload 4, 2, 0, 0, 0, 0) := by decide +kernel
theorem c28_48 : zcod 28 48 = some (.putfield 37, 3, 2, 3, 317, 0) := by decide +kernel
theorem c28_51 : zcod 28 51 = some (.aload_n 0, 1, 0, 0, 0, 0) := by decide +kernel
theorem c28_52 : zcod 28 52 = some (.iload 5, 2, 0, 0, 0, 0) := by decide +kernel
theorem c28_54 : zcod 28 54 = some (.putfield 40, 3, 2, 4, 319, 0) := by decide +kernel
theorem c28_57 : zcod 28 57 = some (.return_, 1, 0, 0, 0, 0) := by decide +kernel
set_option maxRecDepth 100000 in
theorem b28_0 (l0 : Option Nat) (l1 : Int32) (l2 : Int32) (l3 : Int32) (l4 : Int32) (l5 : Int32) (h : zH) : zev 28 0 [some (vR l0), some (vI l1), some (vI l2), some (vI l3), some (vI l4), some (vI l5)] [] h = (zul l0 none ((zno h 0 fun x1 h2 => (zul x1 none (zcV 5 [vR x1] h2 fun h3 => (zpR h3 l0 2 6 x1 fun h4 => (zpI h4 l0 2 7 (-1) fun h5 => (zpI h5 l0 2 8 (-1) fun h6 => (zpI h6 l0 2 16 (-1) fun h7 => (zpI h7 l0 2 0 l1 fun h8 => (zpI h8 l0 2 1 l2 fun h9 => (zpI h9 l0 2 2 l3 fun h10 => (zpI h10 l0 2 3 l4 fun h11 => (zpZ h11 l0 2 4 l5 fun h12 => some (none, h12))))))))))))))) := by
  refine (zv_an c28_0 rfl).trans ?_
  refine (zv_ob c28_1 (zle rfl)).trans (zul_c rfl ?_)
  refine (zv_an c28_4 rfl).trans ?_
  refine (zv_new c28_5).trans (zno_c fun x1 h2 => ?_)
  refine (zv_dup c28_8 rfl).trans ?_
  refine (zv_spV c28_9 (by decide) rfl zL_5 zrt_5 rfl rfl).trans (zul_c rfl (zcV_c fun h3 => ?_))
  refine (zv_pR c28_12 zf2_6).trans (zpR_c fun h4 => ?_)
  refine (zv_an c28_15 rfl).trans ?_
  refine (zv_k (v := -1) c28_16 (by decide)).trans ?_
  refine (zv_pI c28_17 zf2_7).trans (zpI_c fun h5 => ?_)
  refine (zv_an c28_20 rfl).trans ?_
  refine (zv_k (v := -1) c28_21 (by decide)).trans ?_
  refine (zv_pI c28_22 zf2_8).trans (zpI_c fun h6 => ?_)
  refine (zv_an c28_25 rfl).trans ?_
  refine (zv_k (v := -1) c28_26 (by decide)).trans ?_
  refine (zv_pI c28_27 zf2_16).trans (zpI_c fun h7 => ?_)
  refine (zv_an c28_30 rfl).trans ?_
  refine (zv_in c28_31 rfl).trans ?_
  refine (zv_pI c28_32 zf2_0).trans (zpI_c fun h8 => ?_)
  refine (zv_an c28_35 rfl).trans ?_
  refine (zv_in c28_36 rfl).trans ?_
  refine (zv_pI c28_37 zf2_1).trans (zpI_c fun h9 => ?_)
  refine (zv_an c28_40 rfl).trans ?_
  refine (zv_in c28_41 rfl).trans ?_
  refine (zv_pI c28_42 zf2_2).trans (zpI_c fun h10 => ?_)
  refine (zv_an c28_45 rfl).trans ?_
  refine (zv_il c28_46 rfl).trans ?_
  refine (zv_pI c28_48 zf2_3).trans (zpI_c fun h11 => ?_)
  refine (zv_an c28_51 rfl).trans ?_
  refine (zv_il c28_52 rfl).trans ?_
  refine (zv_pZ c28_54 zf2_4).trans (zpZ_c fun h12 => ?_)
  exact zv_vr c28_57 zrt_28
theorem e28 (l0 : Option Nat) (l1 : Int32) (l2 : Int32) (l3 : Int32) (l4 : Int32) (l5 : Int32) (h : zH) : zcall 28 [vR l0, vI l1, vI l2, vI l3, vI l4, vI l5] h = (zul l0 none ((zno h 0 fun x1 h2 => (zul x1 none (zcV 5 [vR x1] h2 fun h3 => (zpR h3 l0 2 6 x1 fun h4 => (zpI h4 l0 2 7 (-1) fun h5 => (zpI h5 l0 2 8 (-1) fun h6 => (zpI h6 l0 2 16 (-1) fun h7 => (zpI h7 l0 2 0 l1 fun h8 => (zpI h8 l0 2 1 l2 fun h9 => (zpI h9 l0 2 2 l3 fun h10 => (zpI h10 l0 2 3 l4 fun h11 => (zpZ h11 l0 2 4 l5 fun h12 => some (none, h12))))))))))))))) := by
  refine Eq.trans ?_ (b28_0 l0 l1 l2 l3 l4 l5 h)
  unfold zcall zent
  rw [zL_28]
  rfl
theorem c29_0 : zcod 29 0 = some (.aload_n 0, 1, 0, 0, 0, 0) := by decide +kernel
theorem c29_1 : zcod 29 1 = some (.dup, 1, 0, 0, 0, 0) := by decide +kernel
theorem c29_2 : zcod 29 2 = some (.getfield 63, 3, 0, 0, 132, 1) := by decide +kernel
theorem c29_5 : zcod 29 5 = some (.iconst 1, 1, 0, 0, 0, 0) := by decide +kernel
theorem c29_6 : zcod 29 6 = some (.iadd, 1, 0, 0, 0, 0) := by decide +kernel
theorem c29_7 : zcod 29 7 = some (.putfield 63, 3, 0, 0, 132, 1) := by decide +kernel
theorem c29_10 : zcod 29 10 = some (.aload_n 0, 1, 0, 0, 0, 0) := by decide +kernel
theorem c29_11 : zcod 29 11 = some (.aload_n 1, 1, 0, 0, 0, 0) := by decide +kernel
theorem c29_12 : zcod 29 12 = some (.aload_n 0, 1, 0, 0, 0, 0) := by decide +kernel
theorem c29_13 : zcod 29 13 = some (.getfield 9, 3, 0, 1, 129, 0) := by decide +kernel
theorem c29_16 : zcod 29 16 = some (.aload_n 0, 1, 0, 0, 0, 0) := by decide +kernel
theorem c29_17 : zcod 29 17 = some (.getfield 48, 3, 0, 2, 130, 0) := by decide +kernel
theorem c29_20 : zcod 29 20 = some (.invokevirtual 131, 3, 30, 3, 392, 0) := by decide +kernel
theorem c29_23 : zcod 29 23 = some (.iconst 1, 1, 0, 0, 0, 0) := by decide +kernel
theorem c29_24 : zcod 29 24 = some (.ireturn, 1, 0, 0, 0, 0) := by decide +kernel
set_option maxRecDepth 100000 in
theorem b29_0 (l0 : Option Nat) (l1 : Option Nat) (h : zH) : zev 29 0 [some (vR l0), some (vR l1)] [] h = (zgI h l0 0 0 fun x1 => (zpI h l0 0 0 (x1 + 1) fun h2 => (zgR h2 l0 0 1 fun x3 => (zgI h2 l0 0 2 fun x4 => (zvr h2 l0 0 (zcV 30 [vR l0, vR l1, vR x3, vI x4] h2 fun h5 => zbo 1 (some (some (vI 1), h5)))))))) := by
  refine (zv_an c29_0 rfl).trans ?_
  refine (zv_dup c29_1 rfl).trans ?_
  refine (zv_gI c29_2 zg0_0).trans (zgI_c fun x1 => ?_)
  refine (zv_k (v := 1) c29_5 (by decide)).trans ?_
  refine (zv_iadd c29_6).trans ?_
  refine (zv_pI c29_7 zf0_0).trans (zpI_c fun h2 => ?_)
  refine (zv_an c29_10 rfl).trans ?_
  refine (zv_an c29_11 rfl).trans ?_
  refine (zv_an c29_12 rfl).trans ?_
  refine (zv_gR c29_13 zf0_1).trans (zgR_c fun x3 => ?_)
  refine (zv_an c29_16 rfl).trans ?_
  refine (zv_gI c29_17 zg0_2).trans (zgI_c fun x4 => ?_)
  refine (zv_viV c29_20 zcn_30 rfl zL_30 zrt_30 rfl rfl).trans (zvr_c (zcV_c fun h5 => ?_))
  refine (zv_k (v := 1) c29_23 (by decide)).trans ?_
  exact zv_iz c29_24 zrt_29
theorem e29 (l0 : Option Nat) (l1 : Option Nat) (h : zH) : zcall 29 [vR l0, vR l1] h = (zgI h l0 0 0 fun x1 => (zpI h l0 0 0 (x1 + 1) fun h2 => (zgR h2 l0 0 1 fun x3 => (zgI h2 l0 0 2 fun x4 => (zvr h2 l0 0 (zcV 30 [vR l0, vR l1, vR x3, vI x4] h2 fun h5 => zbo 1 (some (some (vI 1), h5)))))))) := by
  refine Eq.trans ?_ (b29_0 l0 l1 h)
  unfold zcall zent
  rw [zL_29]
  rfl
theorem c30_0 : zcod 30 0 = some (.iload_n 3, 1, 0, 0, 0, 0) := by decide +kernel
theorem c30_1 : zcod 30 1 = some (.aload_n 2, 1, 0, 0, 0, 0) := by decide +kernel
theorem c30_2 : zcod 30 2 = some (.arraylength, 1, 0, 0, 0, 0) := by decide +kernel
theorem c30_3 : zcod 30 3 = some (.if_icmp .ne 8, 3, 11, 0, 0, 0) := by decide +kernel
theorem c30_6 : zcod 30 6 = some (.aload_n 0, 1, 0, 0, 0, 0) := by decide +kernel
theorem c30_7 : zcod 30 7 = some (.invokevirtual 129, 3, 31, 0, 396, 0) := by decide +kernel
theorem c30_10 : zcod 30 10 = some (.astore_n 2, 1, 0, 0, 0, 0) := by decide +kernel
theorem c30_11 : zcod 30 11 = some (.aload_n 2, 1, 0, 0, 0, 0) := by decide +kernel
theorem c30_12 : zcod 30 12 = some (.iload_n 3, 1, 0, 0, 0, 0) := by decide +kernel
theorem c30_13 : zcod 30 13 = some (.aload_n 1, 1, 0, 0, 0, 0) := by decide +kernel
theorem c30_14 : zcod 30 14 = some (.aastore, 1, 0, 0, 0, 0) := by decide +kernel
theorem c30_15 : zcod 30 15 = some (.aload_n 0, 1, 0, 0, 0, 0) := by decide +kernel
theorem c30_16 : zcod 30 16 = some (.iload_n 3, 1, 0, 0, 0, 0) := by decide +kernel
theorem c30_17 : zcod 30 17 = some (.iconst 1, 1, 0, 0, 0, 0) := by decide +kernel
theorem c30_18 : zcod 30 18 = some (.iadd, 1, 0, 0, 0, 0) := by decide +kernel
theorem c30_19 : zcod 30 19 = some (.putfield 48, 3, 0, 2, 130, 0) := by decide +kernel
theorem c30_22 : zcod 30 22 = some (.return_, 1, 0, 0, 0, 0) := by decide +kernel
set_option maxRecDepth 100000 in
theorem b30_0 (l0 : Option Nat) (l1 : Option Nat) (l2 : Option Nat) (l3 : Int32) (h : zH) : zev 30 0 [some (vR l0), some (vR l1), some (vR l2), some (vI l3)] [] h = (zal h l2 fun x1 => (if l3 = x1 then (zvr h l0 0 (zcR 31 [vR l0] h fun x3 h2 => (ztR h2 x3 l3 l1 fun h4 => (zpI h4 l0 0 2 (l3 + 1) fun h5 => some (none, h5))))) else (ztR h l2 l3 l1 fun h6 => (zpI h6 l0 0 2 (l3 + 1) fun h7 => some (none, h7))))) := by
  refine (zv_in c30_0 rfl).trans ?_
  refine (zv_an c30_1 rfl).trans ?_
  refine (zv_al2 c30_2).trans (zal_c fun x1 => ?_)
  refine (zv_icne c30_3).trans (zif_c ?_ ?_)
  · refine (zv_an c30_6 rfl).trans ?_
    refine (zv_viR c30_7 zcn_31 rfl zL_31 zrt_31 rfl rfl).trans (zvr_c (zcR_c fun x3 h2 => ?_))
    refine (zv_at c30_10 rfl).trans ?_
    refine (zv_an c30_11 rfl).trans ?_
    refine (zv_in c30_12 rfl).trans ?_
    refine (zv_an c30_13 rfl).trans ?_
    refine (zv_tR c30_14).trans (ztR_c fun h4 => ?_)
    refine (zv_an c30_15 rfl).trans ?_
    refine (zv_in c30_16 rfl).trans ?_
    refine (zv_k (v := 1) c30_17 (by decide)).trans ?_
    refine (zv_iadd c30_18).trans ?_
    refine (zv_pI c30_19 zf0_2).trans (zpI_c fun h5 => ?_)
    exact zv_vr c30_22 zrt_30
  · refine (zv_an c30_11 rfl).trans ?_
    refine (zv_in c30_12 rfl).trans ?_
    refine (zv_an c30_13 rfl).trans ?_
    refine (zv_tR c30_14).trans (ztR_c fun h6 => ?_)
    refine (zv_an c30_15 rfl).trans ?_
    refine (zv_in c30_16 rfl).trans ?_
    refine (zv_k (v := 1) c30_17 (by decide)).trans ?_
    refine (zv_iadd c30_18).trans ?_
    refine (zv_pI c30_19 zf0_2).trans (zpI_c fun h7 => ?_)
    exact zv_vr c30_22 zrt_30
theorem e30 (l0 : Option Nat) (l1 : Option Nat) (l2 : Option Nat) (l3 : Int32) (h : zH) : zcall 30 [vR l0, vR l1, vR l2, vI l3] h = (zal h l2 fun x1 => (if l3 = x1 then (zvr h l0 0 (zcR 31 [vR l0] h fun x3 h2 => (ztR h2 x3 l3 l1 fun h4 => (zpI h4 l0 0 2 (l3 + 1) fun h5 => some (none, h5))))) else (ztR h l2 l3 l1 fun h6 => (zpI h6 l0 0 2 (l3 + 1) fun h7 => some (none, h7))))) := by
  refine Eq.trans ?_ (b30_0 l0 l1 l2 l3 h)
  unfold zcall zent
  rw [zL_30]
  rfl
theorem c31_0 : zcod 31 0 = some (.aload_n 0, 1, 0, 0, 0, 0) := by decide +kernel
theorem c31_1 : zcod 31 1 = some (.aload_n 0, 1, 0, 0, 0, 0) := by decide +kernel
theorem c31_2 : zcod 31 2 = some (.getfield 48, 3, 0, 2, 130, 0) := by decide +kernel
theorem c31_5 : zcod 31 5 = some (.iconst 1, 1, 0, 0, 0, 0) := by decide +kernel
theorem c31_6 : zcod 31 6 = some (.iadd, 1, 0, 0, 0, 0) := by decide +kernel
theorem c31_7 : zcod 31 7 = some (.invokevirtual 69, 3, 32, 1, 400, 0) := by decide +kernel
theorem c31_10 : zcod 31 10 = some (.areturn, 1, 0, 0, 0, 0) := by decide +kernel
set_option maxRecDepth 100000 in
theorem b31_0 (l0 : Option Nat) (h : zH) : zev 31 0 [some (vR l0)] [] h = (zgI h l0 0 2 fun x1 => (zvr h l0 0 (zcR 32 [vR l0, vI (x1 + 1)] h fun x3 h2 => some (some (vR x3), h2)))) := by
  refine (zv_an c31_0 rfl).trans ?_
  refine (zv_an c31_1 rfl).trans ?_
  refine (zv_gI c31_2 zg0_2).trans (zgI_c fun x1 => ?_)
  refine (zv_k (v := 1) c31_5 (by decide)).trans ?_
  refine (zv_iadd c31_6).trans ?_
  refine (zv_viR c31_7 zcn_32 rfl zL_32 zrt_32 rfl rfl).trans (zvr_c (zcR_c fun x3 h2 => ?_))
  exact zv_ar c31_10 zrt_31
theorem e31 (l0 : Option Nat) (h : zH) : zcall 31 [vR l0] h = (zgI h l0 0 2 fun x1 => (zvr h l0 0 (zcR 32 [vR l0, vI (x1 + 1)] h fun x3 h2 => some (some (vR x3), h2)))) := by
  refine Eq.trans ?_ (b31_0 l0 h)
  unfold zcall zent
  rw [zL_31]
  rfl
theorem c32_0 : zcod 32 0 = some (.aload_n 0, 1, 0, 0, 0, 0) := by decide +kernel
theorem c32_1 : zcod 32 1 = some (.getfield 9, 3, 0, 1, 129, 0) := by decide +kernel
theorem c32_4 : zcod 32 4 = some (.arraylength, 1, 0, 0, 0, 0) := by decide +kernel
theorem c32_5 : zcod 32 5 = some (.istore_n 2, 1, 0, 0, 0, 0) := by decide +kernel
theorem c32_6 : zcod 32 6 = some (.iload_n 2, 1, 0, 0, 0, 0) := by decide +kernel
theorem c32_7 : zcod 32 7 = some (.ifCond .gt 13, 3, 20, 0, 0, 0) := by decide +kernel
theorem c32_10 : zcod 32 10 = some (.aload_n 0, 1, 0, 0, 0, 0) := by decide +kernel
theorem c32_11 : zcod 32 11 = some (.getfield 9, 3, 0, 1, 129, 0) := by decide +kernel
theorem c32_14 : zcod 32 14 = some (.getstatic 39, 3, 7, 0, 127, 0) := by decide +kernel
theorem c32_17 : zcod 32 17 = some (.if_acmp .eq 28, 3, 45, 0, 0, 0) := by decide +kernel
theorem c32_20 : zcod 32 20 = some (.iload_n 2, 1, 0, 0, 0, 0) := by decide +kernel
theorem c32_21 : zcod 32 21 = some (.iload_n 1, 1, 0, 0, 0, 0) := by decide +kernel
theorem c32_22 : zcod 32 22 = some (.iload_n 2, 1, 0, 0, 0, 0) := by decide +kernel
theorem c32_23 : zcod 32 23 = some (.isub, 1, 0, 0, 0, 0) := by decide +kernel
theorem c32_24 : zcod 32 24 = some (.iload_n 2, 1, 0, 0, 0, 0) := by decide +kernel
theorem c32_25 : zcod 32 25 = some (.iconst 1, 1, 0, 0, 0, 0) := by decide +kernel
theorem c32_26 : zcod 32 26 = some (.ishr, 1, 0, 0, 0, 0) := by decide +kernel
theorem c32_27 : zcod 32 27 = some (.invokestatic 73, 3, 33, 3, 404, 0) := by decide +kernel
theorem c32_30 : zcod 32 30 = some (.istore_n 3, 1, 0, 0, 0, 0) := by decide +kernel
theorem c32_31 : zcod 32 31 = some (.aload_n 0, 1, 0, 0, 0, 0) := by decide +kernel
theorem c32_32 : zcod 32 32 = some (.aload_n 0, 1, 0, 0, 0, 0) := by decide +kernel
theorem c32_33 : zcod 32 33 = some (.getfield 9, 3, 0, 1, 129, 0) := by decide +kernel
theorem c32_36 : zcod 32 36 = some (.iload_n 3, 1, 0, 0, 0, 0) := by decide +kernel
theorem c32_37 : zcod 32 37 = some (.invokestatic 66, 3, 36, 2, 414, 0) := by decide +kernel
theorem c32_40 : zcod 32 40 = some (.dup_x1, 1, 0, 0, 0, 0) := by decide +kernel
theorem c32_41 : zcod 32 41 = some (.putfield 9, 3, 0, 1, 129, 0) := by decide +kernel
theorem c32_44 : zcod 32 44 = some (.areturn, 1, 0, 0, 0, 0) := by decide +kernel
theorem c32_45 : zcod 32 45 = some (.aload_n 0, 1, 0, 0, 0, 0) := by decide +kernel
theorem c32_46 : zcod 32 46 = some (.bipush 10, 2, 0, 0, 0, 0) := by decide +kernel
theorem c32_48 : zcod 32 48 = some (.iload_n 1, 1, 0, 0, 0, 0) := by decide +kernel
theorem c32_49 : zcod 32 49 = some (.invokestatic 79, 3, 34, 2, 443, 0) := by decide +kernel
theorem c32_52 : zcod 32 52 = some (.anewarray 7, 3, 0, 0, 444, 0) := by decide +kernel
theorem c32_55 : zcod 32 55 = some (.dup_x1, 1, 0, 0, 0, 0) := by decide +kernel
theorem c32_56 : zcod 32 56 = some (.putfield 9, 3, 0, 1, 129, 0) := by decide +kernel
theorem c32_59 : zcod 32 59 = some (.areturn, 1, 0, 0, 0, 0) := by decide +kernel
set_option maxRecDepth 100000 in
theorem b32_0 (l0 : Option Nat) (l1 : Int32) (h : zH) : zev 32 0 [some (vR l0), some (vI l1), none, none] [] h = (zgR h l0 0 1 fun x1 => (zal h x1 fun x2 => (if 0 < x2 then zev 32 20 [some (vR l0), some (vI l1), some (vI x2), none] [] h else (zgR h l0 0 1 fun x3 => (zac x3 (some 7) ((zcI 34 [vI 10, vI l1] h fun x5 h4 => (zna h4 103 x5 fun x6 h7 => (zpR h7 l0 0 1 x6 fun h8 => some (some (vR x6), h8))))) (zev 32 20 [some (vR l0), some (vI l1), some (vI x2), none] [] h)))))) := by
  refine (zv_an c32_0 rfl).trans ?_
  refine (zv_gR c32_1 zf0_1).trans (zgR_c fun x1 => ?_)
  refine (zv_al2 c32_4).trans (zal_c fun x2 => ?_)
  refine (zv_it c32_5 rfl).trans ?_
  refine (zv_in c32_6 rfl).trans ?_
  refine (zv_ifgt c32_7).trans (zif_c ?_ ?_)
  · rfl
  · refine (zv_an c32_10 rfl).trans ?_
    refine (zv_gR c32_11 zf0_1).trans (zgR_c fun x3 => ?_)
    refine (zv_gs c32_14).trans ?_
    refine (zv_aeq c32_17).trans (zac_c ?_ ?_)
    · refine (zv_an c32_45 rfl).trans ?_
      refine (zv_bi (v := 10) c32_46 (by decide)).trans ?_
      refine (zv_in c32_48 rfl).trans ?_
      refine (zv_stI c32_49 (by decide) rfl zL_34 (Or.inl zrt_34) rfl rfl).trans (zcI_c fun x5 h4 => ?_)
      refine (zv_an2 c32_52).trans (zna_c fun x6 h7 => ?_)
      refine (zv_dx1 c32_55 rfl rfl).trans ?_
      refine (zv_pR c32_56 zf0_1).trans (zpR_c fun h8 => ?_)
      exact zv_ar c32_59 zrt_32
    · rfl
theorem e32 (l0 : Option Nat) (l1 : Int32) (h : zH) : zcall 32 [vR l0, vI l1] h = (zgR h l0 0 1 fun x1 => (zal h x1 fun x2 => (if 0 < x2 then zev 32 20 [some (vR l0), some (vI l1), some (vI x2), none] [] h else (zgR h l0 0 1 fun x3 => (zac x3 (some 7) ((zcI 34 [vI 10, vI l1] h fun x5 h4 => (zna h4 103 x5 fun x6 h7 => (zpR h7 l0 0 1 x6 fun h8 => some (some (vR x6), h8))))) (zev 32 20 [some (vR l0), some (vI l1), some (vI x2), none] [] h)))))) := by
  refine Eq.trans ?_ (b32_0 l0 l1 h)
  unfold zcall zent
  rw [zL_32]
  rfl
set_option maxRecDepth 100000 in
theorem b32_20 (l0 : Option Nat) (l1 : Int32) (l2 : Int32) (l3 : Option zV) (h : zH) : zev 32 20 [some (vR l0), some (vI l1), some (vI l2), l3] [] h = (zcI 33 [vI l2, vI (l1 - l2), vI (l2 >>> (1 &&& 31))] h fun x2 h1 => (zgR h1 l0 0 1 fun x3 => (zcO h1 x3 x2 fun x4 h5 => (zpR h5 l0 0 1 x4 fun h6 => some (some (vR x4), h6))))) := by
  refine (zv_in c32_20 rfl).trans ?_
  refine (zv_in c32_21 rfl).trans ?_
  refine (zv_in c32_22 rfl).trans ?_
  refine (zv_isub c32_23).trans ?_
  refine (zv_in c32_24 rfl).trans ?_
  refine (zv_k (v := 1) c32_25 (by decide)).trans ?_
  refine (zv_ishr c32_26).trans ?_
  refine (zv_stI c32_27 (by decide) rfl zL_33 (Or.inl zrt_33) rfl rfl).trans (zcI_c fun x2 h1 => ?_)
  refine (zv_it c32_30 rfl).trans ?_
  refine (zv_an c32_31 rfl).trans ?_
  refine (zv_an c32_32 rfl).trans ?_
  refine (zv_gR c32_33 zf0_1).trans (zgR_c fun x3 => ?_)
  refine (zv_in c32_36 rfl).trans ?_
  refine (zv_cO c32_37 (zle rfl)).trans (zcO_c fun x4 h5 => ?_)
  refine (zv_dx1 c32_40 rfl rfl).trans ?_
  refine (zv_pR c32_41 zf0_1).trans (zpR_c fun h6 => ?_)
  exact zv_ar c32_44 zrt_32
theorem c33_0 : zcod 33 0 = some (.iload_n 0, 1, 0, 0, 0, 0) := by decide +kernel
theorem c33_1 : zcod 33 1 = some (.iload_n 1, 1, 0, 0, 0, 0) := by decide +kernel
theorem c33_2 : zcod 33 2 = some (.iload_n 2, 1, 0, 0, 0, 0) := by decide +kernel
theorem c33_3 : zcod 33 3 = some (.invokestatic 194, 3, 34, 2, 407, 0) := by decide +kernel
theorem c33_6 : zcod 33 6 = some (.iadd, 1, 0, 0, 0, 0) := by decide +kernel
theorem c33_7 : zcod 33 7 = some (.istore_n 3, 1, 0, 0, 0, 0) := by decide +kernel
theorem c33_8 : zcod 33 8 = some (.iconst 0, 1, 0, 0, 0, 0) := by decide +kernel
theorem c33_9 : zcod 33 9 = some (.iload_n 3, 1, 0, 0, 0, 0) := by decide +kernel
theorem c33_10 : zcod 33 10 = some (.if_icmp .ge 11, 3, 21, 0, 0, 0) := by decide +kernel
theorem c33_13 : zcod 33 13 = some (.iload_n 3, 1, 0, 0, 0, 0) := by decide +kernel
theorem c33_14 : zcod 33 14 = some (.ldc 200, 2, 0, 0, 410, 2147483639) := by decide +kernel
theorem c33_16 : zcod 33 16 = some (.if_icmp .gt 5, 3, 21, 0, 0, 0) := by decide +kernel
theorem c33_19 : zcod 33 19 = some (.iload_n 3, 1, 0, 0, 0, 0) := by decide +kernel
theorem c33_20 : zcod 33 20 = some (.ireturn, 1, 0, 0, 0, 0) := by decide +kernel
theorem c33_21 : zcod 33 21 = some (.iload_n 0, 1, 0, 0, 0, 0) := by decide +kernel
theorem c33_22 : zcod 33 22 = some (.iload_n 1, 1, 0, 0, 0, 0) := by decide +kernel
theorem c33_23 : zcod 33 23 = some (.invokestatic 201, 3, 35, 2, 411, 0) := by decide +kernel
theorem c33_26 : zcod 33 26 = some (.ireturn, 1, 0, 0, 0, 0) := by decide +kernel
set_option maxRecDepth 100000 in
theorem b33_0 (l0 : Int32) (l1 : Int32) (l2 : Int32) (h : zH) : zev 33 0 [some (vI l0), some (vI l1), some (vI l2), none] [] h = (zcI 34 [vI l1, vI l2] h fun x2 h1 => (if 0 < (l0 + x2) then (if 2147483639 < (l0 + x2) then (zcI 35 [vI l0, vI l1] h1 fun x4 h3 => some (some (vI x4), h3)) else some (some (vI (l0 + x2)), h1)) else (zcI 35 [vI l0, vI l1] h1 fun x6 h5 => some (some (vI x6), h5)))) := by
  refine (zv_in c33_0 rfl).trans ?_
  refine (zv_in c33_1 rfl).trans ?_
  refine (zv_in c33_2 rfl).trans ?_
  refine (zv_stI c33_3 (by decide) rfl zL_34 (Or.inl zrt_34) rfl rfl).trans (zcI_c fun x2 h1 => ?_)
  refine (zv_iadd c33_6).trans ?_
  refine (zv_it c33_7 rfl).trans ?_
  refine (zv_k (v := 0) c33_8 (by decide)).trans ?_
  refine (zv_in c33_9 rfl).trans ?_
  refine (zv_icge c33_10).trans (zif_c ?_ ?_)
  · refine (zv_in c33_13 rfl).trans ?_
    refine (zv_ldc (v := 2147483639) c33_14 (by decide)).trans ?_
    refine (zv_icgt c33_16).trans (zif_c ?_ ?_)
    · refine (zv_in c33_21 rfl).trans ?_
      refine (zv_in c33_22 rfl).trans ?_
      refine (zv_stI c33_23 (by decide) rfl zL_35 (Or.inl zrt_35) rfl rfl).trans (zcI_c fun x4 h3 => ?_)
      exact zv_ir c33_26 zrt_33
    · refine (zv_in c33_19 rfl).trans ?_
      exact zv_ir c33_20 zrt_33
  · refine (zv_in c33_21 rfl).trans ?_
    refine (zv_in c33_22 rfl).trans ?_
    refine (zv_stI c33_23 (by decide) rfl zL_35 (Or.inl zrt_35) rfl rfl).trans (zcI_c fun x6 h5 => ?_)
    exact zv_ir c33_26 zrt_33
theorem e33 (l0 : Int32) (l1 : Int32) (l2 : Int32) (h : zH) : zcall 33 [vI l0, vI l1, vI l2] h = (zcI 34 [vI l1, vI l2] h fun x2 h1 => (if 0 < (l0 + x2) then (if 2147483639 < (l0 + x2) then (zcI 35 [vI l0, vI l1] h1 fun x4 h3 => some (some (vI x4), h3)) else some (some (vI (l0 + x2)), h1)) else (zcI 35 [vI l0, vI l1] h1 fun x6 h5 => some (some (vI x6), h5)))) := by
  refine Eq.trans ?_ (b33_0 l0 l1 l2 h)
  unfold zcall zent
  rw [zL_33]
  rfl
theorem c34_0 : zcod 34 0 = some (.iload_n 0, 1, 0, 0, 0, 0) := by decide +kernel
theorem c34_1 : zcod 34 1 = some (.iload_n 1, 1, 0, 0, 0, 0) := by decide +kernel
theorem c34_2 : zcod 34 2 = some (.if_icmp .lt 7, 3, 9, 0, 0, 0) := by decide +kernel
theorem c34_5 : zcod 34 5 = some (.iload_n 0, 1, 0, 0, 0, 0) := by decide +kernel
theorem c34_6 : zcod 34 6 = some (.goto 4, 3, 10, 0, 0, 0) := by decide +kernel
theorem c34_9 : zcod 34 9 = some (.iload_n 1, 1, 0, 0, 0, 0) := by decide +kernel
theorem c34_10 : zcod 34 10 = some (.ireturn, 1, 0, 0, 0, 0) := by decide +kernel
set_option maxRecDepth 100000 in
theorem b34_0 (l0 : Int32) (l1 : Int32) (h : zH) : zev 34 0 [some (vI l0), some (vI l1)] [] h = (if l0 < l1 then some (some (vI l1), h) else some (some (vI l0), h)) := by
  refine (zv_in c34_0 rfl).trans ?_
  refine (zv_in c34_1 rfl).trans ?_
  refine (zv_iclt c34_2).trans (zif_c ?_ ?_)
  · refine (zv_in c34_9 rfl).trans ?_
    exact zv_ir c34_10 zrt_34
  · refine (zv_in c34_5 rfl).trans ?_
    refine (zv_goto c34_6).trans ?_
    exact zv_ir c34_10 zrt_34
theorem e34 (l0 : Int32) (l1 : Int32) (h : zH) : zcall 34 [vI l0, vI l1] h = (if l0 < l1 then some (some (vI l1), h) else some (some (vI l0), h)) := by
  refine Eq.trans ?_ (b34_0 l0 l1 h)
  unfold zcall zent
  rw [zL_34]
  rfl
theorem c38_0 : zcod 38 0 = some (.iload_n 0, 1, 0, 0, 0, 0) := by decide +kernel
theorem c38_1 : zcod 38 1 = some (.iload_n 1, 1, 0, 0, 0, 0) := by decide +kernel
theorem c38_2 : zcod 38 2 = some (.if_icmp .gt 7, 3, 9, 0, 0, 0) := by decide +kernel
theorem c38_5 : zcod 38 5 = some (.iload_n 0, 1, 0, 0, 0, 0) := by decide +kernel
theorem c38_6 : zcod 38 6 = some (.goto 4, 3, 10, 0, 0, 0) := by decide +kernel
theorem c38_9 : zcod 38 9 = some (.iload_n 1, 1, 0, 0, 0, 0) := by decide +kernel
theorem c38_10 : zcod 38 10 = some (.ireturn, 1, 0, 0, 0, 0) := by decide +kernel
set_option maxRecDepth 100000 in
theorem b38_0 (l0 : Int32) (l1 : Int32) (h : zH) : zev 38 0 [some (vI l0), some (vI l1)] [] h = (if l1 < l0 then some (some (vI l1), h) else some (some (vI l0), h)) := by
  refine (zv_in c38_0 rfl).trans ?_
  refine (zv_in c38_1 rfl).trans ?_
  refine (zv_icgt c38_2).trans (zif_c ?_ ?_)
  · refine (zv_in c38_9 rfl).trans ?_
    exact zv_ir c38_10 zrt_38
  · refine (zv_in c38_5 rfl).trans ?_
    refine (zv_goto c38_6).trans ?_
    exact zv_ir c38_10 zrt_38
theorem e38 (l0 : Int32) (l1 : Int32) (h : zH) : zcall 38 [vI l0, vI l1] h = (if l1 < l0 then some (some (vI l1), h) else some (some (vI l0), h)) := by
  refine Eq.trans ?_ (b38_0 l0 l1 h)
  unfold zcall zent
  rw [zL_38]
  rfl
theorem c39_0 : zcod 39 0 = some (.iload_n 2, 1, 0, 0, 0, 0) := by decide +kernel
theorem c39_1 : zcod 39 1 = some (.istore 6, 2, 0, 0, 0, 0) := by decide +kernel
theorem c39_3 : zcod 39 3 = some (.iload 6, 2, 0, 0, 0, 0) := by decide +kernel
theorem c39_5 : zcod 39 5 = some (.iload_n 2, 1, 0, 0, 0, 0) := by decide +kernel
theorem c39_6 : zcod 39 6 = some (.iload 4, 2, 0, 0, 0, 0) := by decide +kernel
theorem c39_8 : zcod 39 8 = some (.iadd, 1, 0, 0, 0, 0) := by decide +kernel
theorem c39_9 : zcod 39 9 = some (.if_icmp .ge 68, 3, 77, 0, 0, 0) := by decide +kernel
theorem c39_12 : zcod 39 12 = some (.iload_n 1, 1, 0, 0, 0, 0) := by decide +kernel
theorem c39_13 : zcod 39 13 = some (.istore 7, 2, 0, 0, 0, 0) := by decide +kernel
theorem c39_15 : zcod 39 15 = some (.iload 7, 2, 0, 0, 0, 0) := by decide +kernel
theorem c39_17 : zcod 39 17 = some (.iload_n 1, 1, 0, 0, 0, 0) := by decide +kernel
theorem c39_18 : zcod 39 18 = some (.iload_n 3, 1, 0, 0, 0, 0) := by decide +kernel
theorem c39_19 : zcod 39 19 = some (.iadd, 1, 0, 0, 0, 0) := by decide +kernel
theorem c39_20 : zcod 39 20 = some (.if_icmp .ge 51, 3, 71, 0, 0, 0) := by decide +kernel
theorem c39_23 : zcod 39 23 = some (.iload 7, 2, 0, 0, 0, 0) := by decide +kernel
theorem c39_25 : zcod 39 25 = some (.iload 6, 2, 0, 0, 0, 0) := by decide +kernel
theorem c39_27 : zcod 39 27 = some (.invokestatic 32, 3, 26, 2, 293, 1) := by decide +kernel
theorem c39_30 : zcod 39 30 = some (.ifCond .eq 35, 3, 65, 0, 0, 0) := by decide +kernel
theorem c39_33 : zcod 39 33 = some (.aload_n 0, 1, 0, 0, 0, 0) := by decide +kernel
theorem c39_34 : zcod 39 34 = some (.getfield 9, 3, 5, 0, 145, 0) := by decide +kernel
theorem c39_37 : zcod 39 37 = some (.iload 6, 2, 0, 0, 0, 0) := by decide +kernel
theorem c39_39 : zcod 39 39 = some (.bipush 20, 2, 0, 0, 0, 0) := by decide +kernel
theorem c39_41 : zcod 39 41 = some (.imul, 1, 0, 0, 0, 0) := by decide +kernel
theorem c39_42 : zcod 39 42 = some (.iload 7, 2, 0, 0, 0, 0) := by decide +kernel
theorem c39_44 : zcod 39 44 = some (.iadd, 1, 0, 0, 0, 0) := by decide +kernel
theorem c39_45 : zcod 39 45 = some (.iaload, 1, 0, 0, 0, 0) := by decide +kernel
theorem c39_46 : zcod 39 46 = some (.iconst (-1), 1, 0, 0, 0, 0) := by decide +kernel
theorem c39_47 : zcod 39 47 = some (.if_icmp .ne 18, 3, 65, 0, 0, 0) := by decide +kernel
theorem c39_50 : zcod 39 50 = some (.aload_n 0, 1, 0, 0, 0, 0) := by decide +kernel
theorem c39_51 : zcod 39 51 = some (.getfield 9, 3, 5, 0, 145, 0) := by decide +kernel
theorem c39_54 : zcod 39 54 = some (.iload 6, 2, 0, 0, 0, 0) := by decide +kernel
theorem c39_56 : zcod 39 56 = some (.bipush 20, 2, 0, 0, 0, 0) := by decide +kernel
theorem c39_58 : zcod 39 58 = some (.imul, 1, 0, 0, 0, 0) := by decide +kernel
theorem c39_59 : zcod 39 59 = some (.iload 7, 2, 0, 0, 0, 0) := by decide +kernel
theorem c39_61 : zcod 39 61 = some (.iadd, 1, 0, 0, 0, 0) := by decide +kernel
theorem c39_62 : zcod 39 62 = some (.iload 5, 2, 0, 0, 0, 0) := by decide +kernel
theorem c39_64 : zcod 39 64 = some (.iastore, 1, 0, 0, 0, 0) := by decide +kernel
theorem c39_65 : zcod 39 65 = some (.iinc 7 1, 3, 0, 0, 0, 0) := by decide +kernel
theorem c39_68 : zcod 39 68 = some (.goto (-53), 3, 15, 0, 0, 0) := by decide +kernel
theorem c39_71 : zcod 39 71 = some (.iinc 6 1, 3, 0, 0, 0, 0) := by decide +kernel
theorem c39_74 : zcod 39 74 = some (.goto (-71), 3, 3, 0, 0, 0) := by decide +kernel
theorem c39_77 : zcod 39 77 = some (.return_, 1, 0, 0, 0, 0) := by decide +kernel
set_option maxRecDepth 100000 in
theorem b39_0 (l0 : Option Nat) (l1 : Int32) (l2 : Int32) (l3 : Int32) (l4 : Int32) (l5 : Int32) (h : zH) : zev 39 0 [some (vR l0), some (vI l1), some (vI l2), some (vI l3), some (vI l4), some (vI l5), none, none] [] h = zev 39 3 [some (vR l0), some (vI l1), some (vI l2), some (vI l3), some (vI l4), some (vI l5), some (vI l2), none] [] h := by
  refine (zv_in c39_0 rfl).trans ?_
  refine (zv_is c39_1 rfl).trans ?_
  rfl
theorem e39 (l0 : Option Nat) (l1 : Int32) (l2 : Int32) (l3 : Int32) (l4 : Int32) (l5 : Int32) (h : zH) : zcall 39 [vR l0, vI l1, vI l2, vI l3, vI l4, vI l5] h = zev 39 3 [some (vR l0), some (vI l1), some (vI l2), some (vI l3), some (vI l4), some (vI l5), some (vI l2), none] [] h := by
  refine Eq.trans ?_ (b39_0 l0 l1 l2 l3 l4 l5 h)
  unfold zcall zent
  rw [zL_39]
  rfl
set_option maxRecDepth 100000 in
theorem b39_3 (l0 : Option Nat) (l1 : Int32) (l2 : Int32) (l3 : Int32) (l4 : Int32) (l5 : Int32) (l6 : Int32) (l7 : Option zV) (h : zH) : zev 39 3 [some (vR l0), some (vI l1), some (vI l2), some (vI l3), some (vI l4), some (vI l5), some (vI l6), l7] [] h = (if l6 < (l2 + l4) then zev 39 15 [some (vR l0), some (vI l1), some (vI l2), some (vI l3), some (vI l4), some (vI l5), some (vI l6), some (vI l1)] [] h else some (none, h)) := by
  refine (zv_il c39_3 rfl).trans ?_
  refine (zv_in c39_5 rfl).trans ?_
  refine (zv_il c39_6 rfl).trans ?_
  refine (zv_iadd c39_8).trans ?_
  refine (zv_icge c39_9).trans (zif_c ?_ ?_)
  · refine (zv_in c39_12 rfl).trans ?_
    refine (zv_is c39_13 rfl).trans ?_
    rfl
  · exact zv_vr c39_77 zrt_39
set_option maxRecDepth 100000 in
theorem b39_15 (l0 : Option Nat) (l1 : Int32) (l2 : Int32) (l3 : Int32) (l4 : Int32) (l5 : Int32) (l6 : Int32) (l7 : Int32) (h : zH) : zev 39 15 [some (vR l0), some (vI l1), some (vI l2), some (vI l3), some (vI l4), some (vI l5), some (vI l6), some (vI l7)] [] h = (if l7 < (l1 + l3) then (zcI 26 [vI l7, vI l6] h fun x2 h1 => (if x2 = 0 then zev 39 15 [some (vR l0), some (vI l1), some (vI l2), some (vI l3), some (vI l4), some (vI l5), some (vI l6), some (vI (l7 + 1))] [] h1 else (zgR h1 l0 5 0 fun x3 => (zaI h1 x3 ((l6 * 20) + l7) fun x4 => (if x4 = (-1) then (zgR h1 l0 5 0 fun x5 => (ztI h1 x5 ((l6 * 20) + l7) l5 fun h6 => zev 39 15 [some (vR l0), some (vI l1), some (vI l2), some (vI l3), some (vI l4), some (vI l5), some (vI l6), some (vI (l7 + 1))] [] h6)) else zev 39 15 [some (vR l0), some (vI l1), some (vI l2), some (vI l3), some (vI l4), some (vI l5), some (vI l6), some (vI (l7 + 1))] [] h1))))) else zev 39 3 [some (vR l0), some (vI l1), some (vI l2), some (vI l3), some (vI l4), some (vI l5), some (vI (l6 + 1)), some (vI l7)] [] h) := by
  refine (zv_il c39_15 rfl).trans ?_
  refine (zv_in c39_17 rfl).trans ?_
  refine (zv_in c39_18 rfl).trans ?_
  refine (zv_iadd c39_19).trans ?_
  refine (zv_icge c39_20).trans (zif_c ?_ ?_)
  · refine (zv_il c39_23 rfl).trans ?_
    refine (zv_il c39_25 rfl).trans ?_
    refine (zv_stI c39_27 (by decide) rfl zL_26 (Or.inr zrt_26) rfl rfl).trans (zcI_c fun x2 h1 => ?_)
    refine (zv_ifeq c39_30).trans (zif_c ?_ ?_)
    · refine (zv_inc (y := 1) c39_65 rfl (by decide) rfl).trans ?_
      refine (zv_goto c39_68).trans ?_
      rfl
    · refine (zv_an c39_33 rfl).trans ?_
      refine (zv_gR c39_34 zf5_0).trans (zgR_c fun x3 => ?_)
      refine (zv_il c39_37 rfl).trans ?_
      refine (zv_bi (v := 20) c39_39 (by decide)).trans ?_
      refine (zv_imul c39_41).trans ?_
      refine (zv_il c39_42 rfl).trans ?_
      refine (zv_iadd c39_44).trans ?_
      refine (zv_aI c39_45).trans (zaI_c fun x4 => ?_)
      refine (zv_k (v := -1) c39_46 (by decide)).trans ?_
      refine (zv_icne c39_47).trans (zif_c ?_ ?_)
      · refine (zv_an c39_50 rfl).trans ?_
        refine (zv_gR c39_51 zf5_0).trans (zgR_c fun x5 => ?_)
        refine (zv_il c39_54 rfl).trans ?_
        refine (zv_bi (v := 20) c39_56 (by decide)).trans ?_
        refine (zv_imul c39_58).trans ?_
        refine (zv_il c39_59 rfl).trans ?_
        refine (zv_iadd c39_61).trans ?_
        refine (zv_il c39_62 rfl).trans ?_
        refine (zv_tI c39_64).trans (ztI_c fun h6 => ?_)
        refine (zv_inc (y := 1) c39_65 rfl (by decide) rfl).trans ?_
        refine (zv_goto c39_68).trans ?_
        rfl
      · refine (zv_inc (y := 1) c39_65 rfl (by decide) rfl).trans ?_
        refine (zv_goto c39_68).trans ?_
        rfl
  · refine (zv_inc (y := 1) c39_71 rfl (by decide) rfl).trans ?_
    refine (zv_goto c39_74).trans ?_
    rfl
theorem c40_0 : zcod 40 0 = some (.aload_n 0, 1, 0, 0, 0, 0) := by decide +kernel
theorem c40_1 : zcod 40 1 = some (.getfield 15, 3, 6, 1, 81, 0) := by decide +kernel
theorem c40_4 : zcod 40 4 = some (.iconst 0, 1, 0, 0, 0, 0) := by decide +kernel
theorem c40_5 : zcod 40 5 = some (.iaload, 1, 0, 0, 0, 0) := by decide +kernel
theorem c40_6 : zcod 40 6 = some (.istore_n 3, 1, 0, 0, 0, 0) := by decide +kernel
theorem c40_7 : zcod 40 7 = some (.aload_n 0, 1, 0, 0, 0, 0) := by decide +kernel
theorem c40_8 : zcod 40 8 = some (.getfield 15, 3, 6, 1, 81, 0) := by decide +kernel
theorem c40_11 : zcod 40 11 = some (.iconst 1, 1, 0, 0, 0, 0) := by decide +kernel
theorem c40_12 : zcod 40 12 = some (.iaload, 1, 0, 0, 0, 0) := by decide +kernel
theorem c40_13 : zcod 40 13 = some (.istore 4, 2, 0, 0, 0, 0) := by decide +kernel
theorem c40_15 : zcod 40 15 = some (.aload_n 0, 1, 0, 0, 0, 0) := by decide +kernel
theorem c40_16 : zcod 40 16 = some (.getfield 15, 3, 6, 1, 81, 0) := by decide +kernel
theorem c40_19 : zcod 40 19 = some (.iconst 2, 1, 0, 0, 0, 0) := by decide +kernel
theorem c40_20 : zcod 40 20 = some (.iaload, 1, 0, 0, 0, 0) := by decide +kernel
theorem c40_21 : zcod 40 21 = some (.ifCond .ne 12, 3, 33, 0, 0, 0) := by decide +kernel
theorem c40_24 : zcod 40 24 = some (.aload_n 0, 1, 0, 0, 0, 0) := by decide +kernel
theorem c40_25 : zcod 40 25 = some (.getfield 15, 3, 6, 1, 81, 0) := by decide +kernel
theorem c40_28 : zcod 40 28 = some (.iconst 3, 1, 0, 0, 0, 0) := by decide +kernel
theorem c40_29 : zcod 40 29 = some (.iaload, 1, 0, 0, 0, 0) := by decide +kernel
theorem c40_30 : zcod 40 30 = some (.goto 4, 3, 34, 0, 0, 0) := by decide +kernel
theorem c40_33 : zcod 40 33 = some (.iconst 1, 1, 0, 0, 0, 0) := by decide +kernel
theorem c40_34 : zcod 40 34 = some (.istore 5, 2, 0, 0, 0, 0) := by decide +kernel
theorem c40_36 : zcod 40 36 = some (.aload_n 0, 1, 0, 0, 0, 0) := by decide +kernel
theorem c40_37 : zcod 40 37 = some (.getfield 15, 3, 6, 1, 81, 0) := by decide +kernel
theorem c40_40 : zcod 40 40 = some (.iconst 2, 1, 0, 0, 0, 0) := by decide +kernel
theorem c40_41 : zcod 40 41 = some (.iaload, 1, 0, 0, 0, 0) := by decide +kernel
theorem c40_42 : zcod 40 42 = some (.ifCond .ne 7, 3, 49, 0, 0, 0) := by decide +kernel
theorem c40_45 : zcod 40 45 = some (.iconst 1, 1, 0, 0, 0, 0) := by decide +kernel
theorem c40_46 : zcod 40 46 = some (.goto 9, 3, 55, 0, 0, 0) := by decide +kernel
theorem c40_49 : zcod 40 49 = some (.aload_n 0, 1, 0, 0, 0, 0) := by decide +kernel
theorem c40_50 : zcod 40 50 = some (.getfield 15, 3, 6, 1, 81, 0) := by decide +kernel
theorem c40_53 : zcod 40 53 = some (.iconst 3, 1, 0, 0, 0, 0) := by decide +kernel
theorem c40_54 : zcod 40 54 = some (.iaload, 1, 0, 0, 0, 0) := by decide +kernel
theorem c40_55 : zcod 40 55 = some (.istore 6, 2, 0, 0, 0, 0) := by decide +kernel
theorem c40_57 : zcod 40 57 = some (.aload_n 1, 1, 0, 0, 0, 0) := by decide +kernel
theorem c40_58 : zcod 40 58 = some (.iload_n 3, 1, 0, 0, 0, 0) := by decide +kernel
theorem c40_59 : zcod 40 59 = some (.iload 4, 2, 0, 0, 0, 0) := by decide +kernel
theorem c40_61 : zcod 40 61 = some (.iload 5, 2, 0, 0, 0, 0) := by decide +kernel
theorem c40_63 : zcod 40 63 = some (.iload 6, 2, 0, 0, 0, 0) := by decide +kernel
theorem c40_65 : zcod 40 65 = some (.iconst 1, 1, 0, 0, 0, 0) := by decide +kernel
theorem c40_66 : zcod 40 66 = some (.invokevirtual 107, 3, 24, 5, 285, 0) := by decide +kernel
theorem c40_69 : zcod 40 69 = some (.ifCond .ne 12, 3, 81, 0, 0, 0) := by decide +kernel
theorem c40_72 : zcod 40 72 = some (.aload_n 0, 1, 0, 0, 0, 0) := by decide +kernel
theorem c40_73 : zcod 40 73 = some (.iconst 3, 1, 0, 0, 0, 0) := by decide +kernel
theorem c40_74 : zcod 40 74 = some (.iload_n 2, 1, 0, 0, 0, 0) := by decide +kernel
theorem c40_75 : zcod 40 75 = some (.invokevirtual 96, 3, 20, 2, 270, 0) := by decide +kernel
theorem c40_78 : zcod 40 78 = some (.goto 32, 3, 110, 0, 0, 0) := by decide +kernel
theorem c40_81 : zcod 40 81 = some (.aload_n 1, 1, 0, 0, 0, 0) := by decide +kernel
theorem c40_82 : zcod 40 82 = some (.getfield 38, 3, 5, 3, 151, 0) := by decide +kernel
theorem c40_85 : zcod 40 85 = some (.bipush 12, 2, 0, 0, 0, 0) := by decide +kernel
theorem c40_87 : zcod 40 87 = some (.if_icmp .lt 12, 3, 99, 0, 0, 0) := by decide +kernel
theorem c40_90 : zcod 40 90 = some (.aload_n 0, 1, 0, 0, 0, 0) := by decide +kernel
theorem c40_91 : zcod 40 91 = some (.iconst 4, 1, 0, 0, 0, 0) := by decide +kernel
theorem c40_92 : zcod 40 92 = some (.iload_n 2, 1, 0, 0, 0, 0) := by decide +kernel
theorem c40_93 : zcod 40 93 = some (.invokevirtual 96, 3, 20, 2, 270, 0) := by decide +kernel
theorem c40_96 : zcod 40 96 = some (.goto 14, 3, 110, 0, 0, 0) := by decide +kernel
theorem c40_99 : zcod 40 99 = some (.aload_n 1, 1, 0, 0, 0, 0) := by decide +kernel
theorem c40_100 : zcod 40 100 = some (.iload_n 3, 1, 0, 0, 0, 0) := by decide +kernel
theorem c40_101 : zcod 40 101 = some (.iload 4, 2, 0, 0, 0, 0) := by decide +kernel
theorem c40_103 : zcod 40 103 = some (.iload 5, 2, 0, 0, 0, 0) := by decide +kernel
theorem c40_105 : zcod 40 105 = some (.iload 6, 2, 0, 0, 0, 0) := by decide +kernel
theorem c40_107 : zcod 40 107 = some (.invokevirtual 115, 3, 41, 4, 457, 0) := by decide +kernel
theorem c40_110 : zcod 40 110 = some (.return_, 1, 0, 0, 0, 0) := by decide +kernel
set_option maxRecDepth 100000 in
theorem b40_0 (l0 : Option Nat) (l1 : Option Nat) (l2 : Int32) (h : zH) : zev 40 0 [some (vR l0), some (vR l1), some (vI l2), none, none, none, none] [] h = (zgR h l0 6 1 fun x1 => (zaI h x1 0 fun x2 => (zgR h l0 6 1 fun x3 => (zaI h x3 1 fun x4 => (zgR h l0 6 1 fun x5 => (zaI h x5 2 fun x6 => (if x6 = 0 then (zgR h l0 6 1 fun x7 => (zaI h x7 3 fun x8 => (zgR h l0 6 1 fun x9 => (zaI h x9 2 fun x10 => (if x10 = 0 then zev 40 55 [some (vR l0), some (vR l1), some (vI l2), some (vI x2), some (vI x4), some (vI x8), none] [vI 1] h else (zgR h l0 6 1 fun x11 => (zaI h x11 3 fun x12 => zev 40 55 [some (vR l0), some (vR l1), some (vI l2), some (vI x2), some (vI x4), some (vI x8), none] [vI x12] h))))))) else (zgR h l0 6 1 fun x13 => (zaI h x13 2 fun x14 => (if x14 = 0 then zev 40 55 [some (vR l0), some (vR l1), some (vI l2), some (vI x2), some (vI x4), some (vI 1), none] [vI 1] h else (zgR h l0 6 1 fun x15 => (zaI h x15 3 fun x16 => zev 40 55 [some (vR l0), some (vR l1), some (vI l2), some (vI x2), some (vI x4), some (vI 1), none] [vI x16] h)))))))))))) := by
  refine (zv_an c40_0 rfl).trans ?_
  refine (zv_gR c40_1 zf6_1).trans (zgR_c fun x1 => ?_)
  refine (zv_k (v := 0) c40_4 (by decide)).trans ?_
  refine (zv_aI c40_5).trans (zaI_c fun x2 => ?_)
  refine (zv_it c40_6 rfl).trans ?_
  refine (zv_an c40_7 rfl).trans ?_
  refine (zv_gR c40_8 zf6_1).trans (zgR_c fun x3 => ?_)
  refine (zv_k (v := 1) c40_11 (by decide)).trans ?_
  refine (zv_aI c40_12).trans (zaI_c fun x4 => ?_)
  refine (zv_is c40_13 rfl).trans ?_
  refine (zv_an c40_15 rfl).trans ?_
  refine (zv_gR c40_16 zf6_1).trans (zgR_c fun x5 => ?_)
  refine (zv_k (v := 2) c40_19 (by decide)).trans ?_
  refine (zv_aI c40_20).trans (zaI_c fun x6 => ?_)
  refine (zv_ifne c40_21).trans (zif_c ?_ ?_)
  · refine (zv_an c40_24 rfl).trans ?_
    refine (zv_gR c40_25 zf6_1).trans (zgR_c fun x7 => ?_)
    refine (zv_k (v := 3) c40_28 (by decide)).trans ?_
    refine (zv_aI c40_29).trans (zaI_c fun x8 => ?_)
    refine (zv_goto c40_30).trans ?_
    refine (zv_is c40_34 rfl).trans ?_
    refine (zv_an c40_36 rfl).trans ?_
    refine (zv_gR c40_37 zf6_1).trans (zgR_c fun x9 => ?_)
    refine (zv_k (v := 2) c40_40 (by decide)).trans ?_
    refine (zv_aI c40_41).trans (zaI_c fun x10 => ?_)
    refine (zv_ifne c40_42).trans (zif_c ?_ ?_)
    · refine (zv_k (v := 1) c40_45 (by decide)).trans ?_
      refine (zv_goto c40_46).trans ?_
      rfl
    · refine (zv_an c40_49 rfl).trans ?_
      refine (zv_gR c40_50 zf6_1).trans (zgR_c fun x11 => ?_)
      refine (zv_k (v := 3) c40_53 (by decide)).trans ?_
      refine (zv_aI c40_54).trans (zaI_c fun x12 => ?_)
      rfl
  · refine (zv_k (v := 1) c40_33 (by decide)).trans ?_
    refine (zv_is c40_34 rfl).trans ?_
    refine (zv_an c40_36 rfl).trans ?_
    refine (zv_gR c40_37 zf6_1).trans (zgR_c fun x13 => ?_)
    refine (zv_k (v := 2) c40_40 (by decide)).trans ?_
    refine (zv_aI c40_41).trans (zaI_c fun x14 => ?_)
    refine (zv_ifne c40_42).trans (zif_c ?_ ?_)
    · refine (zv_k (v := 1) c40_45 (by decide)).trans ?_
      refine (zv_goto c40_46).trans ?_
      rfl
    · refine (zv_an c40_49 rfl).trans ?_
      refine (zv_gR c40_50 zf6_1).trans (zgR_c fun x15 => ?_)
      refine (zv_k (v := 3) c40_53 (by decide)).trans ?_
      refine (zv_aI c40_54).trans (zaI_c fun x16 => ?_)
      rfl
theorem e40 (l0 : Option Nat) (l1 : Option Nat) (l2 : Int32) (h : zH) : zcall 40 [vR l0, vR l1, vI l2] h = (zgR h l0 6 1 fun x1 => (zaI h x1 0 fun x2 => (zgR h l0 6 1 fun x3 => (zaI h x3 1 fun x4 => (zgR h l0 6 1 fun x5 => (zaI h x5 2 fun x6 => (if x6 = 0 then (zgR h l0 6 1 fun x7 => (zaI h x7 3 fun x8 => (zgR h l0 6 1 fun x9 => (zaI h x9 2 fun x10 => (if x10 = 0 then zev 40 55 [some (vR l0), some (vR l1), some (vI l2), some (vI x2), some (vI x4), some (vI x8), none] [vI 1] h else (zgR h l0 6 1 fun x11 => (zaI h x11 3 fun x12 => zev 40 55 [some (vR l0), some (vR l1), some (vI l2), some (vI x2), some (vI x4), some (vI x8), none] [vI x12] h))))))) else (zgR h l0 6 1 fun x13 => (zaI h x13 2 fun x14 => (if x14 = 0 then zev 40 55 [some (vR l0), some (vR l1), some (vI l2), some (vI x2), some (vI x4), some (vI 1), none] [vI 1] h else (zgR h l0 6 1 fun x15 => (zaI h x15 3 fun x16 => zev 40 55 [some (vR l0), some (vR l1), some (vI l2), some (vI x2), some (vI x4), some (vI 1), none] [vI x16] h)))))))))))) := by
  refine Eq.trans ?_ (b40_0 l0 l1 l2 h)
  unfold zcall zent
  rw [zL_40]
  rfl
set_option maxRecDepth 100000 in
theorem b40_55 (l0 : Option Nat) (l1 : Option Nat) (l2 : Int32) (l3 : Int32) (l4 : Int32) (l5 : Int32) (l6 : Option zV) (s0 : Int32) (h : zH) : zev 40 55 [some (vR l0), some (vR l1), some (vI l2), some (vI l3), some (vI l4), some (vI l5), l6] [vI s0] h = (zvr h l1 5 (zcI 24 [vR l1, vI l3, vI l4, vI l5, vI s0, vI 1] h fun x2 h1 => (if x2 = 0 then (zvr h1 l0 6 (zcV 20 [vR l0, vI 3, vI l2] h1 fun h3 => some (none, h3))) else (zgI h1 l1 5 3 fun x4 => (if x4 < 12 then (zvr h1 l1 5 (zcV 41 [vR l1, vI l3, vI l4, vI l5, vI s0] h1 fun h5 => some (none, h5))) else (zvr h1 l0 6 (zcV 20 [vR l0, vI 4, vI l2] h1 fun h6 => some (none, h6)))))))) := by
  refine (zv_is c40_55 rfl).trans ?_
  refine (zv_an c40_57 rfl).trans ?_
  refine (zv_in c40_58 rfl).trans ?_
  refine (zv_il c40_59 rfl).trans ?_
  refine (zv_il c40_61 rfl).trans ?_
  refine (zv_il c40_63 rfl).trans ?_
  refine (zv_k (v := 1) c40_65 (by decide)).trans ?_
  refine (zv_viI c40_66 zcn_24 rfl zL_24 (Or.inr zrt_24) rfl rfl).trans (zvr_c (zcI_c fun x2 h1 => ?_))
  refine (zv_ifne c40_69).trans (zif_c ?_ ?_)
  · refine (zv_an c40_72 rfl).trans ?_
    refine (zv_k (v := 3) c40_73 (by decide)).trans ?_
    refine (zv_in c40_74 rfl).trans ?_
    refine (zv_viV c40_75 zcn_20 rfl zL_20 zrt_20 rfl rfl).trans (zvr_c (zcV_c fun h3 => ?_))
    refine (zv_goto c40_78).trans ?_
    exact zv_vr c40_110 zrt_40
  · refine (zv_an c40_81 rfl).trans ?_
    refine (zv_gI c40_82 zg5_3).trans (zgI_c fun x4 => ?_)
    refine (zv_bi (v := 12) c40_85 (by decide)).trans ?_
    refine (zv_iclt c40_87).trans (zif_c ?_ ?_)
    · refine (zv_an c40_99 rfl).trans ?_
      refine (zv_in c40_100 rfl).trans ?_
      refine (zv_il c40_101 rfl).trans ?_
      refine (zv_il c40_103 rfl).trans ?_
      refine (zv_il c40_105 rfl).trans ?_
      refine (zv_viV c40_107 zcn_41 rfl zL_41 zrt_41 rfl rfl).trans (zvr_c (zcV_c fun h5 => ?_))
      exact zv_vr c40_110 zrt_40
    · refine (zv_an c40_90 rfl).trans ?_
      refine (zv_k (v := 4) c40_91 (by decide)).trans ?_
      refine (zv_in c40_92 rfl).trans ?_
      refine (zv_viV c40_93 zcn_20 rfl zL_20 zrt_20 rfl rfl).trans (zvr_c (zcV_c fun h6 => ?_))
      refine (zv_goto c40_96).trans ?_
      exact zv_vr c40_110 zrt_40
theorem c41_0 : zcod 41 0 = some (.aload_n 0, 1, 0, 0, 0, 0) := by decide +kernel
theorem c41_1 : zcod 41 1 = some (.getfield 46, 3, 5, 3, 152, 0) := by decide +kernel
theorem c41_4 : zcod 41 4 = some (.istore 5, 2, 0, 0, 0, 0) := by decide +kernel
theorem c41_6 : zcod 41 6 = some (.aload_n 0, 1, 0, 0, 0, 0) := by decide +kernel
theorem c41_7 : zcod 41 7 = some (.dup, 1, 0, 0, 0, 0) := by decide +kernel
theorem c41_8 : zcod 41 8 = some (.getfield 46, 3, 5, 3, 152, 0) := by decide +kernel
theorem c41_11 : zcod 41 11 = some (.iconst 1, 1, 0, 0, 0, 0) := by decide +kernel
theorem c41_12 : zcod 41 12 = some (.iadd, 1, 0, 0, 0, 0) := by decide +kernel
theorem c41_13 : zcod 41 13 = some (.putfield 46, 3, 5, 3, 152, 0) := by decide +kernel
theorem c41_16 : zcod 41 16 = some (.aload_n 0, 1, 0, 0, 0, 0) := by decide +kernel
theorem c41_17 : zcod 41 17 = some (.iload_n 1, 1, 0, 0, 0, 0) := by decide +kernel
theorem c41_18 : zcod 41 18 = some (.iload_n 2, 1, 0, 0, 0, 0) := by decide +kernel
theorem c41_19 : zcod 41 19 = some (.iload_n 3, 1, 0, 0, 0, 0) := by decide +kernel
theorem c41_20 : zcod 41 20 = some (.iload 4, 2, 0, 0, 0, 0) := by decide +kernel
theorem c41_22 : zcod 41 22 = some (.bipush 100, 2, 0, 0, 0, 0) := by decide +kernel
theorem c41_24 : zcod 41 24 = some (.iload 5, 2, 0, 0, 0, 0) := by decide +kernel
theorem c41_26 : zcod 41 26 = some (.iadd, 1, 0, 0, 0, 0) := by decide +kernel
theorem c41_27 : zcod 41 27 = some (.invokevirtual 61, 3, 39, 5, 445, 0) := by decide +kernel
theorem c41_30 : zcod 41 30 = some (.return_, 1, 0, 0, 0, 0) := by decide +kernel
set_option maxRecDepth 100000 in
theorem b41_0 (l0 : Option Nat) (l1 : Int32) (l2 : Int32) (l3 : Int32) (l4 : Int32) (h : zH) : zev 41 0 [some (vR l0), some (vI l1), some (vI l2), some (vI l3), some (vI l4), none] [] h = (zgI h l0 5 3 fun x1 => (zgI h l0 5 3 fun x2 => (zpI h l0 5 3 (x2 + 1) fun h3 => (zvr h3 l0 5 (zcV 39 [vR l0, vI l1, vI l2, vI l3, vI l4, vI (100 + x1)] h3 fun h4 => some (none, h4)))))) := by
  refine (zv_an c41_0 rfl).trans ?_
  refine (zv_gI c41_1 zg5_3).trans (zgI_c fun x1 => ?_)
  refine (zv_is c41_4 rfl).trans ?_
  refine (zv_an c41_6 rfl).trans ?_
  refine (zv_dup c41_7 rfl).trans ?_
  refine (zv_gI c41_8 zg5_3).trans (zgI_c fun x2 => ?_)
  refine (zv_k (v := 1) c41_11 (by decide)).trans ?_
  refine (zv_iadd c41_12).trans ?_
  refine (zv_pI c41_13 zf5_3).trans (zpI_c fun h3 => ?_)
  refine (zv_an c41_16 rfl).trans ?_
  refine (zv_in c41_17 rfl).trans ?_
  refine (zv_in c41_18 rfl).trans ?_
  refine (zv_in c41_19 rfl).trans ?_
  refine (zv_il c41_20 rfl).trans ?_
  refine (zv_bi (v := 100) c41_22 (by decide)).trans ?_
  refine (zv_il c41_24 rfl).trans ?_
  refine (zv_iadd c41_26).trans ?_
  refine (zv_viV c41_27 zcn_39 rfl zL_39 zrt_39 rfl rfl).trans (zvr_c (zcV_c fun h4 => ?_))
  exact zv_vr c41_30 zrt_41
theorem e41 (l0 : Option Nat) (l1 : Int32) (l2 : Int32) (l3 : Int32) (l4 : Int32) (h : zH) : zcall 41 [vR l0, vI l1, vI l2, vI l3, vI l4] h = (zgI h l0 5 3 fun x1 => (zgI h l0 5 3 fun x2 => (zpI h l0 5 3 (x2 + 1) fun h3 => (zvr h3 l0 5 (zcV 39 [vR l0, vI l1, vI l2, vI l3, vI l4, vI (100 + x1)] h3 fun h4 => some (none, h4)))))) := by
  refine Eq.trans ?_ (b41_0 l0 l1 l2 l3 l4 h)
  unfold zcall zent
  rw [zL_41]
  rfl
theorem c42_0 : zcod 42 0 = some (.iconst 0, 1, 0, 0, 0, 0) := by decide +kernel
theorem c42_1 : zcod 42 1 = some (.istore_n 3, 1, 0, 0, 0, 0) := by decide +kernel
theorem c42_2 : zcod 42 2 = some (.iload_n 3, 1, 0, 0, 0, 0) := by decide +kernel
theorem c42_3 : zcod 42 3 = some (.aload_n 0, 1, 0, 0, 0, 0) := by decide +kernel
theorem c42_4 : zcod 42 4 = some (.getfield 9, 3, 5, 0, 145, 0) := by decide +kernel
theorem c42_7 : zcod 42 7 = some (.arraylength, 1, 0, 0, 0, 0) := by decide +kernel
theorem c42_8 : zcod 42 8 = some (.if_icmp .ge 78, 3, 86, 0, 0, 0) := by decide +kernel
theorem c42_11 : zcod 42 11 = some (.aload_n 0, 1, 0, 0, 0, 0) := by decide +kernel
theorem c42_12 : zcod 42 12 = some (.getfield 9, 3, 5, 0, 145, 0) := by decide +kernel
theorem c42_15 : zcod 42 15 = some (.iload_n 3, 1, 0, 0, 0, 0) := by decide +kernel
theorem c42_16 : zcod 42 16 = some (.iaload, 1, 0, 0, 0, 0) := by decide +kernel
theorem c42_17 : zcod 42 17 = some (.istore 4, 2, 0, 0, 0, 0) := by decide +kernel
theorem c42_19 : zcod 42 19 = some (.iload 4, 2, 0, 0, 0, 0) := by decide +kernel
theorem c42_21 : zcod 42 21 = some (.iload_n 1, 1, 0, 0, 0, 0) := by decide +kernel
theorem c42_22 : zcod 42 22 = some (.if_icmp .lt 14, 3, 36, 0, 0, 0) := by decide +kernel
theorem c42_25 : zcod 42 25 = some (.iload 4, 2, 0, 0, 0, 0) := by decide +kernel
theorem c42_27 : zcod 42 27 = some (.bipush 100, 2, 0, 0, 0, 0) := by decide +kernel
theorem c42_29 : zcod 42 29 = some (.if_icmp .ge 7, 3, 36, 0, 0, 0) := by decide +kernel
theorem c42_32 : zcod 42 32 = some (.iconst 1, 1, 0, 0, 0, 0) := by decide +kernel
theorem c42_33 : zcod 42 33 = some (.goto 4, 3, 37, 0, 0, 0) := by decide +kernel
theorem c42_36 : zcod 42 36 = some (.iconst 0, 1, 0, 0, 0, 0) := by decide +kernel
theorem c42_37 : zcod 42 37 = some (.istore 5, 2, 0, 0, 0, 0) := by decide +kernel
theorem c42_39 : zcod 42 39 = some (.iload 4, 2, 0, 0, 0, 0) := by decide +kernel
theorem c42_41 : zcod 42 41 = some (.bipush 100, 2, 0, 0, 0, 0) := by decide +kernel
theorem c42_43 : zcod 42 43 = some (.iload_n 2, 1, 0, 0, 0, 0) := by decide +kernel
theorem c42_44 : zcod 42 44 = some (.iadd, 1, 0, 0, 0, 0) := by decide +kernel
theorem c42_45 : zcod 42 45 = some (.if_icmp .lt 15, 3, 60, 0, 0, 0) := by decide +kernel
theorem c42_48 : zcod 42 48 = some (.iload 4, 2, 0, 0, 0, 0) := by decide +kernel
theorem c42_50 : zcod 42 50 = some (.sipush 200, 3, 0, 0, 0, 0) := by decide +kernel
theorem c42_53 : zcod 42 53 = some (.if_icmp .ge 7, 3, 60, 0, 0, 0) := by decide +kernel
theorem c42_56 : zcod 42 56 = some (.iconst 1, 1, 0, 0, 0, 0) := by decide +kernel
theorem c42_57 : zcod 42 57 = some (.goto 4, 3, 61, 0, 0, 0) := by decide +kernel
theorem c42_60 : zcod 42 60 = some (.iconst 0, 1, 0, 0, 0, 0) := by decide +kernel
theorem c42_61 : zcod 42 61 = some (.istore 6, 2, 0, 0, 0, 0) := by decide +kernel
theorem c42_63 : zcod 42 63 = some (.iload 5, 2, 0, 0, 0, 0) := by decide +kernel
theorem c42_65 : zcod 42 65 = some (.ifCond .ne 8, 3, 73, 0, 0, 0) := by decide +kernel
theorem c42_68 : zcod 42 68 = some (.iload 6, 2, 0, 0, 0, 0) := by decide +kernel
theorem c42_70 : zcod 42 70 = some (.ifCond .eq 10, 3, 80, 0, 0, 0) := by decide +kernel
theorem c42_73 : zcod 42 73 = some (.aload_n 0, 1, 0, 0, 0, 0) := by decide +kernel
theorem c42_74 : zcod 42 74 = some (.getfield 9, 3, 5, 0, 145, 0) := by decide +kernel
theorem c42_77 : zcod 42 77 = some (.iload_n 3, 1, 0, 0, 0, 0) := by decide +kernel
theorem c42_78 : zcod 42 78 = some (.iconst (-1), 1, 0, 0, 0, 0) := by decide +kernel
theorem c42_79 : zcod 42 79 = some (.iastore, 1, 0, 0, 0, 0) := by decide +kernel
theorem c42_80 : zcod 42 80 = some (.iinc 3 1, 3, 0, 0, 0, 0) := by decide +kernel
theorem c42_83 : zcod 42 83 = some (.goto (-81), 3, 2, 0, 0, 0) := by decide +kernel
theorem c42_86 : zcod 42 86 = some (.aload_n 0, 1, 0, 0, 0, 0) := by decide +kernel
theorem c42_87 : zcod 42 87 = some (.getfield 22, 3, 5, 2, 147, 0) := by decide +kernel
theorem c42_90 : zcod 42 90 = some (.invokevirtual 36, 3, 14, 0, 300, 0) := by decide +kernel
theorem c42_93 : zcod 42 93 = some (.iconst 1, 1, 0, 0, 0, 0) := by decide +kernel
theorem c42_94 : zcod 42 94 = some (.isub, 1, 0, 0, 0, 0) := by decide +kernel
theorem c42_95 : zcod 42 95 = some (.istore_n 3, 1, 0, 0, 0, 0) := by decide +kernel
theorem c42_96 : zcod 42 96 = some (.iload_n 3, 1, 0, 0, 0, 0) := by decide +kernel
theorem c42_97 : zcod 42 97 = some (.iload_n 1, 1, 0, 0, 0, 0) := by decide +kernel
theorem c42_98 : zcod 42 98 = some (.if_icmp .lt 22, 3, 120, 0, 0, 0) := by decide +kernel
theorem c42_101 : zcod 42 101 = some (.iload_n 3, 1, 0, 0, 0, 0) := by decide +kernel
theorem c42_102 : zcod 42 102 = some (.ifCond .lt 18, 3, 120, 0, 0, 0) := by decide +kernel
theorem c42_105 : zcod 42 105 = some (.aload_n 0, 1, 0, 0, 0, 0) := by decide +kernel
theorem c42_106 : zcod 42 106 = some (.getfield 22, 3, 5, 2, 147, 0) := by decide +kernel
theorem c42_109 : zcod 42 109 = some (.iload_n 3, 1, 0, 0, 0, 0) := by decide +kernel
theorem c42_110 : zcod 42 110 = some (.invokevirtual 65, 3, 43, 1, 469, 0) := by decide +kernel
theorem c42_113 : zcod 42 113 = some (.pop, 1, 0, 0, 0, 0) := by decide +kernel
theorem c42_114 : zcod 42 114 = some (.iinc 3 (-1), 3, 0, 0, 0, 0) := by decide +kernel
theorem c42_117 : zcod 42 117 = some (.goto (-21), 3, 96, 0, 0, 0) := by decide +kernel
theorem c42_120 : zcod 42 120 = some (.aload_n 0, 1, 0, 0, 0, 0) := by decide +kernel
theorem c42_121 : zcod 42 121 = some (.iload_n 2, 1, 0, 0, 0, 0) := by decide +kernel
theorem c42_122 : zcod 42 122 = some (.putfield 46, 3, 5, 3, 152, 0) := by decide +kernel
theorem c42_125 : zcod 42 125 = some (.return_, 1, 0, 0, 0, 0) := by decide +kernel
set_option maxRecDepth 100000 in
theorem b42_0 (l0 : Option Nat) (l1 : Int32) (l2 : Int32) (h : zH) : zev 42 0 [some (vR l0), some (vI l1), some (vI l2), none, none, none, none] [] h = zev 42 2 [some (vR l0), some (vI l1), some (vI l2), some (vI 0), none, none, none] [] h := by
  refine (zv_k (v := 0) c42_0 (by decide)).trans ?_
  refine (zv_it c42_1 rfl).trans ?_
  rfl
theorem e42 (l0 : Option Nat) (l1 : Int32) (l2 : Int32) (h : zH) : zcall 42 [vR l0, vI l1, vI l2] h = zev 42 2 [some (vR l0), some (vI l1), some (vI l2), some (vI 0), none, none, none] [] h := by
  refine Eq.trans ?_ (b42_0 l0 l1 l2 h)
  unfold zcall zent
  rw [zL_42]
  rfl
set_option maxRecDepth 100000 in
theorem b42_2 (l0 : Option Nat) (l1 : Int32) (l2 : Int32) (l3 : Int32) (l4 : Option zV) (l5 : Option zV) (l6 : Option zV) (h : zH) : zev 42 2 [some (vR l0), some (vI l1), some (vI l2), some (vI l3), l4, l5, l6] [] h = (zgR h l0 5 0 fun x1 => (zal h x1 fun x2 => (if l3 < x2 then (zgR h l0 5 0 fun x3 => (zaI h x3 l3 fun x4 => (if x4 < l1 then zev 42 37 [some (vR l0), some (vI l1), some (vI l2), some (vI l3), some (vI x4), l5, l6] [vI 0] h else (if x4 < 100 then zev 42 37 [some (vR l0), some (vI l1), some (vI l2), some (vI l3), some (vI x4), l5, l6] [vI 1] h else zev 42 37 [some (vR l0), some (vI l1), some (vI l2), some (vI l3), some (vI x4), l5, l6] [vI 0] h)))) else (zgR h l0 5 2 fun x5 => (zvr h x5 0 (zcI 14 [vR x5] h fun x7 h6 => zev 42 96 [some (vR l0), some (vI l1), some (vI l2), some (vI (x7 - 1)), l4, l5, l6] [] h6)))))) := by
  refine (zv_in c42_2 rfl).trans ?_
  refine (zv_an c42_3 rfl).trans ?_
  refine (zv_gR c42_4 zf5_0).trans (zgR_c fun x1 => ?_)
  refine (zv_al2 c42_7).trans (zal_c fun x2 => ?_)
  refine (zv_icge c42_8).trans (zif_c ?_ ?_)
  · refine (zv_an c42_11 rfl).trans ?_
    refine (zv_gR c42_12 zf5_0).trans (zgR_c fun x3 => ?_)
    refine (zv_in c42_15 rfl).trans ?_
    refine (zv_aI c42_16).trans (zaI_c fun x4 => ?_)
    refine (zv_is c42_17 rfl).trans ?_
    refine (zv_il c42_19 rfl).trans ?_
    refine (zv_in c42_21 rfl).trans ?_
    refine (zv_iclt c42_22).trans (zif_c ?_ ?_)
    · refine (zv_k (v := 0) c42_36 (by decide)).trans ?_
      rfl
    · refine (zv_il c42_25 rfl).trans ?_
      refine (zv_bi (v := 100) c42_27 (by decide)).trans ?_
      refine (zv_icge c42_29).trans (zif_c ?_ ?_)
      · refine (zv_k (v := 1) c42_32 (by decide)).trans ?_
        refine (zv_goto c42_33).trans ?_
        rfl
      · refine (zv_k (v := 0) c42_36 (by decide)).trans ?_
        rfl
  · refine (zv_an c42_86 rfl).trans ?_
    refine (zv_gR c42_87 zf5_2).trans (zgR_c fun x5 => ?_)
    refine (zv_viI c42_90 zcn_14 rfl zL_14 (Or.inl zrt_14) rfl rfl).trans (zvr_c (zcI_c fun x7 h6 => ?_))
    refine (zv_k (v := 1) c42_93 (by decide)).trans ?_
    refine (zv_isub c42_94).trans ?_
    refine (zv_it c42_95 rfl).trans ?_
    rfl
set_option maxRecDepth 100000 in
theorem b42_37 (l0 : Option Nat) (l1 : Int32) (l2 : Int32) (l3 : Int32) (l4 : Int32) (l5 : Option zV) (l6 : Option zV) (s0 : Int32) (h : zH) : zev 42 37 [some (vR l0), some (vI l1), some (vI l2), some (vI l3), some (vI l4), l5, l6] [vI s0] h = (if l4 < (100 + l2) then zev 42 61 [some (vR l0), some (vI l1), some (vI l2), some (vI l3), some (vI l4), some (vI s0), l6] [vI 0] h else (if l4 < 200 then zev 42 61 [some (vR l0), some (vI l1), some (vI l2), some (vI l3), some (vI l4), some (vI s0), l6] [vI 1] h else zev 42 61 [some (vR l0), some (vI l1), some (vI l2), some (vI l3), some (vI l4), some (vI s0), l6] [vI 0] h)) := by
  refine (zv_is c42_37 rfl).trans ?_
  refine (zv_il c42_39 rfl).trans ?_
  refine (zv_bi (v := 100) c42_41 (by decide)).trans ?_
  refine (zv_in c42_43 rfl).trans ?_
  refine (zv_iadd c42_44).trans ?_
  refine (zv_iclt c42_45).trans (zif_c ?_ ?_)
  · refine (zv_k (v := 0) c42_60 (by decide)).trans ?_
    rfl
  · refine (zv_il c42_48 rfl).trans ?_
    refine (zv_si (v := 200) c42_50 (by decide)).trans ?_
    refine (zv_icge c42_53).trans (zif_c ?_ ?_)
    · refine (zv_k (v := 1) c42_56 (by decide)).trans ?_
      refine (zv_goto c42_57).trans ?_
      rfl
    · refine (zv_k (v := 0) c42_60 (by decide)).trans ?_
      rfl
set_option maxRecDepth 100000 in
theorem b42_61 (l0 : Option Nat) (l1 : Int32) (l2 : Int32) (l3 : Int32) (l4 : Int32) (l5 : Int32) (l6 : Option zV) (s0 : Int32) (h : zH) : zev 42 61 [some (vR l0), some (vI l1), some (vI l2), some (vI l3), some (vI l4), some (vI l5), l6] [vI s0] h = (if l5 = 0 then (if s0 = 0 then zev 42 2 [some (vR l0), some (vI l1), some (vI l2), some (vI (l3 + 1)), some (vI l4), some (vI l5), some (vI s0)] [] h else (zgR h l0 5 0 fun x1 => (ztI h x1 l3 (-1) fun h2 => zev 42 2 [some (vR l0), some (vI l1), some (vI l2), some (vI (l3 + 1)), some (vI l4), some (vI l5), some (vI s0)] [] h2))) else (zgR h l0 5 0 fun x3 => (ztI h x3 l3 (-1) fun h4 => zev 42 2 [some (vR l0), some (vI l1), some (vI l2), some (vI (l3 + 1)), some (vI l4), some (vI l5), some (vI s0)] [] h4))) := by
  refine (zv_is c42_61 rfl).trans ?_
  refine (zv_il c42_63 rfl).trans ?_
  refine (zv_ifne c42_65).trans (zif_c ?_ ?_)
  · refine (zv_il c42_68 rfl).trans ?_
    refine (zv_ifeq c42_70).trans (zif_c ?_ ?_)
    · refine (zv_inc (y := 1) c42_80 rfl (by decide) rfl).trans ?_
      refine (zv_goto c42_83).trans ?_
      rfl
    · refine (zv_an c42_73 rfl).trans ?_
      refine (zv_gR c42_74 zf5_0).trans (zgR_c fun x1 => ?_)
      refine (zv_in c42_77 rfl).trans ?_
      refine (zv_k (v := -1) c42_78 (by decide)).trans ?_
      refine (zv_tI c42_79).trans (ztI_c fun h2 => ?_)
      refine (zv_inc (y := 1) c42_80 rfl (by decide) rfl).trans ?_
      refine (zv_goto c42_83).trans ?_
      rfl
  · refine (zv_an c42_73 rfl).trans ?_
    refine (zv_gR c42_74 zf5_0).trans (zgR_c fun x3 => ?_)
    refine (zv_in c42_77 rfl).trans ?_
    refine (zv_k (v := -1) c42_78 (by decide)).trans ?_
    refine (zv_tI c42_79).trans (ztI_c fun h4 => ?_)
    refine (zv_inc (y := 1) c42_80 rfl (by decide) rfl).trans ?_
    refine (zv_goto c42_83).trans ?_
    rfl
set_option maxRecDepth 100000 in
theorem b42_96 (l0 : Option Nat) (l1 : Int32) (l2 : Int32) (l3 : Int32) (l4 : Option zV) (l5 : Option zV) (l6 : Option zV) (h : zH) : zev 42 96 [some (vR l0), some (vI l1), some (vI l2), some (vI l3), l4, l5, l6] [] h = (if l3 < l1 then (zpI h l0 5 3 l2 fun h1 => some (none, h1)) else (if l3 < 0 then (zpI h l0 5 3 l2 fun h2 => some (none, h2)) else (zgR h l0 5 2 fun x3 => (zvr h x3 0 (zcR 43 [vR x3, vI l3] h fun x5 h4 => zev 42 96 [some (vR l0), some (vI l1), some (vI l2), some (vI (l3 + (-1))), l4, l5, l6] [] h4))))) := by
  refine (zv_in c42_96 rfl).trans ?_
  refine (zv_in c42_97 rfl).trans ?_
  refine (zv_iclt c42_98).trans (zif_c ?_ ?_)
  · refine (zv_an c42_120 rfl).trans ?_
    refine (zv_in c42_121 rfl).trans ?_
    refine (zv_pI c42_122 zf5_3).trans (zpI_c fun h1 => ?_)
    exact zv_vr c42_125 zrt_42
  · refine (zv_in c42_101 rfl).trans ?_
    refine (zv_iflt c42_102).trans (zif_c ?_ ?_)
    · refine (zv_an c42_120 rfl).trans ?_
      refine (zv_in c42_121 rfl).trans ?_
      refine (zv_pI c42_122 zf5_3).trans (zpI_c fun h2 => ?_)
      exact zv_vr c42_125 zrt_42
    · refine (zv_an c42_105 rfl).trans ?_
      refine (zv_gR c42_106 zf5_2).trans (zgR_c fun x3 => ?_)
      refine (zv_in c42_109 rfl).trans ?_
      refine (zv_viR c42_110 zcn_43 rfl zL_43 zrt_43 rfl rfl).trans (zvr_c (zcR_c fun x5 h4 => ?_))
      refine (zv_pop c42_113 rfl).trans ?_
      refine (zv_inc (y := -1) c42_114 rfl (by decide) rfl).trans ?_
      refine (zv_goto c42_117).trans ?_
      rfl
theorem c43_0 : zcod 43 0 = some (.iload_n 1, 1, 0, 0, 0, 0) := by decide +kernel
theorem c43_1 : zcod 43 1 = some (.aload_n 0, 1, 0, 0, 0, 0) := by decide +kernel
theorem c43_2 : zcod 43 2 = some (.getfield 48, 3, 0, 2, 130, 0) := by decide +kernel
theorem c43_5 : zcod 43 5 = some (.invokestatic 118, 3, 44, 2, 473, 0) := by decide +kernel
theorem c43_8 : zcod 43 8 = some (.pop, 1, 0, 0, 0, 0) := by decide +kernel
theorem c43_9 : zcod 43 9 = some (.aload_n 0, 1, 0, 0, 0, 0) := by decide +kernel
theorem c43_10 : zcod 43 10 = some (.getfield 9, 3, 0, 1, 129, 0) := by decide +kernel
theorem c43_13 : zcod 43 13 = some (.astore_n 2, 1, 0, 0, 0, 0) := by decide +kernel
theorem c43_14 : zcod 43 14 = some (.aload_n 2, 1, 0, 0, 0, 0) := by decide +kernel
theorem c43_15 : zcod 43 15 = some (.iload_n 1, 1, 0, 0, 0, 0) := by decide +kernel
theorem c43_16 : zcod 43 16 = some (.aaload, 1, 0, 0, 0, 0) := by decide +kernel
theorem c43_17 : zcod 43 17 = some (.astore_n 3, 1, 0, 0, 0, 0) := by decide +kernel
theorem c43_18 : zcod 43 18 = some (.aload_n 0, 1, 0, 0, 0, 0) := by decide +kernel
theorem c43_19 : zcod 43 19 = some (.aload_n 2, 1, 0, 0, 0, 0) := by decide +kernel
theorem c43_20 : zcod 43 20 = some (.iload_n 1, 1, 0, 0, 0, 0) := by decide +kernel
theorem c43_21 : zcod 43 21 = some (.invokevirtual 144, 3, 46, 2, 479, 0) := by decide +kernel
theorem c43_24 : zcod 43 24 = some (.aload_n 3, 1, 0, 0, 0, 0) := by decide +kernel
theorem c43_25 : zcod 43 25 = some (.areturn, 1, 0, 0, 0, 0) := by decide +kernel
set_option maxRecDepth 100000 in
theorem b43_0 (l0 : Option Nat) (l1 : Int32) (h : zH) : zev 43 0 [some (vR l0), some (vI l1), none, none] [] h = (zgI h l0 0 2 fun x1 => (zcI 44 [vI l1, vI x1] h fun x3 h2 => (zgR h2 l0 0 1 fun x4 => (zaR h2 x4 l1 fun x5 => (zvr h2 l0 0 (zcV 46 [vR l0, vR x4, vI l1] h2 fun h6 => some (some (vR x5), h6))))))) := by
  refine (zv_in c43_0 rfl).trans ?_
  refine (zv_an c43_1 rfl).trans ?_
  refine (zv_gI c43_2 zg0_2).trans (zgI_c fun x1 => ?_)
  refine (zv_stI c43_5 (by decide) rfl zL_44 (Or.inl zrt_44) rfl rfl).trans (zcI_c fun x3 h2 => ?_)
  refine (zv_pop c43_8 rfl).trans ?_
  refine (zv_an c43_9 rfl).trans ?_
  refine (zv_gR c43_10 zf0_1).trans (zgR_c fun x4 => ?_)
  refine (zv_at c43_13 rfl).trans ?_
  refine (zv_an c43_14 rfl).trans ?_
  refine (zv_in c43_15 rfl).trans ?_
  refine (zv_aR c43_16).trans (zaR_c fun x5 => ?_)
  refine (zv_at c43_17 rfl).trans ?_
  refine (zv_an c43_18 rfl).trans ?_
  refine (zv_an c43_19 rfl).trans ?_
  refine (zv_in c43_20 rfl).trans ?_
  refine (zv_viV c43_21 zcn_46 rfl zL_46 zrt_46 rfl rfl).trans (zvr_c (zcV_c fun h6 => ?_))
  refine (zv_an c43_24 rfl).trans ?_
  exact zv_ar c43_25 zrt_43
theorem e43 (l0 : Option Nat) (l1 : Int32) (h : zH) : zcall 43 [vR l0, vI l1] h = (zgI h l0 0 2 fun x1 => (zcI 44 [vI l1, vI x1] h fun x3 h2 => (zgR h2 l0 0 1 fun x4 => (zaR h2 x4 l1 fun x5 => (zvr h2 l0 0 (zcV 46 [vR l0, vR x4, vI l1] h2 fun h6 => some (some (vR x5), h6))))))) := by
  refine Eq.trans ?_ (b43_0 l0 l1 h)
  unfold zcall zent
  rw [zL_43]
  rfl
theorem c44_0 : zcod 44 0 = some (.iload_n 0, 1, 0, 0, 0, 0) := by decide +kernel
theorem c44_1 : zcod 44 1 = some (.iload_n 1, 1, 0, 0, 0, 0) := by decide +kernel
theorem c44_2 : zcod 44 2 = some (.aconst_null, 1, 0, 0, 0, 0) := by decide +kernel
theorem c44_3 : zcod 44 3 = some (.invokestatic 105, 3, 45, 3, 476, 0) := by decide +kernel
theorem c44_6 : zcod 44 6 = some (.ireturn, 1, 0, 0, 0, 0) := by decide +kernel
set_option maxRecDepth 100000 in
theorem b44_0 (l0 : Int32) (l1 : Int32) (h : zH) : zev 44 0 [some (vI l0), some (vI l1)] [] h = (zcI 45 [vI l0, vI l1, vR none] h fun x2 h1 => some (some (vI x2), h1)) := by
  refine (zv_in c44_0 rfl).trans ?_
  refine (zv_in c44_1 rfl).trans ?_
  refine (zv_null c44_2).trans ?_
  refine (zv_stI c44_3 (by decide) rfl zL_45 (Or.inl zrt_45) rfl rfl).trans (zcI_c fun x2 h1 => ?_)
  exact zv_ir c44_6 zrt_44
theorem e44 (l0 : Int32) (l1 : Int32) (h : zH) : zcall 44 [vI l0, vI l1] h = (zcI 45 [vI l0, vI l1, vR none] h fun x2 h1 => some (some (vI x2), h1)) := by
  refine Eq.trans ?_ (b44_0 l0 l1 h)
  unfold zcall zent
  rw [zL_44]
  rfl
theorem c45_0 : zcod 45 0 = some (.iload_n 0, 1, 0, 0, 0, 0) := by decide +kernel
theorem c45_1 : zcod 45 1 = some (.ifCond .lt 8, 3, 9, 0, 0, 0) := by decide +kernel
theorem c45_4 : zcod 45 4 = some (.iload_n 0, 1, 0, 0, 0, 0) := by decide +kernel
theorem c45_5 : zcod 45 5 = some (.iload_n 1, 1, 0, 0, 0, 0) := by decide +kernel
theorem c45_6 : zcod 45 6 = some (.if_icmp .lt 10, 3, 16, 0, 0, 0) := by decide +kernel
theorem c45_9 : zcod 45 9 = some (.aload_n 2, 1, 0, 0, 0, 0) := by decide +kernel
theorem c45_10 : zcod 45 10 = some (.iload_n 0, 1, 0, 0, 0, 0) := by decide +kernel
theorem c45_11 : zcod 45 11 = some (.iload_n 1, 1, 0, 0, 0, 0) := by decide +kernel
theorem c45_16 : zcod 45 16 = some (.iload_n 0, 1, 0, 0, 0, 0) := by decide +kernel
theorem c45_17 : zcod 45 17 = some (.ireturn, 1, 0, 0, 0, 0) := by decide +kernel
set_option maxRecDepth 100000 in
theorem b45_0 (l0 : Int32) (l1 : Int32) (l2 : Option Nat) (h : zH) : zev 45 0 [some (vI l0), some (vI l1), some (vR l2)] [] h = (if l0 < 0 then none else (if l0 < l1 then some (some (vI l0), h) else none)) := by
  refine (zv_in c45_0 rfl).trans ?_
  refine (zv_iflt c45_1).trans (zif_c ?_ ?_)
  · refine (zv_an c45_9 rfl).trans ?_
    refine (zv_in c45_10 rfl).trans ?_
    refine (zv_in c45_11 rfl).trans ?_
    exact zv_x (by decide +kernel)
  · refine (zv_in c45_4 rfl).trans ?_
    refine (zv_in c45_5 rfl).trans ?_
    refine (zv_iclt c45_6).trans (zif_c ?_ ?_)
    · refine (zv_in c45_16 rfl).trans ?_
      exact zv_ir c45_17 zrt_45
    · refine (zv_an c45_9 rfl).trans ?_
      refine (zv_in c45_10 rfl).trans ?_
      refine (zv_in c45_11 rfl).trans ?_
      exact zv_x (by decide +kernel)
theorem e45 (l0 : Int32) (l1 : Int32) (l2 : Option Nat) (h : zH) : zcall 45 [vI l0, vI l1, vR l2] h = (if l0 < 0 then none else (if l0 < l1 then some (some (vI l0), h) else none)) := by
  refine Eq.trans ?_ (b45_0 l0 l1 l2 h)
  unfold zcall zent
  rw [zL_45]
  rfl
theorem c46_0 : zcod 46 0 = some (.aload_n 0, 1, 0, 0, 0, 0) := by decide +kernel
theorem c46_1 : zcod 46 1 = some (.dup, 1, 0, 0, 0, 0) := by decide +kernel
theorem c46_2 : zcod 46 2 = some (.getfield 63, 3, 0, 0, 132, 1) := by decide +kernel
theorem c46_5 : zcod 46 5 = some (.iconst 1, 1, 0, 0, 0, 0) := by decide +kernel
theorem c46_6 : zcod 46 6 = some (.iadd, 1, 0, 0, 0, 0) := by decide +kernel
theorem c46_7 : zcod 46 7 = some (.putfield 63, 3, 0, 0, 132, 1) := by decide +kernel
theorem c46_10 : zcod 46 10 = some (.aload_n 0, 1, 0, 0, 0, 0) := by decide +kernel
theorem c46_11 : zcod 46 11 = some (.getfield 48, 3, 0, 2, 130, 0) := by decide +kernel
theorem c46_14 : zcod 46 14 = some (.iconst 1, 1, 0, 0, 0, 0) := by decide +kernel
theorem c46_15 : zcod 46 15 = some (.isub, 1, 0, 0, 0, 0) := by decide +kernel
theorem c46_16 : zcod 46 16 = some (.dup, 1, 0, 0, 0, 0) := by decide +kernel
theorem c46_17 : zcod 46 17 = some (.istore_n 3, 1, 0, 0, 0, 0) := by decide +kernel
theorem c46_18 : zcod 46 18 = some (.iload_n 2, 1, 0, 0, 0, 0) := by decide +kernel
theorem c46_19 : zcod 46 19 = some (.if_icmp .le 15, 3, 34, 0, 0, 0) := by decide +kernel
theorem c46_22 : zcod 46 22 = some (.aload_n 1, 1, 0, 0, 0, 0) := by decide +kernel
theorem c46_23 : zcod 46 23 = some (.iload_n 2, 1, 0, 0, 0, 0) := by decide +kernel
theorem c46_24 : zcod 46 24 = some (.iconst 1, 1, 0, 0, 0, 0) := by decide +kernel
theorem c46_25 : zcod 46 25 = some (.iadd, 1, 0, 0, 0, 0) := by decide +kernel
theorem c46_26 : zcod 46 26 = some (.aload_n 1, 1, 0, 0, 0, 0) := by decide +kernel
theorem c46_27 : zcod 46 27 = some (.iload_n 2, 1, 0, 0, 0, 0) := by decide +kernel
theorem c46_28 : zcod 46 28 = some (.iload_n 3, 1, 0, 0, 0, 0) := by decide +kernel
theorem c46_29 : zcod 46 29 = some (.iload_n 2, 1, 0, 0, 0, 0) := by decide +kernel
theorem c46_30 : zcod 46 30 = some (.isub, 1, 0, 0, 0, 0) := by decide +kernel
theorem c46_31 : zcod 46 31 = some (.invokestatic 112, 3, 1000, 5, 483, 0) := by decide +kernel
theorem c46_34 : zcod 46 34 = some (.aload_n 1, 1, 0, 0, 0, 0) := by decide +kernel
theorem c46_35 : zcod 46 35 = some (.aload_n 0, 1, 0, 0, 0, 0) := by decide +kernel
theorem c46_36 : zcod 46 36 = some (.iload_n 3, 1, 0, 0, 0, 0) := by decide +kernel
theorem c46_37 : zcod 46 37 = some (.dup_x1, 1, 0, 0, 0, 0) := by decide +kernel
theorem c46_38 : zcod 46 38 = some (.putfield 48, 3, 0, 2, 130, 0) := by decide +kernel
theorem c46_41 : zcod 46 41 = some (.aconst_null, 1, 0, 0, 0, 0) := by decide +kernel
theorem c46_42 : zcod 46 42 = some (.aastore, 1, 0, 0, 0, 0) := by decide +kernel
theorem c46_43 : zcod 46 43 = some (.return_, 1, 0, 0, 0, 0) := by decide +kernel
set_option maxRecDepth 100000 in
theorem b46_0 (l0 : Option Nat) (l1 : Option Nat) (l2 : Int32) (h : zH) : zev 46 0 [some (vR l0), some (vR l1), some (vI l2), none] [] h = (zgI h l0 0 0 fun x1 => (zpI h l0 0 0 (x1 + 1) fun h2 => (zgI h2 l0 0 2 fun x3 => (if l2 < (x3 - 1) then (zcM h2 l1 (l2 + 1) l1 l2 ((x3 - 1) - l2) fun h4 => (zpI h4 l0 0 2 (x3 - 1) fun h5 => (ztR h5 l1 (x3 - 1) none fun h6 => some (none, h6)))) else (zpI h2 l0 0 2 (x3 - 1) fun h7 => (ztR h7 l1 (x3 - 1) none fun h8 => some (none, h8))))))) := by
  refine (zv_an c46_0 rfl).trans ?_
  refine (zv_dup c46_1 rfl).trans ?_
  refine (zv_gI c46_2 zg0_0).trans (zgI_c fun x1 => ?_)
  refine (zv_k (v := 1) c46_5 (by decide)).trans ?_
  refine (zv_iadd c46_6).trans ?_
  refine (zv_pI c46_7 zf0_0).trans (zpI_c fun h2 => ?_)
  refine (zv_an c46_10 rfl).trans ?_
  refine (zv_gI c46_11 zg0_2).trans (zgI_c fun x3 => ?_)
  refine (zv_k (v := 1) c46_14 (by decide)).trans ?_
  refine (zv_isub c46_15).trans ?_
  refine (zv_dup c46_16 rfl).trans ?_
  refine (zv_it c46_17 rfl).trans ?_
  refine (zv_in c46_18 rfl).trans ?_
  refine (zv_icle c46_19).trans (zif_c ?_ ?_)
  · refine (zv_an c46_22 rfl).trans ?_
    refine (zv_in c46_23 rfl).trans ?_
    refine (zv_k (v := 1) c46_24 (by decide)).trans ?_
    refine (zv_iadd c46_25).trans ?_
    refine (zv_an c46_26 rfl).trans ?_
    refine (zv_in c46_27 rfl).trans ?_
    refine (zv_in c46_28 rfl).trans ?_
    refine (zv_in c46_29 rfl).trans ?_
    refine (zv_isub c46_30).trans ?_
    refine (zv_cM c46_31 (zle rfl)).trans (zcM_c fun h4 => ?_)
    refine (zv_an c46_34 rfl).trans ?_
    refine (zv_an c46_35 rfl).trans ?_
    refine (zv_in c46_36 rfl).trans ?_
    refine (zv_dx1 c46_37 rfl rfl).trans ?_
    refine (zv_pI c46_38 zf0_2).trans (zpI_c fun h5 => ?_)
    refine (zv_null c46_41).trans ?_
    refine (zv_tR c46_42).trans (ztR_c fun h6 => ?_)
    exact zv_vr c46_43 zrt_46
  · refine (zv_an c46_34 rfl).trans ?_
    refine (zv_an c46_35 rfl).trans ?_
    refine (zv_in c46_36 rfl).trans ?_
    refine (zv_dx1 c46_37 rfl rfl).trans ?_
    refine (zv_pI c46_38 zf0_2).trans (zpI_c fun h7 => ?_)
    refine (zv_null c46_41).trans ?_
    refine (zv_tR c46_42).trans (ztR_c fun h8 => ?_)
    exact zv_vr c46_43 zrt_46
theorem e46 (l0 : Option Nat) (l1 : Option Nat) (l2 : Int32) (h : zH) : zcall 46 [vR l0, vR l1, vI l2] h = (zgI h l0 0 0 fun x1 => (zpI h l0 0 0 (x1 + 1) fun h2 => (zgI h2 l0 0 2 fun x3 => (if l2 < (x3 - 1) then (zcM h2 l1 (l2 + 1) l1 l2 ((x3 - 1) - l2) fun h4 => (zpI h4 l0 0 2 (x3 - 1) fun h5 => (ztR h5 l1 (x3 - 1) none fun h6 => some (none, h6)))) else (zpI h2 l0 0 2 (x3 - 1) fun h7 => (ztR h7 l1 (x3 - 1) none fun h8 => some (none, h8))))))) := by
  refine Eq.trans ?_ (b46_0 l0 l1 l2 h)
  unfold zcall zent
  rw [zL_46]
  rfl
theorem c47_0 : zcod 47 0 = some (.aload_n 0, 1, 0, 0, 0, 0) := by decide +kernel
theorem c47_1 : zcod 47 1 = some (.getfield 12, 3, 8, 0, 219, 0) := by decide +kernel
theorem c47_4 : zcod 47 4 = some (.getfield 51, 3, 6, 3, 85, 0) := by decide +kernel
theorem c47_7 : zcod 47 7 = some (.ireturn, 1, 0, 0, 0, 0) := by decide +kernel
set_option maxRecDepth 100000 in
theorem b47_0 (l0 : Option Nat) (h : zH) : zev 47 0 [some (vR l0)] [] h = (zgR h l0 8 0 fun x1 => (zgI h x1 6 3 fun x2 => some (some (vI x2), h))) := by
  refine (zv_an c47_0 rfl).trans ?_
  refine (zv_gR c47_1 zf8_0).trans (zgR_c fun x1 => ?_)
  refine (zv_gI c47_4 zg6_3).trans (zgI_c fun x2 => ?_)
  exact zv_ir c47_7 zrt_47
theorem e47 (l0 : Option Nat) (h : zH) : zcall 47 [vR l0] h = (zgR h l0 8 0 fun x1 => (zgI h x1 6 3 fun x2 => some (some (vI x2), h))) := by
  refine Eq.trans ?_ (b47_0 l0 h)
  unfold zcall zent
  rw [zL_47]
  rfl
theorem c48_0 : zcod 48 0 = some (.iload_n 1, 1, 0, 0, 0, 0) := by decide +kernel
theorem c48_1 : zcod 48 1 = some (.iload_n 2, 1, 0, 0, 0, 0) := by decide +kernel
theorem c48_2 : zcod 48 2 = some (.invokestatic 54, 3, 26, 2, 493, 0) := by decide +kernel
theorem c48_5 : zcod 48 5 = some (.ifCond .eq 18, 3, 23, 0, 0, 0) := by decide +kernel
theorem c48_8 : zcod 48 8 = some (.aload_n 0, 1, 0, 0, 0, 0) := by decide +kernel
theorem c48_9 : zcod 48 9 = some (.getfield 19, 3, 8, 1, 220, 0) := by decide +kernel
theorem c48_12 : zcod 48 12 = some (.getfield 31, 3, 3, 0, 183, 0) := by decide +kernel
theorem c48_15 : zcod 48 15 = some (.iload_n 1, 1, 0, 0, 0, 0) := by decide +kernel
theorem c48_16 : zcod 48 16 = some (.iload_n 2, 1, 0, 0, 0, 0) := by decide +kernel
theorem c48_17 : zcod 48 17 = some (.invokevirtual 58, 3, 25, 2, 494, 0) := by decide +kernel
theorem c48_20 : zcod 48 20 = some (.goto 6, 3, 26, 0, 0, 0) := by decide +kernel
theorem c48_23 : zcod 48 23 = some (.sipush (-1002), 3, 0, 0, 0, 0) := by decide +kernel
theorem c48_26 : zcod 48 26 = some (.ireturn, 1, 0, 0, 0, 0) := by decide +kernel
set_option maxRecDepth 100000 in
theorem b48_0 (l0 : Option Nat) (l1 : Int32) (l2 : Int32) (h : zH) : zev 48 0 [some (vR l0), some (vI l1), some (vI l2)] [] h = (zcI 26 [vI l1, vI l2] h fun x2 h1 => (if x2 = 0 then some (some (vI (-1002)), h1) else (zgR h1 l0 8 1 fun x3 => (zgR h1 x3 3 0 fun x4 => (zvr h1 x4 5 (zcI 25 [vR x4, vI l1, vI l2] h1 fun x6 h5 => some (some (vI x6), h5))))))) := by
  refine (zv_in c48_0 rfl).trans ?_
  refine (zv_in c48_1 rfl).trans ?_
  refine (zv_stI c48_2 (by decide) rfl zL_26 (Or.inr zrt_26) rfl rfl).trans (zcI_c fun x2 h1 => ?_)
  refine (zv_ifeq c48_5).trans (zif_c ?_ ?_)
  · refine (zv_si (v := -1002) c48_23 (by decide)).trans ?_
    exact zv_ir c48_26 zrt_48
  · refine (zv_an c48_8 rfl).trans ?_
    refine (zv_gR c48_9 zf8_1).trans (zgR_c fun x3 => ?_)
    refine (zv_gR c48_12 zf3_0).trans (zgR_c fun x4 => ?_)
    refine (zv_in c48_15 rfl).trans ?_
    refine (zv_in c48_16 rfl).trans ?_
    refine (zv_viI c48_17 zcn_25 rfl zL_25 (Or.inl zrt_25) rfl rfl).trans (zvr_c (zcI_c fun x6 h5 => ?_))
    refine (zv_goto c48_20).trans ?_
    exact zv_ir c48_26 zrt_48
theorem e48 (l0 : Option Nat) (l1 : Int32) (l2 : Int32) (h : zH) : zcall 48 [vR l0, vI l1, vI l2] h = (zcI 26 [vI l1, vI l2] h fun x2 h1 => (if x2 = 0 then some (some (vI (-1002)), h1) else (zgR h1 l0 8 1 fun x3 => (zgR h1 x3 3 0 fun x4 => (zvr h1 x4 5 (zcI 25 [vR x4, vI l1, vI l2] h1 fun x6 h5 => some (some (vI x6), h5))))))) := by
  refine Eq.trans ?_ (b48_0 l0 l1 l2 h)
  unfold zcall zent
  rw [zL_48]
  rfl
theorem c49_0 : zcod 49 0 = some (.aload_n 0, 1, 0, 0, 0, 0) := by decide +kernel
theorem c49_1 : zcod 49 1 = some (.getfield 19, 3, 8, 1, 220, 0) := by decide +kernel
theorem c49_4 : zcod 49 4 = some (.getfield 31, 3, 3, 0, 183, 0) := by decide +kernel
theorem c49_7 : zcod 49 7 = some (.iload_n 1, 1, 0, 0, 0, 0) := by decide +kernel
theorem c49_8 : zcod 49 8 = some (.invokevirtual 62, 3, 50, 1, 499, 0) := by decide +kernel
theorem c49_11 : zcod 49 11 = some (.astore_n 3, 1, 0, 0, 0, 0) := by decide +kernel
theorem c49_12 : zcod 49 12 = some (.aload_n 3, 1, 0, 0, 0, 0) := by decide +kernel
theorem c49_13 : zcod 49 13 = some (.ifnonnull 7, 3, 20, 0, 0, 0) := by decide +kernel
theorem c49_16 : zcod 49 16 = some (.sipush (-1001), 3, 0, 0, 0, 0) := by decide +kernel
theorem c49_19 : zcod 49 19 = some (.ireturn, 1, 0, 0, 0, 0) := by decide +kernel
theorem c49_20 : zcod 49 20 = some (.iload_n 2, 1, 0, 0, 0, 0) := by decide +kernel
theorem c49_21 : zcod 49 21 = some (.tableswitch 150 0 9 #[55, 60, 65, 78, 90, 106, 111, 127, 132, 145], 55, 0, 0, 0, 0) := by decide +kernel
theorem c49_76 : zcod 49 76 = some (.aload_n 3, 1, 0, 0, 0, 0) := by decide +kernel
theorem c49_77 : zcod 49 77 = some (.invokevirtual 66, 3, 53, 0, 511, 0) := by decide +kernel
theorem c49_80 : zcod 49 80 = some (.ireturn, 1, 0, 0, 0, 0) := by decide +kernel
theorem c49_81 : zcod 49 81 = some (.aload_n 3, 1, 0, 0, 0, 0) := by decide +kernel
theorem c49_82 : zcod 49 82 = some (.getfield 71, 3, 2, 7, 327, 0) := by decide +kernel
theorem c49_85 : zcod 49 85 = some (.ireturn, 1, 0, 0, 0, 0) := by decide +kernel
theorem c49_86 : zcod 49 86 = some (.aload_n 3, 1, 0, 0, 0, 0) := by decide +kernel
theorem c49_87 : zcod 49 87 = some (.getfield 74, 3, 2, 4, 320, 0) := by decide +kernel
theorem c49_90 : zcod 49 90 = some (.ifCond .eq 7, 3, 97, 0, 0, 0) := by decide +kernel
theorem c49_93 : zcod 49 93 = some (.iconst 1, 1, 0, 0, 0, 0) := by decide +kernel
theorem c49_94 : zcod 49 94 = some (.goto 4, 3, 98, 0, 0, 0) := by decide +kernel
theorem c49_97 : zcod 49 97 = some (.iconst 0, 1, 0, 0, 0, 0) := by decide +kernel
theorem c49_98 : zcod 49 98 = some (.ireturn, 1, 0, 0, 0, 0) := by decide +kernel
theorem c49_99 : zcod 49 99 = some (.aload_n 0, 1, 0, 0, 0, 0) := by decide +kernel
theorem c49_100 : zcod 49 100 = some (.getfield 19, 3, 8, 1, 220, 0) := by decide +kernel
theorem c49_103 : zcod 49 103 = some (.getfield 31, 3, 3, 0, 183, 0) := by decide +kernel
theorem c49_106 : zcod 49 106 = some (.aload_n 3, 1, 0, 0, 0, 0) := by decide +kernel
theorem c49_107 : zcod 49 107 = some (.invokevirtual 78, 3, 54, 1, 515, 0) := by decide +kernel
theorem c49_110 : zcod 49 110 = some (.ireturn, 1, 0, 0, 0, 0) := by decide +kernel
theorem c49_111 : zcod 49 111 = some (.aload_n 3, 1, 0, 0, 0, 0) := by decide +kernel
theorem c49_112 : zcod 49 112 = some (.getfield 82, 3, 2, 10, 334, 0) := by decide +kernel
theorem c49_115 : zcod 49 115 = some (.ifCond .eq 10, 3, 125, 0, 0, 0) := by decide +kernel
theorem c49_118 : zcod 49 118 = some (.aload_n 3, 1, 0, 0, 0, 0) := by decide +kernel
theorem c49_119 : zcod 49 119 = some (.getfield 71, 3, 2, 7, 327, 0) := by decide +kernel
theorem c49_122 : zcod 49 122 = some (.goto 4, 3, 126, 0, 0, 0) := by decide +kernel
theorem c49_125 : zcod 49 125 = some (.iconst (-1), 1, 0, 0, 0, 0) := by decide +kernel
theorem c49_126 : zcod 49 126 = some (.ireturn, 1, 0, 0, 0, 0) := by decide +kernel
theorem c49_127 : zcod 49 127 = some (.aload_n 3, 1, 0, 0, 0, 0) := by decide +kernel
theorem c49_128 : zcod 49 128 = some (.getfield 85, 3, 2, 11, 337, 0) := by decide +kernel
theorem c49_131 : zcod 49 131 = some (.ireturn, 1, 0, 0, 0, 0) := by decide +kernel
theorem c49_132 : zcod 49 132 = some (.aload_n 3, 1, 0, 0, 0, 0) := by decide +kernel
theorem c49_133 : zcod 49 133 = some (.getfield 88, 3, 2, 12, 341, 0) := by decide +kernel
theorem c49_136 : zcod 49 136 = some (.ifCond .le 10, 3, 146, 0, 0, 0) := by decide +kernel
theorem c49_139 : zcod 49 139 = some (.aload_n 3, 1, 0, 0, 0, 0) := by decide +kernel
theorem c49_140 : zcod 49 140 = some (.getfield 91, 3, 2, 14, 345, 0) := by decide +kernel
theorem c49_143 : zcod 49 143 = some (.goto 4, 3, 147, 0, 0, 0) := by decide +kernel
theorem c49_146 : zcod 49 146 = some (.iconst (-1), 1, 0, 0, 0, 0) := by decide +kernel
theorem c49_147 : zcod 49 147 = some (.ireturn, 1, 0, 0, 0, 0) := by decide +kernel
theorem c49_148 : zcod 49 148 = some (.aload_n 3, 1, 0, 0, 0, 0) := by decide +kernel
theorem c49_149 : zcod 49 149 = some (.getfield 94, 3, 2, 15, 347, 0) := by decide +kernel
theorem c49_152 : zcod 49 152 = some (.ireturn, 1, 0, 0, 0, 0) := by decide +kernel
theorem c49_153 : zcod 49 153 = some (.aload_n 3, 1, 0, 0, 0, 0) := by decide +kernel
theorem c49_154 : zcod 49 154 = some (.getfield 97, 3, 2, 1, 313, 0) := by decide +kernel
theorem c49_157 : zcod 49 157 = some (.bipush 20, 2, 0, 0, 0, 0) := by decide +kernel
theorem c49_159 : zcod 49 159 = some (.imul, 1, 0, 0, 0, 0) := by decide +kernel
theorem c49_160 : zcod 49 160 = some (.aload_n 3, 1, 0, 0, 0, 0) := by decide +kernel
theorem c49_161 : zcod 49 161 = some (.getfield 100, 3, 2, 0, 310, 0) := by decide +kernel
theorem c49_164 : zcod 49 164 = some (.iadd, 1, 0, 0, 0, 0) := by decide +kernel
theorem c49_165 : zcod 49 165 = some (.ireturn, 1, 0, 0, 0, 0) := by decide +kernel
theorem c49_166 : zcod 49 166 = some (.aload_n 3, 1, 0, 0, 0, 0) := by decide +kernel
theorem c49_167 : zcod 49 167 = some (.getfield 103, 3, 2, 8, 331, 0) := by decide +kernel
theorem c49_170 : zcod 49 170 = some (.ireturn, 1, 0, 0, 0, 0) := by decide +kernel
theorem c49_171 : zcod 49 171 = some (.sipush (-1002), 3, 0, 0, 0, 0) := by decide +kernel
theorem c49_174 : zcod 49 174 = some (.ireturn, 1, 0, 0, 0, 0) := by decide +kernel
set_option maxRecDepth 100000 in
theorem b49_0 (l0 : Option Nat) (l1 : Int32) (l2 : Int32) (h : zH) : zev 49 0 [some (vR l0), some (vI l1), some (vI l2), none] [] h = (zgR h l0 8 1 fun x1 => (zgR h x1 3 0 fun x2 => (zvr h x2 5 (zcR 50 [vR x2, vI l1] h fun x4 h3 => (zul x4 (some (some (vI (-1001)), h3)) ((if l2 = 0 then (zvr h3 x4 2 (zcI 53 [vR x4] h3 fun x6 h5 => some (some (vI x6), h5))) else (if l2 = 1 then (zgI h3 x4 2 7 fun x7 => some (some (vI x7), h3)) else (if l2 = 2 then (zgI h3 x4 2 4 fun x8 => (if x8 = 0 then some (some (vI 0), h3) else some (some (vI 1), h3))) else (if l2 = 3 then (zgR h3 l0 8 1 fun x9 => (zgR h3 x9 3 0 fun x10 => (zvr h3 x10 5 (zcI 54 [vR x10, vR x4] h3 fun x12 h11 => some (some (vI x12), h11))))) else (if l2 = 4 then (zgI h3 x4 2 10 fun x13 => (if x13 = 0 then some (some (vI (-1)), h3) else (zgI h3 x4 2 7 fun x14 => some (some (vI x14), h3)))) else (if l2 = 5 then (zgI h3 x4 2 11 fun x15 => some (some (vI x15), h3)) else (if l2 = 6 then (zgI h3 x4 2 12 fun x16 => (if 0 < x16 then (zgI h3 x4 2 14 fun x17 => some (some (vI x17), h3)) else some (some (vI (-1)), h3))) else (if l2 = 7 then (zgI h3 x4 2 15 fun x18 => some (some (vI x18), h3)) else (if l2 = 8 then (zgI h3 x4 2 1 fun x19 => (zgI h3 x4 2 0 fun x20 => some (some (vI ((x19 * 20) + x20)), h3))) else (if l2 = 9 then (zgI h3 x4 2 8 fun x21 => some (some (vI x21), h3)) else some (some (vI (-1002)), h3))))))))))))))))) := by
  refine (zv_an c49_0 rfl).trans ?_
  refine (zv_gR c49_1 zf8_1).trans (zgR_c fun x1 => ?_)
  refine (zv_gR c49_4 zf3_0).trans (zgR_c fun x2 => ?_)
  refine (zv_in c49_7 rfl).trans ?_
  refine (zv_viR c49_8 zcn_50 rfl zL_50 zrt_50 rfl rfl).trans (zvr_c (zcR_c fun x4 h3 => ?_))
  refine (zv_at c49_11 rfl).trans ?_
  refine (zv_an c49_12 rfl).trans ?_
  refine (zv_nn c49_13).trans (zul_c ?_ ?_)
  · refine (zv_si (v := -1001) c49_16 (by decide)).trans ?_
    exact zv_ir c49_19 zrt_49
  · refine (zv_in c49_20 rfl).trans ?_
    refine (zv_ts c49_21 (dt := 171) (T := [76, 81, 86, 99, 111, 127, 132, 148, 153, 166]) (by decide) (by decide) (by decide) (by decide)).trans ?_
    refine (zsl_k (v := 0) (by decide)).trans (zif_c ?_ ?_)
    · refine (zv_an c49_76 rfl).trans ?_
      refine (zv_viI c49_77 zcn_53 rfl zL_53 (Or.inl zrt_53) rfl rfl).trans (zvr_c (zcI_c fun x6 h5 => ?_))
      exact zv_ir c49_80 zrt_49
    · refine (zsl_k (v := 1) (by decide)).trans (zif_c ?_ ?_)
      · refine (zv_an c49_81 rfl).trans ?_
        refine (zv_gI c49_82 zg2_7).trans (zgI_c fun x7 => ?_)
        exact zv_ir c49_85 zrt_49
      · refine (zsl_k (v := 2) (by decide)).trans (zif_c ?_ ?_)
        · refine (zv_an c49_86 rfl).trans ?_
          refine (zv_gI c49_87 zg2_4).trans (zgI_c fun x8 => ?_)
          refine (zv_ifeq c49_90).trans (zif_c ?_ ?_)
          · refine (zv_k (v := 0) c49_97 (by decide)).trans ?_
            exact zv_ir c49_98 zrt_49
          · refine (zv_k (v := 1) c49_93 (by decide)).trans ?_
            refine (zv_goto c49_94).trans ?_
            exact zv_ir c49_98 zrt_49
        · refine (zsl_k (v := 3) (by decide)).trans (zif_c ?_ ?_)
          · refine (zv_an c49_99 rfl).trans ?_
            refine (zv_gR c49_100 zf8_1).trans (zgR_c fun x9 => ?_)
            refine (zv_gR c49_103 zf3_0).trans (zgR_c fun x10 => ?_)
            refine (zv_an c49_106 rfl).trans ?_
            refine (zv_viI c49_107 zcn_54 rfl zL_54 (Or.inl zrt_54) rfl rfl).trans (zvr_c (zcI_c fun x12 h11 => ?_))
            exact zv_ir c49_110 zrt_49
          · refine (zsl_k (v := 4) (by decide)).trans (zif_c ?_ ?_)
            · refine (zv_an c49_111 rfl).trans ?_
              refine (zv_gI c49_112 zg2_10).trans (zgI_c fun x13 => ?_)
              refine (zv_ifeq c49_115).trans (zif_c ?_ ?_)
              · refine (zv_k (v := -1) c49_125 (by decide)).trans ?_
                exact zv_ir c49_126 zrt_49
              · refine (zv_an c49_118 rfl).trans ?_
                refine (zv_gI c49_119 zg2_7).trans (zgI_c fun x14 => ?_)
                refine (zv_goto c49_122).trans ?_
                exact zv_ir c49_126 zrt_49
            · refine (zsl_k (v := 5) (by decide)).trans (zif_c ?_ ?_)
              · refine (zv_an c49_127 rfl).trans ?_
                refine (zv_gI c49_128 zg2_11).trans (zgI_c fun x15 => ?_)
                exact zv_ir c49_131 zrt_49
              · refine (zsl_k (v := 6) (by decide)).trans (zif_c ?_ ?_)
                · refine (zv_an c49_132 rfl).trans ?_
                  refine (zv_gI c49_133 zg2_12).trans (zgI_c fun x16 => ?_)
                  refine (zv_ifle c49_136).trans (zif_c ?_ ?_)
                  · refine (zv_an c49_139 rfl).trans ?_
                    refine (zv_gI c49_140 zg2_14).trans (zgI_c fun x17 => ?_)
                    refine (zv_goto c49_143).trans ?_
                    exact zv_ir c49_147 zrt_49
                  · refine (zv_k (v := -1) c49_146 (by decide)).trans ?_
                    exact zv_ir c49_147 zrt_49
                · refine (zsl_k (v := 7) (by decide)).trans (zif_c ?_ ?_)
                  · refine (zv_an c49_148 rfl).trans ?_
                    refine (zv_gI c49_149 zg2_15).trans (zgI_c fun x18 => ?_)
                    exact zv_ir c49_152 zrt_49
                  · refine (zsl_k (v := 8) (by decide)).trans (zif_c ?_ ?_)
                    · refine (zv_an c49_153 rfl).trans ?_
                      refine (zv_gI c49_154 zg2_1).trans (zgI_c fun x19 => ?_)
                      refine (zv_bi (v := 20) c49_157 (by decide)).trans ?_
                      refine (zv_imul c49_159).trans ?_
                      refine (zv_an c49_160 rfl).trans ?_
                      refine (zv_gI c49_161 zg2_0).trans (zgI_c fun x20 => ?_)
                      refine (zv_iadd c49_164).trans ?_
                      exact zv_ir c49_165 zrt_49
                    · refine (zsl_k (v := 9) (by decide)).trans (zif_c ?_ ?_)
                      · refine (zv_an c49_166 rfl).trans ?_
                        refine (zv_gI c49_167 zg2_8).trans (zgI_c fun x21 => ?_)
                        exact zv_ir c49_170 zrt_49
                      · refine zsl_n.trans ?_
                        refine (zv_si (v := -1002) c49_171 (by decide)).trans ?_
                        exact zv_ir c49_174 zrt_49
theorem e49 (l0 : Option Nat) (l1 : Int32) (l2 : Int32) (h : zH) : zcall 49 [vR l0, vI l1, vI l2] h = (zgR h l0 8 1 fun x1 => (zgR h x1 3 0 fun x2 => (zvr h x2 5 (zcR 50 [vR x2, vI l1] h fun x4 h3 => (zul x4 (some (some (vI (-1001)), h3)) ((if l2 = 0 then (zvr h3 x4 2 (zcI 53 [vR x4] h3 fun x6 h5 => some (some (vI x6), h5))) else (if l2 = 1 then (zgI h3 x4 2 7 fun x7 => some (some (vI x7), h3)) else (if l2 = 2 then (zgI h3 x4 2 4 fun x8 => (if x8 = 0 then some (some (vI 0), h3) else some (some (vI 1), h3))) else (if l2 = 3 then (zgR h3 l0 8 1 fun x9 => (zgR h3 x9 3 0 fun x10 => (zvr h3 x10 5 (zcI 54 [vR x10, vR x4] h3 fun x12 h11 => some (some (vI x12), h11))))) else (if l2 = 4 then (zgI h3 x4 2 10 fun x13 => (if x13 = 0 then some (some (vI (-1)), h3) else (zgI h3 x4 2 7 fun x14 => some (some (vI x14), h3)))) else (if l2 = 5 then (zgI h3 x4 2 11 fun x15 => some (some (vI x15), h3)) else (if l2 = 6 then (zgI h3 x4 2 12 fun x16 => (if 0 < x16 then (zgI h3 x4 2 14 fun x17 => some (some (vI x17), h3)) else some (some (vI (-1)), h3))) else (if l2 = 7 then (zgI h3 x4 2 15 fun x18 => some (some (vI x18), h3)) else (if l2 = 8 then (zgI h3 x4 2 1 fun x19 => (zgI h3 x4 2 0 fun x20 => some (some (vI ((x19 * 20) + x20)), h3))) else (if l2 = 9 then (zgI h3 x4 2 8 fun x21 => some (some (vI x21), h3)) else some (some (vI (-1002)), h3))))))))))))))))) := by
  refine Eq.trans ?_ (b49_0 l0 l1 l2 h)
  unfold zcall zent
  rw [zL_49]
  rfl
end
