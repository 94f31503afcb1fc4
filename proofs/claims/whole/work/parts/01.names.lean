-- ===== PART A: goes FIRST, ahead of the names: the tables' words, and 'selects' of the private methods out of them =====
/-- a private method of a class that the tables say can be made, by its rows of tables_1 -/
def lw_okq (q : MethodName × Nat) : Prop := (q.1.cls ≠ "java/lang/invoke/MethodHandle" ∧ q.1.cls ≠ "java/lang/invoke/VarHandle") ∧ Cond.instantiable q.1.cls q.2 ∈ tables_1 ∧ Cond.privateMethod q.1 ∈ tables_1 ∧ Cond.instanceMethod q.1 ∈ tables_1
theorem lw_p0 : lw_okq (⟨"BentQuarters", "settles", "(I)I"⟩, 6) := ⟨⟨by decide +kernel, by decide +kernel⟩, List.mem_of_getElem? (i := 12) (by decide +kernel), List.mem_of_getElem? (i := 238) (by decide +kernel), List.mem_of_getElem? (i := 239) (by decide +kernel)⟩
theorem lw_p1 : lw_okq (⟨"BentQuarters", "refuses", "(I)I"⟩, 6) := ⟨⟨by decide +kernel, by decide +kernel⟩, List.mem_of_getElem? (i := 12) (by decide +kernel), List.mem_of_getElem? (i := 245) (by decide +kernel), List.mem_of_getElem? (i := 246) (by decide +kernel)⟩
theorem lw_p2 : lw_okq (⟨"BentQuarters", "prints", "()I"⟩, 6) := ⟨⟨by decide +kernel, by decide +kernel⟩, List.mem_of_getElem? (i := 12) (by decide +kernel), List.mem_of_getElem? (i := 333) (by decide +kernel), List.mem_of_getElem? (i := 334) (by decide +kernel)⟩
theorem lw_p3 : lw_okq (⟨"BentQuarters$Bounds", "laysQuarter", "(LBentQuarters$Figures;II)V"⟩, 7) := ⟨⟨by decide +kernel, by decide +kernel⟩, List.mem_of_getElem? (i := 67) (by decide +kernel), List.mem_of_getElem? (i := 345) (by decide +kernel), List.mem_of_getElem? (i := 346) (by decide +kernel)⟩
theorem lw_p4 : lw_okq (⟨"BentQuarters$Bounds", "laysYear", "(I)Z"⟩, 7) := ⟨⟨by decide +kernel, by decide +kernel⟩, List.mem_of_getElem? (i := 67) (by decide +kernel), List.mem_of_getElem? (i := 366) (by decide +kernel), List.mem_of_getElem? (i := 367) (by decide +kernel)⟩
theorem lw_p5 : lw_okq (⟨"BentQuarters$Bender", "fills", "(LBentQuarters$Figures;)V"⟩, 11) := ⟨⟨by decide +kernel, by decide +kernel⟩, List.mem_of_getElem? (i := 61) (by decide +kernel), List.mem_of_getElem? (i := 370) (by decide +kernel), List.mem_of_getElem? (i := 371) (by decide +kernel)⟩
theorem lw_p6 : lw_okq (⟨"BentQuarters$Bender", "weighsSteps", "(LBentQuarters$Figures;II)V"⟩, 11) := ⟨⟨by decide +kernel, by decide +kernel⟩, List.mem_of_getElem? (i := 61) (by decide +kernel), List.mem_of_getElem? (i := 374) (by decide +kernel), List.mem_of_getElem? (i := 375) (by decide +kernel)⟩
theorem lw_p7 : lw_okq (⟨"BentQuarters$Bender", "choosesStep", "(II)V"⟩, 11) := ⟨⟨by decide +kernel, by decide +kernel⟩, List.mem_of_getElem? (i := 61) (by decide +kernel), List.mem_of_getElem? (i := 394) (by decide +kernel), List.mem_of_getElem? (i := 395) (by decide +kernel)⟩
theorem lw_p8 : lw_okq (⟨"BentQuarters$Bender", "spot", "(III)I"⟩, 11) := ⟨⟨by decide +kernel, by decide +kernel⟩, List.mem_of_getElem? (i := 61) (by decide +kernel), List.mem_of_getElem? (i := 402) (by decide +kernel), List.mem_of_getElem? (i := 403) (by decide +kernel)⟩
theorem lw_p9 : lw_okq (⟨"BentQuarters$Bender", "isSpot", "(I)Z"⟩, 11) := ⟨⟨by decide +kernel, by decide +kernel⟩, List.mem_of_getElem? (i := 61) (by decide +kernel), List.mem_of_getElem? (i := 409) (by decide +kernel), List.mem_of_getElem? (i := 410) (by decide +kernel)⟩
theorem lw_p10 : lw_okq (⟨"BentQuarters$Bender", "keepsBest", "(I)V"⟩, 11) := ⟨⟨by decide +kernel, by decide +kernel⟩, List.mem_of_getElem? (i := 61) (by decide +kernel), List.mem_of_getElem? (i := 413) (by decide +kernel), List.mem_of_getElem? (i := 414) (by decide +kernel)⟩
theorem lw_p11 : lw_okq (⟨"BentQuarters$Bender", "traces", "(LBentQuarters$Figures;)V"⟩, 11) := ⟨⟨by decide +kernel, by decide +kernel⟩, List.mem_of_getElem? (i := 61) (by decide +kernel), List.mem_of_getElem? (i := 417) (by decide +kernel), List.mem_of_getElem? (i := 418) (by decide +kernel)⟩
theorem lw_p12 : lw_okq (⟨"BentQuarters", "revision", "(I)I"⟩, 6) := ⟨⟨by decide +kernel, by decide +kernel⟩, List.mem_of_getElem? (i := 12) (by decide +kernel), List.mem_of_getElem? (i := 483) (by decide +kernel), List.mem_of_getElem? (i := 484) (by decide +kernel)⟩
theorem lw_p13 : lw_okq (⟨"BentQuarters", "shareMovement", "(I)J"⟩, 6) := ⟨⟨by decide +kernel, by decide +kernel⟩, List.mem_of_getElem? (i := 12) (by decide +kernel), List.mem_of_getElem? (i := 526) (by decide +kernel), List.mem_of_getElem? (i := 527) (by decide +kernel)⟩
theorem lw_p14 : lw_okq (⟨"BentQuarters$Text", "readsByte", "(I)Z"⟩, 9) := ⟨⟨by decide +kernel, by decide +kernel⟩, List.mem_of_getElem? (i := 158) (by decide +kernel), List.mem_of_getElem? (i := 550) (by decide +kernel), List.mem_of_getElem? (i := 551) (by decide +kernel)⟩
theorem lw_p15 : lw_okq (⟨"BentQuarters$Text", "opens", "(I)Z"⟩, 9) := ⟨⟨by decide +kernel, by decide +kernel⟩, List.mem_of_getElem? (i := 158) (by decide +kernel), List.mem_of_getElem? (i := 554) (by decide +kernel), List.mem_of_getElem? (i := 555) (by decide +kernel)⟩
def lw_privs_1 : List (MethodName × Nat) := [(⟨"BentQuarters", "settles", "(I)I"⟩, 6), (⟨"BentQuarters", "refuses", "(I)I"⟩, 6), (⟨"BentQuarters", "prints", "()I"⟩, 6), (⟨"BentQuarters$Bounds", "laysQuarter", "(LBentQuarters$Figures;II)V"⟩, 7), (⟨"BentQuarters$Bounds", "laysYear", "(I)Z"⟩, 7), (⟨"BentQuarters$Bender", "fills", "(LBentQuarters$Figures;)V"⟩, 11), (⟨"BentQuarters$Bender", "weighsSteps", "(LBentQuarters$Figures;II)V"⟩, 11), (⟨"BentQuarters$Bender", "choosesStep", "(II)V"⟩, 11), (⟨"BentQuarters$Bender", "spot", "(III)I"⟩, 11), (⟨"BentQuarters$Bender", "isSpot", "(I)Z"⟩, 11), (⟨"BentQuarters$Bender", "keepsBest", "(I)V"⟩, 11), (⟨"BentQuarters$Bender", "traces", "(LBentQuarters$Figures;)V"⟩, 11), (⟨"BentQuarters", "revision", "(I)I"⟩, 6), (⟨"BentQuarters", "shareMovement", "(I)J"⟩, 6), (⟨"BentQuarters$Text", "readsByte", "(I)Z"⟩, 9), (⟨"BentQuarters$Text", "opens", "(I)Z"⟩, 9)]
theorem lw_r1 : ∀ q ∈ lw_privs_1, lw_okq q := List.forall_mem_cons.mpr ⟨lw_p0, List.forall_mem_cons.mpr ⟨lw_p1, List.forall_mem_cons.mpr ⟨lw_p2, List.forall_mem_cons.mpr ⟨lw_p3, List.forall_mem_cons.mpr ⟨lw_p4, List.forall_mem_cons.mpr ⟨lw_p5, List.forall_mem_cons.mpr ⟨lw_p6, List.forall_mem_cons.mpr ⟨lw_p7, List.forall_mem_cons.mpr ⟨lw_p8, List.forall_mem_cons.mpr ⟨lw_p9, List.forall_mem_cons.mpr ⟨lw_p10, List.forall_mem_cons.mpr ⟨lw_p11, List.forall_mem_cons.mpr ⟨lw_p12, List.forall_mem_cons.mpr ⟨lw_p13, List.forall_mem_cons.mpr ⟨lw_p14, List.forall_mem_cons.mpr ⟨lw_p15, fun _ h => absurd h List.not_mem_nil⟩⟩⟩⟩⟩⟩⟩⟩⟩⟩⟩⟩⟩⟩⟩⟩
theorem lw_p16 : lw_okq (⟨"BentQuarters$Text", "closes", "()Z"⟩, 9) := ⟨⟨by decide +kernel, by decide +kernel⟩, List.mem_of_getElem? (i := 158) (by decide +kernel), List.mem_of_getElem? (i := 561) (by decide +kernel), List.mem_of_getElem? (i := 562) (by decide +kernel)⟩
theorem lw_p17 : lw_okq (⟨"BentQuarters$Text", "readsFigure", "(I)Z"⟩, 9) := ⟨⟨by decide +kernel, by decide +kernel⟩, List.mem_of_getElem? (i := 158) (by decide +kernel), List.mem_of_getElem? (i := 566) (by decide +kernel), List.mem_of_getElem? (i := 567) (by decide +kernel)⟩
theorem lw_p18 : lw_okq (⟨"BentQuarters", "obeys", "(III)I"⟩, 6) := ⟨⟨by decide +kernel, by decide +kernel⟩, List.mem_of_getElem? (i := 12) (by decide +kernel), List.mem_of_getElem? (i := 570) (by decide +kernel), List.mem_of_getElem? (i := 571) (by decide +kernel)⟩
theorem lw_p19 : lw_okq (⟨"BentQuarters", "digestsFigures", "(J)J"⟩, 6) := ⟨⟨by decide +kernel, by decide +kernel⟩, List.mem_of_getElem? (i := 12) (by decide +kernel), List.mem_of_getElem? (i := 597) (by decide +kernel), List.mem_of_getElem? (i := 598) (by decide +kernel)⟩
theorem lw_p20 : lw_okq (⟨"BentQuarters", "digestsBent", "(J)J"⟩, 6) := ⟨⟨by decide +kernel, by decide +kernel⟩, List.mem_of_getElem? (i := 12) (by decide +kernel), List.mem_of_getElem? (i := 601) (by decide +kernel), List.mem_of_getElem? (i := 602) (by decide +kernel)⟩
theorem lw_p21 : lw_okq (⟨"BentQuartersModel", "save", "()V"⟩, 23) := ⟨⟨by decide +kernel, by decide +kernel⟩, List.mem_of_getElem? (i := 606) (by decide +kernel), List.mem_of_getElem? (i := 686) (by decide +kernel), List.mem_of_getElem? (i := 687) (by decide +kernel)⟩
theorem lw_p22 : lw_okq (⟨"BentQuartersModel", "putQuarter", "(I)I"⟩, 23) := ⟨⟨by decide +kernel, by decide +kernel⟩, List.mem_of_getElem? (i := 606) (by decide +kernel), List.mem_of_getElem? (i := 693) (by decide +kernel), List.mem_of_getElem? (i := 694) (by decide +kernel)⟩
theorem lw_p23 : lw_okq (⟨"BentQuartersModel", "finish", "(I)I"⟩, 23) := ⟨⟨by decide +kernel, by decide +kernel⟩, List.mem_of_getElem? (i := 606) (by decide +kernel), List.mem_of_getElem? (i := 701) (by decide +kernel), List.mem_of_getElem? (i := 702) (by decide +kernel)⟩
theorem lw_p24 : lw_okq (⟨"BentQuartersModel", "refuse", "(I)I"⟩, 23) := ⟨⟨by decide +kernel, by decide +kernel⟩, List.mem_of_getElem? (i := 606) (by decide +kernel), List.mem_of_getElem? (i := 705) (by decide +kernel), List.mem_of_getElem? (i := 706) (by decide +kernel)⟩
theorem lw_p25 : lw_okq (⟨"BentQuartersModel", "putIndicator", "(II)I"⟩, 23) := ⟨⟨by decide +kernel, by decide +kernel⟩, List.mem_of_getElem? (i := 606) (by decide +kernel), List.mem_of_getElem? (i := 713) (by decide +kernel), List.mem_of_getElem? (i := 714) (by decide +kernel)⟩
theorem lw_p26 : lw_okq (⟨"BentQuartersModel", "isQuarter", "(I)Z"⟩, 23) := ⟨⟨by decide +kernel, by decide +kernel⟩, List.mem_of_getElem? (i := 606) (by decide +kernel), List.mem_of_getElem? (i := 717) (by decide +kernel), List.mem_of_getElem? (i := 718) (by decide +kernel)⟩
theorem lw_p27 : lw_okq (⟨"BentQuartersModel", "putTotal", "(II)I"⟩, 23) := ⟨⟨by decide +kernel, by decide +kernel⟩, List.mem_of_getElem? (i := 606) (by decide +kernel), List.mem_of_getElem? (i := 725) (by decide +kernel), List.mem_of_getElem? (i := 726) (by decide +kernel)⟩
theorem lw_p28 : lw_okq (⟨"BentQuartersModel", "dropTotal", "(I)I"⟩, 23) := ⟨⟨by decide +kernel, by decide +kernel⟩, List.mem_of_getElem? (i := 606) (by decide +kernel), List.mem_of_getElem? (i := 738) (by decide +kernel), List.mem_of_getElem? (i := 739) (by decide +kernel)⟩
theorem lw_p29 : lw_okq (⟨"BentQuartersModel", "putFrozen", "(II)I"⟩, 23) := ⟨⟨by decide +kernel, by decide +kernel⟩, List.mem_of_getElem? (i := 606) (by decide +kernel), List.mem_of_getElem? (i := 746) (by decide +kernel), List.mem_of_getElem? (i := 747) (by decide +kernel)⟩
theorem lw_p30 : lw_okq (⟨"BentQuartersModel", "putLimit", "(I)I"⟩, 23) := ⟨⟨by decide +kernel, by decide +kernel⟩, List.mem_of_getElem? (i := 606) (by decide +kernel), List.mem_of_getElem? (i := 757) (by decide +kernel), List.mem_of_getElem? (i := 758) (by decide +kernel)⟩
theorem lw_p31 : lw_okq (⟨"BentQuartersModel", "putForm", "(I)I"⟩, 23) := ⟨⟨by decide +kernel, by decide +kernel⟩, List.mem_of_getElem? (i := 606) (by decide +kernel), List.mem_of_getElem? (i := 767) (by decide +kernel), List.mem_of_getElem? (i := 768) (by decide +kernel)⟩
def lw_privs_2 : List (MethodName × Nat) := [(⟨"BentQuarters$Text", "closes", "()Z"⟩, 9), (⟨"BentQuarters$Text", "readsFigure", "(I)Z"⟩, 9), (⟨"BentQuarters", "obeys", "(III)I"⟩, 6), (⟨"BentQuarters", "digestsFigures", "(J)J"⟩, 6), (⟨"BentQuarters", "digestsBent", "(J)J"⟩, 6), (⟨"BentQuartersModel", "save", "()V"⟩, 23), (⟨"BentQuartersModel", "putQuarter", "(I)I"⟩, 23), (⟨"BentQuartersModel", "finish", "(I)I"⟩, 23), (⟨"BentQuartersModel", "refuse", "(I)I"⟩, 23), (⟨"BentQuartersModel", "putIndicator", "(II)I"⟩, 23), (⟨"BentQuartersModel", "isQuarter", "(I)Z"⟩, 23), (⟨"BentQuartersModel", "putTotal", "(II)I"⟩, 23), (⟨"BentQuartersModel", "dropTotal", "(I)I"⟩, 23), (⟨"BentQuartersModel", "putFrozen", "(II)I"⟩, 23), (⟨"BentQuartersModel", "putLimit", "(I)I"⟩, 23), (⟨"BentQuartersModel", "putForm", "(I)I"⟩, 23)]
theorem lw_r2 : ∀ q ∈ lw_privs_2, lw_okq q := List.forall_mem_cons.mpr ⟨lw_p16, List.forall_mem_cons.mpr ⟨lw_p17, List.forall_mem_cons.mpr ⟨lw_p18, List.forall_mem_cons.mpr ⟨lw_p19, List.forall_mem_cons.mpr ⟨lw_p20, List.forall_mem_cons.mpr ⟨lw_p21, List.forall_mem_cons.mpr ⟨lw_p22, List.forall_mem_cons.mpr ⟨lw_p23, List.forall_mem_cons.mpr ⟨lw_p24, List.forall_mem_cons.mpr ⟨lw_p25, List.forall_mem_cons.mpr ⟨lw_p26, List.forall_mem_cons.mpr ⟨lw_p27, List.forall_mem_cons.mpr ⟨lw_p28, List.forall_mem_cons.mpr ⟨lw_p29, List.forall_mem_cons.mpr ⟨lw_p30, List.forall_mem_cons.mpr ⟨lw_p31, fun _ h => absurd h List.not_mem_nil⟩⟩⟩⟩⟩⟩⟩⟩⟩⟩⟩⟩⟩⟩⟩⟩
theorem lw_p32 : lw_okq (⟨"BentQuartersModel", "publishAll", "()I"⟩, 23) := ⟨⟨by decide +kernel, by decide +kernel⟩, List.mem_of_getElem? (i := 606) (by decide +kernel), List.mem_of_getElem? (i := 775) (by decide +kernel), List.mem_of_getElem? (i := 776) (by decide +kernel)⟩
theorem lw_p33 : lw_okq (⟨"BentQuartersModel", "bend", "()Z"⟩, 23) := ⟨⟨by decide +kernel, by decide +kernel⟩, List.mem_of_getElem? (i := 606) (by decide +kernel), List.mem_of_getElem? (i := 779) (by decide +kernel), List.mem_of_getElem? (i := 780) (by decide +kernel)⟩
theorem lw_p34 : lw_okq (⟨"BentQuartersModel", "find", "(II)Z"⟩, 23) := ⟨⟨by decide +kernel, by decide +kernel⟩, List.mem_of_getElem? (i := 606) (by decide +kernel), List.mem_of_getElem? (i := 783) (by decide +kernel), List.mem_of_getElem? (i := 784) (by decide +kernel)⟩
theorem lw_p35 : lw_okq (⟨"BentQuartersModel", "isBound", "(I)Z"⟩, 23) := ⟨⟨by decide +kernel, by decide +kernel⟩, List.mem_of_getElem? (i := 606) (by decide +kernel), List.mem_of_getElem? (i := 787) (by decide +kernel), List.mem_of_getElem? (i := 788) (by decide +kernel)⟩
theorem lw_p36 : lw_okq (⟨"BentQuartersModel", "lay", "(III)V"⟩, 23) := ⟨⟨by decide +kernel, by decide +kernel⟩, List.mem_of_getElem? (i := 606) (by decide +kernel), List.mem_of_getElem? (i := 791) (by decide +kernel), List.mem_of_getElem? (i := 792) (by decide +kernel)⟩
theorem lw_p37 : lw_okq (⟨"BentQuartersModel", "may", "(II)Z"⟩, 23) := ⟨⟨by decide +kernel, by decide +kernel⟩, List.mem_of_getElem? (i := 606) (by decide +kernel), List.mem_of_getElem? (i := 799) (by decide +kernel), List.mem_of_getElem? (i := 800) (by decide +kernel)⟩
theorem lw_p38 : lw_okq (⟨"BentQuartersModel", "together", "(I)I"⟩, 23) := ⟨⟨by decide +kernel, by decide +kernel⟩, List.mem_of_getElem? (i := 606) (by decide +kernel), List.mem_of_getElem? (i := 803) (by decide +kernel), List.mem_of_getElem? (i := 804) (by decide +kernel)⟩
theorem lw_p39 : lw_okq (⟨"BentQuartersModel", "nextSum", "(III)I"⟩, 23) := ⟨⟨by decide +kernel, by decide +kernel⟩, List.mem_of_getElem? (i := 606) (by decide +kernel), List.mem_of_getElem? (i := 807) (by decide +kernel), List.mem_of_getElem? (i := 808) (by decide +kernel)⟩
theorem lw_p40 : lw_okq (⟨"BentQuartersModel", "step", "(III)J"⟩, 23) := ⟨⟨by decide +kernel, by decide +kernel⟩, List.mem_of_getElem? (i := 606) (by decide +kernel), List.mem_of_getElem? (i := 814) (by decide +kernel), List.mem_of_getElem? (i := 815) (by decide +kernel)⟩
theorem lw_p41 : lw_okq (⟨"BentQuartersModel", "nextBest", "(III)I"⟩, 23) := ⟨⟨by decide +kernel, by decide +kernel⟩, List.mem_of_getElem? (i := 606) (by decide +kernel), List.mem_of_getElem? (i := 821) (by decide +kernel), List.mem_of_getElem? (i := 822) (by decide +kernel)⟩
theorem lw_p42 : lw_okq (⟨"BentQuartersModel", "publishedMany", "()I"⟩, 23) := ⟨⟨by decide +kernel, by decide +kernel⟩, List.mem_of_getElem? (i := 606) (by decide +kernel), List.mem_of_getElem? (i := 829) (by decide +kernel), List.mem_of_getElem? (i := 830) (by decide +kernel)⟩
theorem lw_p43 : lw_okq (⟨"BentQuartersModel", "ofQuarter", "(II)I"⟩, 23) := ⟨⟨by decide +kernel, by decide +kernel⟩, List.mem_of_getElem? (i := 606) (by decide +kernel), List.mem_of_getElem? (i := 838) (by decide +kernel), List.mem_of_getElem? (i := 839) (by decide +kernel)⟩
theorem lw_p44 : lw_okq (⟨"BentQuartersModel", "ofYear", "(II)I"⟩, 23) := ⟨⟨by decide +kernel, by decide +kernel⟩, List.mem_of_getElem? (i := 606) (by decide +kernel), List.mem_of_getElem? (i := 846) (by decide +kernel), List.mem_of_getElem? (i := 847) (by decide +kernel)⟩
theorem lw_p45 : lw_okq (⟨"BentQuartersModel", "countOf", "(I)I"⟩, 23) := ⟨⟨by decide +kernel, by decide +kernel⟩, List.mem_of_getElem? (i := 606) (by decide +kernel), List.mem_of_getElem? (i := 855) (by decide +kernel), List.mem_of_getElem? (i := 856) (by decide +kernel)⟩
theorem lw_p46 : lw_okq (⟨"BentQuartersModel", "movedBy", "(I[I)J"⟩, 23) := ⟨⟨by decide +kernel, by decide +kernel⟩, List.mem_of_getElem? (i := 606) (by decide +kernel), List.mem_of_getElem? (i := 867) (by decide +kernel), List.mem_of_getElem? (i := 868) (by decide +kernel)⟩
theorem lw_p47 : lw_okq (⟨"BentQuartersModel", "revisedOf", "(I)I"⟩, 23) := ⟨⟨by decide +kernel, by decide +kernel⟩, List.mem_of_getElem? (i := 606) (by decide +kernel), List.mem_of_getElem? (i := 875) (by decide +kernel), List.mem_of_getElem? (i := 876) (by decide +kernel)⟩
def lw_privs_3 : List (MethodName × Nat) := [(⟨"BentQuartersModel", "publishAll", "()I"⟩, 23), (⟨"BentQuartersModel", "bend", "()Z"⟩, 23), (⟨"BentQuartersModel", "find", "(II)Z"⟩, 23), (⟨"BentQuartersModel", "isBound", "(I)Z"⟩, 23), (⟨"BentQuartersModel", "lay", "(III)V"⟩, 23), (⟨"BentQuartersModel", "may", "(II)Z"⟩, 23), (⟨"BentQuartersModel", "together", "(I)I"⟩, 23), (⟨"BentQuartersModel", "nextSum", "(III)I"⟩, 23), (⟨"BentQuartersModel", "step", "(III)J"⟩, 23), (⟨"BentQuartersModel", "nextBest", "(III)I"⟩, 23), (⟨"BentQuartersModel", "publishedMany", "()I"⟩, 23), (⟨"BentQuartersModel", "ofQuarter", "(II)I"⟩, 23), (⟨"BentQuartersModel", "ofYear", "(II)I"⟩, 23), (⟨"BentQuartersModel", "countOf", "(I)I"⟩, 23), (⟨"BentQuartersModel", "movedBy", "(I[I)J"⟩, 23), (⟨"BentQuartersModel", "revisedOf", "(I)I"⟩, 23)]
theorem lw_r3 : ∀ q ∈ lw_privs_3, lw_okq q := List.forall_mem_cons.mpr ⟨lw_p32, List.forall_mem_cons.mpr ⟨lw_p33, List.forall_mem_cons.mpr ⟨lw_p34, List.forall_mem_cons.mpr ⟨lw_p35, List.forall_mem_cons.mpr ⟨lw_p36, List.forall_mem_cons.mpr ⟨lw_p37, List.forall_mem_cons.mpr ⟨lw_p38, List.forall_mem_cons.mpr ⟨lw_p39, List.forall_mem_cons.mpr ⟨lw_p40, List.forall_mem_cons.mpr ⟨lw_p41, List.forall_mem_cons.mpr ⟨lw_p42, List.forall_mem_cons.mpr ⟨lw_p43, List.forall_mem_cons.mpr ⟨lw_p44, List.forall_mem_cons.mpr ⟨lw_p45, List.forall_mem_cons.mpr ⟨lw_p46, List.forall_mem_cons.mpr ⟨lw_p47, fun _ h => absurd h List.not_mem_nil⟩⟩⟩⟩⟩⟩⟩⟩⟩⟩⟩⟩⟩⟩⟩⟩
theorem lw_p48 : lw_okq (⟨"BentQuartersModel", "shareOut", "()V"⟩, 23) := ⟨⟨by decide +kernel, by decide +kernel⟩, List.mem_of_getElem? (i := 606) (by decide +kernel), List.mem_of_getElem? (i := 899) (by decide +kernel), List.mem_of_getElem? (i := 900) (by decide +kernel)⟩
theorem lw_p49 : lw_okq (⟨"BentQuartersModel", "shareYear", "(III)V"⟩, 23) := ⟨⟨by decide +kernel, by decide +kernel⟩, List.mem_of_getElem? (i := 606) (by decide +kernel), List.mem_of_getElem? (i := 903) (by decide +kernel), List.mem_of_getElem? (i := 904) (by decide +kernel)⟩
theorem lw_p50 : lw_okq (⟨"BentQuartersModel", "readText", "()I"⟩, 23) := ⟨⟨by decide +kernel, by decide +kernel⟩, List.mem_of_getElem? (i := 606) (by decide +kernel), List.mem_of_getElem? (i := 924) (by decide +kernel), List.mem_of_getElem? (i := 925) (by decide +kernel)⟩
theorem lw_p51 : lw_okq (⟨"BentQuartersModel", "readByte", "(I)Z"⟩, 23) := ⟨⟨by decide +kernel, by decide +kernel⟩, List.mem_of_getElem? (i := 606) (by decide +kernel), List.mem_of_getElem? (i := 928) (by decide +kernel), List.mem_of_getElem? (i := 929) (by decide +kernel)⟩
theorem lw_p52 : lw_okq (⟨"BentQuartersModel", "doOrder", "(I)I"⟩, 23) := ⟨⟨by decide +kernel, by decide +kernel⟩, List.mem_of_getElem? (i := 606) (by decide +kernel), List.mem_of_getElem? (i := 937) (by decide +kernel), List.mem_of_getElem? (i := 938) (by decide +kernel)⟩
theorem lw_p53 : lw_okq (⟨"BentQuartersModel", "toldOf", "(I)I"⟩, 23) := ⟨⟨by decide +kernel, by decide +kernel⟩, List.mem_of_getElem? (i := 606) (by decide +kernel), List.mem_of_getElem? (i := 950) (by decide +kernel), List.mem_of_getElem? (i := 951) (by decide +kernel)⟩
def lw_privs_4 : List (MethodName × Nat) := [(⟨"BentQuartersModel", "shareOut", "()V"⟩, 23), (⟨"BentQuartersModel", "shareYear", "(III)V"⟩, 23), (⟨"BentQuartersModel", "readText", "()I"⟩, 23), (⟨"BentQuartersModel", "readByte", "(I)Z"⟩, 23), (⟨"BentQuartersModel", "doOrder", "(I)I"⟩, 23), (⟨"BentQuartersModel", "toldOf", "(I)I"⟩, 23)]
theorem lw_r4 : ∀ q ∈ lw_privs_4, lw_okq q := List.forall_mem_cons.mpr ⟨lw_p48, List.forall_mem_cons.mpr ⟨lw_p49, List.forall_mem_cons.mpr ⟨lw_p50, List.forall_mem_cons.mpr ⟨lw_p51, List.forall_mem_cons.mpr ⟨lw_p52, List.forall_mem_cons.mpr ⟨lw_p53, fun _ h => absurd h List.not_mem_nil⟩⟩⟩⟩⟩⟩
def lw_privs : List (MethodName × Nat) := lw_privs_1 ++ (lw_privs_2 ++ (lw_privs_3 ++ (lw_privs_4)))
def lw_tbl : List Cond := k2_sels lw_privs ++ tables_1
theorem lw_privs_ok : ∀ q ∈ lw_privs, lw_okq q := by
  show ∀ q ∈ lw_privs_1 ++ (lw_privs_2 ++ (lw_privs_3 ++ (lw_privs_4))), lw_okq q
  exact List.forall_mem_append.mpr ⟨lw_r1, List.forall_mem_append.mpr ⟨lw_r2, List.forall_mem_append.mpr ⟨lw_r3, lw_r4⟩⟩⟩
def RX0 : String := "BentQuarters$Bender"
def TX0 : u_T := fun k => match k with
  | 0 => ("BentQuarters$Bender", "bounds", "LBentQuarters$Bounds;", true)
  | 1 => ("BentQuarters$Bender", "costs", "[J", true)
  | 2 => ("BentQuarters$Bender", "ways", "[I", true)
  | 3 => ("BentQuarters$Bender", "stepCosts", "[J", true)
  | 4 => ("BentQuarters$Bender", "bestCost", "J", false)
  | 5 => ("BentQuarters$Bender", "bestWays", "I", false)
  | 6 => ("BentQuarters$Bender", "bestStep", "I", false)
  | 7 => ("BentQuarters$Bender", "known", "Z", false)
  | 8 => ("BentQuarters$Bender", "there", "Z", false)
  | 9 => ("BentQuarters$Bender", "row", "[I", true)
  | _ => ("BentQuarters$Bender", "rows", "I", false)
def tyX0 : Nat → FieldType := fun k => match k with
  | 0 => .object "BentQuarters$Bounds"
  | 1 => .array .long
  | 2 => .array .int
  | 3 => .array .long
  | 4 => .long
  | 5 => .int
  | 6 => .int
  | 7 => .boolean
  | 8 => .boolean
  | 9 => .array .int
  | _ => .int
abbrev wsX00 : List Cond := u_ws RX0 TX0 11
theorem nmX0 : ∀ a, a < 11 → ∀ b, b < 11 → a ≠ b → (TX0 a).2.1 ≠ (TX0 b).2.1 := by decide +kernel
theorem tyX0_ok : ∀ k, k < 11 → parseFieldDescriptor (TX0 k).2.2.1 = some (tyX0 k) := by decide +kernel
abbrev cX0_init : ByteArray := prog_2_method_1_code
def yX0_init : MethodName := ⟨RX0, "<init>", "()V"⟩
abbrev cX0_forgets : ByteArray := prog_2_method_2_code
def yX0_forgets : MethodName := ⟨RX0, "forgets", "()V"⟩
abbrev cX0_meetsWithin : ByteArray := prog_2_method_3_code
def yX0_meetsWithin : MethodName := ⟨RX0, "meetsWithin", "(LBentQuarters$Figures;I)Z"⟩
abbrev cX0_bends : ByteArray := prog_2_method_4_code
def yX0_bends : MethodName := ⟨RX0, "bends", "(LBentQuarters$Figures;)Z"⟩
abbrev cX0_leastWithout : ByteArray := prog_2_method_5_code
def yX0_leastWithout : MethodName := ⟨RX0, "leastWithout", "(LBentQuarters$Figures;I)J"⟩
abbrev cX0_fills : ByteArray := prog_2_method_6_code
def yX0_fills : MethodName := ⟨RX0, "fills", "(LBentQuarters$Figures;)V"⟩
abbrev cX0_keepsBest : ByteArray := prog_2_method_7_code
def yX0_keepsBest : MethodName := ⟨RX0, "keepsBest", "(I)V"⟩
abbrev cX0_traces : ByteArray := prog_2_method_8_code
def yX0_traces : MethodName := ⟨RX0, "traces", "(LBentQuarters$Figures;)V"⟩
abbrev cX0_weighsSteps : ByteArray := prog_2_method_9_code
def yX0_weighsSteps : MethodName := ⟨RX0, "weighsSteps", "(LBentQuarters$Figures;II)V"⟩
abbrev cX0_choosesStep : ByteArray := prog_2_method_10_code
def yX0_choosesStep : MethodName := ⟨RX0, "choosesStep", "(II)V"⟩
abbrev cX0_spot : ByteArray := prog_2_method_11_code
def yX0_spot : MethodName := ⟨RX0, "spot", "(III)I"⟩
abbrev cX0_isSpot : ByteArray := prog_2_method_12_code
def yX0_isSpot : MethodName := ⟨RX0, "isSpot", "(I)Z"⟩
def RX1 : String := "BentQuarters$Bounds"
def TX1 : u_T := fun k => match k with
  | 0 => ("BentQuarters$Bounds", "low", "[I", true)
  | 1 => ("BentQuarters$Bounds", "high", "[I", true)
  | 2 => ("BentQuarters$Bounds", "leftLow", "[I", true)
  | 3 => ("BentQuarters$Bounds", "leftHigh", "[I", true)
  | 4 => ("BentQuarters$Bounds", "bound", "[Z", true)
  | 5 => ("BentQuarters$Bounds", "gaps", "[I", true)
  | _ => ("BentQuarters$Bounds", "quarters", "I", false)
def tyX1 : Nat → FieldType := fun k => match k with
  | 0 => .array .int
  | 1 => .array .int
  | 2 => .array .int
  | 3 => .array .int
  | 4 => .array .boolean
  | 5 => .array .int
  | _ => .int
abbrev wsX10 : List Cond := u_ws RX1 TX1 7
theorem nmX1 : ∀ a, a < 7 → ∀ b, b < 7 → a ≠ b → (TX1 a).2.1 ≠ (TX1 b).2.1 := by decide +kernel
theorem tyX1_ok : ∀ k, k < 7 → parseFieldDescriptor (TX1 k).2.2.1 = some (tyX1 k) := by decide +kernel
abbrev cX1_init : ByteArray := prog_3_method_1_code
def yX1_init : MethodName := ⟨RX1, "<init>", "()V"⟩
abbrev cX1_lays : ByteArray := prog_3_method_2_code
def yX1_lays : MethodName := ⟨RX1, "lays", "(LBentQuarters$Figures;II)Z"⟩
abbrev cX1_laysQuarter : ByteArray := prog_3_method_3_code
def yX1_laysQuarter : MethodName := ⟨RX1, "laysQuarter", "(LBentQuarters$Figures;II)V"⟩
abbrev cX1_laysYear : ByteArray := prog_3_method_4_code
def yX1_laysYear : MethodName := ⟨RX1, "laysYear", "(I)Z"⟩
abbrev cX1_isBound : ByteArray := prog_3_method_5_code
def yX1_isBound : MethodName := ⟨RX1, "isBound", "(I)Z"⟩
abbrev cX1_leftAhead : ByteArray := prog_3_method_6_code
def yX1_leftAhead : MethodName := ⟨RX1, "leftAhead", "(II)I"⟩
abbrev cX1_leastLeft : ByteArray := prog_3_method_7_code
def yX1_leastLeft : MethodName := ⟨RX1, "leastLeft", "(II)I"⟩
abbrev cX1_mostLeft : ByteArray := prog_3_method_8_code
def yX1_mostLeft : MethodName := ⟨RX1, "mostLeft", "(II)I"⟩
def RX2 : String := "BentQuarters$Figures"
def TX2 : u_T := fun k => match k with
  | 0 => ("BentQuarters$Figures", "indicators", "[I", true)
  | 1 => ("BentQuarters$Figures", "totals", "[I", true)
  | 2 => ("BentQuarters$Figures", "printed", "[I", true)
  | 3 => ("BentQuarters$Figures", "quarters", "I", false)
  | 4 => ("BentQuarters$Figures", "frozen", "I", false)
  | 5 => ("BentQuarters$Figures", "limit", "I", false)
  | _ => ("BentQuarters$Figures", "shape", "I", false)
def tyX2 : Nat → FieldType := fun k => match k with
  | 0 => .array .int
  | 1 => .array .int
  | 2 => .array .int
  | 3 => .int
  | 4 => .int
  | 5 => .int
  | _ => .int
abbrev wsX20 : List Cond := u_ws RX2 TX2 7
theorem nmX2 : ∀ a, a < 7 → ∀ b, b < 7 → a ≠ b → (TX2 a).2.1 ≠ (TX2 b).2.1 := by decide +kernel
theorem tyX2_ok : ∀ k, k < 7 → parseFieldDescriptor (TX2 k).2.2.1 = some (tyX2 k) := by decide +kernel
abbrev cX2_init : ByteArray := prog_4_method_1_code
def yX2_init : MethodName := ⟨RX2, "<init>", "()V"⟩
abbrev cX2_becomes : ByteArray := prog_4_method_2_code
def yX2_becomes : MethodName := ⟨RX2, "becomes", "(LBentQuarters$Figures;)V"⟩
abbrev cX2_has : ByteArray := prog_4_method_3_code
def yX2_has : MethodName := ⟨RX2, "has", "(I)Z"⟩
abbrev cX2_isPrinted : ByteArray := prog_4_method_4_code
def yX2_isPrinted : MethodName := ⟨RX2, "isPrinted", "(I)Z"⟩
abbrev cX2_isFrozen : ByteArray := prog_4_method_5_code
def yX2_isFrozen : MethodName := ⟨RX2, "isFrozen", "(I)Z"⟩
abbrev cX2_adds : ByteArray := prog_4_method_6_code
def yX2_adds : MethodName := ⟨RX2, "adds", "(I)I"⟩
abbrev cX2_reindicates : ByteArray := prog_4_method_7_code
def yX2_reindicates : MethodName := ⟨RX2, "reindicates", "(II)I"⟩
abbrev cX2_tells : ByteArray := prog_4_method_8_code
def yX2_tells : MethodName := ⟨RX2, "tells", "(II)I"⟩
abbrev cX2_untells : ByteArray := prog_4_method_9_code
def yX2_untells : MethodName := ⟨RX2, "untells", "(I)I"⟩
abbrev cX2_ices : ByteArray := prog_4_method_10_code
def yX2_ices : MethodName := ⟨RX2, "ices", "(II)I"⟩
abbrev cX2_bounds : ByteArray := prog_4_method_11_code
def yX2_bounds : MethodName := ⟨RX2, "bounds", "(I)I"⟩
abbrev cX2_shapes : ByteArray := prog_4_method_12_code
def yX2_shapes : MethodName := ⟨RX2, "shapes", "(I)I"⟩
abbrev cX2_unprints : ByteArray := prog_4_method_13_code
def yX2_unprints : MethodName := ⟨RX2, "unprints", "()I"⟩
abbrev cX2_printedOnes : ByteArray := prog_4_method_14_code
def yX2_printedOnes : MethodName := ⟨RX2, "printedOnes", "()I"⟩
abbrev cX2_toldOfQuarter : ByteArray := prog_4_method_15_code
def yX2_toldOfQuarter : MethodName := ⟨RX2, "toldOfQuarter", "(II)I"⟩
abbrev cX2_toldOfYear : ByteArray := prog_4_method_16_code
def yX2_toldOfYear : MethodName := ⟨RX2, "toldOfYear", "(II)I"⟩
abbrev cX2_toldOfAll : ByteArray := prog_4_method_17_code
def yX2_toldOfAll : MethodName := ⟨RX2, "toldOfAll", "(I)I"⟩
abbrev cX2_yearsTold : ByteArray := prog_4_method_18_code
def yX2_yearsTold : MethodName := ⟨RX2, "yearsTold", "()I"⟩
abbrev cX2_indicated : ByteArray := prog_4_method_19_code
def yX2_indicated : MethodName := ⟨RX2, "indicated", "(I)I"⟩
abbrev cX2_gap : ByteArray := prog_4_method_20_code
def yX2_gap : MethodName := ⟨RX2, "gap", "(I)I"⟩
abbrev cX2_share : ByteArray := prog_4_method_21_code
def yX2_share : MethodName := ⟨RX2, "share", "(I)I"⟩
abbrev cX2_movement : ByteArray := prog_4_method_22_code
def yX2_movement : MethodName := ⟨RX2, "movement", "([II)J"⟩
def RX3 : String := "BentQuarters$Past"
def TX3 : u_T := fun k => match k with
  | 0 => ("BentQuarters$Past", "ring", "[LBentQuarters$Figures;", true)
  | 1 => ("BentQuarters$Past", "top", "I", false)
  | _ => ("BentQuarters$Past", "states", "I", false)
def tyX3 : Nat → FieldType := fun k => match k with
  | 0 => .array (.object "BentQuarters$Figures")
  | 1 => .int
  | _ => .int
abbrev wsX30 : List Cond := u_ws RX3 TX3 3
theorem nmX3 : ∀ a, a < 3 → ∀ b, b < 3 → a ≠ b → (TX3 a).2.1 ≠ (TX3 b).2.1 := by decide +kernel
theorem tyX3_ok : ∀ k, k < 3 → parseFieldDescriptor (TX3 k).2.2.1 = some (tyX3 k) := by decide +kernel
abbrev cX3_init : ByteArray := prog_5_method_1_code
def yX3_init : MethodName := ⟨RX3, "<init>", "()V"⟩
abbrev cX3_holds : ByteArray := prog_5_method_2_code
def yX3_holds : MethodName := ⟨RX3, "holds", "(LBentQuarters$Figures;)V"⟩
abbrev cX3_restores : ByteArray := prog_5_method_3_code
def yX3_restores : MethodName := ⟨RX3, "restores", "(LBentQuarters$Figures;)V"⟩
abbrev cX3_keeps : ByteArray := prog_5_method_4_code
def yX3_keeps : MethodName := ⟨RX3, "keeps", "()V"⟩
abbrev cX3_returns : ByteArray := prog_5_method_5_code
def yX3_returns : MethodName := ⟨RX3, "returns", "(LBentQuarters$Figures;)V"⟩
def RX4 : String := "BentQuarters$Text"
def TX4 : u_T := fun k => match k with
  | 0 => ("BentQuarters$Text", "bytes", "[I", true)
  | 1 => ("BentQuarters$Text", "length", "I", false)
  | 2 => ("BentQuarters$Text", "letters", "[I", true)
  | 3 => ("BentQuarters$Text", "firsts", "[I", true)
  | 4 => ("BentQuarters$Text", "seconds", "[I", true)
  | 5 => ("BentQuarters$Text", "orders", "I", false)
  | 6 => ("BentQuarters$Text", "open", "Z", false)
  | 7 => ("BentQuarters$Text", "numbers", "I", false)
  | _ => ("BentQuarters$Text", "figuresInNumber", "I", false)
def tyX4 : Nat → FieldType := fun k => match k with
  | 0 => .array .int
  | 1 => .int
  | 2 => .array .int
  | 3 => .array .int
  | 4 => .array .int
  | 5 => .int
  | 6 => .boolean
  | 7 => .int
  | _ => .int
abbrev wsX40 : List Cond := u_ws RX4 TX4 9
theorem nmX4 : ∀ a, a < 9 → ∀ b, b < 9 → a ≠ b → (TX4 a).2.1 ≠ (TX4 b).2.1 := by decide +kernel
theorem tyX4_ok : ∀ k, k < 9 → parseFieldDescriptor (TX4 k).2.2.1 = some (tyX4 k) := by decide +kernel
abbrev cX4_init : ByteArray := prog_6_method_1_code
def yX4_init : MethodName := ⟨RX4, "<init>", "()V"⟩
abbrev cX4_takes : ByteArray := prog_6_method_2_code
def yX4_takes : MethodName := ⟨RX4, "takes", "(I)I"⟩
abbrev cX4_reads : ByteArray := prog_6_method_3_code
def yX4_reads : MethodName := ⟨RX4, "reads", "()I"⟩
abbrev cX4_readsByte : ByteArray := prog_6_method_4_code
def yX4_readsByte : MethodName := ⟨RX4, "readsByte", "(I)Z"⟩
abbrev cX4_opens : ByteArray := prog_6_method_5_code
def yX4_opens : MethodName := ⟨RX4, "opens", "(I)Z"⟩
abbrev cX4_closes : ByteArray := prog_6_method_6_code
def yX4_closes : MethodName := ⟨RX4, "closes", "()Z"⟩
abbrev cX4_readsFigure : ByteArray := prog_6_method_7_code
def yX4_readsFigure : MethodName := ⟨RX4, "readsFigure", "(I)Z"⟩
abbrev cX4_numbersOf : ByteArray := prog_6_method_8_code
def yX4_numbersOf : MethodName := ⟨RX4, "numbersOf", "(I)I"⟩
def RX5 : String := "BentQuarters"
def TX5 : u_T := fun k => match k with
  | 0 => ("BentQuarters", "figures", "LBentQuarters$Figures;", true)
  | 1 => ("BentQuarters", "bender", "LBentQuarters$Bender;", true)
  | 2 => ("BentQuarters", "past", "LBentQuarters$Past;", true)
  | 3 => ("BentQuarters", "text", "LBentQuarters$Text;", true)
  | 4 => ("BentQuarters", "refusals", "[I", true)
  | _ => ("BentQuarters", "shares", "[I", true)
def tyX5 : Nat → FieldType := fun k => match k with
  | 0 => .object "BentQuarters$Figures"
  | 1 => .object "BentQuarters$Bender"
  | 2 => .object "BentQuarters$Past"
  | 3 => .object "BentQuarters$Text"
  | 4 => .array .int
  | _ => .array .int
abbrev wsX50 : List Cond := u_ws RX5 TX5 6
theorem nmX5 : ∀ a, a < 6 → ∀ b, b < 6 → a ≠ b → (TX5 a).2.1 ≠ (TX5 b).2.1 := by decide +kernel
theorem tyX5_ok : ∀ k, k < 6 → parseFieldDescriptor (TX5 k).2.2.1 = some (tyX5 k) := by decide +kernel
abbrev cX5_init : ByteArray := prog_1_method_1_code
def yX5_init : MethodName := ⟨RX5, "<init>", "()V"⟩
abbrev cX5_quarter : ByteArray := prog_1_method_2_code
def yX5_quarter : MethodName := ⟨RX5, "quarter", "(I)I"⟩
abbrev cX5_indicates : ByteArray := prog_1_method_3_code
def yX5_indicates : MethodName := ⟨RX5, "indicates", "(II)I"⟩
abbrev cX5_total : ByteArray := prog_1_method_4_code
def yX5_total : MethodName := ⟨RX5, "total", "(II)I"⟩
abbrev cX5_untold : ByteArray := prog_1_method_5_code
def yX5_untold : MethodName := ⟨RX5, "untold", "(I)I"⟩
abbrev cX5_freezes : ByteArray := prog_1_method_6_code
def yX5_freezes : MethodName := ⟨RX5, "freezes", "(II)I"⟩
abbrev cX5_limits : ByteArray := prog_1_method_7_code
def yX5_limits : MethodName := ⟨RX5, "limits", "(I)I"⟩
abbrev cX5_form : ByteArray := prog_1_method_8_code
def yX5_form : MethodName := ⟨RX5, "form", "(I)I"⟩
abbrev cX5_publishes : ByteArray := prog_1_method_9_code
def yX5_publishes : MethodName := ⟨RX5, "publishes", "()I"⟩
abbrev cX5_recalls : ByteArray := prog_1_method_10_code
def yX5_recalls : MethodName := ⟨RX5, "recalls", "()I"⟩
abbrev cX5_of : ByteArray := prog_1_method_11_code
def yX5_of : MethodName := ⟨RX5, "of", "(II)I"⟩
abbrev cX5_year : ByteArray := prog_1_method_12_code
def yX5_year : MethodName := ⟨RX5, "year", "(II)I"⟩
abbrev cX5_count : ByteArray := prog_1_method_13_code
def yX5_count : MethodName := ⟨RX5, "count", "(I)I"⟩
abbrev cX5_bent : ByteArray := prog_1_method_14_code
def yX5_bent : MethodName := ⟨RX5, "bent", "(I)I"⟩
abbrev cX5_moved : ByteArray := prog_1_method_15_code
def yX5_moved : MethodName := ⟨RX5, "moved", "(I)J"⟩
abbrev cX5_revised : ByteArray := prog_1_method_16_code
def yX5_revised : MethodName := ⟨RX5, "revised", "(I)I"⟩
abbrev cX5_farthest : ByteArray := prog_1_method_17_code
def yX5_farthest : MethodName := ⟨RX5, "farthest", "()I"⟩
abbrev cX5_least : ByteArray := prog_1_method_18_code
def yX5_least : MethodName := ⟨RX5, "least", "()I"⟩
abbrev cX5_price : ByteArray := prog_1_method_19_code
def yX5_price : MethodName := ⟨RX5, "price", "(I)J"⟩
abbrev cX5_others : ByteArray := prog_1_method_20_code
def yX5_others : MethodName := ⟨RX5, "others", "()I"⟩
abbrev cX5_shared : ByteArray := prog_1_method_21_code
def yX5_shared : MethodName := ⟨RX5, "shared", "(I)I"⟩
abbrev cX5_stepped : ByteArray := prog_1_method_22_code
def yX5_stepped : MethodName := ⟨RX5, "stepped", "(I)J"⟩
abbrev cX5_type : ByteArray := prog_1_method_23_code
def yX5_type : MethodName := ⟨RX5, "type", "(I)I"⟩
abbrev cX5_clear : ByteArray := prog_1_method_24_code
def yX5_clear : MethodName := ⟨RX5, "clear", "()I"⟩
abbrev cX5_does : ByteArray := prog_1_method_25_code
def yX5_does : MethodName := ⟨RX5, "does", "()I"⟩
abbrev cX5_back : ByteArray := prog_1_method_26_code
def yX5_back : MethodName := ⟨RX5, "back", "()I"⟩
abbrev cX5_told : ByteArray := prog_1_method_27_code
def yX5_told : MethodName := ⟨RX5, "told", "(I)I"⟩
abbrev cX5_digest : ByteArray := prog_1_method_28_code
def yX5_digest : MethodName := ⟨RX5, "digest", "()J"⟩
abbrev cX5_digestsFigures : ByteArray := prog_1_method_29_code
def yX5_digestsFigures : MethodName := ⟨RX5, "digestsFigures", "(J)J"⟩
abbrev cX5_digestsBent : ByteArray := prog_1_method_30_code
def yX5_digestsBent : MethodName := ⟨RX5, "digestsBent", "(J)J"⟩
abbrev cX5_prints : ByteArray := prog_1_method_31_code
def yX5_prints : MethodName := ⟨RX5, "prints", "()I"⟩
abbrev cX5_revision : ByteArray := prog_1_method_32_code
def yX5_revision : MethodName := ⟨RX5, "revision", "(I)I"⟩
abbrev cX5_shareMovement : ByteArray := prog_1_method_33_code
def yX5_shareMovement : MethodName := ⟨RX5, "shareMovement", "(I)J"⟩
abbrev cX5_obeys : ByteArray := prog_1_method_34_code
def yX5_obeys : MethodName := ⟨RX5, "obeys", "(III)I"⟩
abbrev cX5_settles : ByteArray := prog_1_method_35_code
def yX5_settles : MethodName := ⟨RX5, "settles", "(I)I"⟩
abbrev cX5_refuses : ByteArray := prog_1_method_36_code
def yX5_refuses : MethodName := ⟨RX5, "refuses", "(I)I"⟩
abbrev cX5_isRefusal : ByteArray := prog_1_method_37_code
def yX5_isRefusal : MethodName := ⟨RX5, "isRefusal", "(I)Z"⟩
abbrev cX5_within : ByteArray := prog_1_method_38_code
def yX5_within : MethodName := ⟨RX5, "within", "(III)Z"⟩
abbrev cX5_isYear : ByteArray := prog_1_method_39_code
def yX5_isYear : MethodName := ⟨RX5, "isYear", "(I)Z"⟩
abbrev cX5_isForm : ByteArray := prog_1_method_40_code
def yX5_isForm : MethodName := ⟨RX5, "isForm", "(I)Z"⟩
def RX6 : String := "BentQuartersModel"
def TX6 : u_T := fun k => match k with
  | 0 => ("BentQuartersModel", "now", "[I", true)
  | 1 => ("BentQuartersModel", "aside", "[I", true)
  | 2 => ("BentQuartersModel", "past", "[I", true)
  | 3 => ("BentQuartersModel", "states", "I", false)
  | 4 => ("BentQuartersModel", "refused", "[I", true)
  | 5 => ("BentQuartersModel", "text", "[I", true)
  | 6 => ("BentQuartersModel", "bytes", "I", false)
  | 7 => ("BentQuartersModel", "orderLetter", "[I", true)
  | 8 => ("BentQuartersModel", "orderFrom", "[I", true)
  | 9 => ("BentQuartersModel", "numbers", "[I", true)
  | 10 => ("BentQuartersModel", "orders", "I", false)
  | 11 => ("BentQuartersModel", "best", "[J", true)
  | 12 => ("BentQuartersModel", "ways", "[I", true)
  | 13 => ("BentQuartersModel", "rowX", "[I", true)
  | 14 => ("BentQuartersModel", "allWays", "I", false)
  | 15 => ("BentQuartersModel", "bestCost", "J", false)
  | 16 => ("BentQuartersModel", "askedLimit", "I", false)
  | 17 => ("BentQuartersModel", "askedBut", "I", false)
  | 18 => ("BentQuartersModel", "sharedX", "[I", true)
  | 19 => ("BentQuartersModel", "letter", "I", false)
  | 20 => ("BentQuartersModel", "begun", "I", false)
  | 21 => ("BentQuartersModel", "figures", "I", false)
  | _ => ("BentQuartersModel", "before", "[I", true)
def tyX6 : Nat → FieldType := fun k => match k with
  | 0 => .array .int
  | 1 => .array .int
  | 2 => .array .int
  | 3 => .int
  | 4 => .array .int
  | 5 => .array .int
  | 6 => .int
  | 7 => .array .int
  | 8 => .array .int
  | 9 => .array .int
  | 10 => .int
  | 11 => .array .long
  | 12 => .array .int
  | 13 => .array .int
  | 14 => .int
  | 15 => .long
  | 16 => .int
  | 17 => .int
  | 18 => .array .int
  | 19 => .int
  | 20 => .int
  | 21 => .int
  | _ => .array .int
abbrev wsX60 : List Cond := u_ws RX6 TX6 23
theorem nmX6 : ∀ a, a < 23 → ∀ b, b < 23 → a ≠ b → (TX6 a).2.1 ≠ (TX6 b).2.1 := by decide +kernel
theorem tyX6_ok : ∀ k, k < 23 → parseFieldDescriptor (TX6 k).2.2.1 = some (tyX6 k) := by decide +kernel
abbrev cX6_init : ByteArray := prog_8_method_1_code
def yX6_init : MethodName := ⟨RX6, "<init>", "()V"⟩
abbrev cX6_in : ByteArray := prog_8_method_2_code
def yX6_in : MethodName := ⟨RX6, "in", "(JJJ)Z"⟩
abbrev cX6_bring : ByteArray := prog_8_method_3_code
def yX6_bring : MethodName := ⟨RX6, "bring", "([II[II)V"⟩
abbrev cX6_refuse : ByteArray := prog_8_method_4_code
def yX6_refuse : MethodName := ⟨RX6, "refuse", "(I)I"⟩
abbrev cX6_save : ByteArray := prog_8_method_5_code
def yX6_save : MethodName := ⟨RX6, "save", "()V"⟩
abbrev cX6_finish : ByteArray := prog_8_method_6_code
def yX6_finish : MethodName := ⟨RX6, "finish", "(I)I"⟩
abbrev cX6_isQuarter : ByteArray := prog_8_method_7_code
def yX6_isQuarter : MethodName := ⟨RX6, "isQuarter", "(I)Z"⟩
abbrev cX6_isYear : ByteArray := prog_8_method_8_code
def yX6_isYear : MethodName := ⟨RX6, "isYear", "(I)Z"⟩
abbrev cX6_putQuarter : ByteArray := prog_8_method_9_code
def yX6_putQuarter : MethodName := ⟨RX6, "putQuarter", "(I)I"⟩
abbrev cX6_putIndicator : ByteArray := prog_8_method_10_code
def yX6_putIndicator : MethodName := ⟨RX6, "putIndicator", "(II)I"⟩
abbrev cX6_putTotal : ByteArray := prog_8_method_11_code
def yX6_putTotal : MethodName := ⟨RX6, "putTotal", "(II)I"⟩
abbrev cX6_dropTotal : ByteArray := prog_8_method_12_code
def yX6_dropTotal : MethodName := ⟨RX6, "dropTotal", "(I)I"⟩
abbrev cX6_ones : ByteArray := prog_8_method_13_code
def yX6_ones : MethodName := ⟨RX6, "ones", "(I)I"⟩
abbrev cX6_putFrozen : ByteArray := prog_8_method_14_code
def yX6_putFrozen : MethodName := ⟨RX6, "putFrozen", "(II)I"⟩
abbrev cX6_putLimit : ByteArray := prog_8_method_15_code
def yX6_putLimit : MethodName := ⟨RX6, "putLimit", "(I)I"⟩
abbrev cX6_putForm : ByteArray := prog_8_method_16_code
def yX6_putForm : MethodName := ⟨RX6, "putForm", "(I)I"⟩
abbrev cX6_publishAll : ByteArray := prog_8_method_17_code
def yX6_publishAll : MethodName := ⟨RX6, "publishAll", "()I"⟩
abbrev cX6_publishedMany : ByteArray := prog_8_method_18_code
def yX6_publishedMany : MethodName := ⟨RX6, "publishedMany", "()I"⟩
abbrev cX6_quarter : ByteArray := prog_8_method_19_code
def yX6_quarter : MethodName := ⟨RX6, "quarter", "(I)I"⟩
abbrev cX6_indicates : ByteArray := prog_8_method_20_code
def yX6_indicates : MethodName := ⟨RX6, "indicates", "(II)I"⟩
abbrev cX6_total : ByteArray := prog_8_method_21_code
def yX6_total : MethodName := ⟨RX6, "total", "(II)I"⟩
abbrev cX6_untold : ByteArray := prog_8_method_22_code
def yX6_untold : MethodName := ⟨RX6, "untold", "(I)I"⟩
abbrev cX6_freezes : ByteArray := prog_8_method_23_code
def yX6_freezes : MethodName := ⟨RX6, "freezes", "(II)I"⟩
abbrev cX6_limits : ByteArray := prog_8_method_24_code
def yX6_limits : MethodName := ⟨RX6, "limits", "(I)I"⟩
abbrev cX6_form : ByteArray := prog_8_method_25_code
def yX6_form : MethodName := ⟨RX6, "form", "(I)I"⟩
abbrev cX6_publishes : ByteArray := prog_8_method_26_code
def yX6_publishes : MethodName := ⟨RX6, "publishes", "()I"⟩
abbrev cX6_recalls : ByteArray := prog_8_method_27_code
def yX6_recalls : MethodName := ⟨RX6, "recalls", "()I"⟩
abbrev cX6_ofQuarter : ByteArray := prog_8_method_28_code
def yX6_ofQuarter : MethodName := ⟨RX6, "ofQuarter", "(II)I"⟩
abbrev cX6_of : ByteArray := prog_8_method_29_code
def yX6_of : MethodName := ⟨RX6, "of", "(II)I"⟩
abbrev cX6_together : ByteArray := prog_8_method_30_code
def yX6_together : MethodName := ⟨RX6, "together", "(I)I"⟩
abbrev cX6_ofYear : ByteArray := prog_8_method_31_code
def yX6_ofYear : MethodName := ⟨RX6, "ofYear", "(II)I"⟩
abbrev cX6_year : ByteArray := prog_8_method_32_code
def yX6_year : MethodName := ⟨RX6, "year", "(II)I"⟩
abbrev cX6_countOf : ByteArray := prog_8_method_33_code
def yX6_countOf : MethodName := ⟨RX6, "countOf", "(I)I"⟩
abbrev cX6_count : ByteArray := prog_8_method_34_code
def yX6_count : MethodName := ⟨RX6, "count", "(I)I"⟩
abbrev cX6_isBound : ByteArray := prog_8_method_35_code
def yX6_isBound : MethodName := ⟨RX6, "isBound", "(I)Z"⟩
abbrev cX6_may : ByteArray := prog_8_method_36_code
def yX6_may : MethodName := ⟨RX6, "may", "(II)Z"⟩
abbrev cX6_square : ByteArray := prog_8_method_37_code
def yX6_square : MethodName := ⟨RX6, "square", "(J)J"⟩
abbrev cX6_step : ByteArray := prog_8_method_38_code
def yX6_step : MethodName := ⟨RX6, "step", "(III)J"⟩
abbrev cX6_place : ByteArray := prog_8_method_39_code
def yX6_place : MethodName := ⟨RX6, "place", "(III)I"⟩
abbrev cX6_nextSum : ByteArray := prog_8_method_40_code
def yX6_nextSum : MethodName := ⟨RX6, "nextSum", "(III)I"⟩
abbrev cX6_lay : ByteArray := prog_8_method_41_code
def yX6_lay : MethodName := ⟨RX6, "lay", "(III)V"⟩
abbrev cX6_find : ByteArray := prog_8_method_42_code
def yX6_find : MethodName := ⟨RX6, "find", "(II)Z"⟩
abbrev cX6_nextBest : ByteArray := prog_8_method_43_code
def yX6_nextBest : MethodName := ⟨RX6, "nextBest", "(III)I"⟩
abbrev cX6_bend : ByteArray := prog_8_method_44_code
def yX6_bend : MethodName := ⟨RX6, "bend", "()Z"⟩
abbrev cX6_movedBy : ByteArray := prog_8_method_45_code
def yX6_movedBy : MethodName := ⟨RX6, "movedBy", "(I[I)J"⟩
abbrev cX6_bent : ByteArray := prog_8_method_46_code
def yX6_bent : MethodName := ⟨RX6, "bent", "(I)I"⟩
abbrev cX6_moved : ByteArray := prog_8_method_47_code
def yX6_moved : MethodName := ⟨RX6, "moved", "(I)J"⟩
abbrev cX6_revisedOf : ByteArray := prog_8_method_48_code
def yX6_revisedOf : MethodName := ⟨RX6, "revisedOf", "(I)I"⟩
abbrev cX6_revised : ByteArray := prog_8_method_49_code
def yX6_revised : MethodName := ⟨RX6, "revised", "(I)I"⟩
abbrev cX6_farthest : ByteArray := prog_8_method_50_code
def yX6_farthest : MethodName := ⟨RX6, "farthest", "()I"⟩
abbrev cX6_least : ByteArray := prog_8_method_51_code
def yX6_least : MethodName := ⟨RX6, "least", "()I"⟩
abbrev cX6_price : ByteArray := prog_8_method_52_code
def yX6_price : MethodName := ⟨RX6, "price", "(I)J"⟩
abbrev cX6_others : ByteArray := prog_8_method_53_code
def yX6_others : MethodName := ⟨RX6, "others", "()I"⟩
abbrev cX6_shareOut : ByteArray := prog_8_method_54_code
def yX6_shareOut : MethodName := ⟨RX6, "shareOut", "()V"⟩
abbrev cX6_shareYear : ByteArray := prog_8_method_55_code
def yX6_shareYear : MethodName := ⟨RX6, "shareYear", "(III)V"⟩
abbrev cX6_shared : ByteArray := prog_8_method_56_code
def yX6_shared : MethodName := ⟨RX6, "shared", "(I)I"⟩
abbrev cX6_stepped : ByteArray := prog_8_method_57_code
def yX6_stepped : MethodName := ⟨RX6, "stepped", "(I)J"⟩
abbrev cX6_type : ByteArray := prog_8_method_58_code
def yX6_type : MethodName := ⟨RX6, "type", "(I)I"⟩
abbrev cX6_clear : ByteArray := prog_8_method_59_code
def yX6_clear : MethodName := ⟨RX6, "clear", "()I"⟩
abbrev cX6_wantsOf : ByteArray := prog_8_method_60_code
def yX6_wantsOf : MethodName := ⟨RX6, "wantsOf", "(I)I"⟩
abbrev cX6_readByte : ByteArray := prog_8_method_61_code
def yX6_readByte : MethodName := ⟨RX6, "readByte", "(I)Z"⟩
abbrev cX6_readText : ByteArray := prog_8_method_62_code
def yX6_readText : MethodName := ⟨RX6, "readText", "()I"⟩
abbrev cX6_doOrder : ByteArray := prog_8_method_63_code
def yX6_doOrder : MethodName := ⟨RX6, "doOrder", "(I)I"⟩
abbrev cX6_does : ByteArray := prog_8_method_64_code
def yX6_does : MethodName := ⟨RX6, "does", "()I"⟩
abbrev cX6_back : ByteArray := prog_8_method_65_code
def yX6_back : MethodName := ⟨RX6, "back", "()I"⟩
abbrev cX6_toldOf : ByteArray := prog_8_method_66_code
def yX6_toldOf : MethodName := ⟨RX6, "toldOf", "(I)I"⟩
abbrev cX6_told : ByteArray := prog_8_method_67_code
def yX6_told : MethodName := ⟨RX6, "told", "(I)I"⟩
abbrev cX6_digest : ByteArray := prog_8_method_68_code
def yX6_digest : MethodName := ⟨RX6, "digest", "()J"⟩
def RJ6 : String := "java/lang/Integer"
def TJ6 : u_T := fun k => match k with
  | _ => ("", "", "", false)
def tyJ6 : Nat → FieldType := fun k => match k with
  | _ => .int
abbrev wsJ60 : List Cond := u_ws RJ6 TJ6 0
theorem nmJ6 : ∀ a, a < 0 → ∀ b, b < 0 → a ≠ b → (TJ6 a).2.1 ≠ (TJ6 b).2.1 := by decide +kernel
theorem tyJ6_ok : ∀ k, k < 0 → parseFieldDescriptor (TJ6 k).2.2.1 = some (tyJ6 k) := by decide +kernel
abbrev cJ6_bitCount_0f7a4 : ByteArray := prog_9_method_49_code
def yJ6_bitCount_0f7a4 : MethodName := ⟨RJ6, "bitCount", "(I)I"⟩
def RJ9 : String := "java/lang/Math"
def TJ9 : u_T := fun k => match k with
  | _ => ("", "", "", false)
def tyJ9 : Nat → FieldType := fun k => match k with
  | _ => .int
abbrev wsJ90 : List Cond := u_ws RJ9 TJ9 0
theorem nmJ9 : ∀ a, a < 0 → ∀ b, b < 0 → a ≠ b → (TJ9 a).2.1 ≠ (TJ9 b).2.1 := by decide +kernel
theorem tyJ9_ok : ∀ k, k < 0 → parseFieldDescriptor (TJ9 k).2.2.1 = some (tyJ9 k) := by decide +kernel
abbrev cJ9_abs_0f7a4 : ByteArray := prog_10_method_59_code
def yJ9_abs_0f7a4 : MethodName := ⟨RJ9, "abs", "(I)I"⟩
abbrev cJ9_max_7cf53 : ByteArray := prog_10_method_65_code
def yJ9_max_7cf53 : MethodName := ⟨RJ9, "max", "(II)I"⟩
abbrev cJ9_min_7cf53 : ByteArray := prog_10_method_69_code
def yJ9_min_7cf53 : MethodName := ⟨RJ9, "min", "(II)I"⟩
def RJ10 : String := "java/lang/System"
def TJ10 : u_T := fun k => match k with
  | _ => ("", "", "", false)
def tyJ10 : Nat → FieldType := fun k => match k with
  | _ => .int
abbrev wsJ100 : List Cond := u_ws RJ10 TJ10 0
theorem nmJ10 : ∀ a, a < 0 → ∀ b, b < 0 → a ≠ b → (TJ10 a).2.1 ≠ (TJ10 b).2.1 := by decide +kernel
theorem tyJ10_ok : ∀ k, k < 0 → parseFieldDescriptor (TJ10 k).2.2.1 = some (tyJ10 k) := by decide +kernel
def RL : String := "BentQuartersLaw"
abbrev cL_law : ByteArray := code
def yL_law : MethodName := ⟨RL, "law", "([I)Z"⟩
abbrev vwCl : List vw_C := [(RX0, TX0, 11), (RX1, TX1, 7), (RX2, TX2, 7), (RX3, TX3, 3), (RX4, TX4, 9), (RX5, TX5, 6), (RX6, TX6, 23)]
