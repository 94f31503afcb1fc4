section
-- ===== PART A: goes FIRST, ahead of the names: the tables' words, and 'selects' of the private methods out of them =====
/-- a private method of a class that the tables say can be made, by its rows of tables_1 -/
def lw_okq (q : MethodName × Nat) : Prop := (q.1.cls ≠ "java/lang/invoke/MethodHandle" ∧ q.1.cls ≠ "java/lang/invoke/VarHandle") ∧ Cond.instantiable q.1.cls q.2 ∈ tables_1 ∧ Cond.privateMethod q.1 ∈ tables_1 ∧ Cond.instanceMethod q.1 ∈ tables_1
theorem lw_p0 : lw_okq (⟨"BentQuarters", "settles", "(I)I"⟩, 6) := ⟨⟨by decide +kernel, by decide +kernel⟩, List.mem_of_getElem? (i := 12) (by decide +kernel), List.mem_of_getElem? (i := 238) (by decide +kernel), List.mem_of_getElem? (i := 239) (by decide +kernel)⟩
theorem lw_p1 : lw_okq (⟨"BentQuarters", "refuses", "(I)I"⟩, 6) := ⟨⟨by decide +kernel, by decide +kernel⟩, List.mem_of_getElem? (i := 12) (by decide +kernel), List.mem_of_getElem? (i := 245) (by decide +kernel), List.mem_of_getElem? (i := 246) (by decide +kernel)⟩
theorem lw_p2 : lw_okq (⟨"BentQuarters", "prints", "()I"⟩, 6) := ⟨⟨by decide +kernel, by decide +kernel⟩, List.mem_of_getElem? (i := 12) (by decide +kernel), List.mem_of_getElem? (i := 333) (by decide +kernel), List.mem_of_getElem? (i := 334) (by decide +kernel)⟩
theorem lw_p3 : lw_okq (⟨"BentQuarters$Bounds", "laysQuarter", "(LBentQuarters$Figures;II)V"⟩, 7) := ⟨⟨by decide +kernel, by decide +kernel⟩, List.mem_of_getElem? (i := 67) (by decide +kernel), List.mem_of_getElem? (i := 345) (by decide +kernel), List.mem_of_getElem? (i := 346) (by decide +kernel)⟩
theorem lw_p4 : lw_okq (⟨"BentQuarters$Bounds", "laysYear", "(I)Z"⟩, 7) := ⟨⟨by decide +kernel, by decide +kernel⟩, List.mem_of_getElem? (i := 67) (by decide +kernel), List.mem_of_getElem? (i := 366) (by decide +kernel), List.mem_of_getElem? (i := 367) (by decide +kernel)⟩
theorem lw_p5 : lw_okq (⟨"BentQuarters$Bender", "fills", "(LBentQuarters$Figures;)V"⟩, 11) := ⟨⟨by decide +kernel, by decide +kernel⟩, List.mem_of_getElem? (i := 61) (by decide +kernel), List.mem_of_getElem? (i := 370) (by decide +kernel), List.mem_of_getElem? (i := 371) (by decide +kernel)⟩
theorem lw_p6 : lw_okq (⟨"BentQuarters$Bender", "weighsSteps", "(LBentQuarters$Figures;II)V"⟩, 11) := ⟨⟨by decide +kernel, by decide +kernel⟩, List.mem_of_getElem? (i := 61) (by decide +kernel), List.mem_of_getElem? (i := 374) (by decide +kernel), List.mem_of_getElem? (i := 375) (by decide +kernel)⟩
theorem lw_p7 : lw_okq (⟨"BentQuarters$Bender", "choosesStep", "(II)V"⟩, 11) := ⟨⟨by decide +kernel, by decide +kernel⟩, List.mem_of_getElem? (i := 61) (by decide +kernel), List.mem_of_getElem? (i := 394) (by decide +kernel), List.mem_of_getElem? (i := 395) (by decide +kernel)⟩
theorem lw_p8 : lw_okq (⟨"BentQuarters$Bender", "spot", "(III)I"⟩, 11) := ⟨⟨by decide +kernel, by decide +kernel⟩, List.mem_of_getElem? (i := 61) (by decide +kernel), List.mem_of_getElem? (i := 402) (by decide +kernel), List.mem_of_getElem? (i := 403) (by decide +kernel)⟩
theorem lw_p9 : lw_okq (⟨"BentQuarters$Bender", "isSpot", "(I)Z"⟩, 11) := ⟨⟨by decide +kernel, by decide +kernel⟩, List.mem_of_getElem? (i := 61) (by decide +kernel), List.mem_of_getElem? (i := 409) (by decide +kernel), List.mem_of_getElem? (i := 410) (by decide +kernel)⟩
theorem lw_p10 : lw_okq (⟨"BentQuarters$Bender", "keepsBest", "(I)V"⟩, 11) := ⟨⟨by decide +kernel, by decide +kernel⟩, List.mem_of_getElem? (i := 61) (by decide +kernel), List.mem_of_getElem? (i := 413) (by decide +kernel), List.mem_of_getElem? (i := 414) (by decide +kernel)⟩
theorem lw_p11 : lw_okq (⟨"BentQuarters$Bender", "traces", "(LBentQuarters$Figures;)V"⟩, 11) := ⟨⟨by decide +kernel, by decide +kernel⟩, List.mem_of_getElem? (i := 61) (by decide +kernel), List.mem_of_getElem? (i := 417) (by decide +kernel), List.mem_of_getElem? (i := 418) (by decide +kernel)⟩
theorem lw_p12 : lw_okq (⟨"BentQuarters", "revision", "(I)I"⟩, 6) := ⟨⟨by decide +kernel, by decide +kernel⟩, List.mem_of_getElem? (i := 12) (by decide +kernel), List.mem_of_getElem? (i := 483) (by decide +kernel), List.mem_of_getElem? (i := 484) (by decide +kernel)⟩
theorem lw_p13 : lw_okq (⟨"BentQuarters", "shareMovement", "(I)J"⟩, 6) := ⟨⟨by decide +kernel, by decide +kernel⟩, List.mem_of_getElem? (i := 12) (by decide +kernel), List.mem_of_getElem? (i := 526) (by decide +kernel), List.mem_of_getElem? (i := 527) (by decide +kernel)⟩
theorem lw_p14 : lw_okq (⟨"BentQuarters$Text", "readsByte", "(I)Z"⟩, 9) := ⟨⟨by decide +kernel, by decide +kernel⟩, List.mem_of_getElem? (i := 158) (by decide +kernel), List.mem_of_getElem? (i := 550) (by decide +kernel), List.mem_of_getElem? (i := 551) (by decide +kernel)⟩
theorem lw_p15 : lw_okq (⟨"BentQuarters$Text", "opens", "(I)Z"⟩, 9) := ⟨⟨by decide +kernel, by decide +kernel⟩, List.mem_of_getElem? (i := 158) (by decide +kernel), List.mem_of_getElem? (i := 554) (by decide +kernel), List.mem_of_getElem? (i := 555) (by decide +kernel)⟩
def lw_privs_1 : List (MethodName × Nat) := [(⟨"BentQuarters", "settles", "(I)I"⟩, 6), (⟨"BentQuarters", "refuses", "(I)I"⟩, 6), (⟨"BentQuarters", "prints", "()I"⟩, 6), (⟨"BentQuarters$Bounds", "laysQuarter", "(LBentQuarters$Figures;II)V"⟩, 7), (⟨"BentQuarters$Bounds", "laysYear", "(I)Z"⟩, 7), (⟨"BentQuarters$Bender", "fills", "(LBentQuarters$Figures;)V"⟩, 11), (⟨"BentQuarters$Bender", "weighsSteps", "(LBentQuarters$Figures;II)V"⟩, 11), (⟨"BentQuarters$Bender", "choosesStep", "(II)V"⟩, 11), (⟨"BentQuarters$Bender", "spot", "(III)I"⟩, 11), (⟨"BentQuarters$Bender", "isSpot", "(I)Z"⟩, 11), (⟨"BentQuarters$Bender", "keepsBest", "(I)V"⟩, 11), (⟨"BentQuarters$Bender", "traces", "(LBentQuarters$Figures;)V"⟩, 11), (⟨"BentQuarters", "revision", "(I)I"⟩, 6), (⟨"BentQuarters", "shareMovement", "(I)J"⟩, 6), (⟨"BentQuarters$Text", "readsByte", "(I)Z"⟩, 9), (⟨"BentQuarters$Text", "opens", "(I)Z"⟩, 9)]
theorem lw_r1 : ∀ q ∈ lw_privs_1, lw_okq q := List.forall_mem_cons.mpr ⟨lw_p0, List.forall_mem_cons.mpr ⟨lw_p1, List.forall_mem_cons.mpr ⟨lw_p2, List.forall_mem_cons.mpr ⟨lw_p3, List.forall_mem_cons.mpr ⟨lw_p4, List.forall_mem_cons.mpr ⟨lw_p5, List.forall_mem_cons.mpr ⟨lw_p6, List.forall_mem_cons.mpr ⟨lw_p7, List.forall_mem_cons.mpr ⟨lw_p8, List.forall_mem_cons.mpr ⟨lw_p9, List.forall_mem_cons.mpr ⟨lw_p10, List.forall_mem_cons.mpr ⟨lw_p11, List.forall_mem_cons.mpr ⟨lw_p12, List.forall_mem_cons.mpr ⟨lw_p13, List.forall_mem_cons.mpr ⟨lw_p14, List.forall_mem_cons.mpr ⟨lw_p15, fun _ h => absurd h List.not_mem_nil⟩⟩⟩⟩⟩⟩⟩⟩⟩⟩⟩⟩⟩⟩⟩⟩
theorem lw_p16 : lw_okq (⟨"BentQuarters$Text", "closes", "()Z"⟩, 9) := ⟨⟨by decide +kernel, by decide +kernel⟩, List.mem_of_getElem? (i := 158) (by decide +kernel), List.mem_of_getElem? (i := 561) (by decide +kernel), List.mem_of_getElem? (i := 562) (by decide +kernel)⟩
theorem lw_p17 : lw_okq (⟨"BentQuarters$Text", "readsFigure", "(I)Z"⟩, 9) := ⟨⟨by decide +kernel, by decide +kernel⟩, List.mem_of_getElem? (i := 158) (by decide +kernel), List.mem_of_getElem? (i := 566) (by decide +kernel), List.mem_of_getElem? (i := 567) (by decide +kernel)⟩
theorem lw_p18 : lw_okq (⟨"BentQuarters", "obeys", "(III)I"⟩, 6) := ⟨⟨by decide +kernel, by decide +kernel⟩, List.mem_of_getElem? (i := 12) (by decide +kernel), List.mem_of_getElem? (i := 570) (by decide +kernel), List.mem_of_getElem? (i := 571) (by decide +kernel)⟩
theorem lw_p19 : lw_okq (⟨"BentQuarters", "digestsFigures", "(J)J"⟩, 6) := ⟨⟨by decide +kernel, by decide +kernel⟩, List.mem_of_getElem? (i := 12) (by decide +kernel), List.mem_of_getElem? (i := 597) (by decide +kernel), List.mem_of_getElem? (i := 598) (by decide +kernel)⟩
theorem lw_p20 : lw_okq (⟨"BentQuarters", "digestsBent", "(J)J"⟩, 6) := ⟨⟨by decide +kernel, by decide +kernel⟩, List.mem_of_getElem? (i := 12) (by decide +kernel), List.mem_of_getElem? (i := 601) (by decide +kernel), List.mem_of_getElem? (i := 602) (by decide +kernel)⟩
theorem lw_p21 : lw_okq (⟨"BentQuartersModel", "save", "()V"⟩, 23) := ⟨⟨by decide +kernel, by decide +kernel⟩, List.mem_of_getElem? (i := 606) (by decide +kernel), List.mem_of_getElem? (i := 686) (by decide +kernel), List.mem_of_getElem? (i := 687) (by decide +kernel)⟩
theorem lw_p22 : lw_okq (⟨"BentQuartersModel", "putQuarter", "(I)I"⟩, 23) := ⟨⟨by decide +kernel, by decide +kernel⟩, List.mem_of_getElem? (i := 606) (by decide +kernel), List.mem_of_getElem? (i := 693) (by decide +kernel), List.mem_of_getElem? (i := 694) (by decide +kernel)⟩
theorem lw_p23 : lw_okq (⟨"BentQuartersModel", "finish", "(I)I"⟩, 23) := ⟨⟨by decide +kernel, by decide +kernel⟩, List.mem_of_getElem? (i := 606) (by decide +kernel), List.mem_of_getElem? (i := 701) (by decide +kernel), List.mem_of_getElem? (i := 702) (by decide +kernel)⟩
theorem lw_p24 : lw_okq (⟨"BentQuartersModel", "refuse", "(I)I"⟩, 23) := ⟨⟨by decide +kernel, by decide +kernel⟩, List.mem_of_getElem? (i := 606) (by decide +kernel), List.mem_of_getElem? (i := 705) (by decide +kernel), List.mem_of_getElem? (i := 706) (by decide +kernel)⟩
theorem lw_p25 : lw_okq (⟨"BentQuartersModel", "putIndicator", "(II)I"⟩, 23) := ⟨⟨by decide +kernel, by decide +kernel⟩, List.mem_of_getElem? (i := 606) (by decide +kernel), List.mem_of_getElem? (i := 713) (by decide +kernel), List.mem_of_getElem? (i := 714) (by decide +kernel)⟩
theorem lw_p26 : lw_okq (⟨"BentQuartersModel", "isQuarter", "(I)Z"⟩, 23) := ⟨⟨by decide +kernel, by decide +kernel⟩, List.mem_of_getElem? (i := 606) (by decide +kernel), List.mem_of_getElem? (i := 717) (by decide +kernel), List.mem_of_getElem? (i := 718) (by decide +kernel)⟩
theorem lw_p27 : lw_okq (⟨"BentQuartersModel", "putTotal", "(II)I"⟩, 23) := ⟨⟨by decide +kernel, by decide +kernel⟩, List.mem_of_getElem? (i := 606) (by decide +kernel), List.mem_of_getElem? (i := 725) (by decide +kernel), List.mem_of_getElem? (i := 726) (by decide +kernel)⟩
theorem lw_p28 : lw_okq (⟨"BentQuartersModel", "dropTotal", "(I)I"⟩, 23) := ⟨⟨by decide +kernel, by decide +kernel⟩, List.mem_of_getElem? (i := 606) (by decide +kernel), List.mem_of_getElem? (i := 738) (by decide +kernel), List.mem_of_getElem? (i := 739) (by decide +kernel)⟩
theorem lw_p29 : lw_okq (⟨"BentQuartersModel", "putFrozen", "(II)I"⟩, 23) := ⟨⟨by decide +kernel, by decide +kernel⟩, List.mem_of_getElem? (i := 606) (by decide +kernel), List.mem_of_getElem? (i := 746) (by decide +kernel), List.mem_of_getElem? (i := 747) (by decide +kernel)⟩
theorem lw_p30 : lw_okq (⟨"BentQuartersModel", "putLimit", "(I)I"⟩, 23) := ⟨⟨by decide +kernel, by decide +kernel⟩, List.mem_of_getElem? (i := 606) (by decide +kernel), List.mem_of_getElem? (i := 757) (by decide +kernel), List.mem_of_getElem? (i := 758) (by decide +kernel)⟩
theorem lw_p31 : lw_okq (⟨"BentQuartersModel", "putForm", "(I)I"⟩, 23) := ⟨⟨by decide +kernel, by decide +kernel⟩, List.mem_of_getElem? (i := 606) (by decide +kernel), List.mem_of_getElem? (i := 767) (by decide +kernel), List.mem_of_getElem? (i := 768) (by decide +kernel)⟩
def lw_privs_2 : List (MethodName × Nat) := [(⟨"BentQuarters$Text", "closes", "()Z"⟩, 9), (⟨"BentQuarters$Text", "readsFigure", "(I)Z"⟩, 9), (⟨"BentQuarters", "obeys", "(III)I"⟩, 6), (⟨"BentQuarters", "digestsFigures", "(J)J"⟩, 6), (⟨"BentQuarters", "digestsBent", "(J)J"⟩, 6), (⟨"BentQuartersModel", "save", "()V"⟩, 23), (⟨"BentQuartersModel", "putQuarter", "(I)I"⟩, 23), (⟨"BentQuartersModel", "finish", "(I)I"⟩, 23), (⟨"BentQuartersModel", "refuse", "(I)I"⟩, 23), (⟨"BentQuartersModel", "putIndicator", "(II)I"⟩, 23), (⟨"BentQuartersModel", "isQuarter", "(I)Z"⟩, 23), (⟨"BentQuartersModel", "putTotal", "(II)I"⟩, 23), (⟨"BentQuartersModel", "dropTotal", "(I)I"⟩, 23), (⟨"BentQuartersModel", "putFrozen", "(II)I"⟩, 23), (⟨"BentQuartersModel", "putLimit", "(I)I"⟩, 23), (⟨"BentQuartersModel", "putForm", "(I)I"⟩, 23)]
theorem lw_r2 : ∀ q ∈ lw_privs_2, lw_okq q := List.forall_mem_cons.mpr ⟨lw_p16, List.forall_mem_cons.mpr ⟨lw_p17, List.forall_mem_cons.mpr ⟨lw_p18, List.forall_mem_cons.mpr ⟨lw_p19, List.forall_mem_cons.mpr ⟨lw_p20, List.forall_mem_cons.mpr ⟨lw_p21, List.forall_mem_cons.mpr ⟨lw_p22, List.forall_mem_cons.mpr ⟨lw_p23, List.forall_mem_cons.mpr ⟨lw_p24, List.forall_mem_cons.mpr ⟨lw_p25, List.forall_mem_cons.mpr ⟨lw_p26, List.forall_mem_cons.mpr ⟨lw_p27, List.forall_mem_cons.mpr ⟨lw_p28, List.forall_mem_cons.mpr ⟨lw_p29, List.forall_mem_cons.mpr ⟨lw_p30, List.forall_mem_cons.mpr ⟨lw_p31, fun _ h => absurd h List.not_mem_nil⟩⟩⟩⟩⟩⟩⟩⟩⟩⟩⟩⟩⟩⟩⟩⟩
theorem lw_p32 : lw_okq (⟨"BentQuartersModel", "publishAll", "()I"⟩, 23) := ⟨⟨by decide +kernel, by decide +kernel⟩, List.mem_of_getElem? (i := 606) (by decide +kernel), List.mem_of_getElem? (i := 775) (by decide +kernel), List.mem_of_getElem? (i := 776) (by decide +kernel)⟩
theorem lw_p33 : lw_okq (⟨"BentQuartersModel", "bend", "()Z"⟩, 23) := ⟨⟨by decide +kernel, by decide +kernel⟩, List.mem_of_getElem? (i := 606) (by decide +kernel), List.mem_of_getElem? (i := 779) (by decide +kernel), List.mem_of_getElem? (i := 780) (by decide +kernel)⟩
theorem lw_p34 : lw_okq (⟨"BentQuartersModel", "find", "(II)Z"⟩, 23) := ⟨⟨by decide +kernel, by decide +kernel⟩, List.mem_of_getElem? (i := 606) (by decide +kernel), List.mem_of_getElem? (i := 783) (by decide +kernel), List.mem_of_getElem? (i := 784) (by decide +kernel)⟩
theorem lw_p35 : lw_okq (⟨"BentQuartersModel", "isBound", "(I)Z"⟩, 23) := ⟨⟨by decide +kernel, by decide +kernel⟩, List.mem_of_getElem? (i := 606) (by decide +kernel), List.mem_of_getElem? (i := 787) (by decide +kernel), List.mem_of_getElem? (i := 788) (by decide +kernel)⟩
theorem lw_p36 : lw_okq (⟨"BentQuartersModel", "lay", "(III)V"⟩, 23) := ⟨⟨by decide +kernel, by decide +kernel⟩, List.mem_of_getElem? (i := 606) (by decide +kernel), List.mem_of_getElem? (i := 791) (by decide +kernel), List.mem_of_getElem? (i := 792) (by decide +kernel)⟩
theorem lw_p37 : lw_okq (⟨"BentQuartersModel", "may", "(II)Z"⟩, 23) := ⟨⟨by decide +kernel, by decide +kernel⟩, List.mem_of_getElem? (i := 606) (by decide +kernel), List.mem_of_getElem? (i := 799) (by decide +kernel), List.mem_of_getElem? (i := 800) (by decide +kernel)⟩
theorem lw_p38 : lw_okq (⟨"BentQuartersModel", "together", "(I)I"⟩, 23) := ⟨⟨by decide +kernel, by decide +kernel⟩, List.mem_of_getElem? (i := 606) (by decide +kernel), List.mem_of_getElem? (i := 803) (by decide +kernel), List.mem_of_getElem? (i := 804) (by decide +kernel)⟩
theorem lw_p39 : lw_okq (⟨"BentQuartersModel", "nextSum", "(III)I"⟩, 23) := ⟨⟨by decide +kernel, by decide +kernel⟩, List.mem_of_getElem? (i := 606) (by decide +kernel), List.mem_of_getElem? (i := 807) (by decide +kernel), List.mem_of_getElem? (i := 808) (by decide +kernel)⟩
theorem lw_p40 : lw_okq (⟨"BentQuartersModel", "step", "(III)J"⟩, 23) := ⟨⟨by decide +kernel, by decide +kernel⟩, List.mem_of_getElem? (i := 606) (by decide +kernel), List.mem_of_getElem? (i := 814) (by decide +kernel), List.mem_of_getElem? (i := 815) (by decide +kernel)⟩
theorem lw_p41 : lw_okq (⟨"BentQuartersModel", "nextBest", "(III)I"⟩, 23) := ⟨⟨by decide +kernel, by decide +kernel⟩, List.mem_of_getElem? (i := 606) (by decide +kernel), List.mem_of_getElem? (i := 821) (by decide +kernel), List.mem_of_getElem? (i := 822) (by decide +kernel)⟩
theorem lw_p42 : lw_okq (⟨"BentQuartersModel", "publishedMany", "()I"⟩, 23) := ⟨⟨by decide +kernel, by decide +kernel⟩, List.mem_of_getElem? (i := 606) (by decide +kernel), List.mem_of_getElem? (i := 829) (by decide +kernel), List.mem_of_getElem? (i := 830) (by decide +kernel)⟩
theorem lw_p43 : lw_okq (⟨"BentQuartersModel", "ofQuarter", "(II)I"⟩, 23) := ⟨⟨by decide +kernel, by decide +kernel⟩, List.mem_of_getElem? (i := 606) (by decide +kernel), List.mem_of_getElem? (i := 838) (by decide +kernel), List.mem_of_getElem? (i := 839) (by decide +kernel)⟩
theorem lw_p44 : lw_okq (⟨"BentQuartersModel", "ofYear", "(II)I"⟩, 23) := ⟨⟨by decide +kernel, by decide +kernel⟩, List.mem_of_getElem? (i := 606) (by decide +kernel), List.mem_of_getElem? (i := 846) (by decide +kernel), List.mem_of_getElem? (i := 847) (by decide +kernel)⟩
theorem lw_p45 : lw_okq (⟨"BentQuartersModel", "countOf", "(I)I"⟩, 23) := ⟨⟨by decide +kernel, by decide +kernel⟩, List.mem_of_getElem? (i := 606) (by decide +kernel), List.mem_of_getElem? (i := 855) (by decide +kernel), List.mem_of_getElem? (i := 856) (by decide +kernel)⟩
theorem lw_p46 : lw_okq (⟨"BentQuartersModel", "movedBy", "(I[I)J"⟩, 23) := ⟨⟨by decide +kernel, by decide +kernel⟩, List.mem_of_getElem? (i := 606) (by decide +kernel), List.mem_of_getElem? (i := 867) (by decide +kernel), List.mem_of_getElem? (i := 868) (by decide +kernel)⟩
theorem lw_p47 : lw_okq (⟨"BentQuartersModel", "revisedOf", "(I)I"⟩, 23) := ⟨⟨by decide +kernel, by decide +kernel⟩, List.mem_of_getElem? (i := 606) (by decide +kernel), List.mem_of_getElem? (i := 875) (by decide +kernel), List.mem_of_getElem? (i := 876) (by decide +kernel)⟩
def lw_privs_3 : List (MethodName × Nat) := [(⟨"BentQuartersModel", "publishAll", "()I"⟩, 23), (⟨"BentQuartersModel", "bend", "()Z"⟩, 23), (⟨"BentQuartersModel", "find", "(II)Z"⟩, 23), (⟨"BentQuartersModel", "isBound", "(I)Z"⟩, 23), (⟨"BentQuartersModel", "lay", "(III)V"⟩, 23), (⟨"BentQuartersModel", "may", "(II)Z"⟩, 23), (⟨"BentQuartersModel", "together", "(I)I"⟩, 23), (⟨"BentQuartersModel", "nextSum", "(III)I"⟩, 23), (⟨"BentQuartersModel", "step", "(III)J"⟩, 23), (⟨"BentQuartersModel", "nextBest", "(III)I"⟩, 23), (⟨"BentQuartersModel", "publishedMany", "()I"⟩, 23), (⟨"BentQuartersModel", "ofQuarter", "(II)I"⟩, 23), (⟨"BentQuartersModel", "ofYear", "(II)I"⟩, 23), (⟨"BentQuartersModel", "countOf", "(I)I"⟩, 23), (⟨"BentQuartersModel", "movedBy", "(I[I)J"⟩, 23), (⟨"BentQuartersModel", "revisedOf", "(I)I"⟩, 23)]
theorem lw_r3 : ∀ q ∈ lw_privs_3, lw_okq q := List.forall_mem_cons.mpr ⟨lw_p32, List.forall_mem_cons.mpr ⟨lw_p33, List.forall_mem_cons.mpr ⟨lw_p34, List.forall_mem_cons.mpr ⟨lw_p35, List.forall_mem_cons.mpr ⟨lw_p36, List.forall_mem_cons.mpr ⟨lw_p37, List.forall_mem_cons.mpr ⟨lw_p38, List.forall_mem_cons.mpr ⟨lw_p39, List.forall_mem_cons.mpr ⟨lw_p40, List.forall_mem_cons.mpr ⟨lw_p41, List.forall_mem_cons.mpr ⟨lw_p42, List.forall_mem_cons.mpr ⟨lw_p43, List.forall_mem_cons.mpr ⟨lw_p44, List.forall_mem_cons.mpr ⟨lw_p45, List.forall_mem_cons.mpr ⟨lw_p46, List.forall_mem_cons.mpr ⟨lw_p47, fun _ h => absurd h List.not_mem_nil⟩⟩⟩⟩⟩⟩⟩⟩⟩⟩⟩⟩⟩⟩⟩⟩
theorem lw_p48 : lw_okq (⟨"BentQuartersModel", "shareOut", "()V"⟩, 23) := ⟨⟨by decide +kernel, by decide +kernel⟩, List.mem_of_getElem? (i := 606) (by decide +kernel), List.mem_of_getElem? (i := 899) (by decide +kernel), List.mem_of_getElem? (i := 900) (by decide +kernel)⟩
theorem lw_p49 : lw_okq (⟨"BentQuartersModel", "shareYear", "(III)V"⟩, 23) := ⟨⟨by decide +kernel, by decide +kernel⟩, List.mem_of_getElem? (i := 606) (by decide +kernel), List.mem_of_getElem? (i := 903) (by decide +kernel), List.mem_of_getElem? (i := 904) (by decide +kernel)⟩
theorem lw_p50 : lw_okq (⟨"BentQuartersModel", "readText", "()I"⟩, 23) := ⟨⟨by decide +kernel, by decide +kernel⟩, List.mem_of_getElem? (i := 606) (by decide +kernel), List.mem_of_getElem? (i := 924) (by decide +kernel), List.mem_of_getElem? (i := 925) (by decide +kernel)⟩
theorem lw_p51 : lw_okq (⟨"BentQuartersModel", "readByte", "(I)Z"⟩, 23) := ⟨⟨by decide +kernel, by decide +kernel⟩, List.mem_of_getElem? (i := 606) (by decide +kernel), List.mem_of_getElem? (i := 928) (by decide +kernel), List.mem_of_getElem? (i := 929) (by decide +kernel)⟩
theorem lw_p52 : lw_okq (⟨"BentQuartersModel", "doOrder", "(I)I"⟩, 23) := ⟨⟨by decide +kernel, by decide +kernel⟩, List.mem_of_getElem? (i := 606) (by decide +kernel), List.mem_of_getElem? (i := 937) (by decide +kernel), List.mem_of_getElem? (i := 938) (by decide +kernel)⟩
theorem lw_p53 : lw_okq (⟨"BentQuartersModel", "toldOf", "(I)I"⟩, 23) := ⟨⟨by decide +kernel, by decide +kernel⟩, List.mem_of_getElem? (i := 606) (by decide +kernel), List.mem_of_getElem? (i := 950) (by decide +kernel), List.mem_of_getElem? (i := 951) (by decide +kernel)⟩
def lw_privs_4 : List (MethodName × Nat) := [(⟨"BentQuartersModel", "shareOut", "()V"⟩, 23), (⟨"BentQuartersModel", "shareYear", "(III)V"⟩, 23), (⟨"BentQuartersModel", "readText", "()I"⟩, 23), (⟨"BentQuartersModel", "readByte", "(I)Z"⟩, 23), (⟨"BentQuartersModel", "doOrder", "(I)I"⟩, 23), (⟨"BentQuartersModel", "toldOf", "(I)I"⟩, 23)]
theorem lw_r4 : ∀ q ∈ lw_privs_4, lw_okq q := List.forall_mem_cons.mpr ⟨lw_p48, List.forall_mem_cons.mpr ⟨lw_p49, List.forall_mem_cons.mpr ⟨lw_p50, List.forall_mem_cons.mpr ⟨lw_p51, List.forall_mem_cons.mpr ⟨lw_p52, List.forall_mem_cons.mpr ⟨lw_p53, fun _ h => absurd h List.not_mem_nil⟩⟩⟩⟩⟩⟩
def lw_privs : List (MethodName × Nat) := lw_privs_1 ++ (lw_privs_2 ++ (lw_privs_3 ++ (lw_privs_4)))
def lw_tbl : List Cond := k2_sels lw_privs ++ tables_1
theorem lw_privs_ok : ∀ q ∈ lw_privs, lw_okq q := by
  show ∀ q ∈ lw_privs_1 ++ (lw_privs_2 ++ (lw_privs_3 ++ (lw_privs_4))), lw_okq q
  exact List.forall_mem_append.mpr ⟨lw_r1, List.forall_mem_append.mpr ⟨lw_r2, List.forall_mem_append.mpr ⟨lw_r3, lw_r4⟩⟩⟩
def RX0 : String := "BentQuarters$Bender"
def TX0 : u_T := fun k => match k with
  | 0 => ("BentQuarters$Bender", "bounds", "LBentQuarters$Bounds;", true)
  | 1 => ("BentQuarters$Bender", "costs", "[J", true)
  | 2 => ("BentQuarters$Bender", "ways", "[I", true)
  | 3 => ("BentQuarters$Bender", "stepCosts", "[J", true)
  | 4 => ("BentQuarters$Bender", "bestCost", "J", false)
  | 5 => ("BentQuarters$Bender", "bestWays", "I", false)
  | 6 => ("BentQuarters$Bender", "bestStep", "I", false)
  | 7 => ("BentQuarters$Bender", "known", "Z", false)
  | 8 => ("BentQuarters$Bender", "there", "Z", false)
  | 9 => ("BentQuarters$Bender", "row", "[I", true)
  | _ => ("BentQuarters$Bender", "rows", "I", false)
def tyX0 : Nat → FieldType := fun k => match k with
  | 0 => .object "BentQuarters$Bounds"
  | 1 => .array .long
  | 2 => .array .int
  | 3 => .array .long
  | 4 => .long
  | 5 => .int
  | 6 => .int
  | 7 => .boolean
  | 8 => .boolean
  | 9 => .array .int
  | _ => .int
abbrev wsX00 : List Cond := u_ws RX0 TX0 11
theorem nmX0 : ∀ a, a < 11 → ∀ b, b < 11 → a ≠ b → (TX0 a).2.1 ≠ (TX0 b).2.1 := by decide +kernel
theorem tyX0_ok : ∀ k, k < 11 → parseFieldDescriptor (TX0 k).2.2.1 = some (tyX0 k) := by decide +kernel
abbrev cX0_init : ByteArray := prog_2_method_1_code
def yX0_init : MethodName := ⟨RX0, "<init>", "()V"⟩
abbrev cX0_forgets : ByteArray := prog_2_method_2_code
def yX0_forgets : MethodName := ⟨RX0, "forgets", "()V"⟩
abbrev cX0_meetsWithin : ByteArray := prog_2_method_3_code
def yX0_meetsWithin : MethodName := ⟨RX0, "meetsWithin", "(LBentQuarters$Figures;I)Z"⟩
abbrev cX0_bends : ByteArray := prog_2_method_4_code
def yX0_bends : MethodName := ⟨RX0, "bends", "(LBentQuarters$Figures;)Z"⟩
abbrev cX0_leastWithout : ByteArray := prog_2_method_5_code
def yX0_leastWithout : MethodName := ⟨RX0, "leastWithout", "(LBentQuarters$Figures;I)J"⟩
abbrev cX0_fills : ByteArray := prog_2_method_6_code
def yX0_fills : MethodName := ⟨RX0, "fills", "(LBentQuarters$Figures;)V"⟩
abbrev cX0_keepsBest : ByteArray := prog_2_method_7_code
def yX0_keepsBest : MethodName := ⟨RX0, "keepsBest", "(I)V"⟩
abbrev cX0_traces : ByteArray := prog_2_method_8_code
def yX0_traces : MethodName := ⟨RX0, "traces", "(LBentQuarters$Figures;)V"⟩
abbrev cX0_weighsSteps : ByteArray := prog_2_method_9_code
def yX0_weighsSteps : MethodName := ⟨RX0, "weighsSteps", "(LBentQuarters$Figures;II)V"⟩
abbrev cX0_choosesStep : ByteArray := prog_2_method_10_code
def yX0_choosesStep : MethodName := ⟨RX0, "choosesStep", "(II)V"⟩
abbrev cX0_spot : ByteArray := prog_2_method_11_code
def yX0_spot : MethodName := ⟨RX0, "spot", "(III)I"⟩
abbrev cX0_isSpot : ByteArray := prog_2_method_12_code
def yX0_isSpot : MethodName := ⟨RX0, "isSpot", "(I)Z"⟩
def RX1 : String := "BentQuarters$Bounds"
def TX1 : u_T := fun k => match k with
  | 0 => ("BentQuarters$Bounds", "low", "[I", true)
  | 1 => ("BentQuarters$Bounds", "high", "[I", true)
  | 2 => ("BentQuarters$Bounds", "leftLow", "[I", true)
  | 3 => ("BentQuarters$Bounds", "leftHigh", "[I", true)
  | 4 => ("BentQuarters$Bounds", "bound", "[Z", true)
  | 5 => ("BentQuarters$Bounds", "gaps", "[I", true)
  | _ => ("BentQuarters$Bounds", "quarters", "I", false)
def tyX1 : Nat → FieldType := fun k => match k with
  | 0 => .array .int
  | 1 => .array .int
  | 2 => .array .int
  | 3 => .array .int
  | 4 => .array .boolean
  | 5 => .array .int
  | _ => .int
abbrev wsX10 : List Cond := u_ws RX1 TX1 7
theorem nmX1 : ∀ a, a < 7 → ∀ b, b < 7 → a ≠ b → (TX1 a).2.1 ≠ (TX1 b).2.1 := by decide +kernel
theorem tyX1_ok : ∀ k, k < 7 → parseFieldDescriptor (TX1 k).2.2.1 = some (tyX1 k) := by decide +kernel
abbrev cX1_init : ByteArray := prog_3_method_1_code
def yX1_init : MethodName := ⟨RX1, "<init>", "()V"⟩
abbrev cX1_lays : ByteArray := prog_3_method_2_code
def yX1_lays : MethodName := ⟨RX1, "lays", "(LBentQuarters$Figures;II)Z"⟩
abbrev cX1_laysQuarter : ByteArray := prog_3_method_3_code
def yX1_laysQuarter : MethodName := ⟨RX1, "laysQuarter", "(LBentQuarters$Figures;II)V"⟩
abbrev cX1_laysYear : ByteArray := prog_3_method_4_code
def yX1_laysYear : MethodName := ⟨RX1, "laysYear", "(I)Z"⟩
abbrev cX1_isBound : ByteArray := prog_3_method_5_code
def yX1_isBound : MethodName := ⟨RX1, "isBound", "(I)Z"⟩
abbrev cX1_leftAhead : ByteArray := prog_3_method_6_code
def yX1_leftAhead : MethodName := ⟨RX1, "leftAhead", "(II)I"⟩
abbrev cX1_leastLeft : ByteArray := prog_3_method_7_code
def yX1_leastLeft : MethodName := ⟨RX1, "leastLeft", "(II)I"⟩
abbrev cX1_mostLeft : ByteArray := prog_3_method_8_code
def yX1_mostLeft : MethodName := ⟨RX1, "mostLeft", "(II)I"⟩
def RX2 : String := "BentQuarters$Figures"
def TX2 : u_T := fun k => match k with
  | 0 => ("BentQuarters$Figures", "indicators", "[I", true)
  | 1 => ("BentQuarters$Figures", "totals", "[I", true)
  | 2 => ("BentQuarters$Figures", "printed", "[I", true)
  | 3 => ("BentQuarters$Figures", "quarters", "I", false)
  | 4 => ("BentQuarters$Figures", "frozen", "I", false)
  | 5 => ("BentQuarters$Figures", "limit", "I", false)
  | _ => ("BentQuarters$Figures", "shape", "I", false)
def tyX2 : Nat → FieldType := fun k => match k with
  | 0 => .array .int
  | 1 => .array .int
  | 2 => .array .int
  | 3 => .int
  | 4 => .int
  | 5 => .int
  | _ => .int
abbrev wsX20 : List Cond := u_ws RX2 TX2 7
theorem nmX2 : ∀ a, a < 7 → ∀ b, b < 7 → a ≠ b → (TX2 a).2.1 ≠ (TX2 b).2.1 := by decide +kernel
theorem tyX2_ok : ∀ k, k < 7 → parseFieldDescriptor (TX2 k).2.2.1 = some (tyX2 k) := by decide +kernel
abbrev cX2_init : ByteArray := prog_4_method_1_code
def yX2_init : MethodName := ⟨RX2, "<init>", "()V"⟩
abbrev cX2_becomes : ByteArray := prog_4_method_2_code
def yX2_becomes : MethodName := ⟨RX2, "becomes", "(LBentQuarters$Figures;)V"⟩
abbrev cX2_has : ByteArray := prog_4_method_3_code
def yX2_has : MethodName := ⟨RX2, "has", "(I)Z"⟩
abbrev cX2_isPrinted : ByteArray := prog_4_method_4_code
def yX2_isPrinted : MethodName := ⟨RX2, "isPrinted", "(I)Z"⟩
abbrev cX2_isFrozen : ByteArray := prog_4_method_5_code
def yX2_isFrozen : MethodName := ⟨RX2, "isFrozen", "(I)Z"⟩
abbrev cX2_adds : ByteArray := prog_4_method_6_code
def yX2_adds : MethodName := ⟨RX2, "adds", "(I)I"⟩
abbrev cX2_reindicates : ByteArray := prog_4_method_7_code
def yX2_reindicates : MethodName := ⟨RX2, "reindicates", "(II)I"⟩
abbrev cX2_tells : ByteArray := prog_4_method_8_code
def yX2_tells : MethodName := ⟨RX2, "tells", "(II)I"⟩
abbrev cX2_untells : ByteArray := prog_4_method_9_code
def yX2_untells : MethodName := ⟨RX2, "untells", "(I)I"⟩
abbrev cX2_ices : ByteArray := prog_4_method_10_code
def yX2_ices : MethodName := ⟨RX2, "ices", "(II)I"⟩
abbrev cX2_bounds : ByteArray := prog_4_method_11_code
def yX2_bounds : MethodName := ⟨RX2, "bounds", "(I)I"⟩
abbrev cX2_shapes : ByteArray := prog_4_method_12_code
def yX2_shapes : MethodName := ⟨RX2, "shapes", "(I)I"⟩
abbrev cX2_unprints : ByteArray := prog_4_method_13_code
def yX2_unprints : MethodName := ⟨RX2, "unprints", "()I"⟩
abbrev cX2_printedOnes : ByteArray := prog_4_method_14_code
def yX2_printedOnes : MethodName := ⟨RX2, "printedOnes", "()I"⟩
abbrev cX2_toldOfQuarter : ByteArray := prog_4_method_15_code
def yX2_toldOfQuarter : MethodName := ⟨RX2, "toldOfQuarter", "(II)I"⟩
abbrev cX2_toldOfYear : ByteArray := prog_4_method_16_code
def yX2_toldOfYear : MethodName := ⟨RX2, "toldOfYear", "(II)I"⟩
abbrev cX2_toldOfAll : ByteArray := prog_4_method_17_code
def yX2_toldOfAll : MethodName := ⟨RX2, "toldOfAll", "(I)I"⟩
abbrev cX2_yearsTold : ByteArray := prog_4_method_18_code
def yX2_yearsTold : MethodName := ⟨RX2, "yearsTold", "()I"⟩
abbrev cX2_indicated : ByteArray := prog_4_method_19_code
def yX2_indicated : MethodName := ⟨RX2, "indicated", "(I)I"⟩
abbrev cX2_gap : ByteArray := prog_4_method_20_code
def yX2_gap : MethodName := ⟨RX2, "gap", "(I)I"⟩
abbrev cX2_share : ByteArray := prog_4_method_21_code
def yX2_share : MethodName := ⟨RX2, "share", "(I)I"⟩
abbrev cX2_movement : ByteArray := prog_4_method_22_code
def yX2_movement : MethodName := ⟨RX2, "movement", "([II)J"⟩
def RX3 : String := "BentQuarters$Past"
def TX3 : u_T := fun k => match k with
  | 0 => ("BentQuarters$Past", "ring", "[LBentQuarters$Figures;", true)
  | 1 => ("BentQuarters$Past", "top", "I", false)
  | _ => ("BentQuarters$Past", "states", "I", false)
def tyX3 : Nat → FieldType := fun k => match k with
  | 0 => .array (.object "BentQuarters$Figures")
  | 1 => .int
  | _ => .int
abbrev wsX30 : List Cond := u_ws RX3 TX3 3
theorem nmX3 : ∀ a, a < 3 → ∀ b, b < 3 → a ≠ b → (TX3 a).2.1 ≠ (TX3 b).2.1 := by decide +kernel
theorem tyX3_ok : ∀ k, k < 3 → parseFieldDescriptor (TX3 k).2.2.1 = some (tyX3 k) := by decide +kernel
abbrev cX3_init : ByteArray := prog_5_method_1_code
def yX3_init : MethodName := ⟨RX3, "<init>", "()V"⟩
abbrev cX3_holds : ByteArray := prog_5_method_2_code
def yX3_holds : MethodName := ⟨RX3, "holds", "(LBentQuarters$Figures;)V"⟩
abbrev cX3_restores : ByteArray := prog_5_method_3_code
def yX3_restores : MethodName := ⟨RX3, "restores", "(LBentQuarters$Figures;)V"⟩
abbrev cX3_keeps : ByteArray := prog_5_method_4_code
def yX3_keeps : MethodName := ⟨RX3, "keeps", "()V"⟩
abbrev cX3_returns : ByteArray := prog_5_method_5_code
def yX3_returns : MethodName := ⟨RX3, "returns", "(LBentQuarters$Figures;)V"⟩
def RX4 : String := "BentQuarters$Text"
def TX4 : u_T := fun k => match k with
  | 0 => ("BentQuarters$Text", "bytes", "[I", true)
  | 1 => ("BentQuarters$Text", "length", "I", false)
  | 2 => ("BentQuarters$Text", "letters", "[I", true)
  | 3 => ("BentQuarters$Text", "firsts", "[I", true)
  | 4 => ("BentQuarters$Text", "seconds", "[I", true)
  | 5 => ("BentQuarters$Text", "orders", "I", false)
  | 6 => ("BentQuarters$Text", "open", "Z", false)
  | 7 => ("BentQuarters$Text", "numbers", "I", false)
  | _ => ("BentQuarters$Text", "figuresInNumber", "I", false)
def tyX4 : Nat → FieldType := fun k => match k with
  | 0 => .array .int
  | 1 => .int
  | 2 => .array .int
  | 3 => .array .int
  | 4 => .array .int
  | 5 => .int
  | 6 => .boolean
  | 7 => .int
  | _ => .int
abbrev wsX40 : List Cond := u_ws RX4 TX4 9
theorem nmX4 : ∀ a, a < 9 → ∀ b, b < 9 → a ≠ b → (TX4 a).2.1 ≠ (TX4 b).2.1 := by decide +kernel
theorem tyX4_ok : ∀ k, k < 9 → parseFieldDescriptor (TX4 k).2.2.1 = some (tyX4 k) := by decide +kernel
abbrev cX4_init : ByteArray := prog_6_method_1_code
def yX4_init : MethodName := ⟨RX4, "<init>", "()V"⟩
abbrev cX4_takes : ByteArray := prog_6_method_2_code
def yX4_takes : MethodName := ⟨RX4, "takes", "(I)I"⟩
abbrev cX4_reads : ByteArray := prog_6_method_3_code
def yX4_reads : MethodName := ⟨RX4, "reads", "()I"⟩
abbrev cX4_readsByte : ByteArray := prog_6_method_4_code
def yX4_readsByte : MethodName := ⟨RX4, "readsByte", "(I)Z"⟩
abbrev cX4_opens : ByteArray := prog_6_method_5_code
def yX4_opens : MethodName := ⟨RX4, "opens", "(I)Z"⟩
abbrev cX4_closes : ByteArray := prog_6_method_6_code
def yX4_closes : MethodName := ⟨RX4, "closes", "()Z"⟩
abbrev cX4_readsFigure : ByteArray := prog_6_method_7_code
def yX4_readsFigure : MethodName := ⟨RX4, "readsFigure", "(I)Z"⟩
abbrev cX4_numbersOf : ByteArray := prog_6_method_8_code
def yX4_numbersOf : MethodName := ⟨RX4, "numbersOf", "(I)I"⟩
def RX5 : String := "BentQuarters"
def TX5 : u_T := fun k => match k with
  | 0 => ("BentQuarters", "figures", "LBentQuarters$Figures;", true)
  | 1 => ("BentQuarters", "bender", "LBentQuarters$Bender;", true)
  | 2 => ("BentQuarters", "past", "LBentQuarters$Past;", true)
  | 3 => ("BentQuarters", "text", "LBentQuarters$Text;", true)
  | 4 => ("BentQuarters", "refusals", "[I", true)
  | _ => ("BentQuarters", "shares", "[I", true)
def tyX5 : Nat → FieldType := fun k => match k with
  | 0 => .object "BentQuarters$Figures"
  | 1 => .object "BentQuarters$Bender"
  | 2 => .object "BentQuarters$Past"
  | 3 => .object "BentQuarters$Text"
  | 4 => .array .int
  | _ => .array .int
abbrev wsX50 : List Cond := u_ws RX5 TX5 6
theorem nmX5 : ∀ a, a < 6 → ∀ b, b < 6 → a ≠ b → (TX5 a).2.1 ≠ (TX5 b).2.1 := by decide +kernel
theorem tyX5_ok : ∀ k, k < 6 → parseFieldDescriptor (TX5 k).2.2.1 = some (tyX5 k) := by decide +kernel
abbrev cX5_init : ByteArray := prog_1_method_1_code
def yX5_init : MethodName := ⟨RX5, "<init>", "()V"⟩
abbrev cX5_quarter : ByteArray := prog_1_method_2_code
def yX5_quarter : MethodName := ⟨RX5, "quarter", "(I)I"⟩
abbrev cX5_indicates : ByteArray := prog_1_method_3_code
def yX5_indicates : MethodName := ⟨RX5, "indicates", "(II)I"⟩
abbrev cX5_total : ByteArray := prog_1_method_4_code
def yX5_total : MethodName := ⟨RX5, "total", "(II)I"⟩
abbrev cX5_untold : ByteArray := prog_1_method_5_code
def yX5_untold : MethodName := ⟨RX5, "untold", "(I)I"⟩
abbrev cX5_freezes : ByteArray := prog_1_method_6_code
def yX5_freezes : MethodName := ⟨RX5, "freezes", "(II)I"⟩
abbrev cX5_limits : ByteArray := prog_1_method_7_code
def yX5_limits : MethodName := ⟨RX5, "limits", "(I)I"⟩
abbrev cX5_form : ByteArray := prog_1_method_8_code
def yX5_form : MethodName := ⟨RX5, "form", "(I)I"⟩
abbrev cX5_publishes : ByteArray := prog_1_method_9_code
def yX5_publishes : MethodName := ⟨RX5, "publishes", "()I"⟩
abbrev cX5_recalls : ByteArray := prog_1_method_10_code
def yX5_recalls : MethodName := ⟨RX5, "recalls", "()I"⟩
abbrev cX5_of : ByteArray := prog_1_method_11_code
def yX5_of : MethodName := ⟨RX5, "of", "(II)I"⟩
abbrev cX5_year : ByteArray := prog_1_method_12_code
def yX5_year : MethodName := ⟨RX5, "year", "(II)I"⟩
abbrev cX5_count : ByteArray := prog_1_method_13_code
def yX5_count : MethodName := ⟨RX5, "count", "(I)I"⟩
abbrev cX5_bent : ByteArray := prog_1_method_14_code
def yX5_bent : MethodName := ⟨RX5, "bent", "(I)I"⟩
abbrev cX5_moved : ByteArray := prog_1_method_15_code
def yX5_moved : MethodName := ⟨RX5, "moved", "(I)J"⟩
abbrev cX5_revised : ByteArray := prog_1_method_16_code
def yX5_revised : MethodName := ⟨RX5, "revised", "(I)I"⟩
abbrev cX5_farthest : ByteArray := prog_1_method_17_code
def yX5_farthest : MethodName := ⟨RX5, "farthest", "()I"⟩
abbrev cX5_least : ByteArray := prog_1_method_18_code
def yX5_least : MethodName := ⟨RX5, "least", "()I"⟩
abbrev cX5_price : ByteArray := prog_1_method_19_code
def yX5_price : MethodName := ⟨RX5, "price", "(I)J"⟩
abbrev cX5_others : ByteArray := prog_1_method_20_code
def yX5_others : MethodName := ⟨RX5, "others", "()I"⟩
abbrev cX5_shared : ByteArray := prog_1_method_21_code
def yX5_shared : MethodName := ⟨RX5, "shared", "(I)I"⟩
abbrev cX5_stepped : ByteArray := prog_1_method_22_code
def yX5_stepped : MethodName := ⟨RX5, "stepped", "(I)J"⟩
abbrev cX5_type : ByteArray := prog_1_method_23_code
def yX5_type : MethodName := ⟨RX5, "type", "(I)I"⟩
abbrev cX5_clear : ByteArray := prog_1_method_24_code
def yX5_clear : MethodName := ⟨RX5, "clear", "()I"⟩
abbrev cX5_does : ByteArray := prog_1_method_25_code
def yX5_does : MethodName := ⟨RX5, "does", "()I"⟩
abbrev cX5_back : ByteArray := prog_1_method_26_code
def yX5_back : MethodName := ⟨RX5, "back", "()I"⟩
abbrev cX5_told : ByteArray := prog_1_method_27_code
def yX5_told : MethodName := ⟨RX5, "told", "(I)I"⟩
abbrev cX5_digest : ByteArray := prog_1_method_28_code
def yX5_digest : MethodName := ⟨RX5, "digest", "()J"⟩
abbrev cX5_digestsFigures : ByteArray := prog_1_method_29_code
def yX5_digestsFigures : MethodName := ⟨RX5, "digestsFigures", "(J)J"⟩
abbrev cX5_digestsBent : ByteArray := prog_1_method_30_code
def yX5_digestsBent : MethodName := ⟨RX5, "digestsBent", "(J)J"⟩
abbrev cX5_prints : ByteArray := prog_1_method_31_code
def yX5_prints : MethodName := ⟨RX5, "prints", "()I"⟩
abbrev cX5_revision : ByteArray := prog_1_method_32_code
def yX5_revision : MethodName := ⟨RX5, "revision", "(I)I"⟩
abbrev cX5_shareMovement : ByteArray := prog_1_method_33_code
def yX5_shareMovement : MethodName := ⟨RX5, "shareMovement", "(I)J"⟩
abbrev cX5_obeys : ByteArray := prog_1_method_34_code
def yX5_obeys : MethodName := ⟨RX5, "obeys", "(III)I"⟩
abbrev cX5_settles : ByteArray := prog_1_method_35_code
def yX5_settles : MethodName := ⟨RX5, "settles", "(I)I"⟩
abbrev cX5_refuses : ByteArray := prog_1_method_36_code
def yX5_refuses : MethodName := ⟨RX5, "refuses", "(I)I"⟩
abbrev cX5_isRefusal : ByteArray := prog_1_method_37_code
def yX5_isRefusal : MethodName := ⟨RX5, "isRefusal", "(I)Z"⟩
abbrev cX5_within : ByteArray := prog_1_method_38_code
def yX5_within : MethodName := ⟨RX5, "within", "(III)Z"⟩
abbrev cX5_isYear : ByteArray := prog_1_method_39_code
def yX5_isYear : MethodName := ⟨RX5, "isYear", "(I)Z"⟩
abbrev cX5_isForm : ByteArray := prog_1_method_40_code
def yX5_isForm : MethodName := ⟨RX5, "isForm", "(I)Z"⟩
def RX6 : String := "BentQuartersModel"
def TX6 : u_T := fun k => match k with
  | 0 => ("BentQuartersModel", "now", "[I", true)
  | 1 => ("BentQuartersModel", "aside", "[I", true)
  | 2 => ("BentQuartersModel", "past", "[I", true)
  | 3 => ("BentQuartersModel", "states", "I", false)
  | 4 => ("BentQuartersModel", "refused", "[I", true)
  | 5 => ("BentQuartersModel", "text", "[I", true)
  | 6 => ("BentQuartersModel", "bytes", "I", false)
  | 7 => ("BentQuartersModel", "orderLetter", "[I", true)
  | 8 => ("BentQuartersModel", "orderFrom", "[I", true)
  | 9 => ("BentQuartersModel", "numbers", "[I", true)
  | 10 => ("BentQuartersModel", "orders", "I", false)
  | 11 => ("BentQuartersModel", "best", "[J", true)
  | 12 => ("BentQuartersModel", "ways", "[I", true)
  | 13 => ("BentQuartersModel", "rowX", "[I", true)
  | 14 => ("BentQuartersModel", "allWays", "I", false)
  | 15 => ("BentQuartersModel", "bestCost", "J", false)
  | 16 => ("BentQuartersModel", "askedLimit", "I", false)
  | 17 => ("BentQuartersModel", "askedBut", "I", false)
  | 18 => ("BentQuartersModel", "sharedX", "[I", true)
  | 19 => ("BentQuartersModel", "letter", "I", false)
  | 20 => ("BentQuartersModel", "begun", "I", false)
  | 21 => ("BentQuartersModel", "figures", "I", false)
  | _ => ("BentQuartersModel", "before", "[I", true)
def tyX6 : Nat → FieldType := fun k => match k with
  | 0 => .array .int
  | 1 => .array .int
  | 2 => .array .int
  | 3 => .int
  | 4 => .array .int
  | 5 => .array .int
  | 6 => .int
  | 7 => .array .int
  | 8 => .array .int
  | 9 => .array .int
  | 10 => .int
  | 11 => .array .long
  | 12 => .array .int
  | 13 => .array .int
  | 14 => .int
  | 15 => .long
  | 16 => .int
  | 17 => .int
  | 18 => .array .int
  | 19 => .int
  | 20 => .int
  | 21 => .int
  | _ => .array .int
abbrev wsX60 : List Cond := u_ws RX6 TX6 23
theorem nmX6 : ∀ a, a < 23 → ∀ b, b < 23 → a ≠ b → (TX6 a).2.1 ≠ (TX6 b).2.1 := by decide +kernel
theorem tyX6_ok : ∀ k, k < 23 → parseFieldDescriptor (TX6 k).2.2.1 = some (tyX6 k) := by decide +kernel
abbrev cX6_init : ByteArray := prog_8_method_1_code
def yX6_init : MethodName := ⟨RX6, "<init>", "()V"⟩
abbrev cX6_in : ByteArray := prog_8_method_2_code
def yX6_in : MethodName := ⟨RX6, "in", "(JJJ)Z"⟩
abbrev cX6_bring : ByteArray := prog_8_method_3_code
def yX6_bring : MethodName := ⟨RX6, "bring", "([II[II)V"⟩
abbrev cX6_refuse : ByteArray := prog_8_method_4_code
def yX6_refuse : MethodName := ⟨RX6, "refuse", "(I)I"⟩
abbrev cX6_save : ByteArray := prog_8_method_5_code
def yX6_save : MethodName := ⟨RX6, "save", "()V"⟩
abbrev cX6_finish : ByteArray := prog_8_method_6_code
def yX6_finish : MethodName := ⟨RX6, "finish", "(I)I"⟩
abbrev cX6_isQuarter : ByteArray := prog_8_method_7_code
def yX6_isQuarter : MethodName := ⟨RX6, "isQuarter", "(I)Z"⟩
abbrev cX6_isYear : ByteArray := prog_8_method_8_code
def yX6_isYear : MethodName := ⟨RX6, "isYear", "(I)Z"⟩
abbrev cX6_putQuarter : ByteArray := prog_8_method_9_code
def yX6_putQuarter : MethodName := ⟨RX6, "putQuarter", "(I)I"⟩
abbrev cX6_putIndicator : ByteArray := prog_8_method_10_code
def yX6_putIndicator : MethodName := ⟨RX6, "putIndicator", "(II)I"⟩
abbrev cX6_putTotal : ByteArray := prog_8_method_11_code
def yX6_putTotal : MethodName := ⟨RX6, "putTotal", "(II)I"⟩
abbrev cX6_dropTotal : ByteArray := prog_8_method_12_code
def yX6_dropTotal : MethodName := ⟨RX6, "dropTotal", "(I)I"⟩
abbrev cX6_ones : ByteArray := prog_8_method_13_code
def yX6_ones : MethodName := ⟨RX6, "ones", "(I)I"⟩
abbrev cX6_putFrozen : ByteArray := prog_8_method_14_code
def yX6_putFrozen : MethodName := ⟨RX6, "putFrozen", "(II)I"⟩
abbrev cX6_putLimit : ByteArray := prog_8_method_15_code
def yX6_putLimit : MethodName := ⟨RX6, "putLimit", "(I)I"⟩
abbrev cX6_putForm : ByteArray := prog_8_method_16_code
def yX6_putForm : MethodName := ⟨RX6, "putForm", "(I)I"⟩
abbrev cX6_publishAll : ByteArray := prog_8_method_17_code
def yX6_publishAll : MethodName := ⟨RX6, "publishAll", "()I"⟩
abbrev cX6_publishedMany : ByteArray := prog_8_method_18_code
def yX6_publishedMany : MethodName := ⟨RX6, "publishedMany", "()I"⟩
abbrev cX6_quarter : ByteArray := prog_8_method_19_code
def yX6_quarter : MethodName := ⟨RX6, "quarter", "(I)I"⟩
abbrev cX6_indicates : ByteArray := prog_8_method_20_code
def yX6_indicates : MethodName := ⟨RX6, "indicates", "(II)I"⟩
abbrev cX6_total : ByteArray := prog_8_method_21_code
def yX6_total : MethodName := ⟨RX6, "total", "(II)I"⟩
abbrev cX6_untold : ByteArray := prog_8_method_22_code
def yX6_untold : MethodName := ⟨RX6, "untold", "(I)I"⟩
abbrev cX6_freezes : ByteArray := prog_8_method_23_code
def yX6_freezes : MethodName := ⟨RX6, "freezes", "(II)I"⟩
abbrev cX6_limits : ByteArray := prog_8_method_24_code
def yX6_limits : MethodName := ⟨RX6, "limits", "(I)I"⟩
abbrev cX6_form : ByteArray := prog_8_method_25_code
def yX6_form : MethodName := ⟨RX6, "form", "(I)I"⟩
abbrev cX6_publishes : ByteArray := prog_8_method_26_code
def yX6_publishes : MethodName := ⟨RX6, "publishes", "()I"⟩
abbrev cX6_recalls : ByteArray := prog_8_method_27_code
def yX6_recalls : MethodName := ⟨RX6, "recalls", "()I"⟩
abbrev cX6_ofQuarter : ByteArray := prog_8_method_28_code
def yX6_ofQuarter : MethodName := ⟨RX6, "ofQuarter", "(II)I"⟩
abbrev cX6_of : ByteArray := prog_8_method_29_code
def yX6_of : MethodName := ⟨RX6, "of", "(II)I"⟩
abbrev cX6_together : ByteArray := prog_8_method_30_code
def yX6_together : MethodName := ⟨RX6, "together", "(I)I"⟩
abbrev cX6_ofYear : ByteArray := prog_8_method_31_code
def yX6_ofYear : MethodName := ⟨RX6, "ofYear", "(II)I"⟩
abbrev cX6_year : ByteArray := prog_8_method_32_code
def yX6_year : MethodName := ⟨RX6, "year", "(II)I"⟩
abbrev cX6_countOf : ByteArray := prog_8_method_33_code
def yX6_countOf : MethodName := ⟨RX6, "countOf", "(I)I"⟩
abbrev cX6_count : ByteArray := prog_8_method_34_code
def yX6_count : MethodName := ⟨RX6, "count", "(I)I"⟩
abbrev cX6_isBound : ByteArray := prog_8_method_35_code
def yX6_isBound : MethodName := ⟨RX6, "isBound", "(I)Z"⟩
abbrev cX6_may : ByteArray := prog_8_method_36_code
def yX6_may : MethodName := ⟨RX6, "may", "(II)Z"⟩
abbrev cX6_square : ByteArray := prog_8_method_37_code
def yX6_square : MethodName := ⟨RX6, "square", "(J)J"⟩
abbrev cX6_step : ByteArray := prog_8_method_38_code
def yX6_step : MethodName := ⟨RX6, "step", "(III)J"⟩
abbrev cX6_place : ByteArray := prog_8_method_39_code
def yX6_place : MethodName := ⟨RX6, "place", "(III)I"⟩
abbrev cX6_nextSum : ByteArray := prog_8_method_40_code
def yX6_nextSum : MethodName := ⟨RX6, "nextSum", "(III)I"⟩
abbrev cX6_lay : ByteArray := prog_8_method_41_code
def yX6_lay : MethodName := ⟨RX6, "lay", "(III)V"⟩
abbrev cX6_find : ByteArray := prog_8_method_42_code
def yX6_find : MethodName := ⟨RX6, "find", "(II)Z"⟩
abbrev cX6_nextBest : ByteArray := prog_8_method_43_code
def yX6_nextBest : MethodName := ⟨RX6, "nextBest", "(III)I"⟩
abbrev cX6_bend : ByteArray := prog_8_method_44_code
def yX6_bend : MethodName := ⟨RX6, "bend", "()Z"⟩
abbrev cX6_movedBy : ByteArray := prog_8_method_45_code
def yX6_movedBy : MethodName := ⟨RX6, "movedBy", "(I[I)J"⟩
abbrev cX6_bent : ByteArray := prog_8_method_46_code
def yX6_bent : MethodName := ⟨RX6, "bent", "(I)I"⟩
abbrev cX6_moved : ByteArray := prog_8_method_47_code
def yX6_moved : MethodName := ⟨RX6, "moved", "(I)J"⟩
abbrev cX6_revisedOf : ByteArray := prog_8_method_48_code
def yX6_revisedOf : MethodName := ⟨RX6, "revisedOf", "(I)I"⟩
abbrev cX6_revised : ByteArray := prog_8_method_49_code
def yX6_revised : MethodName := ⟨RX6, "revised", "(I)I"⟩
abbrev cX6_farthest : ByteArray := prog_8_method_50_code
def yX6_farthest : MethodName := ⟨RX6, "farthest", "()I"⟩
abbrev cX6_least : ByteArray := prog_8_method_51_code
def yX6_least : MethodName := ⟨RX6, "least", "()I"⟩
abbrev cX6_price : ByteArray := prog_8_method_52_code
def yX6_price : MethodName := ⟨RX6, "price", "(I)J"⟩
abbrev cX6_others : ByteArray := prog_8_method_53_code
def yX6_others : MethodName := ⟨RX6, "others", "()I"⟩
abbrev cX6_shareOut : ByteArray := prog_8_method_54_code
def yX6_shareOut : MethodName := ⟨RX6, "shareOut", "()V"⟩
abbrev cX6_shareYear : ByteArray := prog_8_method_55_code
def yX6_shareYear : MethodName := ⟨RX6, "shareYear", "(III)V"⟩
abbrev cX6_shared : ByteArray := prog_8_method_56_code
def yX6_shared : MethodName := ⟨RX6, "shared", "(I)I"⟩
abbrev cX6_stepped : ByteArray := prog_8_method_57_code
def yX6_stepped : MethodName := ⟨RX6, "stepped", "(I)J"⟩
abbrev cX6_type : ByteArray := prog_8_method_58_code
def yX6_type : MethodName := ⟨RX6, "type", "(I)I"⟩
abbrev cX6_clear : ByteArray := prog_8_method_59_code
def yX6_clear : MethodName := ⟨RX6, "clear", "()I"⟩
abbrev cX6_wantsOf : ByteArray := prog_8_method_60_code
def yX6_wantsOf : MethodName := ⟨RX6, "wantsOf", "(I)I"⟩
abbrev cX6_readByte : ByteArray := prog_8_method_61_code
def yX6_readByte : MethodName := ⟨RX6, "readByte", "(I)Z"⟩
abbrev cX6_readText : ByteArray := prog_8_method_62_code
def yX6_readText : MethodName := ⟨RX6, "readText", "()I"⟩
abbrev cX6_doOrder : ByteArray := prog_8_method_63_code
def yX6_doOrder : MethodName := ⟨RX6, "doOrder", "(I)I"⟩
abbrev cX6_does : ByteArray := prog_8_method_64_code
def yX6_does : MethodName := ⟨RX6, "does", "()I"⟩
abbrev cX6_back : ByteArray := prog_8_method_65_code
def yX6_back : MethodName := ⟨RX6, "back", "()I"⟩
abbrev cX6_toldOf : ByteArray := prog_8_method_66_code
def yX6_toldOf : MethodName := ⟨RX6, "toldOf", "(I)I"⟩
abbrev cX6_told : ByteArray := prog_8_method_67_code
def yX6_told : MethodName := ⟨RX6, "told", "(I)I"⟩
abbrev cX6_digest : ByteArray := prog_8_method_68_code
def yX6_digest : MethodName := ⟨RX6, "digest", "()J"⟩
def RJ6 : String := "java/lang/Integer"
def TJ6 : u_T := fun k => match k with
  | _ => ("", "", "", false)
def tyJ6 : Nat → FieldType := fun k => match k with
  | _ => .int
abbrev wsJ60 : List Cond := u_ws RJ6 TJ6 0
theorem nmJ6 : ∀ a, a < 0 → ∀ b, b < 0 → a ≠ b → (TJ6 a).2.1 ≠ (TJ6 b).2.1 := by decide +kernel
theorem tyJ6_ok : ∀ k, k < 0 → parseFieldDescriptor (TJ6 k).2.2.1 = some (tyJ6 k) := by decide +kernel
abbrev cJ6_bitCount_0f7a4 : ByteArray := prog_9_method_49_code
def yJ6_bitCount_0f7a4 : MethodName := ⟨RJ6, "bitCount", "(I)I"⟩
def RJ9 : String := "java/lang/Math"
def TJ9 : u_T := fun k => match k with
  | _ => ("", "", "", false)
def tyJ9 : Nat → FieldType := fun k => match k with
  | _ => .int
abbrev wsJ90 : List Cond := u_ws RJ9 TJ9 0
theorem nmJ9 : ∀ a, a < 0 → ∀ b, b < 0 → a ≠ b → (TJ9 a).2.1 ≠ (TJ9 b).2.1 := by decide +kernel
theorem tyJ9_ok : ∀ k, k < 0 → parseFieldDescriptor (TJ9 k).2.2.1 = some (tyJ9 k) := by decide +kernel
abbrev cJ9_abs_0f7a4 : ByteArray := prog_10_method_59_code
def yJ9_abs_0f7a4 : MethodName := ⟨RJ9, "abs", "(I)I"⟩
abbrev cJ9_max_7cf53 : ByteArray := prog_10_method_65_code
def yJ9_max_7cf53 : MethodName := ⟨RJ9, "max", "(II)I"⟩
abbrev cJ9_min_7cf53 : ByteArray := prog_10_method_69_code
def yJ9_min_7cf53 : MethodName := ⟨RJ9, "min", "(II)I"⟩
def RJ10 : String := "java/lang/System"
def TJ10 : u_T := fun k => match k with
  | _ => ("", "", "", false)
def tyJ10 : Nat → FieldType := fun k => match k with
  | _ => .int
abbrev wsJ100 : List Cond := u_ws RJ10 TJ10 0
theorem nmJ10 : ∀ a, a < 0 → ∀ b, b < 0 → a ≠ b → (TJ10 a).2.1 ≠ (TJ10 b).2.1 := by decide +kernel
theorem tyJ10_ok : ∀ k, k < 0 → parseFieldDescriptor (TJ10 k).2.2.1 = some (tyJ10 k) := by decide +kernel
def RL : String := "BentQuartersLaw"
abbrev cL_law : ByteArray := code
def yL_law : MethodName := ⟨RL, "law", "([I)Z"⟩
abbrev vwCl : List vw_C := [(RX0, TX0, 11), (RX1, TX1, 7), (RX2, TX2, 7), (RX3, TX3, 3), (RX4, TX4, 9), (RX5, TX5, 6), (RX6, TX6, 23)]
end
section
theorem dX6_init_0 : decode cX6_init 0 = .ok (.aload_n 0, 1) := by decide +kernel
theorem dX6_init_1 : decode cX6_init 1 = .ok (.invokespecial 1, 3) := by decide +kernel
theorem dX6_init_4 : decode cX6_init 4 = .ok (.aload_n 0, 1) := by decide +kernel
theorem dX6_init_5 : decode cX6_init 5 = .ok (.bipush 31, 2) := by decide +kernel
theorem dX6_init_7 : decode cX6_init 7 = .ok (.newarray .int, 2) := by decide +kernel
theorem dX6_init_9 : decode cX6_init 9 = .ok (.putfield 7, 3) := by decide +kernel
theorem dX6_init_12 : decode cX6_init 12 = .ok (.aload_n 0, 1) := by decide +kernel
theorem dX6_init_13 : decode cX6_init 13 = .ok (.bipush 31, 2) := by decide +kernel
theorem dX6_init_15 : decode cX6_init 15 = .ok (.newarray .int, 2) := by decide +kernel
theorem dX6_init_17 : decode cX6_init 17 = .ok (.putfield 13, 3) := by decide +kernel
theorem dX6_init_20 : decode cX6_init 20 = .ok (.aload_n 0, 1) := by decide +kernel
theorem dX6_init_21 : decode cX6_init 21 = .ok (.sipush 155, 3) := by decide +kernel
theorem dX6_init_24 : decode cX6_init 24 = .ok (.newarray .int, 2) := by decide +kernel
theorem dX6_init_26 : decode cX6_init 26 = .ok (.putfield 16, 3) := by decide +kernel
theorem dX6_init_29 : decode cX6_init 29 = .ok (.aload_n 0, 1) := by decide +kernel
theorem dX6_init_30 : decode cX6_init 30 = .ok (.iconst 3, 1) := by decide +kernel
theorem dX6_init_31 : decode cX6_init 31 = .ok (.newarray .int, 2) := by decide +kernel
theorem dX6_init_33 : decode cX6_init 33 = .ok (.putfield 19, 3) := by decide +kernel
theorem dX6_init_36 : decode cX6_init 36 = .ok (.aload_n 0, 1) := by decide +kernel
theorem dX6_init_37 : decode cX6_init 37 = .ok (.bipush 120, 2) := by decide +kernel
theorem dX6_init_39 : decode cX6_init 39 = .ok (.newarray .int, 2) := by decide +kernel
theorem dX6_init_41 : decode cX6_init 41 = .ok (.putfield 22, 3) := by decide +kernel
theorem dX6_init_44 : decode cX6_init 44 = .ok (.aload_n 0, 1) := by decide +kernel
theorem dX6_init_45 : decode cX6_init 45 = .ok (.bipush 120, 2) := by decide +kernel
theorem dX6_init_47 : decode cX6_init 47 = .ok (.newarray .int, 2) := by decide +kernel
theorem dX6_init_49 : decode cX6_init 49 = .ok (.putfield 25, 3) := by decide +kernel
theorem dX6_init_52 : decode cX6_init 52 = .ok (.aload_n 0, 1) := by decide +kernel
theorem dX6_init_53 : decode cX6_init 53 = .ok (.bipush 121, 2) := by decide +kernel
theorem dX6_init_55 : decode cX6_init 55 = .ok (.newarray .int, 2) := by decide +kernel
theorem dX6_init_57 : decode cX6_init 57 = .ok (.putfield 28, 3) := by decide +kernel
theorem dX6_init_60 : decode cX6_init 60 = .ok (.aload_n 0, 1) := by decide +kernel
theorem dX6_init_61 : decode cX6_init 61 = .ok (.bipush 120, 2) := by decide +kernel
theorem dX6_init_63 : decode cX6_init 63 = .ok (.newarray .int, 2) := by decide +kernel
theorem dX6_init_65 : decode cX6_init 65 = .ok (.putfield 31, 3) := by decide +kernel
theorem dX6_init_68 : decode cX6_init 68 = .ok (.aload_n 0, 1) := by decide +kernel
theorem dX6_init_69 : decode cX6_init 69 = .ok (.sipush 13260, 3) := by decide +kernel
theorem dX6_init_72 : decode cX6_init 72 = .ok (.newarray .long, 2) := by decide +kernel
theorem dX6_init_74 : decode cX6_init 74 = .ok (.putfield 34, 3) := by decide +kernel
theorem dX6_init_77 : decode cX6_init 77 = .ok (.aload_n 0, 1) := by decide +kernel
theorem dX6_init_78 : decode cX6_init 78 = .ok (.sipush 13260, 3) := by decide +kernel
theorem dX6_init_81 : decode cX6_init 81 = .ok (.newarray .int, 2) := by decide +kernel
theorem dX6_init_83 : decode cX6_init 83 = .ok (.putfield 38, 3) := by decide +kernel
theorem dX6_init_86 : decode cX6_init 86 = .ok (.aload_n 0, 1) := by decide +kernel
theorem dX6_init_87 : decode cX6_init 87 = .ok (.bipush 12, 2) := by decide +kernel
theorem dX6_init_89 : decode cX6_init 89 = .ok (.newarray .int, 2) := by decide +kernel
theorem dX6_init_91 : decode cX6_init 91 = .ok (.putfield 41, 3) := by decide +kernel
theorem dX6_init_94 : decode cX6_init 94 = .ok (.aload_n 0, 1) := by decide +kernel
theorem dX6_init_95 : decode cX6_init 95 = .ok (.bipush 12, 2) := by decide +kernel
theorem dX6_init_97 : decode cX6_init 97 = .ok (.newarray .int, 2) := by decide +kernel
theorem dX6_init_99 : decode cX6_init 99 = .ok (.putfield 44, 3) := by decide +kernel
theorem dX6_init_102 : decode cX6_init 102 = .ok (.aload_n 0, 1) := by decide +kernel
theorem dX6_init_103 : decode cX6_init 103 = .ok (.bipush 31, 2) := by decide +kernel
theorem dX6_init_105 : decode cX6_init 105 = .ok (.newarray .int, 2) := by decide +kernel
theorem dX6_init_107 : decode cX6_init 107 = .ok (.putfield 47, 3) := by decide +kernel
theorem dX6_init_110 : decode cX6_init 110 = .ok (.iconst 0, 1) := by decide +kernel
theorem dX6_init_111 : decode cX6_init 111 = .ok (.istore_n 1, 1) := by decide +kernel
theorem dX6_init_112 : decode cX6_init 112 = .ok (.iload_n 1, 1) := by decide +kernel
theorem dX6_init_113 : decode cX6_init 113 = .ok (.bipush 31, 2) := by decide +kernel
theorem dX6_init_115 : decode cX6_init 115 = .ok (.if_icmp .ge 38, 3) := by decide +kernel
theorem dX6_init_118 : decode cX6_init 118 = .ok (.aload_n 0, 1) := by decide +kernel
theorem dX6_init_119 : decode cX6_init 119 = .ok (.getfield 7, 3) := by decide +kernel
theorem dX6_init_122 : decode cX6_init 122 = .ok (.iload_n 1, 1) := by decide +kernel
theorem dX6_init_123 : decode cX6_init 123 = .ok (.iload_n 1, 1) := by decide +kernel
theorem dX6_init_124 : decode cX6_init 124 = .ok (.bipush 13, 2) := by decide +kernel
theorem dX6_init_126 : decode cX6_init 126 = .ok (.if_icmp .lt 15, 3) := by decide +kernel
theorem dX6_init_129 : decode cX6_init 129 = .ok (.iload_n 1, 1) := by decide +kernel
theorem dX6_init_130 : decode cX6_init 130 = .ok (.bipush 28, 2) := by decide +kernel
theorem dX6_init_132 : decode cX6_init 132 = .ok (.if_icmp .eq 9, 3) := by decide +kernel
theorem dX6_init_135 : decode cX6_init 135 = .ok (.iload_n 1, 1) := by decide +kernel
theorem dX6_init_136 : decode cX6_init 136 = .ok (.bipush 30, 2) := by decide +kernel
theorem dX6_init_138 : decode cX6_init 138 = .ok (.if_icmp .ne 7, 3) := by decide +kernel
theorem dX6_init_141 : decode cX6_init 141 = .ok (.iconst 0, 1) := by decide +kernel
theorem dX6_init_142 : decode cX6_init 142 = .ok (.goto 4, 3) := by decide +kernel
theorem dX6_init_145 : decode cX6_init 145 = .ok (.iconst (-1), 1) := by decide +kernel
theorem dX6_init_146 : decode cX6_init 146 = .ok (.iastore, 1) := by decide +kernel
theorem dX6_init_147 : decode cX6_init 147 = .ok (.iinc 1 1, 3) := by decide +kernel
theorem dX6_init_150 : decode cX6_init 150 = .ok (.goto (-38), 3) := by decide +kernel
theorem dX6_init_153 : decode cX6_init 153 = .ok (.return_, 1) := by decide +kernel
theorem dX6_in_0 : decode cX6_in 0 = .ok (.lload_n 0, 1) := by decide +kernel
theorem dX6_in_1 : decode cX6_in 1 = .ok (.lload_n 2, 1) := by decide +kernel
theorem dX6_in_2 : decode cX6_in 2 = .ok (.lcmp, 1) := by decide +kernel
theorem dX6_in_3 : decode cX6_in 3 = .ok (.ifCond .lt 14, 3) := by decide +kernel
theorem dX6_in_6 : decode cX6_in 6 = .ok (.lload_n 0, 1) := by decide +kernel
theorem dX6_in_7 : decode cX6_in 7 = .ok (.lload 4, 2) := by decide +kernel
theorem dX6_in_9 : decode cX6_in 9 = .ok (.lcmp, 1) := by decide +kernel
theorem dX6_in_10 : decode cX6_in 10 = .ok (.ifCond .gt 7, 3) := by decide +kernel
theorem dX6_in_13 : decode cX6_in 13 = .ok (.iconst 1, 1) := by decide +kernel
theorem dX6_in_14 : decode cX6_in 14 = .ok (.goto 4, 3) := by decide +kernel
theorem dX6_in_17 : decode cX6_in 17 = .ok (.iconst 0, 1) := by decide +kernel
theorem dX6_in_18 : decode cX6_in 18 = .ok (.ireturn, 1) := by decide +kernel
theorem dX6_bring_0 : decode cX6_bring 0 = .ok (.iconst 0, 1) := by decide +kernel
theorem dX6_bring_1 : decode cX6_bring 1 = .ok (.istore 4, 2) := by decide +kernel
theorem dX6_bring_3 : decode cX6_bring 3 = .ok (.iload 4, 2) := by decide +kernel
theorem dX6_bring_5 : decode cX6_bring 5 = .ok (.bipush 31, 2) := by decide +kernel
theorem dX6_bring_7 : decode cX6_bring 7 = .ok (.if_icmp .ge 21, 3) := by decide +kernel
theorem dX6_bring_10 : decode cX6_bring 10 = .ok (.aload_n 2, 1) := by decide +kernel
theorem dX6_bring_11 : decode cX6_bring 11 = .ok (.iload_n 3, 1) := by decide +kernel
theorem dX6_bring_12 : decode cX6_bring 12 = .ok (.iload 4, 2) := by decide +kernel
theorem dX6_bring_14 : decode cX6_bring 14 = .ok (.iadd, 1) := by decide +kernel
theorem dX6_bring_15 : decode cX6_bring 15 = .ok (.aload_n 0, 1) := by decide +kernel
theorem dX6_bring_16 : decode cX6_bring 16 = .ok (.iload_n 1, 1) := by decide +kernel
theorem dX6_bring_17 : decode cX6_bring 17 = .ok (.iload 4, 2) := by decide +kernel
theorem dX6_bring_19 : decode cX6_bring 19 = .ok (.iadd, 1) := by decide +kernel
theorem dX6_bring_20 : decode cX6_bring 20 = .ok (.iaload, 1) := by decide +kernel
theorem dX6_bring_21 : decode cX6_bring 21 = .ok (.iastore, 1) := by decide +kernel
theorem dX6_bring_22 : decode cX6_bring 22 = .ok (.iinc 4 1, 3) := by decide +kernel
theorem dX6_bring_25 : decode cX6_bring 25 = .ok (.goto (-22), 3) := by decide +kernel
theorem dX6_bring_28 : decode cX6_bring 28 = .ok (.return_, 1) := by decide +kernel
theorem dX6_refuse_0 : decode cX6_refuse 0 = .ok (.aload_n 0, 1) := by decide +kernel
theorem dX6_refuse_1 : decode cX6_refuse 1 = .ok (.getfield 19, 3) := by decide +kernel
theorem dX6_refuse_4 : decode cX6_refuse 4 = .ok (.bipush (-2), 2) := by decide +kernel
theorem dX6_refuse_6 : decode cX6_refuse 6 = .ok (.iload_n 1, 1) := by decide +kernel
theorem dX6_refuse_7 : decode cX6_refuse 7 = .ok (.isub, 1) := by decide +kernel
theorem dX6_refuse_8 : decode cX6_refuse 8 = .ok (.dup2, 1) := by decide +kernel
theorem dX6_refuse_9 : decode cX6_refuse 9 = .ok (.iaload, 1) := by decide +kernel
theorem dX6_refuse_10 : decode cX6_refuse 10 = .ok (.iconst 1, 1) := by decide +kernel
theorem dX6_refuse_11 : decode cX6_refuse 11 = .ok (.iadd, 1) := by decide +kernel
theorem dX6_refuse_12 : decode cX6_refuse 12 = .ok (.iastore, 1) := by decide +kernel
theorem dX6_refuse_13 : decode cX6_refuse 13 = .ok (.iload_n 1, 1) := by decide +kernel
theorem dX6_refuse_14 : decode cX6_refuse 14 = .ok (.ireturn, 1) := by decide +kernel
theorem dX6_save_0 : decode cX6_save 0 = .ok (.aload_n 0, 1) := by decide +kernel
theorem dX6_save_1 : decode cX6_save 1 = .ok (.getfield 7, 3) := by decide +kernel
theorem dX6_save_4 : decode cX6_save 4 = .ok (.iconst 0, 1) := by decide +kernel
theorem dX6_save_5 : decode cX6_save 5 = .ok (.aload_n 0, 1) := by decide +kernel
theorem dX6_save_6 : decode cX6_save 6 = .ok (.getfield 13, 3) := by decide +kernel
theorem dX6_save_9 : decode cX6_save 9 = .ok (.iconst 0, 1) := by decide +kernel
theorem dX6_save_10 : decode cX6_save 10 = .ok (.invokestatic 50, 3) := by decide +kernel
theorem dX6_save_13 : decode cX6_save 13 = .ok (.return_, 1) := by decide +kernel
theorem dX6_finish_0 : decode cX6_finish 0 = .ok (.iload_n 1, 1) := by decide +kernel
theorem dX6_finish_1 : decode cX6_finish 1 = .ok (.bipush (-2), 2) := by decide +kernel
theorem dX6_finish_3 : decode cX6_finish 3 = .ok (.if_icmp .gt 9, 3) := by decide +kernel
theorem dX6_finish_6 : decode cX6_finish 6 = .ok (.aload_n 0, 1) := by decide +kernel
theorem dX6_finish_7 : decode cX6_finish 7 = .ok (.iload_n 1, 1) := by decide +kernel
theorem dX6_finish_8 : decode cX6_finish 8 = .ok (.invokevirtual 54, 3) := by decide +kernel
theorem dX6_finish_11 : decode cX6_finish 11 = .ok (.ireturn, 1) := by decide +kernel
theorem dX6_finish_12 : decode cX6_finish 12 = .ok (.aload_n 0, 1) := by decide +kernel
theorem dX6_finish_13 : decode cX6_finish 13 = .ok (.getfield 58, 3) := by decide +kernel
theorem dX6_finish_16 : decode cX6_finish 16 = .ok (.iconst 5, 1) := by decide +kernel
theorem dX6_finish_17 : decode cX6_finish 17 = .ok (.if_icmp .ne 42, 3) := by decide +kernel
theorem dX6_finish_20 : decode cX6_finish 20 = .ok (.iconst 0, 1) := by decide +kernel
theorem dX6_finish_21 : decode cX6_finish 21 = .ok (.istore_n 2, 1) := by decide +kernel
theorem dX6_finish_22 : decode cX6_finish 22 = .ok (.iload_n 2, 1) := by decide +kernel
theorem dX6_finish_23 : decode cX6_finish 23 = .ok (.bipush 124, 2) := by decide +kernel
theorem dX6_finish_25 : decode cX6_finish 25 = .ok (.if_icmp .ge 24, 3) := by decide +kernel
theorem dX6_finish_28 : decode cX6_finish 28 = .ok (.aload_n 0, 1) := by decide +kernel
theorem dX6_finish_29 : decode cX6_finish 29 = .ok (.getfield 16, 3) := by decide +kernel
theorem dX6_finish_32 : decode cX6_finish 32 = .ok (.iload_n 2, 1) := by decide +kernel
theorem dX6_finish_33 : decode cX6_finish 33 = .ok (.aload_n 0, 1) := by decide +kernel
theorem dX6_finish_34 : decode cX6_finish 34 = .ok (.getfield 16, 3) := by decide +kernel
theorem dX6_finish_37 : decode cX6_finish 37 = .ok (.iload_n 2, 1) := by decide +kernel
theorem dX6_finish_38 : decode cX6_finish 38 = .ok (.bipush 31, 2) := by decide +kernel
theorem dX6_finish_40 : decode cX6_finish 40 = .ok (.iadd, 1) := by decide +kernel
theorem dX6_finish_41 : decode cX6_finish 41 = .ok (.iaload, 1) := by decide +kernel
theorem dX6_finish_42 : decode cX6_finish 42 = .ok (.iastore, 1) := by decide +kernel
theorem dX6_finish_43 : decode cX6_finish 43 = .ok (.iinc 2 1, 3) := by decide +kernel
theorem dX6_finish_46 : decode cX6_finish 46 = .ok (.goto (-24), 3) := by decide +kernel
theorem dX6_finish_49 : decode cX6_finish 49 = .ok (.aload_n 0, 1) := by decide +kernel
theorem dX6_finish_50 : decode cX6_finish 50 = .ok (.dup, 1) := by decide +kernel
theorem dX6_finish_51 : decode cX6_finish 51 = .ok (.getfield 58, 3) := by decide +kernel
theorem dX6_finish_54 : decode cX6_finish 54 = .ok (.iconst 1, 1) := by decide +kernel
theorem dX6_finish_55 : decode cX6_finish 55 = .ok (.isub, 1) := by decide +kernel
theorem dX6_finish_56 : decode cX6_finish 56 = .ok (.putfield 58, 3) := by decide +kernel
theorem dX6_finish_59 : decode cX6_finish 59 = .ok (.aload_n 0, 1) := by decide +kernel
theorem dX6_finish_60 : decode cX6_finish 60 = .ok (.getfield 13, 3) := by decide +kernel
theorem dX6_finish_63 : decode cX6_finish 63 = .ok (.iconst 0, 1) := by decide +kernel
theorem dX6_finish_64 : decode cX6_finish 64 = .ok (.aload_n 0, 1) := by decide +kernel
theorem dX6_finish_65 : decode cX6_finish 65 = .ok (.getfield 16, 3) := by decide +kernel
theorem dX6_finish_68 : decode cX6_finish 68 = .ok (.bipush 31, 2) := by decide +kernel
theorem dX6_finish_70 : decode cX6_finish 70 = .ok (.aload_n 0, 1) := by decide +kernel
theorem dX6_finish_71 : decode cX6_finish 71 = .ok (.getfield 58, 3) := by decide +kernel
theorem dX6_finish_74 : decode cX6_finish 74 = .ok (.imul, 1) := by decide +kernel
theorem dX6_finish_75 : decode cX6_finish 75 = .ok (.invokestatic 50, 3) := by decide +kernel
theorem dX6_finish_78 : decode cX6_finish 78 = .ok (.aload_n 0, 1) := by decide +kernel
theorem dX6_finish_79 : decode cX6_finish 79 = .ok (.dup, 1) := by decide +kernel
theorem dX6_finish_80 : decode cX6_finish 80 = .ok (.getfield 58, 3) := by decide +kernel
theorem dX6_finish_83 : decode cX6_finish 83 = .ok (.iconst 1, 1) := by decide +kernel
theorem dX6_finish_84 : decode cX6_finish 84 = .ok (.iadd, 1) := by decide +kernel
theorem dX6_finish_85 : decode cX6_finish 85 = .ok (.putfield 58, 3) := by decide +kernel
theorem dX6_finish_88 : decode cX6_finish 88 = .ok (.iload_n 1, 1) := by decide +kernel
theorem dX6_finish_89 : decode cX6_finish 89 = .ok (.ireturn, 1) := by decide +kernel
theorem dX6_isQuarter_0 : decode cX6_isQuarter 0 = .ok (.iload_n 1, 1) := by decide +kernel
theorem dX6_isQuarter_1 : decode cX6_isQuarter 1 = .ok (.i2l, 1) := by decide +kernel
theorem dX6_isQuarter_2 : decode cX6_isQuarter 2 = .ok (.lconst 0, 1) := by decide +kernel
theorem dX6_isQuarter_3 : decode cX6_isQuarter 3 = .ok (.aload_n 0, 1) := by decide +kernel
theorem dX6_isQuarter_4 : decode cX6_isQuarter 4 = .ok (.getfield 7, 3) := by decide +kernel
theorem dX6_isQuarter_7 : decode cX6_isQuarter 7 = .ok (.iconst 0, 1) := by decide +kernel
theorem dX6_isQuarter_8 : decode cX6_isQuarter 8 = .ok (.iaload, 1) := by decide +kernel
theorem dX6_isQuarter_9 : decode cX6_isQuarter 9 = .ok (.iconst 1, 1) := by decide +kernel
theorem dX6_isQuarter_10 : decode cX6_isQuarter 10 = .ok (.isub, 1) := by decide +kernel
theorem dX6_isQuarter_11 : decode cX6_isQuarter 11 = .ok (.i2l, 1) := by decide +kernel
theorem dX6_isQuarter_12 : decode cX6_isQuarter 12 = .ok (.invokestatic 62, 3) := by decide +kernel
theorem dX6_isQuarter_15 : decode cX6_isQuarter 15 = .ok (.ireturn, 1) := by decide +kernel
theorem dX6_isYear_0 : decode cX6_isYear 0 = .ok (.iload_n 0, 1) := by decide +kernel
theorem dX6_isYear_1 : decode cX6_isYear 1 = .ok (.i2l, 1) := by decide +kernel
theorem dX6_isYear_2 : decode cX6_isYear 2 = .ok (.lconst 0, 1) := by decide +kernel
theorem dX6_isYear_3 : decode cX6_isYear 3 = .ok (.ldc2_w 66, 3) := by decide +kernel
theorem dX6_isYear_6 : decode cX6_isYear 6 = .ok (.invokestatic 62, 3) := by decide +kernel
theorem dX6_isYear_9 : decode cX6_isYear 9 = .ok (.ireturn, 1) := by decide +kernel
theorem dX6_putQuarter_0 : decode cX6_putQuarter 0 = .ok (.iload_n 1, 1) := by decide +kernel
theorem dX6_putQuarter_1 : decode cX6_putQuarter 1 = .ok (.i2l, 1) := by decide +kernel
theorem dX6_putQuarter_2 : decode cX6_putQuarter 2 = .ok (.lconst 1, 1) := by decide +kernel
theorem dX6_putQuarter_3 : decode cX6_putQuarter 3 = .ok (.ldc2_w 68, 3) := by decide +kernel
theorem dX6_putQuarter_6 : decode cX6_putQuarter 6 = .ok (.invokestatic 62, 3) := by decide +kernel
theorem dX6_putQuarter_9 : decode cX6_putQuarter 9 = .ok (.ifCond .ne 6, 3) := by decide +kernel
theorem dX6_putQuarter_12 : decode cX6_putQuarter 12 = .ok (.bipush (-2), 2) := by decide +kernel
theorem dX6_putQuarter_14 : decode cX6_putQuarter 14 = .ok (.ireturn, 1) := by decide +kernel
theorem dX6_putQuarter_15 : decode cX6_putQuarter 15 = .ok (.aload_n 0, 1) := by decide +kernel
theorem dX6_putQuarter_16 : decode cX6_putQuarter 16 = .ok (.getfield 7, 3) := by decide +kernel
theorem dX6_putQuarter_19 : decode cX6_putQuarter 19 = .ok (.iconst 0, 1) := by decide +kernel
theorem dX6_putQuarter_20 : decode cX6_putQuarter 20 = .ok (.iaload, 1) := by decide +kernel
theorem dX6_putQuarter_21 : decode cX6_putQuarter 21 = .ok (.bipush 12, 2) := by decide +kernel
theorem dX6_putQuarter_23 : decode cX6_putQuarter 23 = .ok (.if_icmp .ne 6, 3) := by decide +kernel
theorem dX6_putQuarter_26 : decode cX6_putQuarter 26 = .ok (.bipush (-4), 2) := by decide +kernel
theorem dX6_putQuarter_28 : decode cX6_putQuarter 28 = .ok (.ireturn, 1) := by decide +kernel
theorem dX6_putQuarter_29 : decode cX6_putQuarter 29 = .ok (.aload_n 0, 1) := by decide +kernel
theorem dX6_putQuarter_30 : decode cX6_putQuarter 30 = .ok (.getfield 7, 3) := by decide +kernel
theorem dX6_putQuarter_33 : decode cX6_putQuarter 33 = .ok (.iconst 0, 1) := by decide +kernel
theorem dX6_putQuarter_34 : decode cX6_putQuarter 34 = .ok (.iaload, 1) := by decide +kernel
theorem dX6_putQuarter_35 : decode cX6_putQuarter 35 = .ok (.istore_n 2, 1) := by decide +kernel
theorem dX6_putQuarter_36 : decode cX6_putQuarter 36 = .ok (.aload_n 0, 1) := by decide +kernel
theorem dX6_putQuarter_37 : decode cX6_putQuarter 37 = .ok (.getfield 7, 3) := by decide +kernel
theorem dX6_putQuarter_40 : decode cX6_putQuarter 40 = .ok (.iconst 1, 1) := by decide +kernel
theorem dX6_putQuarter_41 : decode cX6_putQuarter 41 = .ok (.iload_n 2, 1) := by decide +kernel
theorem dX6_putQuarter_42 : decode cX6_putQuarter 42 = .ok (.iadd, 1) := by decide +kernel
theorem dX6_putQuarter_43 : decode cX6_putQuarter 43 = .ok (.iload_n 1, 1) := by decide +kernel
theorem dX6_putQuarter_44 : decode cX6_putQuarter 44 = .ok (.iastore, 1) := by decide +kernel
theorem dX6_putQuarter_45 : decode cX6_putQuarter 45 = .ok (.aload_n 0, 1) := by decide +kernel
theorem dX6_putQuarter_46 : decode cX6_putQuarter 46 = .ok (.getfield 7, 3) := by decide +kernel
theorem dX6_putQuarter_49 : decode cX6_putQuarter 49 = .ok (.iconst 0, 1) := by decide +kernel
theorem dX6_putQuarter_50 : decode cX6_putQuarter 50 = .ok (.dup2, 1) := by decide +kernel
theorem dX6_putQuarter_51 : decode cX6_putQuarter 51 = .ok (.iaload, 1) := by decide +kernel
theorem dX6_putQuarter_52 : decode cX6_putQuarter 52 = .ok (.iconst 1, 1) := by decide +kernel
theorem dX6_putQuarter_53 : decode cX6_putQuarter 53 = .ok (.iadd, 1) := by decide +kernel
theorem dX6_putQuarter_54 : decode cX6_putQuarter 54 = .ok (.iastore, 1) := by decide +kernel
theorem dX6_putQuarter_55 : decode cX6_putQuarter 55 = .ok (.iload_n 2, 1) := by decide +kernel
theorem dX6_putQuarter_56 : decode cX6_putQuarter 56 = .ok (.ireturn, 1) := by decide +kernel
theorem dX6_putIndicator_0 : decode cX6_putIndicator 0 = .ok (.aload_n 0, 1) := by decide +kernel
theorem dX6_putIndicator_1 : decode cX6_putIndicator 1 = .ok (.iload_n 1, 1) := by decide +kernel
theorem dX6_putIndicator_2 : decode cX6_putIndicator 2 = .ok (.invokevirtual 70, 3) := by decide +kernel
theorem dX6_putIndicator_5 : decode cX6_putIndicator 5 = .ok (.ifCond .eq 15, 3) := by decide +kernel
theorem dX6_putIndicator_8 : decode cX6_putIndicator 8 = .ok (.iload_n 2, 1) := by decide +kernel
theorem dX6_putIndicator_9 : decode cX6_putIndicator 9 = .ok (.i2l, 1) := by decide +kernel
theorem dX6_putIndicator_10 : decode cX6_putIndicator 10 = .ok (.lconst 1, 1) := by decide +kernel
theorem dX6_putIndicator_11 : decode cX6_putIndicator 11 = .ok (.ldc2_w 68, 3) := by decide +kernel
theorem dX6_putIndicator_14 : decode cX6_putIndicator 14 = .ok (.invokestatic 62, 3) := by decide +kernel
theorem dX6_putIndicator_17 : decode cX6_putIndicator 17 = .ok (.ifCond .ne 6, 3) := by decide +kernel
theorem dX6_putIndicator_20 : decode cX6_putIndicator 20 = .ok (.bipush (-2), 2) := by decide +kernel
theorem dX6_putIndicator_22 : decode cX6_putIndicator 22 = .ok (.ireturn, 1) := by decide +kernel
theorem dX6_putIndicator_23 : decode cX6_putIndicator 23 = .ok (.aload_n 0, 1) := by decide +kernel
theorem dX6_putIndicator_24 : decode cX6_putIndicator 24 = .ok (.getfield 7, 3) := by decide +kernel
theorem dX6_putIndicator_27 : decode cX6_putIndicator 27 = .ok (.iconst 1, 1) := by decide +kernel
theorem dX6_putIndicator_28 : decode cX6_putIndicator 28 = .ok (.iload_n 1, 1) := by decide +kernel
theorem dX6_putIndicator_29 : decode cX6_putIndicator 29 = .ok (.iadd, 1) := by decide +kernel
theorem dX6_putIndicator_30 : decode cX6_putIndicator 30 = .ok (.iaload, 1) := by decide +kernel
theorem dX6_putIndicator_31 : decode cX6_putIndicator 31 = .ok (.istore_n 3, 1) := by decide +kernel
theorem dX6_putIndicator_32 : decode cX6_putIndicator 32 = .ok (.aload_n 0, 1) := by decide +kernel
theorem dX6_putIndicator_33 : decode cX6_putIndicator 33 = .ok (.getfield 7, 3) := by decide +kernel
theorem dX6_putIndicator_36 : decode cX6_putIndicator 36 = .ok (.iconst 1, 1) := by decide +kernel
theorem dX6_putIndicator_37 : decode cX6_putIndicator 37 = .ok (.iload_n 1, 1) := by decide +kernel
theorem dX6_putIndicator_38 : decode cX6_putIndicator 38 = .ok (.iadd, 1) := by decide +kernel
theorem dX6_putIndicator_39 : decode cX6_putIndicator 39 = .ok (.iload_n 2, 1) := by decide +kernel
theorem dX6_putIndicator_40 : decode cX6_putIndicator 40 = .ok (.iastore, 1) := by decide +kernel
theorem dX6_putIndicator_41 : decode cX6_putIndicator 41 = .ok (.iload_n 3, 1) := by decide +kernel
theorem dX6_putIndicator_42 : decode cX6_putIndicator 42 = .ok (.ireturn, 1) := by decide +kernel
theorem dX6_putTotal_0 : decode cX6_putTotal 0 = .ok (.iload_n 1, 1) := by decide +kernel
theorem dX6_putTotal_1 : decode cX6_putTotal 1 = .ok (.invokestatic 74, 3) := by decide +kernel
theorem dX6_putTotal_4 : decode cX6_putTotal 4 = .ok (.ifCond .eq 15, 3) := by decide +kernel
theorem dX6_putTotal_7 : decode cX6_putTotal 7 = .ok (.iload_n 2, 1) := by decide +kernel
theorem dX6_putTotal_8 : decode cX6_putTotal 8 = .ok (.i2l, 1) := by decide +kernel
theorem dX6_putTotal_9 : decode cX6_putTotal 9 = .ok (.lconst 0, 1) := by decide +kernel
theorem dX6_putTotal_10 : decode cX6_putTotal 10 = .ok (.ldc2_w 77, 3) := by decide +kernel
theorem dX6_putTotal_13 : decode cX6_putTotal 13 = .ok (.invokestatic 62, 3) := by decide +kernel
theorem dX6_putTotal_16 : decode cX6_putTotal 16 = .ok (.ifCond .ne 6, 3) := by decide +kernel
theorem dX6_putTotal_19 : decode cX6_putTotal 19 = .ok (.bipush (-2), 2) := by decide +kernel
theorem dX6_putTotal_21 : decode cX6_putTotal 21 = .ok (.ireturn, 1) := by decide +kernel
theorem dX6_putTotal_22 : decode cX6_putTotal 22 = .ok (.aload_n 0, 1) := by decide +kernel
theorem dX6_putTotal_23 : decode cX6_putTotal 23 = .ok (.getfield 7, 3) := by decide +kernel
theorem dX6_putTotal_26 : decode cX6_putTotal 26 = .ok (.iconst 0, 1) := by decide +kernel
theorem dX6_putTotal_27 : decode cX6_putTotal 27 = .ok (.iaload, 1) := by decide +kernel
theorem dX6_putTotal_28 : decode cX6_putTotal 28 = .ok (.iconst 4, 1) := by decide +kernel
theorem dX6_putTotal_29 : decode cX6_putTotal 29 = .ok (.iload_n 1, 1) := by decide +kernel
theorem dX6_putTotal_30 : decode cX6_putTotal 30 = .ok (.imul, 1) := by decide +kernel
theorem dX6_putTotal_31 : decode cX6_putTotal 31 = .ok (.iconst 4, 1) := by decide +kernel
theorem dX6_putTotal_32 : decode cX6_putTotal 32 = .ok (.iadd, 1) := by decide +kernel
theorem dX6_putTotal_33 : decode cX6_putTotal 33 = .ok (.if_icmp .ge 6, 3) := by decide +kernel
theorem dX6_putTotal_36 : decode cX6_putTotal 36 = .ok (.bipush (-3), 2) := by decide +kernel
theorem dX6_putTotal_38 : decode cX6_putTotal 38 = .ok (.ireturn, 1) := by decide +kernel
theorem dX6_putTotal_39 : decode cX6_putTotal 39 = .ok (.aload_n 0, 1) := by decide +kernel
theorem dX6_putTotal_40 : decode cX6_putTotal 40 = .ok (.getfield 7, 3) := by decide +kernel
theorem dX6_putTotal_43 : decode cX6_putTotal 43 = .ok (.bipush 13, 2) := by decide +kernel
theorem dX6_putTotal_45 : decode cX6_putTotal 45 = .ok (.iload_n 1, 1) := by decide +kernel
theorem dX6_putTotal_46 : decode cX6_putTotal 46 = .ok (.iadd, 1) := by decide +kernel
theorem dX6_putTotal_47 : decode cX6_putTotal 47 = .ok (.iaload, 1) := by decide +kernel
theorem dX6_putTotal_48 : decode cX6_putTotal 48 = .ok (.istore_n 3, 1) := by decide +kernel
theorem dX6_putTotal_49 : decode cX6_putTotal 49 = .ok (.aload_n 0, 1) := by decide +kernel
theorem dX6_putTotal_50 : decode cX6_putTotal 50 = .ok (.getfield 7, 3) := by decide +kernel
theorem dX6_putTotal_53 : decode cX6_putTotal 53 = .ok (.bipush 13, 2) := by decide +kernel
theorem dX6_putTotal_55 : decode cX6_putTotal 55 = .ok (.iload_n 1, 1) := by decide +kernel
theorem dX6_putTotal_56 : decode cX6_putTotal 56 = .ok (.iadd, 1) := by decide +kernel
theorem dX6_putTotal_57 : decode cX6_putTotal 57 = .ok (.iload_n 2, 1) := by decide +kernel
theorem dX6_putTotal_58 : decode cX6_putTotal 58 = .ok (.iastore, 1) := by decide +kernel
theorem dX6_putTotal_59 : decode cX6_putTotal 59 = .ok (.iload_n 3, 1) := by decide +kernel
theorem dX6_putTotal_60 : decode cX6_putTotal 60 = .ok (.ireturn, 1) := by decide +kernel
theorem dX6_dropTotal_0 : decode cX6_dropTotal 0 = .ok (.iload_n 1, 1) := by decide +kernel
theorem dX6_dropTotal_1 : decode cX6_dropTotal 1 = .ok (.invokestatic 74, 3) := by decide +kernel
theorem dX6_dropTotal_4 : decode cX6_dropTotal 4 = .ok (.ifCond .ne 6, 3) := by decide +kernel
theorem dX6_dropTotal_7 : decode cX6_dropTotal 7 = .ok (.bipush (-2), 2) := by decide +kernel
theorem dX6_dropTotal_9 : decode cX6_dropTotal 9 = .ok (.ireturn, 1) := by decide +kernel
theorem dX6_dropTotal_10 : decode cX6_dropTotal 10 = .ok (.aload_n 0, 1) := by decide +kernel
theorem dX6_dropTotal_11 : decode cX6_dropTotal 11 = .ok (.getfield 7, 3) := by decide +kernel
theorem dX6_dropTotal_14 : decode cX6_dropTotal 14 = .ok (.bipush 13, 2) := by decide +kernel
theorem dX6_dropTotal_16 : decode cX6_dropTotal 16 = .ok (.iload_n 1, 1) := by decide +kernel
theorem dX6_dropTotal_17 : decode cX6_dropTotal 17 = .ok (.iadd, 1) := by decide +kernel
theorem dX6_dropTotal_18 : decode cX6_dropTotal 18 = .ok (.iaload, 1) := by decide +kernel
theorem dX6_dropTotal_19 : decode cX6_dropTotal 19 = .ok (.istore_n 2, 1) := by decide +kernel
theorem dX6_dropTotal_20 : decode cX6_dropTotal 20 = .ok (.aload_n 0, 1) := by decide +kernel
theorem dX6_dropTotal_21 : decode cX6_dropTotal 21 = .ok (.getfield 7, 3) := by decide +kernel
theorem dX6_dropTotal_24 : decode cX6_dropTotal 24 = .ok (.bipush 13, 2) := by decide +kernel
theorem dX6_dropTotal_26 : decode cX6_dropTotal 26 = .ok (.iload_n 1, 1) := by decide +kernel
theorem dX6_dropTotal_27 : decode cX6_dropTotal 27 = .ok (.iadd, 1) := by decide +kernel
theorem dX6_dropTotal_28 : decode cX6_dropTotal 28 = .ok (.iconst (-1), 1) := by decide +kernel
theorem dX6_dropTotal_29 : decode cX6_dropTotal 29 = .ok (.iastore, 1) := by decide +kernel
theorem dX6_dropTotal_30 : decode cX6_dropTotal 30 = .ok (.iload_n 2, 1) := by decide +kernel
theorem dX6_dropTotal_31 : decode cX6_dropTotal 31 = .ok (.iconst (-1), 1) := by decide +kernel
theorem dX6_dropTotal_32 : decode cX6_dropTotal 32 = .ok (.if_icmp .ne 8, 3) := by decide +kernel
theorem dX6_dropTotal_35 : decode cX6_dropTotal 35 = .ok (.bipush (-3), 2) := by decide +kernel
theorem dX6_dropTotal_37 : decode cX6_dropTotal 37 = .ok (.goto 4, 3) := by decide +kernel
theorem dX6_dropTotal_40 : decode cX6_dropTotal 40 = .ok (.iload_n 2, 1) := by decide +kernel
theorem dX6_dropTotal_41 : decode cX6_dropTotal 41 = .ok (.ireturn, 1) := by decide +kernel
theorem dX6_ones_0 : decode cX6_ones 0 = .ok (.iconst 0, 1) := by decide +kernel
theorem dX6_ones_1 : decode cX6_ones 1 = .ok (.istore_n 1, 1) := by decide +kernel
theorem dX6_ones_2 : decode cX6_ones 2 = .ok (.iconst 0, 1) := by decide +kernel
theorem dX6_ones_3 : decode cX6_ones 3 = .ok (.istore_n 2, 1) := by decide +kernel
theorem dX6_ones_4 : decode cX6_ones 4 = .ok (.iload_n 2, 1) := by decide +kernel
theorem dX6_ones_5 : decode cX6_ones 5 = .ok (.bipush 12, 2) := by decide +kernel
theorem dX6_ones_7 : decode cX6_ones 7 = .ok (.if_icmp .ge 17, 3) := by decide +kernel
theorem dX6_ones_10 : decode cX6_ones 10 = .ok (.iload_n 1, 1) := by decide +kernel
theorem dX6_ones_11 : decode cX6_ones 11 = .ok (.iload_n 0, 1) := by decide +kernel
theorem dX6_ones_12 : decode cX6_ones 12 = .ok (.iload_n 2, 1) := by decide +kernel
theorem dX6_ones_13 : decode cX6_ones 13 = .ok (.ishr, 1) := by decide +kernel
theorem dX6_ones_14 : decode cX6_ones 14 = .ok (.iconst 1, 1) := by decide +kernel
theorem dX6_ones_15 : decode cX6_ones 15 = .ok (.iand, 1) := by decide +kernel
theorem dX6_ones_16 : decode cX6_ones 16 = .ok (.iadd, 1) := by decide +kernel
theorem dX6_ones_17 : decode cX6_ones 17 = .ok (.istore_n 1, 1) := by decide +kernel
theorem dX6_ones_18 : decode cX6_ones 18 = .ok (.iinc 2 1, 3) := by decide +kernel
theorem dX6_ones_21 : decode cX6_ones 21 = .ok (.goto (-17), 3) := by decide +kernel
theorem dX6_ones_24 : decode cX6_ones 24 = .ok (.iload_n 1, 1) := by decide +kernel
theorem dX6_ones_25 : decode cX6_ones 25 = .ok (.ireturn, 1) := by decide +kernel
theorem dX6_putFrozen_0 : decode cX6_putFrozen 0 = .ok (.aload_n 0, 1) := by decide +kernel
theorem dX6_putFrozen_1 : decode cX6_putFrozen 1 = .ok (.iload_n 1, 1) := by decide +kernel
theorem dX6_putFrozen_2 : decode cX6_putFrozen 2 = .ok (.invokevirtual 70, 3) := by decide +kernel
theorem dX6_putFrozen_5 : decode cX6_putFrozen 5 = .ok (.ifCond .eq 13, 3) := by decide +kernel
theorem dX6_putFrozen_8 : decode cX6_putFrozen 8 = .ok (.iload_n 2, 1) := by decide +kernel
theorem dX6_putFrozen_9 : decode cX6_putFrozen 9 = .ok (.i2l, 1) := by decide +kernel
theorem dX6_putFrozen_10 : decode cX6_putFrozen 10 = .ok (.lconst 0, 1) := by decide +kernel
theorem dX6_putFrozen_11 : decode cX6_putFrozen 11 = .ok (.lconst 1, 1) := by decide +kernel
theorem dX6_putFrozen_12 : decode cX6_putFrozen 12 = .ok (.invokestatic 62, 3) := by decide +kernel
theorem dX6_putFrozen_15 : decode cX6_putFrozen 15 = .ok (.ifCond .ne 6, 3) := by decide +kernel
theorem dX6_putFrozen_18 : decode cX6_putFrozen 18 = .ok (.bipush (-2), 2) := by decide +kernel
theorem dX6_putFrozen_20 : decode cX6_putFrozen 20 = .ok (.ireturn, 1) := by decide +kernel
theorem dX6_putFrozen_21 : decode cX6_putFrozen 21 = .ok (.aload_n 0, 1) := by decide +kernel
theorem dX6_putFrozen_22 : decode cX6_putFrozen 22 = .ok (.getfield 7, 3) := by decide +kernel
theorem dX6_putFrozen_25 : decode cX6_putFrozen 25 = .ok (.bipush 16, 2) := by decide +kernel
theorem dX6_putFrozen_27 : decode cX6_putFrozen 27 = .ok (.iload_n 1, 1) := by decide +kernel
theorem dX6_putFrozen_28 : decode cX6_putFrozen 28 = .ok (.iadd, 1) := by decide +kernel
theorem dX6_putFrozen_29 : decode cX6_putFrozen 29 = .ok (.iaload, 1) := by decide +kernel
theorem dX6_putFrozen_30 : decode cX6_putFrozen 30 = .ok (.iconst (-1), 1) := by decide +kernel
theorem dX6_putFrozen_31 : decode cX6_putFrozen 31 = .ok (.if_icmp .ne 6, 3) := by decide +kernel
theorem dX6_putFrozen_34 : decode cX6_putFrozen 34 = .ok (.bipush (-3), 2) := by decide +kernel
theorem dX6_putFrozen_36 : decode cX6_putFrozen 36 = .ok (.ireturn, 1) := by decide +kernel
theorem dX6_putFrozen_37 : decode cX6_putFrozen 37 = .ok (.aload_n 0, 1) := by decide +kernel
theorem dX6_putFrozen_38 : decode cX6_putFrozen 38 = .ok (.getfield 7, 3) := by decide +kernel
theorem dX6_putFrozen_41 : decode cX6_putFrozen 41 = .ok (.bipush 28, 2) := by decide +kernel
theorem dX6_putFrozen_43 : decode cX6_putFrozen 43 = .ok (.iload_n 2, 1) := by decide +kernel
theorem dX6_putFrozen_44 : decode cX6_putFrozen 44 = .ok (.iconst 1, 1) := by decide +kernel
theorem dX6_putFrozen_45 : decode cX6_putFrozen 45 = .ok (.if_icmp .ne 17, 3) := by decide +kernel
theorem dX6_putFrozen_48 : decode cX6_putFrozen 48 = .ok (.aload_n 0, 1) := by decide +kernel
theorem dX6_putFrozen_49 : decode cX6_putFrozen 49 = .ok (.getfield 7, 3) := by decide +kernel
theorem dX6_putFrozen_52 : decode cX6_putFrozen 52 = .ok (.bipush 28, 2) := by decide +kernel
theorem dX6_putFrozen_54 : decode cX6_putFrozen 54 = .ok (.iaload, 1) := by decide +kernel
theorem dX6_putFrozen_55 : decode cX6_putFrozen 55 = .ok (.iconst 1, 1) := by decide +kernel
theorem dX6_putFrozen_56 : decode cX6_putFrozen 56 = .ok (.iload_n 1, 1) := by decide +kernel
theorem dX6_putFrozen_57 : decode cX6_putFrozen 57 = .ok (.ishl, 1) := by decide +kernel
theorem dX6_putFrozen_58 : decode cX6_putFrozen 58 = .ok (.ior, 1) := by decide +kernel
theorem dX6_putFrozen_59 : decode cX6_putFrozen 59 = .ok (.goto 16, 3) := by decide +kernel
theorem dX6_putFrozen_62 : decode cX6_putFrozen 62 = .ok (.aload_n 0, 1) := by decide +kernel
theorem dX6_putFrozen_63 : decode cX6_putFrozen 63 = .ok (.getfield 7, 3) := by decide +kernel
theorem dX6_putFrozen_66 : decode cX6_putFrozen 66 = .ok (.bipush 28, 2) := by decide +kernel
theorem dX6_putFrozen_68 : decode cX6_putFrozen 68 = .ok (.iaload, 1) := by decide +kernel
theorem dX6_putFrozen_69 : decode cX6_putFrozen 69 = .ok (.iconst 1, 1) := by decide +kernel
theorem dX6_putFrozen_70 : decode cX6_putFrozen 70 = .ok (.iload_n 1, 1) := by decide +kernel
theorem dX6_putFrozen_71 : decode cX6_putFrozen 71 = .ok (.ishl, 1) := by decide +kernel
theorem dX6_putFrozen_72 : decode cX6_putFrozen 72 = .ok (.iconst (-1), 1) := by decide +kernel
theorem dX6_putFrozen_73 : decode cX6_putFrozen 73 = .ok (.ixor, 1) := by decide +kernel
theorem dX6_putFrozen_74 : decode cX6_putFrozen 74 = .ok (.iand, 1) := by decide +kernel
theorem dX6_putFrozen_75 : decode cX6_putFrozen 75 = .ok (.iastore, 1) := by decide +kernel
theorem dX6_putFrozen_76 : decode cX6_putFrozen 76 = .ok (.aload_n 0, 1) := by decide +kernel
theorem dX6_putFrozen_77 : decode cX6_putFrozen 77 = .ok (.getfield 7, 3) := by decide +kernel
theorem dX6_putFrozen_80 : decode cX6_putFrozen 80 = .ok (.bipush 28, 2) := by decide +kernel
theorem dX6_putFrozen_82 : decode cX6_putFrozen 82 = .ok (.iaload, 1) := by decide +kernel
theorem dX6_putFrozen_83 : decode cX6_putFrozen 83 = .ok (.invokestatic 79, 3) := by decide +kernel
theorem dX6_putFrozen_86 : decode cX6_putFrozen 86 = .ok (.ireturn, 1) := by decide +kernel
theorem dX6_putLimit_0 : decode cX6_putLimit 0 = .ok (.iload_n 1, 1) := by decide +kernel
theorem dX6_putLimit_1 : decode cX6_putLimit 1 = .ok (.i2l, 1) := by decide +kernel
theorem dX6_putLimit_2 : decode cX6_putLimit 2 = .ok (.ldc2_w 82, 3) := by decide +kernel
theorem dX6_putLimit_5 : decode cX6_putLimit 5 = .ok (.ldc2_w 84, 3) := by decide +kernel
theorem dX6_putLimit_8 : decode cX6_putLimit 8 = .ok (.invokestatic 62, 3) := by decide +kernel
theorem dX6_putLimit_11 : decode cX6_putLimit 11 = .ok (.ifCond .ne 6, 3) := by decide +kernel
theorem dX6_putLimit_14 : decode cX6_putLimit 14 = .ok (.bipush (-2), 2) := by decide +kernel
theorem dX6_putLimit_16 : decode cX6_putLimit 16 = .ok (.ireturn, 1) := by decide +kernel
theorem dX6_putLimit_17 : decode cX6_putLimit 17 = .ok (.aload_n 0, 1) := by decide +kernel
theorem dX6_putLimit_18 : decode cX6_putLimit 18 = .ok (.getfield 7, 3) := by decide +kernel
theorem dX6_putLimit_21 : decode cX6_putLimit 21 = .ok (.bipush 29, 2) := by decide +kernel
theorem dX6_putLimit_23 : decode cX6_putLimit 23 = .ok (.iaload, 1) := by decide +kernel
theorem dX6_putLimit_24 : decode cX6_putLimit 24 = .ok (.istore_n 2, 1) := by decide +kernel
theorem dX6_putLimit_25 : decode cX6_putLimit 25 = .ok (.aload_n 0, 1) := by decide +kernel
theorem dX6_putLimit_26 : decode cX6_putLimit 26 = .ok (.getfield 7, 3) := by decide +kernel
theorem dX6_putLimit_29 : decode cX6_putLimit 29 = .ok (.bipush 29, 2) := by decide +kernel
theorem dX6_putLimit_31 : decode cX6_putLimit 31 = .ok (.iload_n 1, 1) := by decide +kernel
theorem dX6_putLimit_32 : decode cX6_putLimit 32 = .ok (.iastore, 1) := by decide +kernel
theorem dX6_putLimit_33 : decode cX6_putLimit 33 = .ok (.iload_n 2, 1) := by decide +kernel
theorem dX6_putLimit_34 : decode cX6_putLimit 34 = .ok (.ireturn, 1) := by decide +kernel
theorem dX6_putForm_0 : decode cX6_putForm 0 = .ok (.iload_n 1, 1) := by decide +kernel
theorem dX6_putForm_1 : decode cX6_putForm 1 = .ok (.i2l, 1) := by decide +kernel
theorem dX6_putForm_2 : decode cX6_putForm 2 = .ok (.lconst 0, 1) := by decide +kernel
theorem dX6_putForm_3 : decode cX6_putForm 3 = .ok (.lconst 1, 1) := by decide +kernel
theorem dX6_putForm_4 : decode cX6_putForm 4 = .ok (.invokestatic 62, 3) := by decide +kernel
theorem dX6_putForm_7 : decode cX6_putForm 7 = .ok (.ifCond .ne 6, 3) := by decide +kernel
theorem dX6_putForm_10 : decode cX6_putForm 10 = .ok (.bipush (-2), 2) := by decide +kernel
theorem dX6_putForm_12 : decode cX6_putForm 12 = .ok (.ireturn, 1) := by decide +kernel
theorem dX6_putForm_13 : decode cX6_putForm 13 = .ok (.aload_n 0, 1) := by decide +kernel
theorem dX6_putForm_14 : decode cX6_putForm 14 = .ok (.getfield 7, 3) := by decide +kernel
theorem dX6_putForm_17 : decode cX6_putForm 17 = .ok (.bipush 30, 2) := by decide +kernel
theorem dX6_putForm_19 : decode cX6_putForm 19 = .ok (.iaload, 1) := by decide +kernel
theorem dX6_putForm_20 : decode cX6_putForm 20 = .ok (.istore_n 2, 1) := by decide +kernel
theorem dX6_putForm_21 : decode cX6_putForm 21 = .ok (.aload_n 0, 1) := by decide +kernel
theorem dX6_putForm_22 : decode cX6_putForm 22 = .ok (.getfield 7, 3) := by decide +kernel
theorem dX6_putForm_25 : decode cX6_putForm 25 = .ok (.bipush 30, 2) := by decide +kernel
theorem dX6_putForm_27 : decode cX6_putForm 27 = .ok (.iload_n 1, 1) := by decide +kernel
theorem dX6_putForm_28 : decode cX6_putForm 28 = .ok (.iastore, 1) := by decide +kernel
theorem dX6_putForm_29 : decode cX6_putForm 29 = .ok (.iload_n 2, 1) := by decide +kernel
theorem dX6_putForm_30 : decode cX6_putForm 30 = .ok (.ireturn, 1) := by decide +kernel
theorem dX6_publishAll_0 : decode cX6_publishAll 0 = .ok (.aload_n 0, 1) := by decide +kernel
theorem dX6_publishAll_1 : decode cX6_publishAll 1 = .ok (.invokevirtual 86, 3) := by decide +kernel
theorem dX6_publishAll_4 : decode cX6_publishAll 4 = .ok (.ifCond .ne 6, 3) := by decide +kernel
theorem dX6_publishAll_7 : decode cX6_publishAll 7 = .ok (.bipush (-3), 2) := by decide +kernel
theorem dX6_publishAll_9 : decode cX6_publishAll 9 = .ok (.ireturn, 1) := by decide +kernel
theorem dX6_publishAll_10 : decode cX6_publishAll 10 = .ok (.iconst 0, 1) := by decide +kernel
theorem dX6_publishAll_11 : decode cX6_publishAll 11 = .ok (.istore_n 1, 1) := by decide +kernel
theorem dX6_publishAll_12 : decode cX6_publishAll 12 = .ok (.iload_n 1, 1) := by decide +kernel
theorem dX6_publishAll_13 : decode cX6_publishAll 13 = .ok (.aload_n 0, 1) := by decide +kernel
theorem dX6_publishAll_14 : decode cX6_publishAll 14 = .ok (.getfield 7, 3) := by decide +kernel
theorem dX6_publishAll_17 : decode cX6_publishAll 17 = .ok (.iconst 0, 1) := by decide +kernel
theorem dX6_publishAll_18 : decode cX6_publishAll 18 = .ok (.iaload, 1) := by decide +kernel
theorem dX6_publishAll_19 : decode cX6_publishAll 19 = .ok (.if_icmp .ge 27, 3) := by decide +kernel
theorem dX6_publishAll_22 : decode cX6_publishAll 22 = .ok (.aload_n 0, 1) := by decide +kernel
theorem dX6_publishAll_23 : decode cX6_publishAll 23 = .ok (.getfield 7, 3) := by decide +kernel
theorem dX6_publishAll_26 : decode cX6_publishAll 26 = .ok (.bipush 16, 2) := by decide +kernel
theorem dX6_publishAll_28 : decode cX6_publishAll 28 = .ok (.iload_n 1, 1) := by decide +kernel
theorem dX6_publishAll_29 : decode cX6_publishAll 29 = .ok (.iadd, 1) := by decide +kernel
theorem dX6_publishAll_30 : decode cX6_publishAll 30 = .ok (.aload_n 0, 1) := by decide +kernel
theorem dX6_publishAll_31 : decode cX6_publishAll 31 = .ok (.getfield 41, 3) := by decide +kernel
theorem dX6_publishAll_34 : decode cX6_publishAll 34 = .ok (.iload_n 1, 1) := by decide +kernel
theorem dX6_publishAll_35 : decode cX6_publishAll 35 = .ok (.iaload, 1) := by decide +kernel
theorem dX6_publishAll_36 : decode cX6_publishAll 36 = .ok (.bipush 8, 2) := by decide +kernel
theorem dX6_publishAll_38 : decode cX6_publishAll 38 = .ok (.iadd, 1) := by decide +kernel
theorem dX6_publishAll_39 : decode cX6_publishAll 39 = .ok (.iastore, 1) := by decide +kernel
theorem dX6_publishAll_40 : decode cX6_publishAll 40 = .ok (.iinc 1 1, 3) := by decide +kernel
theorem dX6_publishAll_43 : decode cX6_publishAll 43 = .ok (.goto (-31), 3) := by decide +kernel
theorem dX6_publishAll_46 : decode cX6_publishAll 46 = .ok (.aload_n 0, 1) := by decide +kernel
theorem dX6_publishAll_47 : decode cX6_publishAll 47 = .ok (.getfield 7, 3) := by decide +kernel
theorem dX6_publishAll_50 : decode cX6_publishAll 50 = .ok (.iconst 0, 1) := by decide +kernel
theorem dX6_publishAll_51 : decode cX6_publishAll 51 = .ok (.iaload, 1) := by decide +kernel
theorem dX6_publishAll_52 : decode cX6_publishAll 52 = .ok (.ireturn, 1) := by decide +kernel
theorem dX6_publishedMany_0 : decode cX6_publishedMany 0 = .ok (.iconst 0, 1) := by decide +kernel
theorem dX6_publishedMany_1 : decode cX6_publishedMany 1 = .ok (.istore_n 1, 1) := by decide +kernel
theorem dX6_publishedMany_2 : decode cX6_publishedMany 2 = .ok (.iconst 0, 1) := by decide +kernel
theorem dX6_publishedMany_3 : decode cX6_publishedMany 3 = .ok (.istore_n 2, 1) := by decide +kernel
theorem dX6_publishedMany_4 : decode cX6_publishedMany 4 = .ok (.iload_n 2, 1) := by decide +kernel
theorem dX6_publishedMany_5 : decode cX6_publishedMany 5 = .ok (.aload_n 0, 1) := by decide +kernel
theorem dX6_publishedMany_6 : decode cX6_publishedMany 6 = .ok (.getfield 7, 3) := by decide +kernel
theorem dX6_publishedMany_9 : decode cX6_publishedMany 9 = .ok (.iconst 0, 1) := by decide +kernel
theorem dX6_publishedMany_10 : decode cX6_publishedMany 10 = .ok (.iaload, 1) := by decide +kernel
theorem dX6_publishedMany_11 : decode cX6_publishedMany 11 = .ok (.if_icmp .ge 30, 3) := by decide +kernel
theorem dX6_publishedMany_14 : decode cX6_publishedMany 14 = .ok (.iload_n 1, 1) := by decide +kernel
theorem dX6_publishedMany_15 : decode cX6_publishedMany 15 = .ok (.aload_n 0, 1) := by decide +kernel
theorem dX6_publishedMany_16 : decode cX6_publishedMany 16 = .ok (.getfield 7, 3) := by decide +kernel
theorem dX6_publishedMany_19 : decode cX6_publishedMany 19 = .ok (.bipush 16, 2) := by decide +kernel
theorem dX6_publishedMany_21 : decode cX6_publishedMany 21 = .ok (.iload_n 2, 1) := by decide +kernel
theorem dX6_publishedMany_22 : decode cX6_publishedMany 22 = .ok (.iadd, 1) := by decide +kernel
theorem dX6_publishedMany_23 : decode cX6_publishedMany 23 = .ok (.iaload, 1) := by decide +kernel
theorem dX6_publishedMany_24 : decode cX6_publishedMany 24 = .ok (.iconst (-1), 1) := by decide +kernel
theorem dX6_publishedMany_25 : decode cX6_publishedMany 25 = .ok (.if_icmp .ne 7, 3) := by decide +kernel
theorem dX6_publishedMany_28 : decode cX6_publishedMany 28 = .ok (.iconst 0, 1) := by decide +kernel
theorem dX6_publishedMany_29 : decode cX6_publishedMany 29 = .ok (.goto 4, 3) := by decide +kernel
theorem dX6_publishedMany_32 : decode cX6_publishedMany 32 = .ok (.iconst 1, 1) := by decide +kernel
theorem dX6_publishedMany_33 : decode cX6_publishedMany 33 = .ok (.iadd, 1) := by decide +kernel
theorem dX6_publishedMany_34 : decode cX6_publishedMany 34 = .ok (.istore_n 1, 1) := by decide +kernel
theorem dX6_publishedMany_35 : decode cX6_publishedMany 35 = .ok (.iinc 2 1, 3) := by decide +kernel
theorem dX6_publishedMany_38 : decode cX6_publishedMany 38 = .ok (.goto (-34), 3) := by decide +kernel
theorem dX6_publishedMany_41 : decode cX6_publishedMany 41 = .ok (.iload_n 1, 1) := by decide +kernel
theorem dX6_publishedMany_42 : decode cX6_publishedMany 42 = .ok (.ireturn, 1) := by decide +kernel
theorem dX6_quarter_0 : decode cX6_quarter 0 = .ok (.aload_n 0, 1) := by decide +kernel
theorem dX6_quarter_1 : decode cX6_quarter 1 = .ok (.invokevirtual 90, 3) := by decide +kernel
theorem dX6_quarter_4 : decode cX6_quarter 4 = .ok (.aload_n 0, 1) := by decide +kernel
theorem dX6_quarter_5 : decode cX6_quarter 5 = .ok (.aload_n 0, 1) := by decide +kernel
theorem dX6_quarter_6 : decode cX6_quarter 6 = .ok (.iload_n 1, 1) := by decide +kernel
theorem dX6_quarter_7 : decode cX6_quarter 7 = .ok (.invokevirtual 93, 3) := by decide +kernel
theorem dX6_quarter_10 : decode cX6_quarter 10 = .ok (.invokevirtual 96, 3) := by decide +kernel
theorem dX6_quarter_13 : decode cX6_quarter 13 = .ok (.ireturn, 1) := by decide +kernel
theorem dX6_indicates_0 : decode cX6_indicates 0 = .ok (.aload_n 0, 1) := by decide +kernel
theorem dX6_indicates_1 : decode cX6_indicates 1 = .ok (.invokevirtual 90, 3) := by decide +kernel
theorem dX6_indicates_4 : decode cX6_indicates 4 = .ok (.aload_n 0, 1) := by decide +kernel
theorem dX6_indicates_5 : decode cX6_indicates 5 = .ok (.aload_n 0, 1) := by decide +kernel
theorem dX6_indicates_6 : decode cX6_indicates 6 = .ok (.iload_n 1, 1) := by decide +kernel
theorem dX6_indicates_7 : decode cX6_indicates 7 = .ok (.iload_n 2, 1) := by decide +kernel
theorem dX6_indicates_8 : decode cX6_indicates 8 = .ok (.invokevirtual 99, 3) := by decide +kernel
theorem dX6_indicates_11 : decode cX6_indicates 11 = .ok (.invokevirtual 96, 3) := by decide +kernel
theorem dX6_indicates_14 : decode cX6_indicates 14 = .ok (.ireturn, 1) := by decide +kernel
theorem dX6_total_0 : decode cX6_total 0 = .ok (.aload_n 0, 1) := by decide +kernel
theorem dX6_total_1 : decode cX6_total 1 = .ok (.invokevirtual 90, 3) := by decide +kernel
theorem dX6_total_4 : decode cX6_total 4 = .ok (.aload_n 0, 1) := by decide +kernel
theorem dX6_total_5 : decode cX6_total 5 = .ok (.aload_n 0, 1) := by decide +kernel
theorem dX6_total_6 : decode cX6_total 6 = .ok (.iload_n 1, 1) := by decide +kernel
theorem dX6_total_7 : decode cX6_total 7 = .ok (.iload_n 2, 1) := by decide +kernel
theorem dX6_total_8 : decode cX6_total 8 = .ok (.invokevirtual 103, 3) := by decide +kernel
theorem dX6_total_11 : decode cX6_total 11 = .ok (.invokevirtual 96, 3) := by decide +kernel
theorem dX6_total_14 : decode cX6_total 14 = .ok (.ireturn, 1) := by decide +kernel
theorem dX6_untold_0 : decode cX6_untold 0 = .ok (.aload_n 0, 1) := by decide +kernel
theorem dX6_untold_1 : decode cX6_untold 1 = .ok (.invokevirtual 90, 3) := by decide +kernel
theorem dX6_untold_4 : decode cX6_untold 4 = .ok (.aload_n 0, 1) := by decide +kernel
theorem dX6_untold_5 : decode cX6_untold 5 = .ok (.aload_n 0, 1) := by decide +kernel
theorem dX6_untold_6 : decode cX6_untold 6 = .ok (.iload_n 1, 1) := by decide +kernel
theorem dX6_untold_7 : decode cX6_untold 7 = .ok (.invokevirtual 106, 3) := by decide +kernel
theorem dX6_untold_10 : decode cX6_untold 10 = .ok (.invokevirtual 96, 3) := by decide +kernel
theorem dX6_untold_13 : decode cX6_untold 13 = .ok (.ireturn, 1) := by decide +kernel
theorem dX6_freezes_0 : decode cX6_freezes 0 = .ok (.aload_n 0, 1) := by decide +kernel
theorem dX6_freezes_1 : decode cX6_freezes 1 = .ok (.invokevirtual 90, 3) := by decide +kernel
theorem dX6_freezes_4 : decode cX6_freezes 4 = .ok (.aload_n 0, 1) := by decide +kernel
theorem dX6_freezes_5 : decode cX6_freezes 5 = .ok (.aload_n 0, 1) := by decide +kernel
theorem dX6_freezes_6 : decode cX6_freezes 6 = .ok (.iload_n 1, 1) := by decide +kernel
theorem dX6_freezes_7 : decode cX6_freezes 7 = .ok (.iload_n 2, 1) := by decide +kernel
theorem dX6_freezes_8 : decode cX6_freezes 8 = .ok (.invokevirtual 109, 3) := by decide +kernel
theorem dX6_freezes_11 : decode cX6_freezes 11 = .ok (.invokevirtual 96, 3) := by decide +kernel
theorem dX6_freezes_14 : decode cX6_freezes 14 = .ok (.ireturn, 1) := by decide +kernel
theorem dX6_limits_0 : decode cX6_limits 0 = .ok (.aload_n 0, 1) := by decide +kernel
theorem dX6_limits_1 : decode cX6_limits 1 = .ok (.invokevirtual 90, 3) := by decide +kernel
theorem dX6_limits_4 : decode cX6_limits 4 = .ok (.aload_n 0, 1) := by decide +kernel
theorem dX6_limits_5 : decode cX6_limits 5 = .ok (.aload_n 0, 1) := by decide +kernel
theorem dX6_limits_6 : decode cX6_limits 6 = .ok (.iload_n 1, 1) := by decide +kernel
theorem dX6_limits_7 : decode cX6_limits 7 = .ok (.invokevirtual 112, 3) := by decide +kernel
theorem dX6_limits_10 : decode cX6_limits 10 = .ok (.invokevirtual 96, 3) := by decide +kernel
theorem dX6_limits_13 : decode cX6_limits 13 = .ok (.ireturn, 1) := by decide +kernel
theorem dX6_form_0 : decode cX6_form 0 = .ok (.aload_n 0, 1) := by decide +kernel
theorem dX6_form_1 : decode cX6_form 1 = .ok (.invokevirtual 90, 3) := by decide +kernel
theorem dX6_form_4 : decode cX6_form 4 = .ok (.aload_n 0, 1) := by decide +kernel
theorem dX6_form_5 : decode cX6_form 5 = .ok (.aload_n 0, 1) := by decide +kernel
theorem dX6_form_6 : decode cX6_form 6 = .ok (.iload_n 1, 1) := by decide +kernel
theorem dX6_form_7 : decode cX6_form 7 = .ok (.invokevirtual 115, 3) := by decide +kernel
theorem dX6_form_10 : decode cX6_form 10 = .ok (.invokevirtual 96, 3) := by decide +kernel
theorem dX6_form_13 : decode cX6_form 13 = .ok (.ireturn, 1) := by decide +kernel
theorem dX6_publishes_0 : decode cX6_publishes 0 = .ok (.aload_n 0, 1) := by decide +kernel
theorem dX6_publishes_1 : decode cX6_publishes 1 = .ok (.invokevirtual 90, 3) := by decide +kernel
theorem dX6_publishes_4 : decode cX6_publishes 4 = .ok (.aload_n 0, 1) := by decide +kernel
theorem dX6_publishes_5 : decode cX6_publishes 5 = .ok (.aload_n 0, 1) := by decide +kernel
theorem dX6_publishes_6 : decode cX6_publishes 6 = .ok (.invokevirtual 118, 3) := by decide +kernel
theorem dX6_publishes_9 : decode cX6_publishes 9 = .ok (.invokevirtual 96, 3) := by decide +kernel
theorem dX6_publishes_12 : decode cX6_publishes 12 = .ok (.ireturn, 1) := by decide +kernel
theorem dX6_recalls_0 : decode cX6_recalls 0 = .ok (.aload_n 0, 1) := by decide +kernel
theorem dX6_recalls_1 : decode cX6_recalls 1 = .ok (.invokevirtual 90, 3) := by decide +kernel
theorem dX6_recalls_4 : decode cX6_recalls 4 = .ok (.aload_n 0, 1) := by decide +kernel
theorem dX6_recalls_5 : decode cX6_recalls 5 = .ok (.invokevirtual 122, 3) := by decide +kernel
theorem dX6_recalls_8 : decode cX6_recalls 8 = .ok (.istore_n 1, 1) := by decide +kernel
theorem dX6_recalls_9 : decode cX6_recalls 9 = .ok (.iconst 0, 1) := by decide +kernel
theorem dX6_recalls_10 : decode cX6_recalls 10 = .ok (.istore_n 2, 1) := by decide +kernel
theorem dX6_recalls_11 : decode cX6_recalls 11 = .ok (.iload_n 2, 1) := by decide +kernel
theorem dX6_recalls_12 : decode cX6_recalls 12 = .ok (.bipush 12, 2) := by decide +kernel
theorem dX6_recalls_14 : decode cX6_recalls 14 = .ok (.if_icmp .ge 19, 3) := by decide +kernel
theorem dX6_recalls_17 : decode cX6_recalls 17 = .ok (.aload_n 0, 1) := by decide +kernel
theorem dX6_recalls_18 : decode cX6_recalls 18 = .ok (.getfield 7, 3) := by decide +kernel
theorem dX6_recalls_21 : decode cX6_recalls 21 = .ok (.bipush 16, 2) := by decide +kernel
theorem dX6_recalls_23 : decode cX6_recalls 23 = .ok (.iload_n 2, 1) := by decide +kernel
theorem dX6_recalls_24 : decode cX6_recalls 24 = .ok (.iadd, 1) := by decide +kernel
theorem dX6_recalls_25 : decode cX6_recalls 25 = .ok (.iconst (-1), 1) := by decide +kernel
theorem dX6_recalls_26 : decode cX6_recalls 26 = .ok (.iastore, 1) := by decide +kernel
theorem dX6_recalls_27 : decode cX6_recalls 27 = .ok (.iinc 2 1, 3) := by decide +kernel
theorem dX6_recalls_30 : decode cX6_recalls 30 = .ok (.goto (-19), 3) := by decide +kernel
theorem dX6_recalls_33 : decode cX6_recalls 33 = .ok (.aload_n 0, 1) := by decide +kernel
theorem dX6_recalls_34 : decode cX6_recalls 34 = .ok (.getfield 7, 3) := by decide +kernel
theorem dX6_recalls_37 : decode cX6_recalls 37 = .ok (.bipush 28, 2) := by decide +kernel
theorem dX6_recalls_39 : decode cX6_recalls 39 = .ok (.iconst 0, 1) := by decide +kernel
theorem dX6_recalls_40 : decode cX6_recalls 40 = .ok (.iastore, 1) := by decide +kernel
theorem dX6_recalls_41 : decode cX6_recalls 41 = .ok (.aload_n 0, 1) := by decide +kernel
theorem dX6_recalls_42 : decode cX6_recalls 42 = .ok (.iload_n 1, 1) := by decide +kernel
theorem dX6_recalls_43 : decode cX6_recalls 43 = .ok (.invokevirtual 96, 3) := by decide +kernel
theorem dX6_recalls_46 : decode cX6_recalls 46 = .ok (.ireturn, 1) := by decide +kernel
theorem dX6_ofQuarter_0 : decode cX6_ofQuarter 0 = .ok (.iload_n 2, 1) := by decide +kernel
theorem dX6_ofQuarter_1 : decode cX6_ofQuarter 1 = .ok (.ifCond .ne 14, 3) := by decide +kernel
theorem dX6_ofQuarter_4 : decode cX6_ofQuarter 4 = .ok (.aload_n 0, 1) := by decide +kernel
theorem dX6_ofQuarter_5 : decode cX6_ofQuarter 5 = .ok (.getfield 7, 3) := by decide +kernel
theorem dX6_ofQuarter_8 : decode cX6_ofQuarter 8 = .ok (.iconst 1, 1) := by decide +kernel
theorem dX6_ofQuarter_9 : decode cX6_ofQuarter 9 = .ok (.iload_n 1, 1) := by decide +kernel
theorem dX6_ofQuarter_10 : decode cX6_ofQuarter 10 = .ok (.iadd, 1) := by decide +kernel
theorem dX6_ofQuarter_11 : decode cX6_ofQuarter 11 = .ok (.iaload, 1) := by decide +kernel
theorem dX6_ofQuarter_12 : decode cX6_ofQuarter 12 = .ok (.goto 42, 3) := by decide +kernel
theorem dX6_ofQuarter_15 : decode cX6_ofQuarter 15 = .ok (.iload_n 2, 1) := by decide +kernel
theorem dX6_ofQuarter_16 : decode cX6_ofQuarter 16 = .ok (.iconst 1, 1) := by decide +kernel
theorem dX6_ofQuarter_17 : decode cX6_ofQuarter 17 = .ok (.if_icmp .ne 15, 3) := by decide +kernel
theorem dX6_ofQuarter_20 : decode cX6_ofQuarter 20 = .ok (.aload_n 0, 1) := by decide +kernel
theorem dX6_ofQuarter_21 : decode cX6_ofQuarter 21 = .ok (.getfield 7, 3) := by decide +kernel
theorem dX6_ofQuarter_24 : decode cX6_ofQuarter 24 = .ok (.bipush 16, 2) := by decide +kernel
theorem dX6_ofQuarter_26 : decode cX6_ofQuarter 26 = .ok (.iload_n 1, 1) := by decide +kernel
theorem dX6_ofQuarter_27 : decode cX6_ofQuarter 27 = .ok (.iadd, 1) := by decide +kernel
theorem dX6_ofQuarter_28 : decode cX6_ofQuarter 28 = .ok (.iaload, 1) := by decide +kernel
theorem dX6_ofQuarter_29 : decode cX6_ofQuarter 29 = .ok (.goto 25, 3) := by decide +kernel
theorem dX6_ofQuarter_32 : decode cX6_ofQuarter 32 = .ok (.iload_n 2, 1) := by decide +kernel
theorem dX6_ofQuarter_33 : decode cX6_ofQuarter 33 = .ok (.iconst 2, 1) := by decide +kernel
theorem dX6_ofQuarter_34 : decode cX6_ofQuarter 34 = .ok (.if_icmp .ne 17, 3) := by decide +kernel
theorem dX6_ofQuarter_37 : decode cX6_ofQuarter 37 = .ok (.aload_n 0, 1) := by decide +kernel
theorem dX6_ofQuarter_38 : decode cX6_ofQuarter 38 = .ok (.getfield 7, 3) := by decide +kernel
theorem dX6_ofQuarter_41 : decode cX6_ofQuarter 41 = .ok (.bipush 28, 2) := by decide +kernel
theorem dX6_ofQuarter_43 : decode cX6_ofQuarter 43 = .ok (.iaload, 1) := by decide +kernel
theorem dX6_ofQuarter_44 : decode cX6_ofQuarter 44 = .ok (.iload_n 1, 1) := by decide +kernel
theorem dX6_ofQuarter_45 : decode cX6_ofQuarter 45 = .ok (.ishr, 1) := by decide +kernel
theorem dX6_ofQuarter_46 : decode cX6_ofQuarter 46 = .ok (.iconst 1, 1) := by decide +kernel
theorem dX6_ofQuarter_47 : decode cX6_ofQuarter 47 = .ok (.iand, 1) := by decide +kernel
theorem dX6_ofQuarter_48 : decode cX6_ofQuarter 48 = .ok (.goto 6, 3) := by decide +kernel
theorem dX6_ofQuarter_51 : decode cX6_ofQuarter 51 = .ok (.iload_n 1, 1) := by decide +kernel
theorem dX6_ofQuarter_52 : decode cX6_ofQuarter 52 = .ok (.iconst 4, 1) := by decide +kernel
theorem dX6_ofQuarter_53 : decode cX6_ofQuarter 53 = .ok (.idiv, 1) := by decide +kernel
theorem dX6_ofQuarter_54 : decode cX6_ofQuarter 54 = .ok (.ireturn, 1) := by decide +kernel
theorem dX6_of_0 : decode cX6_of 0 = .ok (.aload_n 0, 1) := by decide +kernel
theorem dX6_of_1 : decode cX6_of 1 = .ok (.iload_n 1, 1) := by decide +kernel
theorem dX6_of_2 : decode cX6_of 2 = .ok (.invokevirtual 70, 3) := by decide +kernel
theorem dX6_of_5 : decode cX6_of 5 = .ok (.ifCond .eq 24, 3) := by decide +kernel
theorem dX6_of_8 : decode cX6_of 8 = .ok (.iload_n 2, 1) := by decide +kernel
theorem dX6_of_9 : decode cX6_of 9 = .ok (.i2l, 1) := by decide +kernel
theorem dX6_of_10 : decode cX6_of 10 = .ok (.lconst 0, 1) := by decide +kernel
theorem dX6_of_11 : decode cX6_of 11 = .ok (.ldc2_w 125, 3) := by decide +kernel
theorem dX6_of_14 : decode cX6_of 14 = .ok (.invokestatic 62, 3) := by decide +kernel
theorem dX6_of_17 : decode cX6_of 17 = .ok (.ifCond .eq 12, 3) := by decide +kernel
theorem dX6_of_20 : decode cX6_of 20 = .ok (.aload_n 0, 1) := by decide +kernel
theorem dX6_of_21 : decode cX6_of 21 = .ok (.iload_n 1, 1) := by decide +kernel
theorem dX6_of_22 : decode cX6_of 22 = .ok (.iload_n 2, 1) := by decide +kernel
theorem dX6_of_23 : decode cX6_of 23 = .ok (.invokevirtual 127, 3) := by decide +kernel
theorem dX6_of_26 : decode cX6_of 26 = .ok (.goto 9, 3) := by decide +kernel
theorem dX6_of_29 : decode cX6_of 29 = .ok (.aload_n 0, 1) := by decide +kernel
theorem dX6_of_30 : decode cX6_of 30 = .ok (.bipush (-2), 2) := by decide +kernel
theorem dX6_of_32 : decode cX6_of 32 = .ok (.invokevirtual 54, 3) := by decide +kernel
theorem dX6_of_35 : decode cX6_of 35 = .ok (.ireturn, 1) := by decide +kernel
theorem dX6_together_0 : decode cX6_together 0 = .ok (.iconst 0, 1) := by decide +kernel
theorem dX6_together_1 : decode cX6_together 1 = .ok (.istore_n 2, 1) := by decide +kernel
theorem dX6_together_2 : decode cX6_together 2 = .ok (.iconst 4, 1) := by decide +kernel
theorem dX6_together_3 : decode cX6_together 3 = .ok (.iload_n 1, 1) := by decide +kernel
theorem dX6_together_4 : decode cX6_together 4 = .ok (.imul, 1) := by decide +kernel
theorem dX6_together_5 : decode cX6_together 5 = .ok (.istore_n 3, 1) := by decide +kernel
theorem dX6_together_6 : decode cX6_together 6 = .ok (.iload_n 3, 1) := by decide +kernel
theorem dX6_together_7 : decode cX6_together 7 = .ok (.iconst 4, 1) := by decide +kernel
theorem dX6_together_8 : decode cX6_together 8 = .ok (.iload_n 1, 1) := by decide +kernel
theorem dX6_together_9 : decode cX6_together 9 = .ok (.imul, 1) := by decide +kernel
theorem dX6_together_10 : decode cX6_together 10 = .ok (.iconst 4, 1) := by decide +kernel
theorem dX6_together_11 : decode cX6_together 11 = .ok (.iadd, 1) := by decide +kernel
theorem dX6_together_12 : decode cX6_together 12 = .ok (.if_icmp .ge 30, 3) := by decide +kernel
theorem dX6_together_15 : decode cX6_together 15 = .ok (.iload_n 3, 1) := by decide +kernel
theorem dX6_together_16 : decode cX6_together 16 = .ok (.aload_n 0, 1) := by decide +kernel
theorem dX6_together_17 : decode cX6_together 17 = .ok (.getfield 7, 3) := by decide +kernel
theorem dX6_together_20 : decode cX6_together 20 = .ok (.iconst 0, 1) := by decide +kernel
theorem dX6_together_21 : decode cX6_together 21 = .ok (.iaload, 1) := by decide +kernel
theorem dX6_together_22 : decode cX6_together 22 = .ok (.if_icmp .ge 20, 3) := by decide +kernel
theorem dX6_together_25 : decode cX6_together 25 = .ok (.iload_n 2, 1) := by decide +kernel
theorem dX6_together_26 : decode cX6_together 26 = .ok (.aload_n 0, 1) := by decide +kernel
theorem dX6_together_27 : decode cX6_together 27 = .ok (.getfield 7, 3) := by decide +kernel
theorem dX6_together_30 : decode cX6_together 30 = .ok (.iconst 1, 1) := by decide +kernel
theorem dX6_together_31 : decode cX6_together 31 = .ok (.iload_n 3, 1) := by decide +kernel
theorem dX6_together_32 : decode cX6_together 32 = .ok (.iadd, 1) := by decide +kernel
theorem dX6_together_33 : decode cX6_together 33 = .ok (.iaload, 1) := by decide +kernel
theorem dX6_together_34 : decode cX6_together 34 = .ok (.iadd, 1) := by decide +kernel
theorem dX6_together_35 : decode cX6_together 35 = .ok (.istore_n 2, 1) := by decide +kernel
theorem dX6_together_36 : decode cX6_together 36 = .ok (.iinc 3 1, 3) := by decide +kernel
theorem dX6_together_39 : decode cX6_together 39 = .ok (.goto (-33), 3) := by decide +kernel
theorem dX6_together_42 : decode cX6_together 42 = .ok (.iload_n 2, 1) := by decide +kernel
theorem dX6_together_43 : decode cX6_together 43 = .ok (.ireturn, 1) := by decide +kernel
theorem dX6_ofYear_0 : decode cX6_ofYear 0 = .ok (.iload_n 2, 1) := by decide +kernel
theorem dX6_ofYear_1 : decode cX6_ofYear 1 = .ok (.iconst 1, 1) := by decide +kernel
theorem dX6_ofYear_2 : decode cX6_ofYear 2 = .ok (.if_icmp .ne 11, 3) := by decide +kernel
theorem dX6_ofYear_5 : decode cX6_ofYear 5 = .ok (.aload_n 0, 1) := by decide +kernel
theorem dX6_ofYear_6 : decode cX6_ofYear 6 = .ok (.iload_n 1, 1) := by decide +kernel
theorem dX6_ofYear_7 : decode cX6_ofYear 7 = .ok (.invokevirtual 130, 3) := by decide +kernel
theorem dX6_ofYear_10 : decode cX6_ofYear 10 = .ok (.goto 55, 3) := by decide +kernel
theorem dX6_ofYear_13 : decode cX6_ofYear 13 = .ok (.aload_n 0, 1) := by decide +kernel
theorem dX6_ofYear_14 : decode cX6_ofYear 14 = .ok (.getfield 7, 3) := by decide +kernel
theorem dX6_ofYear_17 : decode cX6_ofYear 17 = .ok (.bipush 13, 2) := by decide +kernel
theorem dX6_ofYear_19 : decode cX6_ofYear 19 = .ok (.iload_n 1, 1) := by decide +kernel
theorem dX6_ofYear_20 : decode cX6_ofYear 20 = .ok (.iadd, 1) := by decide +kernel
theorem dX6_ofYear_21 : decode cX6_ofYear 21 = .ok (.iaload, 1) := by decide +kernel
theorem dX6_ofYear_22 : decode cX6_ofYear 22 = .ok (.iconst (-1), 1) := by decide +kernel
theorem dX6_ofYear_23 : decode cX6_ofYear 23 = .ok (.if_icmp .ne 7, 3) := by decide +kernel
theorem dX6_ofYear_26 : decode cX6_ofYear 26 = .ok (.iconst (-1), 1) := by decide +kernel
theorem dX6_ofYear_27 : decode cX6_ofYear 27 = .ok (.goto 38, 3) := by decide +kernel
theorem dX6_ofYear_30 : decode cX6_ofYear 30 = .ok (.iload_n 2, 1) := by decide +kernel
theorem dX6_ofYear_31 : decode cX6_ofYear 31 = .ok (.ifCond .ne 15, 3) := by decide +kernel
theorem dX6_ofYear_34 : decode cX6_ofYear 34 = .ok (.aload_n 0, 1) := by decide +kernel
theorem dX6_ofYear_35 : decode cX6_ofYear 35 = .ok (.getfield 7, 3) := by decide +kernel
theorem dX6_ofYear_38 : decode cX6_ofYear 38 = .ok (.bipush 13, 2) := by decide +kernel
theorem dX6_ofYear_40 : decode cX6_ofYear 40 = .ok (.iload_n 1, 1) := by decide +kernel
theorem dX6_ofYear_41 : decode cX6_ofYear 41 = .ok (.iadd, 1) := by decide +kernel
theorem dX6_ofYear_42 : decode cX6_ofYear 42 = .ok (.iaload, 1) := by decide +kernel
theorem dX6_ofYear_43 : decode cX6_ofYear 43 = .ok (.goto 22, 3) := by decide +kernel
theorem dX6_ofYear_46 : decode cX6_ofYear 46 = .ok (.aload_n 0, 1) := by decide +kernel
theorem dX6_ofYear_47 : decode cX6_ofYear 47 = .ok (.getfield 7, 3) := by decide +kernel
theorem dX6_ofYear_50 : decode cX6_ofYear 50 = .ok (.bipush 13, 2) := by decide +kernel
theorem dX6_ofYear_52 : decode cX6_ofYear 52 = .ok (.iload_n 1, 1) := by decide +kernel
theorem dX6_ofYear_53 : decode cX6_ofYear 53 = .ok (.iadd, 1) := by decide +kernel
theorem dX6_ofYear_54 : decode cX6_ofYear 54 = .ok (.iaload, 1) := by decide +kernel
theorem dX6_ofYear_55 : decode cX6_ofYear 55 = .ok (.aload_n 0, 1) := by decide +kernel
theorem dX6_ofYear_56 : decode cX6_ofYear 56 = .ok (.iload_n 1, 1) := by decide +kernel
theorem dX6_ofYear_57 : decode cX6_ofYear 57 = .ok (.invokevirtual 130, 3) := by decide +kernel
theorem dX6_ofYear_60 : decode cX6_ofYear 60 = .ok (.isub, 1) := by decide +kernel
theorem dX6_ofYear_61 : decode cX6_ofYear 61 = .ok (.sipush 1000, 3) := by decide +kernel
theorem dX6_ofYear_64 : decode cX6_ofYear 64 = .ok (.iadd, 1) := by decide +kernel
theorem dX6_ofYear_65 : decode cX6_ofYear 65 = .ok (.ireturn, 1) := by decide +kernel
theorem dX6_year_0 : decode cX6_year 0 = .ok (.iload_n 1, 1) := by decide +kernel
theorem dX6_year_1 : decode cX6_year 1 = .ok (.invokestatic 74, 3) := by decide +kernel
theorem dX6_year_4 : decode cX6_year 4 = .ok (.ifCond .eq 24, 3) := by decide +kernel
theorem dX6_year_7 : decode cX6_year 7 = .ok (.iload_n 2, 1) := by decide +kernel
theorem dX6_year_8 : decode cX6_year 8 = .ok (.i2l, 1) := by decide +kernel
theorem dX6_year_9 : decode cX6_year 9 = .ok (.lconst 0, 1) := by decide +kernel
theorem dX6_year_10 : decode cX6_year 10 = .ok (.ldc2_w 66, 3) := by decide +kernel
theorem dX6_year_13 : decode cX6_year 13 = .ok (.invokestatic 62, 3) := by decide +kernel
theorem dX6_year_16 : decode cX6_year 16 = .ok (.ifCond .eq 12, 3) := by decide +kernel
theorem dX6_year_19 : decode cX6_year 19 = .ok (.aload_n 0, 1) := by decide +kernel
theorem dX6_year_20 : decode cX6_year 20 = .ok (.iload_n 1, 1) := by decide +kernel
theorem dX6_year_21 : decode cX6_year 21 = .ok (.iload_n 2, 1) := by decide +kernel
theorem dX6_year_22 : decode cX6_year 22 = .ok (.invokevirtual 133, 3) := by decide +kernel
theorem dX6_year_25 : decode cX6_year 25 = .ok (.goto 9, 3) := by decide +kernel
theorem dX6_year_28 : decode cX6_year 28 = .ok (.aload_n 0, 1) := by decide +kernel
theorem dX6_year_29 : decode cX6_year 29 = .ok (.bipush (-2), 2) := by decide +kernel
theorem dX6_year_31 : decode cX6_year 31 = .ok (.invokevirtual 54, 3) := by decide +kernel
theorem dX6_year_34 : decode cX6_year 34 = .ok (.ireturn, 1) := by decide +kernel
theorem dX6_countOf_0 : decode cX6_countOf 0 = .ok (.iload_n 1, 1) := by decide +kernel
theorem dX6_countOf_1 : decode cX6_countOf 1 = .ok (.tableswitch 101 0 4 #[35, 42, 80, 85, 93], 35) := by decide +kernel
theorem dX6_countOf_36 : decode cX6_countOf 36 = .ok (.aload_n 0, 1) := by decide +kernel
theorem dX6_countOf_37 : decode cX6_countOf 37 = .ok (.getfield 7, 3) := by decide +kernel
theorem dX6_countOf_40 : decode cX6_countOf 40 = .ok (.iconst 0, 1) := by decide +kernel
theorem dX6_countOf_41 : decode cX6_countOf 41 = .ok (.iaload, 1) := by decide +kernel
theorem dX6_countOf_42 : decode cX6_countOf 42 = .ok (.ireturn, 1) := by decide +kernel
theorem dX6_countOf_43 : decode cX6_countOf 43 = .ok (.iconst 0, 1) := by decide +kernel
theorem dX6_countOf_44 : decode cX6_countOf 44 = .ok (.istore_n 2, 1) := by decide +kernel
theorem dX6_countOf_45 : decode cX6_countOf 45 = .ok (.iconst 0, 1) := by decide +kernel
theorem dX6_countOf_46 : decode cX6_countOf 46 = .ok (.istore_n 3, 1) := by decide +kernel
theorem dX6_countOf_47 : decode cX6_countOf 47 = .ok (.iload_n 3, 1) := by decide +kernel
theorem dX6_countOf_48 : decode cX6_countOf 48 = .ok (.iconst 3, 1) := by decide +kernel
theorem dX6_countOf_49 : decode cX6_countOf 49 = .ok (.if_icmp .ge 30, 3) := by decide +kernel
theorem dX6_countOf_52 : decode cX6_countOf 52 = .ok (.iload_n 2, 1) := by decide +kernel
theorem dX6_countOf_53 : decode cX6_countOf 53 = .ok (.aload_n 0, 1) := by decide +kernel
theorem dX6_countOf_54 : decode cX6_countOf 54 = .ok (.getfield 7, 3) := by decide +kernel
theorem dX6_countOf_57 : decode cX6_countOf 57 = .ok (.bipush 13, 2) := by decide +kernel
theorem dX6_countOf_59 : decode cX6_countOf 59 = .ok (.iload_n 3, 1) := by decide +kernel
theorem dX6_countOf_60 : decode cX6_countOf 60 = .ok (.iadd, 1) := by decide +kernel
theorem dX6_countOf_61 : decode cX6_countOf 61 = .ok (.iaload, 1) := by decide +kernel
theorem dX6_countOf_62 : decode cX6_countOf 62 = .ok (.iconst (-1), 1) := by decide +kernel
theorem dX6_countOf_63 : decode cX6_countOf 63 = .ok (.if_icmp .ne 7, 3) := by decide +kernel
theorem dX6_countOf_66 : decode cX6_countOf 66 = .ok (.iconst 0, 1) := by decide +kernel
theorem dX6_countOf_67 : decode cX6_countOf 67 = .ok (.goto 4, 3) := by decide +kernel
theorem dX6_countOf_70 : decode cX6_countOf 70 = .ok (.iconst 1, 1) := by decide +kernel
theorem dX6_countOf_71 : decode cX6_countOf 71 = .ok (.iadd, 1) := by decide +kernel
theorem dX6_countOf_72 : decode cX6_countOf 72 = .ok (.istore_n 2, 1) := by decide +kernel
theorem dX6_countOf_73 : decode cX6_countOf 73 = .ok (.iinc 3 1, 3) := by decide +kernel
theorem dX6_countOf_76 : decode cX6_countOf 76 = .ok (.goto (-29), 3) := by decide +kernel
theorem dX6_countOf_79 : decode cX6_countOf 79 = .ok (.iload_n 2, 1) := by decide +kernel
theorem dX6_countOf_80 : decode cX6_countOf 80 = .ok (.ireturn, 1) := by decide +kernel
theorem dX6_countOf_81 : decode cX6_countOf 81 = .ok (.aload_n 0, 1) := by decide +kernel
theorem dX6_countOf_82 : decode cX6_countOf 82 = .ok (.invokevirtual 122, 3) := by decide +kernel
theorem dX6_countOf_85 : decode cX6_countOf 85 = .ok (.ireturn, 1) := by decide +kernel
theorem dX6_countOf_86 : decode cX6_countOf 86 = .ok (.aload_n 0, 1) := by decide +kernel
theorem dX6_countOf_87 : decode cX6_countOf 87 = .ok (.getfield 7, 3) := by decide +kernel
theorem dX6_countOf_90 : decode cX6_countOf 90 = .ok (.bipush 28, 2) := by decide +kernel
theorem dX6_countOf_92 : decode cX6_countOf 92 = .ok (.iaload, 1) := by decide +kernel
theorem dX6_countOf_93 : decode cX6_countOf 93 = .ok (.ireturn, 1) := by decide +kernel
theorem dX6_countOf_94 : decode cX6_countOf 94 = .ok (.aload_n 0, 1) := by decide +kernel
theorem dX6_countOf_95 : decode cX6_countOf 95 = .ok (.getfield 7, 3) := by decide +kernel
theorem dX6_countOf_98 : decode cX6_countOf 98 = .ok (.bipush 29, 2) := by decide +kernel
theorem dX6_countOf_100 : decode cX6_countOf 100 = .ok (.iaload, 1) := by decide +kernel
theorem dX6_countOf_101 : decode cX6_countOf 101 = .ok (.ireturn, 1) := by decide +kernel
theorem dX6_countOf_102 : decode cX6_countOf 102 = .ok (.aload_n 0, 1) := by decide +kernel
theorem dX6_countOf_103 : decode cX6_countOf 103 = .ok (.getfield 7, 3) := by decide +kernel
theorem dX6_countOf_106 : decode cX6_countOf 106 = .ok (.bipush 30, 2) := by decide +kernel
theorem dX6_countOf_108 : decode cX6_countOf 108 = .ok (.iaload, 1) := by decide +kernel
theorem dX6_countOf_109 : decode cX6_countOf 109 = .ok (.ireturn, 1) := by decide +kernel
theorem dX6_count_0 : decode cX6_count 0 = .ok (.iload_n 1, 1) := by decide +kernel
theorem dX6_count_1 : decode cX6_count 1 = .ok (.i2l, 1) := by decide +kernel
theorem dX6_count_2 : decode cX6_count 2 = .ok (.lconst 0, 1) := by decide +kernel
theorem dX6_count_3 : decode cX6_count 3 = .ok (.ldc2_w 136, 3) := by decide +kernel
theorem dX6_count_6 : decode cX6_count 6 = .ok (.invokestatic 62, 3) := by decide +kernel
theorem dX6_count_9 : decode cX6_count 9 = .ok (.ifCond .eq 11, 3) := by decide +kernel
theorem dX6_count_12 : decode cX6_count 12 = .ok (.aload_n 0, 1) := by decide +kernel
theorem dX6_count_13 : decode cX6_count 13 = .ok (.iload_n 1, 1) := by decide +kernel
theorem dX6_count_14 : decode cX6_count 14 = .ok (.invokevirtual 138, 3) := by decide +kernel
theorem dX6_count_17 : decode cX6_count 17 = .ok (.goto 9, 3) := by decide +kernel
theorem dX6_count_20 : decode cX6_count 20 = .ok (.aload_n 0, 1) := by decide +kernel
theorem dX6_count_21 : decode cX6_count 21 = .ok (.bipush (-2), 2) := by decide +kernel
theorem dX6_count_23 : decode cX6_count 23 = .ok (.invokevirtual 54, 3) := by decide +kernel
theorem dX6_count_26 : decode cX6_count 26 = .ok (.ireturn, 1) := by decide +kernel
theorem dX6_isBound_0 : decode cX6_isBound 0 = .ok (.iload_n 1, 1) := by decide +kernel
theorem dX6_isBound_1 : decode cX6_isBound 1 = .ok (.iconst 4, 1) := by decide +kernel
theorem dX6_isBound_2 : decode cX6_isBound 2 = .ok (.idiv, 1) := by decide +kernel
theorem dX6_isBound_3 : decode cX6_isBound 3 = .ok (.istore_n 2, 1) := by decide +kernel
theorem dX6_isBound_4 : decode cX6_isBound 4 = .ok (.aload_n 0, 1) := by decide +kernel
theorem dX6_isBound_5 : decode cX6_isBound 5 = .ok (.getfield 7, 3) := by decide +kernel
theorem dX6_isBound_8 : decode cX6_isBound 8 = .ok (.bipush 13, 2) := by decide +kernel
theorem dX6_isBound_10 : decode cX6_isBound 10 = .ok (.iload_n 2, 1) := by decide +kernel
theorem dX6_isBound_11 : decode cX6_isBound 11 = .ok (.iadd, 1) := by decide +kernel
theorem dX6_isBound_12 : decode cX6_isBound 12 = .ok (.iaload, 1) := by decide +kernel
theorem dX6_isBound_13 : decode cX6_isBound 13 = .ok (.iconst (-1), 1) := by decide +kernel
theorem dX6_isBound_14 : decode cX6_isBound 14 = .ok (.if_icmp .eq 15, 3) := by decide +kernel
theorem dX6_isBound_17 : decode cX6_isBound 17 = .ok (.iload_n 2, 1) := by decide +kernel
theorem dX6_isBound_18 : decode cX6_isBound 18 = .ok (.aload_n 0, 1) := by decide +kernel
theorem dX6_isBound_19 : decode cX6_isBound 19 = .ok (.getfield 141, 3) := by decide +kernel
theorem dX6_isBound_22 : decode cX6_isBound 22 = .ok (.if_icmp .eq 7, 3) := by decide +kernel
theorem dX6_isBound_25 : decode cX6_isBound 25 = .ok (.iconst 1, 1) := by decide +kernel
theorem dX6_isBound_26 : decode cX6_isBound 26 = .ok (.goto 4, 3) := by decide +kernel
theorem dX6_isBound_29 : decode cX6_isBound 29 = .ok (.iconst 0, 1) := by decide +kernel
theorem dX6_isBound_30 : decode cX6_isBound 30 = .ok (.ireturn, 1) := by decide +kernel
theorem dX6_may_0 : decode cX6_may 0 = .ok (.aload_n 0, 1) := by decide +kernel
theorem dX6_may_1 : decode cX6_may 1 = .ok (.getfield 7, 3) := by decide +kernel
theorem dX6_may_4 : decode cX6_may 4 = .ok (.iconst 1, 1) := by decide +kernel
theorem dX6_may_5 : decode cX6_may 5 = .ok (.iload_n 1, 1) := by decide +kernel
theorem dX6_may_6 : decode cX6_may 6 = .ok (.iadd, 1) := by decide +kernel
theorem dX6_may_7 : decode cX6_may 7 = .ok (.iaload, 1) := by decide +kernel
theorem dX6_may_8 : decode cX6_may 8 = .ok (.iload_n 2, 1) := by decide +kernel
theorem dX6_may_9 : decode cX6_may 9 = .ok (.iadd, 1) := by decide +kernel
theorem dX6_may_10 : decode cX6_may 10 = .ok (.istore_n 3, 1) := by decide +kernel
theorem dX6_may_11 : decode cX6_may 11 = .ok (.aload_n 0, 1) := by decide +kernel
theorem dX6_may_12 : decode cX6_may 12 = .ok (.getfield 7, 3) := by decide +kernel
theorem dX6_may_15 : decode cX6_may 15 = .ok (.bipush 16, 2) := by decide +kernel
theorem dX6_may_17 : decode cX6_may 17 = .ok (.iload_n 1, 1) := by decide +kernel
theorem dX6_may_18 : decode cX6_may 18 = .ok (.iadd, 1) := by decide +kernel
theorem dX6_may_19 : decode cX6_may 19 = .ok (.iaload, 1) := by decide +kernel
theorem dX6_may_20 : decode cX6_may 20 = .ok (.istore 4, 2) := by decide +kernel
theorem dX6_may_22 : decode cX6_may 22 = .ok (.iload 4, 2) := by decide +kernel
theorem dX6_may_24 : decode cX6_may 24 = .ok (.iconst (-1), 1) := by decide +kernel
theorem dX6_may_25 : decode cX6_may 25 = .ok (.if_icmp .ne 7, 3) := by decide +kernel
theorem dX6_may_28 : decode cX6_may 28 = .ok (.iconst 0, 1) := by decide +kernel
theorem dX6_may_29 : decode cX6_may 29 = .ok (.goto 29, 3) := by decide +kernel
theorem dX6_may_32 : decode cX6_may 32 = .ok (.iload_n 3, 1) := by decide +kernel
theorem dX6_may_33 : decode cX6_may 33 = .ok (.bipush 8, 2) := by decide +kernel
theorem dX6_may_35 : decode cX6_may 35 = .ok (.iadd, 1) := by decide +kernel
theorem dX6_may_36 : decode cX6_may 36 = .ok (.iload 4, 2) := by decide +kernel
theorem dX6_may_38 : decode cX6_may 38 = .ok (.if_icmp .le 13, 3) := by decide +kernel
theorem dX6_may_41 : decode cX6_may 41 = .ok (.iload_n 3, 1) := by decide +kernel
theorem dX6_may_42 : decode cX6_may 42 = .ok (.bipush 8, 2) := by decide +kernel
theorem dX6_may_44 : decode cX6_may 44 = .ok (.iadd, 1) := by decide +kernel
theorem dX6_may_45 : decode cX6_may 45 = .ok (.iload 4, 2) := by decide +kernel
theorem dX6_may_47 : decode cX6_may 47 = .ok (.isub, 1) := by decide +kernel
theorem dX6_may_48 : decode cX6_may 48 = .ok (.goto 10, 3) := by decide +kernel
theorem dX6_may_51 : decode cX6_may 51 = .ok (.iload 4, 2) := by decide +kernel
theorem dX6_may_53 : decode cX6_may 53 = .ok (.iload_n 3, 1) := by decide +kernel
theorem dX6_may_54 : decode cX6_may 54 = .ok (.isub, 1) := by decide +kernel
theorem dX6_may_55 : decode cX6_may 55 = .ok (.bipush 8, 2) := by decide +kernel
theorem dX6_may_57 : decode cX6_may 57 = .ok (.isub, 1) := by decide +kernel
theorem dX6_may_58 : decode cX6_may 58 = .ok (.istore 5, 2) := by decide +kernel
theorem dX6_may_60 : decode cX6_may 60 = .ok (.aload_n 0, 1) := by decide +kernel
theorem dX6_may_61 : decode cX6_may 61 = .ok (.getfield 7, 3) := by decide +kernel
theorem dX6_may_64 : decode cX6_may 64 = .ok (.bipush 28, 2) := by decide +kernel
theorem dX6_may_66 : decode cX6_may 66 = .ok (.iaload, 1) := by decide +kernel
theorem dX6_may_67 : decode cX6_may 67 = .ok (.iload_n 1, 1) := by decide +kernel
theorem dX6_may_68 : decode cX6_may 68 = .ok (.ishr, 1) := by decide +kernel
theorem dX6_may_69 : decode cX6_may 69 = .ok (.iconst 1, 1) := by decide +kernel
theorem dX6_may_70 : decode cX6_may 70 = .ok (.iand, 1) := by decide +kernel
theorem dX6_may_71 : decode cX6_may 71 = .ok (.iconst 1, 1) := by decide +kernel
theorem dX6_may_72 : decode cX6_may 72 = .ok (.if_icmp .ne 8, 3) := by decide +kernel
theorem dX6_may_75 : decode cX6_may 75 = .ok (.iload 5, 2) := by decide +kernel
theorem dX6_may_77 : decode cX6_may 77 = .ok (.ifCond .ne 24, 3) := by decide +kernel
theorem dX6_may_80 : decode cX6_may 80 = .ok (.aload_n 0, 1) := by decide +kernel
theorem dX6_may_81 : decode cX6_may 81 = .ok (.getfield 144, 3) := by decide +kernel
theorem dX6_may_84 : decode cX6_may 84 = .ok (.iconst (-1), 1) := by decide +kernel
theorem dX6_may_85 : decode cX6_may 85 = .ok (.if_icmp .eq 12, 3) := by decide +kernel
theorem dX6_may_88 : decode cX6_may 88 = .ok (.iload 5, 2) := by decide +kernel
theorem dX6_may_90 : decode cX6_may 90 = .ok (.aload_n 0, 1) := by decide +kernel
theorem dX6_may_91 : decode cX6_may 91 = .ok (.getfield 144, 3) := by decide +kernel
theorem dX6_may_94 : decode cX6_may 94 = .ok (.if_icmp .gt 7, 3) := by decide +kernel
theorem dX6_may_97 : decode cX6_may 97 = .ok (.iconst 1, 1) := by decide +kernel
theorem dX6_may_98 : decode cX6_may 98 = .ok (.goto 4, 3) := by decide +kernel
theorem dX6_may_101 : decode cX6_may 101 = .ok (.iconst 0, 1) := by decide +kernel
theorem dX6_may_102 : decode cX6_may 102 = .ok (.ireturn, 1) := by decide +kernel
theorem dX6_square_0 : decode cX6_square 0 = .ok (.lload_n 0, 1) := by decide +kernel
theorem dX6_square_1 : decode cX6_square 1 = .ok (.lload_n 0, 1) := by decide +kernel
theorem dX6_square_2 : decode cX6_square 2 = .ok (.lmul, 1) := by decide +kernel
theorem dX6_square_3 : decode cX6_square 3 = .ok (.lreturn, 1) := by decide +kernel
theorem dX6_step_0 : decode cX6_step 0 = .ok (.aload_n 0, 1) := by decide +kernel
theorem dX6_step_1 : decode cX6_step 1 = .ok (.getfield 7, 3) := by decide +kernel
theorem dX6_step_4 : decode cX6_step 4 = .ok (.iconst 1, 1) := by decide +kernel
theorem dX6_step_5 : decode cX6_step 5 = .ok (.iload_n 1, 1) := by decide +kernel
theorem dX6_step_6 : decode cX6_step 6 = .ok (.iadd, 1) := by decide +kernel
theorem dX6_step_7 : decode cX6_step 7 = .ok (.iaload, 1) := by decide +kernel
theorem dX6_step_8 : decode cX6_step 8 = .ok (.istore 4, 2) := by decide +kernel
theorem dX6_step_10 : decode cX6_step 10 = .ok (.aload_n 0, 1) := by decide +kernel
theorem dX6_step_11 : decode cX6_step 11 = .ok (.getfield 7, 3) := by decide +kernel
theorem dX6_step_14 : decode cX6_step 14 = .ok (.iconst 1, 1) := by decide +kernel
theorem dX6_step_15 : decode cX6_step 15 = .ok (.iload_n 1, 1) := by decide +kernel
theorem dX6_step_16 : decode cX6_step 16 = .ok (.iadd, 1) := by decide +kernel
theorem dX6_step_17 : decode cX6_step 17 = .ok (.iconst 1, 1) := by decide +kernel
theorem dX6_step_18 : decode cX6_step 18 = .ok (.iadd, 1) := by decide +kernel
theorem dX6_step_19 : decode cX6_step 19 = .ok (.iaload, 1) := by decide +kernel
theorem dX6_step_20 : decode cX6_step 20 = .ok (.istore 5, 2) := by decide +kernel
theorem dX6_step_22 : decode cX6_step 22 = .ok (.aload_n 0, 1) := by decide +kernel
theorem dX6_step_23 : decode cX6_step 23 = .ok (.getfield 7, 3) := by decide +kernel
theorem dX6_step_26 : decode cX6_step 26 = .ok (.bipush 30, 2) := by decide +kernel
theorem dX6_step_28 : decode cX6_step 28 = .ok (.iaload, 1) := by decide +kernel
theorem dX6_step_29 : decode cX6_step 29 = .ok (.ifCond .ne 13, 3) := by decide +kernel
theorem dX6_step_32 : decode cX6_step 32 = .ok (.iload_n 3, 1) := by decide +kernel
theorem dX6_step_33 : decode cX6_step 33 = .ok (.iload_n 2, 1) := by decide +kernel
theorem dX6_step_34 : decode cX6_step 34 = .ok (.isub, 1) := by decide +kernel
theorem dX6_step_35 : decode cX6_step 35 = .ok (.i2l, 1) := by decide +kernel
theorem dX6_step_36 : decode cX6_step 36 = .ok (.invokestatic 147, 3) := by decide +kernel
theorem dX6_step_39 : decode cX6_step 39 = .ok (.goto 22, 3) := by decide +kernel
theorem dX6_step_42 : decode cX6_step 42 = .ok (.iload 5, 2) := by decide +kernel
theorem dX6_step_44 : decode cX6_step 44 = .ok (.iload_n 3, 1) := by decide +kernel
theorem dX6_step_45 : decode cX6_step 45 = .ok (.iadd, 1) := by decide +kernel
theorem dX6_step_46 : decode cX6_step 46 = .ok (.iload 4, 2) := by decide +kernel
theorem dX6_step_48 : decode cX6_step 48 = .ok (.imul, 1) := by decide +kernel
theorem dX6_step_49 : decode cX6_step 49 = .ok (.iload 4, 2) := by decide +kernel
theorem dX6_step_51 : decode cX6_step 51 = .ok (.iload_n 2, 1) := by decide +kernel
theorem dX6_step_52 : decode cX6_step 52 = .ok (.iadd, 1) := by decide +kernel
theorem dX6_step_53 : decode cX6_step 53 = .ok (.iload 5, 2) := by decide +kernel
theorem dX6_step_55 : decode cX6_step 55 = .ok (.imul, 1) := by decide +kernel
theorem dX6_step_56 : decode cX6_step 56 = .ok (.isub, 1) := by decide +kernel
theorem dX6_step_57 : decode cX6_step 57 = .ok (.i2l, 1) := by decide +kernel
theorem dX6_step_58 : decode cX6_step 58 = .ok (.invokestatic 147, 3) := by decide +kernel
theorem dX6_step_61 : decode cX6_step 61 = .ok (.lreturn, 1) := by decide +kernel
theorem dX6_place_0 : decode cX6_place 0 = .ok (.bipush 17, 2) := by decide +kernel
theorem dX6_place_2 : decode cX6_place 2 = .ok (.iload_n 0, 1) := by decide +kernel
theorem dX6_place_3 : decode cX6_place 3 = .ok (.imul, 1) := by decide +kernel
theorem dX6_place_4 : decode cX6_place 4 = .ok (.iload_n 1, 1) := by decide +kernel
theorem dX6_place_5 : decode cX6_place 5 = .ok (.iadd, 1) := by decide +kernel
theorem dX6_place_6 : decode cX6_place 6 = .ok (.bipush 8, 2) := by decide +kernel
theorem dX6_place_8 : decode cX6_place 8 = .ok (.iadd, 1) := by decide +kernel
theorem dX6_place_9 : decode cX6_place 9 = .ok (.bipush 65, 2) := by decide +kernel
theorem dX6_place_11 : decode cX6_place 11 = .ok (.imul, 1) := by decide +kernel
theorem dX6_place_12 : decode cX6_place 12 = .ok (.iload_n 2, 1) := by decide +kernel
theorem dX6_place_13 : decode cX6_place 13 = .ok (.iadd, 1) := by decide +kernel
theorem dX6_place_14 : decode cX6_place 14 = .ok (.bipush 32, 2) := by decide +kernel
theorem dX6_place_16 : decode cX6_place 16 = .ok (.iadd, 1) := by decide +kernel
theorem dX6_place_17 : decode cX6_place 17 = .ok (.ireturn, 1) := by decide +kernel
theorem dX6_nextSum_0 : decode cX6_nextSum 0 = .ok (.aload_n 0, 1) := by decide +kernel
theorem dX6_nextSum_1 : decode cX6_nextSum 1 = .ok (.iload_n 1, 1) := by decide +kernel
theorem dX6_nextSum_2 : decode cX6_nextSum 2 = .ok (.iconst 1, 1) := by decide +kernel
theorem dX6_nextSum_3 : decode cX6_nextSum 3 = .ok (.iadd, 1) := by decide +kernel
theorem dX6_nextSum_4 : decode cX6_nextSum 4 = .ok (.invokevirtual 151, 3) := by decide +kernel
theorem dX6_nextSum_7 : decode cX6_nextSum 7 = .ok (.ifCond .ne 7, 3) := by decide +kernel
theorem dX6_nextSum_10 : decode cX6_nextSum 10 = .ok (.iconst 0, 1) := by decide +kernel
theorem dX6_nextSum_11 : decode cX6_nextSum 11 = .ok (.goto 17, 3) := by decide +kernel
theorem dX6_nextSum_14 : decode cX6_nextSum 14 = .ok (.iload_n 1, 1) := by decide +kernel
theorem dX6_nextSum_15 : decode cX6_nextSum 15 = .ok (.iconst 4, 1) := by decide +kernel
theorem dX6_nextSum_16 : decode cX6_nextSum 16 = .ok (.irem, 1) := by decide +kernel
theorem dX6_nextSum_17 : decode cX6_nextSum 17 = .ok (.iconst 3, 1) := by decide +kernel
theorem dX6_nextSum_18 : decode cX6_nextSum 18 = .ok (.if_icmp .ne 7, 3) := by decide +kernel
theorem dX6_nextSum_21 : decode cX6_nextSum 21 = .ok (.iload_n 3, 1) := by decide +kernel
theorem dX6_nextSum_22 : decode cX6_nextSum 22 = .ok (.goto 6, 3) := by decide +kernel
theorem dX6_nextSum_25 : decode cX6_nextSum 25 = .ok (.iload_n 2, 1) := by decide +kernel
theorem dX6_nextSum_26 : decode cX6_nextSum 26 = .ok (.iload_n 3, 1) := by decide +kernel
theorem dX6_nextSum_27 : decode cX6_nextSum 27 = .ok (.iadd, 1) := by decide +kernel
theorem dX6_nextSum_28 : decode cX6_nextSum 28 = .ok (.ireturn, 1) := by decide +kernel
theorem dX6_lay_0 : decode cX6_lay 0 = .ok (.iload_n 1, 1) := by decide +kernel
theorem dX6_lay_1 : decode cX6_lay 1 = .ok (.iload_n 2, 1) := by decide +kernel
theorem dX6_lay_2 : decode cX6_lay 2 = .ok (.iload_n 3, 1) := by decide +kernel
theorem dX6_lay_3 : decode cX6_lay 3 = .ok (.invokestatic 154, 3) := by decide +kernel
theorem dX6_lay_6 : decode cX6_lay 6 = .ok (.istore 4, 2) := by decide +kernel
theorem dX6_lay_8 : decode cX6_lay 8 = .ok (.aload_n 0, 1) := by decide +kernel
theorem dX6_lay_9 : decode cX6_lay 9 = .ok (.getfield 34, 3) := by decide +kernel
theorem dX6_lay_12 : decode cX6_lay 12 = .ok (.iload 4, 2) := by decide +kernel
theorem dX6_lay_14 : decode cX6_lay 14 = .ok (.ldc2_w 158, 3) := by decide +kernel
theorem dX6_lay_17 : decode cX6_lay 17 = .ok (.lastore, 1) := by decide +kernel
theorem dX6_lay_18 : decode cX6_lay 18 = .ok (.aload_n 0, 1) := by decide +kernel
theorem dX6_lay_19 : decode cX6_lay 19 = .ok (.getfield 38, 3) := by decide +kernel
theorem dX6_lay_22 : decode cX6_lay 22 = .ok (.iload 4, 2) := by decide +kernel
theorem dX6_lay_24 : decode cX6_lay 24 = .ok (.iconst 0, 1) := by decide +kernel
theorem dX6_lay_25 : decode cX6_lay 25 = .ok (.iastore, 1) := by decide +kernel
theorem dX6_lay_26 : decode cX6_lay 26 = .ok (.aload_n 0, 1) := by decide +kernel
theorem dX6_lay_27 : decode cX6_lay 27 = .ok (.iload_n 1, 1) := by decide +kernel
theorem dX6_lay_28 : decode cX6_lay 28 = .ok (.iload_n 2, 1) := by decide +kernel
theorem dX6_lay_29 : decode cX6_lay 29 = .ok (.invokevirtual 160, 3) := by decide +kernel
theorem dX6_lay_32 : decode cX6_lay 32 = .ok (.ifCond .eq 45, 3) := by decide +kernel
theorem dX6_lay_35 : decode cX6_lay 35 = .ok (.aload_n 0, 1) := by decide +kernel
theorem dX6_lay_36 : decode cX6_lay 36 = .ok (.iload_n 1, 1) := by decide +kernel
theorem dX6_lay_37 : decode cX6_lay 37 = .ok (.invokevirtual 151, 3) := by decide +kernel
theorem dX6_lay_40 : decode cX6_lay 40 = .ok (.ifCond .eq 33, 3) := by decide +kernel
theorem dX6_lay_43 : decode cX6_lay 43 = .ok (.iload_n 1, 1) := by decide +kernel
theorem dX6_lay_44 : decode cX6_lay 44 = .ok (.iconst 4, 1) := by decide +kernel
theorem dX6_lay_45 : decode cX6_lay 45 = .ok (.irem, 1) := by decide +kernel
theorem dX6_lay_46 : decode cX6_lay 46 = .ok (.iconst 3, 1) := by decide +kernel
theorem dX6_lay_47 : decode cX6_lay 47 = .ok (.if_icmp .ne 26, 3) := by decide +kernel
theorem dX6_lay_50 : decode cX6_lay 50 = .ok (.iload_n 3, 1) := by decide +kernel
theorem dX6_lay_51 : decode cX6_lay 51 = .ok (.aload_n 0, 1) := by decide +kernel
theorem dX6_lay_52 : decode cX6_lay 52 = .ok (.getfield 7, 3) := by decide +kernel
theorem dX6_lay_55 : decode cX6_lay 55 = .ok (.bipush 13, 2) := by decide +kernel
theorem dX6_lay_57 : decode cX6_lay 57 = .ok (.iload_n 1, 1) := by decide +kernel
theorem dX6_lay_58 : decode cX6_lay 58 = .ok (.iconst 4, 1) := by decide +kernel
theorem dX6_lay_59 : decode cX6_lay 59 = .ok (.idiv, 1) := by decide +kernel
theorem dX6_lay_60 : decode cX6_lay 60 = .ok (.iadd, 1) := by decide +kernel
theorem dX6_lay_61 : decode cX6_lay 61 = .ok (.iaload, 1) := by decide +kernel
theorem dX6_lay_62 : decode cX6_lay 62 = .ok (.aload_n 0, 1) := by decide +kernel
theorem dX6_lay_63 : decode cX6_lay 63 = .ok (.iload_n 1, 1) := by decide +kernel
theorem dX6_lay_64 : decode cX6_lay 64 = .ok (.iconst 4, 1) := by decide +kernel
theorem dX6_lay_65 : decode cX6_lay 65 = .ok (.idiv, 1) := by decide +kernel
theorem dX6_lay_66 : decode cX6_lay 66 = .ok (.invokevirtual 130, 3) := by decide +kernel
theorem dX6_lay_69 : decode cX6_lay 69 = .ok (.isub, 1) := by decide +kernel
theorem dX6_lay_70 : decode cX6_lay 70 = .ok (.if_icmp .ne 7, 3) := by decide +kernel
theorem dX6_lay_73 : decode cX6_lay 73 = .ok (.iconst 1, 1) := by decide +kernel
theorem dX6_lay_74 : decode cX6_lay 74 = .ok (.goto 4, 3) := by decide +kernel
theorem dX6_lay_77 : decode cX6_lay 77 = .ok (.iconst 0, 1) := by decide +kernel
theorem dX6_lay_78 : decode cX6_lay 78 = .ok (.istore 5, 2) := by decide +kernel
theorem dX6_lay_80 : decode cX6_lay 80 = .ok (.iload 5, 2) := by decide +kernel
theorem dX6_lay_82 : decode cX6_lay 82 = .ok (.ifCond .ne 4, 3) := by decide +kernel
theorem dX6_lay_85 : decode cX6_lay 85 = .ok (.return_, 1) := by decide +kernel
theorem dX6_lay_86 : decode cX6_lay 86 = .ok (.iload_n 1, 1) := by decide +kernel
theorem dX6_lay_87 : decode cX6_lay 87 = .ok (.aload_n 0, 1) := by decide +kernel
theorem dX6_lay_88 : decode cX6_lay 88 = .ok (.getfield 7, 3) := by decide +kernel
theorem dX6_lay_91 : decode cX6_lay 91 = .ok (.iconst 0, 1) := by decide +kernel
theorem dX6_lay_92 : decode cX6_lay 92 = .ok (.iaload, 1) := by decide +kernel
theorem dX6_lay_93 : decode cX6_lay 93 = .ok (.iconst 1, 1) := by decide +kernel
theorem dX6_lay_94 : decode cX6_lay 94 = .ok (.isub, 1) := by decide +kernel
theorem dX6_lay_95 : decode cX6_lay 95 = .ok (.if_icmp .ne 23, 3) := by decide +kernel
theorem dX6_lay_98 : decode cX6_lay 98 = .ok (.aload_n 0, 1) := by decide +kernel
theorem dX6_lay_99 : decode cX6_lay 99 = .ok (.getfield 34, 3) := by decide +kernel
theorem dX6_lay_102 : decode cX6_lay 102 = .ok (.iload 4, 2) := by decide +kernel
theorem dX6_lay_104 : decode cX6_lay 104 = .ok (.iload_n 2, 1) := by decide +kernel
theorem dX6_lay_105 : decode cX6_lay 105 = .ok (.iload_n 2, 1) := by decide +kernel
theorem dX6_lay_106 : decode cX6_lay 106 = .ok (.imul, 1) := by decide +kernel
theorem dX6_lay_107 : decode cX6_lay 107 = .ok (.i2l, 1) := by decide +kernel
theorem dX6_lay_108 : decode cX6_lay 108 = .ok (.lastore, 1) := by decide +kernel
theorem dX6_lay_109 : decode cX6_lay 109 = .ok (.aload_n 0, 1) := by decide +kernel
theorem dX6_lay_110 : decode cX6_lay 110 = .ok (.getfield 38, 3) := by decide +kernel
theorem dX6_lay_113 : decode cX6_lay 113 = .ok (.iload 4, 2) := by decide +kernel
theorem dX6_lay_115 : decode cX6_lay 115 = .ok (.iconst 1, 1) := by decide +kernel
theorem dX6_lay_116 : decode cX6_lay 116 = .ok (.iastore, 1) := by decide +kernel
theorem dX6_lay_117 : decode cX6_lay 117 = .ok (.return_, 1) := by decide +kernel
theorem dX6_lay_118 : decode cX6_lay 118 = .ok (.bipush (-8), 2) := by decide +kernel
theorem dX6_lay_120 : decode cX6_lay 120 = .ok (.istore 6, 2) := by decide +kernel
theorem dX6_lay_122 : decode cX6_lay 122 = .ok (.iload 6, 2) := by decide +kernel
theorem dX6_lay_124 : decode cX6_lay 124 = .ok (.bipush 8, 2) := by decide +kernel
theorem dX6_lay_126 : decode cX6_lay 126 = .ok (.if_icmp .gt 194, 3) := by decide +kernel
theorem dX6_lay_129 : decode cX6_lay 129 = .ok (.aload_n 0, 1) := by decide +kernel
theorem dX6_lay_130 : decode cX6_lay 130 = .ok (.iload_n 1, 1) := by decide +kernel
theorem dX6_lay_131 : decode cX6_lay 131 = .ok (.iload_n 3, 1) := by decide +kernel
theorem dX6_lay_132 : decode cX6_lay 132 = .ok (.iload 6, 2) := by decide +kernel
theorem dX6_lay_134 : decode cX6_lay 134 = .ok (.invokevirtual 164, 3) := by decide +kernel
theorem dX6_lay_137 : decode cX6_lay 137 = .ok (.istore 7, 2) := by decide +kernel
theorem dX6_lay_139 : decode cX6_lay 139 = .ok (.iload 7, 2) := by decide +kernel
theorem dX6_lay_141 : decode cX6_lay 141 = .ok (.i2l, 1) := by decide +kernel
theorem dX6_lay_142 : decode cX6_lay 142 = .ok (.ldc2_w 167, 3) := by decide +kernel
theorem dX6_lay_145 : decode cX6_lay 145 = .ok (.ldc2_w 169, 3) := by decide +kernel
theorem dX6_lay_148 : decode cX6_lay 148 = .ok (.invokestatic 62, 3) := by decide +kernel
theorem dX6_lay_151 : decode cX6_lay 151 = .ok (.ifCond .eq 16, 3) := by decide +kernel
theorem dX6_lay_154 : decode cX6_lay 154 = .ok (.iload_n 1, 1) := by decide +kernel
theorem dX6_lay_155 : decode cX6_lay 155 = .ok (.iconst 1, 1) := by decide +kernel
theorem dX6_lay_156 : decode cX6_lay 156 = .ok (.iadd, 1) := by decide +kernel
theorem dX6_lay_157 : decode cX6_lay 157 = .ok (.iload 6, 2) := by decide +kernel
theorem dX6_lay_159 : decode cX6_lay 159 = .ok (.iload 7, 2) := by decide +kernel
theorem dX6_lay_161 : decode cX6_lay 161 = .ok (.invokestatic 154, 3) := by decide +kernel
theorem dX6_lay_164 : decode cX6_lay 164 = .ok (.goto 4, 3) := by decide +kernel
theorem dX6_lay_167 : decode cX6_lay 167 = .ok (.iconst (-1), 1) := by decide +kernel
theorem dX6_lay_168 : decode cX6_lay 168 = .ok (.istore 8, 2) := by decide +kernel
theorem dX6_lay_170 : decode cX6_lay 170 = .ok (.iload 8, 2) := by decide +kernel
theorem dX6_lay_172 : decode cX6_lay 172 = .ok (.iconst (-1), 1) := by decide +kernel
theorem dX6_lay_173 : decode cX6_lay 173 = .ok (.if_icmp .eq 141, 3) := by decide +kernel
theorem dX6_lay_176 : decode cX6_lay 176 = .ok (.aload_n 0, 1) := by decide +kernel
theorem dX6_lay_177 : decode cX6_lay 177 = .ok (.getfield 34, 3) := by decide +kernel
theorem dX6_lay_180 : decode cX6_lay 180 = .ok (.iload 8, 2) := by decide +kernel
theorem dX6_lay_182 : decode cX6_lay 182 = .ok (.laload, 1) := by decide +kernel
theorem dX6_lay_183 : decode cX6_lay 183 = .ok (.ldc2_w 158, 3) := by decide +kernel
theorem dX6_lay_186 : decode cX6_lay 186 = .ok (.lcmp, 1) := by decide +kernel
theorem dX6_lay_187 : decode cX6_lay 187 = .ok (.ifCond .ge 127, 3) := by decide +kernel
theorem dX6_lay_190 : decode cX6_lay 190 = .ok (.aload_n 0, 1) := by decide +kernel
theorem dX6_lay_191 : decode cX6_lay 191 = .ok (.getfield 34, 3) := by decide +kernel
theorem dX6_lay_194 : decode cX6_lay 194 = .ok (.iload 8, 2) := by decide +kernel
theorem dX6_lay_196 : decode cX6_lay 196 = .ok (.laload, 1) := by decide +kernel
theorem dX6_lay_197 : decode cX6_lay 197 = .ok (.iload_n 2, 1) := by decide +kernel
theorem dX6_lay_198 : decode cX6_lay 198 = .ok (.iload_n 2, 1) := by decide +kernel
theorem dX6_lay_199 : decode cX6_lay 199 = .ok (.imul, 1) := by decide +kernel
theorem dX6_lay_200 : decode cX6_lay 200 = .ok (.i2l, 1) := by decide +kernel
theorem dX6_lay_201 : decode cX6_lay 201 = .ok (.ladd, 1) := by decide +kernel
theorem dX6_lay_202 : decode cX6_lay 202 = .ok (.ldc2_w 171, 3) := by decide +kernel
theorem dX6_lay_205 : decode cX6_lay 205 = .ok (.aload_n 0, 1) := by decide +kernel
theorem dX6_lay_206 : decode cX6_lay 206 = .ok (.iload_n 1, 1) := by decide +kernel
theorem dX6_lay_207 : decode cX6_lay 207 = .ok (.iload_n 2, 1) := by decide +kernel
theorem dX6_lay_208 : decode cX6_lay 208 = .ok (.iload 6, 2) := by decide +kernel
theorem dX6_lay_210 : decode cX6_lay 210 = .ok (.invokevirtual 173, 3) := by decide +kernel
theorem dX6_lay_213 : decode cX6_lay 213 = .ok (.lmul, 1) := by decide +kernel
theorem dX6_lay_214 : decode cX6_lay 214 = .ok (.ladd, 1) := by decide +kernel
theorem dX6_lay_215 : decode cX6_lay 215 = .ok (.lstore 9, 2) := by decide +kernel
theorem dX6_lay_217 : decode cX6_lay 217 = .ok (.lload 9, 2) := by decide +kernel
theorem dX6_lay_219 : decode cX6_lay 219 = .ok (.aload_n 0, 1) := by decide +kernel
theorem dX6_lay_220 : decode cX6_lay 220 = .ok (.getfield 34, 3) := by decide +kernel
theorem dX6_lay_223 : decode cX6_lay 223 = .ok (.iload 4, 2) := by decide +kernel
theorem dX6_lay_225 : decode cX6_lay 225 = .ok (.laload, 1) := by decide +kernel
theorem dX6_lay_226 : decode cX6_lay 226 = .ok (.lcmp, 1) := by decide +kernel
theorem dX6_lay_227 : decode cX6_lay 227 = .ok (.ifCond .ge 7, 3) := by decide +kernel
theorem dX6_lay_230 : decode cX6_lay 230 = .ok (.iconst 0, 1) := by decide +kernel
theorem dX6_lay_231 : decode cX6_lay 231 = .ok (.goto 27, 3) := by decide +kernel
theorem dX6_lay_234 : decode cX6_lay 234 = .ok (.lload 9, 2) := by decide +kernel
theorem dX6_lay_236 : decode cX6_lay 236 = .ok (.aload_n 0, 1) := by decide +kernel
theorem dX6_lay_237 : decode cX6_lay 237 = .ok (.getfield 34, 3) := by decide +kernel
theorem dX6_lay_240 : decode cX6_lay 240 = .ok (.iload 4, 2) := by decide +kernel
theorem dX6_lay_242 : decode cX6_lay 242 = .ok (.laload, 1) := by decide +kernel
theorem dX6_lay_243 : decode cX6_lay 243 = .ok (.lcmp, 1) := by decide +kernel
theorem dX6_lay_244 : decode cX6_lay 244 = .ok (.ifCond .ne 13, 3) := by decide +kernel
theorem dX6_lay_247 : decode cX6_lay 247 = .ok (.aload_n 0, 1) := by decide +kernel
theorem dX6_lay_248 : decode cX6_lay 248 = .ok (.getfield 38, 3) := by decide +kernel
theorem dX6_lay_251 : decode cX6_lay 251 = .ok (.iload 4, 2) := by decide +kernel
theorem dX6_lay_253 : decode cX6_lay 253 = .ok (.iaload, 1) := by decide +kernel
theorem dX6_lay_254 : decode cX6_lay 254 = .ok (.goto 4, 3) := by decide +kernel
theorem dX6_lay_257 : decode cX6_lay 257 = .ok (.iconst (-1), 1) := by decide +kernel
theorem dX6_lay_258 : decode cX6_lay 258 = .ok (.istore 11, 2) := by decide +kernel
theorem dX6_lay_260 : decode cX6_lay 260 = .ok (.iload 11, 2) := by decide +kernel
theorem dX6_lay_262 : decode cX6_lay 262 = .ok (.iconst (-1), 1) := by decide +kernel
theorem dX6_lay_263 : decode cX6_lay 263 = .ok (.if_icmp .eq 51, 3) := by decide +kernel
theorem dX6_lay_266 : decode cX6_lay 266 = .ok (.aload_n 0, 1) := by decide +kernel
theorem dX6_lay_267 : decode cX6_lay 267 = .ok (.getfield 34, 3) := by decide +kernel
theorem dX6_lay_270 : decode cX6_lay 270 = .ok (.iload 4, 2) := by decide +kernel
theorem dX6_lay_272 : decode cX6_lay 272 = .ok (.lload 9, 2) := by decide +kernel
theorem dX6_lay_274 : decode cX6_lay 274 = .ok (.lastore, 1) := by decide +kernel
theorem dX6_lay_275 : decode cX6_lay 275 = .ok (.aload_n 0, 1) := by decide +kernel
theorem dX6_lay_276 : decode cX6_lay 276 = .ok (.getfield 38, 3) := by decide +kernel
theorem dX6_lay_279 : decode cX6_lay 279 = .ok (.iload 4, 2) := by decide +kernel
theorem dX6_lay_281 : decode cX6_lay 281 = .ok (.iload 11, 2) := by decide +kernel
theorem dX6_lay_283 : decode cX6_lay 283 = .ok (.aload_n 0, 1) := by decide +kernel
theorem dX6_lay_284 : decode cX6_lay 284 = .ok (.getfield 38, 3) := by decide +kernel
theorem dX6_lay_287 : decode cX6_lay 287 = .ok (.iload 8, 2) := by decide +kernel
theorem dX6_lay_289 : decode cX6_lay 289 = .ok (.iaload, 1) := by decide +kernel
theorem dX6_lay_290 : decode cX6_lay 290 = .ok (.iadd, 1) := by decide +kernel
theorem dX6_lay_291 : decode cX6_lay 291 = .ok (.sipush 9999, 3) := by decide +kernel
theorem dX6_lay_294 : decode cX6_lay 294 = .ok (.if_icmp .le 9, 3) := by decide +kernel
theorem dX6_lay_297 : decode cX6_lay 297 = .ok (.sipush 9999, 3) := by decide +kernel
theorem dX6_lay_300 : decode cX6_lay 300 = .ok (.goto 13, 3) := by decide +kernel
theorem dX6_lay_303 : decode cX6_lay 303 = .ok (.iload 11, 2) := by decide +kernel
theorem dX6_lay_305 : decode cX6_lay 305 = .ok (.aload_n 0, 1) := by decide +kernel
theorem dX6_lay_306 : decode cX6_lay 306 = .ok (.getfield 38, 3) := by decide +kernel
theorem dX6_lay_309 : decode cX6_lay 309 = .ok (.iload 8, 2) := by decide +kernel
theorem dX6_lay_311 : decode cX6_lay 311 = .ok (.iaload, 1) := by decide +kernel
theorem dX6_lay_312 : decode cX6_lay 312 = .ok (.iadd, 1) := by decide +kernel
theorem dX6_lay_313 : decode cX6_lay 313 = .ok (.iastore, 1) := by decide +kernel
theorem dX6_lay_314 : decode cX6_lay 314 = .ok (.iinc 6 1, 3) := by decide +kernel
theorem dX6_lay_317 : decode cX6_lay 317 = .ok (.goto (-195), 3) := by decide +kernel
theorem dX6_lay_320 : decode cX6_lay 320 = .ok (.return_, 1) := by decide +kernel
theorem dX6_find_0 : decode cX6_find 0 = .ok (.aload_n 0, 1) := by decide +kernel
theorem dX6_find_1 : decode cX6_find 1 = .ok (.iload_n 1, 1) := by decide +kernel
theorem dX6_find_2 : decode cX6_find 2 = .ok (.putfield 144, 3) := by decide +kernel
theorem dX6_find_5 : decode cX6_find 5 = .ok (.aload_n 0, 1) := by decide +kernel
theorem dX6_find_6 : decode cX6_find 6 = .ok (.iload_n 2, 1) := by decide +kernel
theorem dX6_find_7 : decode cX6_find 7 = .ok (.putfield 141, 3) := by decide +kernel
theorem dX6_find_10 : decode cX6_find 10 = .ok (.aload_n 0, 1) := by decide +kernel
theorem dX6_find_11 : decode cX6_find 11 = .ok (.getfield 7, 3) := by decide +kernel
theorem dX6_find_14 : decode cX6_find 14 = .ok (.iconst 0, 1) := by decide +kernel
theorem dX6_find_15 : decode cX6_find 15 = .ok (.iaload, 1) := by decide +kernel
theorem dX6_find_16 : decode cX6_find 16 = .ok (.istore_n 3, 1) := by decide +kernel
theorem dX6_find_17 : decode cX6_find 17 = .ok (.iload_n 3, 1) := by decide +kernel
theorem dX6_find_18 : decode cX6_find 18 = .ok (.iconst 1, 1) := by decide +kernel
theorem dX6_find_19 : decode cX6_find 19 = .ok (.isub, 1) := by decide +kernel
theorem dX6_find_20 : decode cX6_find 20 = .ok (.istore 4, 2) := by decide +kernel
theorem dX6_find_22 : decode cX6_find 22 = .ok (.iload 4, 2) := by decide +kernel
theorem dX6_find_24 : decode cX6_find 24 = .ok (.ifCond .lt 67, 3) := by decide +kernel
theorem dX6_find_27 : decode cX6_find 27 = .ok (.bipush (-8), 2) := by decide +kernel
theorem dX6_find_29 : decode cX6_find 29 = .ok (.istore 5, 2) := by decide +kernel
theorem dX6_find_31 : decode cX6_find 31 = .ok (.iload 5, 2) := by decide +kernel
theorem dX6_find_33 : decode cX6_find 33 = .ok (.bipush 8, 2) := by decide +kernel
theorem dX6_find_35 : decode cX6_find 35 = .ok (.if_icmp .gt 50, 3) := by decide +kernel
theorem dX6_find_38 : decode cX6_find 38 = .ok (.bipush (-32), 2) := by decide +kernel
theorem dX6_find_40 : decode cX6_find 40 = .ok (.istore 6, 2) := by decide +kernel
theorem dX6_find_42 : decode cX6_find 42 = .ok (.iload 6, 2) := by decide +kernel
theorem dX6_find_44 : decode cX6_find 44 = .ok (.bipush 32, 2) := by decide +kernel
theorem dX6_find_46 : decode cX6_find 46 = .ok (.if_icmp .gt 33, 3) := by decide +kernel
theorem dX6_find_49 : decode cX6_find 49 = .ok (.aload_n 0, 1) := by decide +kernel
theorem dX6_find_50 : decode cX6_find 50 = .ok (.iload 4, 2) := by decide +kernel
theorem dX6_find_52 : decode cX6_find 52 = .ok (.invokevirtual 151, 3) := by decide +kernel
theorem dX6_find_55 : decode cX6_find 55 = .ok (.ifCond .ne 8, 3) := by decide +kernel
theorem dX6_find_58 : decode cX6_find 58 = .ok (.iload 6, 2) := by decide +kernel
theorem dX6_find_60 : decode cX6_find 60 = .ok (.ifCond .ne 13, 3) := by decide +kernel
theorem dX6_find_63 : decode cX6_find 63 = .ok (.aload_n 0, 1) := by decide +kernel
theorem dX6_find_64 : decode cX6_find 64 = .ok (.iload 4, 2) := by decide +kernel
theorem dX6_find_66 : decode cX6_find 66 = .ok (.iload 5, 2) := by decide +kernel
theorem dX6_find_68 : decode cX6_find 68 = .ok (.iload 6, 2) := by decide +kernel
theorem dX6_find_70 : decode cX6_find 70 = .ok (.invokevirtual 177, 3) := by decide +kernel
theorem dX6_find_73 : decode cX6_find 73 = .ok (.iinc 6 1, 3) := by decide +kernel
theorem dX6_find_76 : decode cX6_find 76 = .ok (.goto (-34), 3) := by decide +kernel
theorem dX6_find_79 : decode cX6_find 79 = .ok (.iinc 5 1, 3) := by decide +kernel
theorem dX6_find_82 : decode cX6_find 82 = .ok (.goto (-51), 3) := by decide +kernel
theorem dX6_find_85 : decode cX6_find 85 = .ok (.iinc 4 (-1), 3) := by decide +kernel
theorem dX6_find_88 : decode cX6_find 88 = .ok (.goto (-66), 3) := by decide +kernel
theorem dX6_find_91 : decode cX6_find 91 = .ok (.aload_n 0, 1) := by decide +kernel
theorem dX6_find_92 : decode cX6_find 92 = .ok (.iload_n 3, 1) := by decide +kernel
theorem dX6_find_93 : decode cX6_find 93 = .ok (.ifCond .ne 7, 3) := by decide +kernel
theorem dX6_find_96 : decode cX6_find 96 = .ok (.lconst 0, 1) := by decide +kernel
theorem dX6_find_97 : decode cX6_find 97 = .ok (.goto 6, 3) := by decide +kernel
theorem dX6_find_100 : decode cX6_find 100 = .ok (.ldc2_w 158, 3) := by decide +kernel
theorem dX6_find_103 : decode cX6_find 103 = .ok (.putfield 181, 3) := by decide +kernel
theorem dX6_find_106 : decode cX6_find 106 = .ok (.aload_n 0, 1) := by decide +kernel
theorem dX6_find_107 : decode cX6_find 107 = .ok (.iload_n 3, 1) := by decide +kernel
theorem dX6_find_108 : decode cX6_find 108 = .ok (.ifCond .ne 7, 3) := by decide +kernel
theorem dX6_find_111 : decode cX6_find 111 = .ok (.iconst 1, 1) := by decide +kernel
theorem dX6_find_112 : decode cX6_find 112 = .ok (.goto 4, 3) := by decide +kernel
theorem dX6_find_115 : decode cX6_find 115 = .ok (.iconst 0, 1) := by decide +kernel
theorem dX6_find_116 : decode cX6_find 116 = .ok (.putfield 185, 3) := by decide +kernel
theorem dX6_find_119 : decode cX6_find 119 = .ok (.iconst (-1), 1) := by decide +kernel
theorem dX6_find_120 : decode cX6_find 120 = .ok (.istore 4, 2) := by decide +kernel
theorem dX6_find_122 : decode cX6_find 122 = .ok (.bipush (-8), 2) := by decide +kernel
theorem dX6_find_124 : decode cX6_find 124 = .ok (.istore 5, 2) := by decide +kernel
theorem dX6_find_126 : decode cX6_find 126 = .ok (.iload 5, 2) := by decide +kernel
theorem dX6_find_128 : decode cX6_find 128 = .ok (.bipush 8, 2) := by decide +kernel
theorem dX6_find_130 : decode cX6_find 130 = .ok (.if_icmp .gt 145, 3) := by decide +kernel
theorem dX6_find_133 : decode cX6_find 133 = .ok (.iload_n 3, 1) := by decide +kernel
theorem dX6_find_134 : decode cX6_find 134 = .ok (.ifCond .le 141, 3) := by decide +kernel
theorem dX6_find_137 : decode cX6_find 137 = .ok (.iconst 0, 1) := by decide +kernel
theorem dX6_find_138 : decode cX6_find 138 = .ok (.iload 5, 2) := by decide +kernel
theorem dX6_find_140 : decode cX6_find 140 = .ok (.aload_n 0, 1) := by decide +kernel
theorem dX6_find_141 : decode cX6_find 141 = .ok (.iconst 0, 1) := by decide +kernel
theorem dX6_find_142 : decode cX6_find 142 = .ok (.invokevirtual 151, 3) := by decide +kernel
theorem dX6_find_145 : decode cX6_find 145 = .ok (.ifCond .eq 8, 3) := by decide +kernel
theorem dX6_find_148 : decode cX6_find 148 = .ok (.iload 5, 2) := by decide +kernel
theorem dX6_find_150 : decode cX6_find 150 = .ok (.goto 4, 3) := by decide +kernel
theorem dX6_find_153 : decode cX6_find 153 = .ok (.iconst 0, 1) := by decide +kernel
theorem dX6_find_154 : decode cX6_find 154 = .ok (.invokestatic 154, 3) := by decide +kernel
theorem dX6_find_157 : decode cX6_find 157 = .ok (.istore 6, 2) := by decide +kernel
theorem dX6_find_159 : decode cX6_find 159 = .ok (.aload_n 0, 1) := by decide +kernel
theorem dX6_find_160 : decode cX6_find 160 = .ok (.getfield 34, 3) := by decide +kernel
theorem dX6_find_163 : decode cX6_find 163 = .ok (.iload 6, 2) := by decide +kernel
theorem dX6_find_165 : decode cX6_find 165 = .ok (.laload, 1) := by decide +kernel
theorem dX6_find_166 : decode cX6_find 166 = .ok (.aload_n 0, 1) := by decide +kernel
theorem dX6_find_167 : decode cX6_find 167 = .ok (.getfield 181, 3) := by decide +kernel
theorem dX6_find_170 : decode cX6_find 170 = .ok (.lcmp, 1) := by decide +kernel
theorem dX6_find_171 : decode cX6_find 171 = .ok (.ifCond .ge 32, 3) := by decide +kernel
theorem dX6_find_174 : decode cX6_find 174 = .ok (.aload_n 0, 1) := by decide +kernel
theorem dX6_find_175 : decode cX6_find 175 = .ok (.aload_n 0, 1) := by decide +kernel
theorem dX6_find_176 : decode cX6_find 176 = .ok (.getfield 34, 3) := by decide +kernel
theorem dX6_find_179 : decode cX6_find 179 = .ok (.iload 6, 2) := by decide +kernel
theorem dX6_find_181 : decode cX6_find 181 = .ok (.laload, 1) := by decide +kernel
theorem dX6_find_182 : decode cX6_find 182 = .ok (.putfield 181, 3) := by decide +kernel
theorem dX6_find_185 : decode cX6_find 185 = .ok (.aload_n 0, 1) := by decide +kernel
theorem dX6_find_186 : decode cX6_find 186 = .ok (.aload_n 0, 1) := by decide +kernel
theorem dX6_find_187 : decode cX6_find 187 = .ok (.getfield 38, 3) := by decide +kernel
theorem dX6_find_190 : decode cX6_find 190 = .ok (.iload 6, 2) := by decide +kernel
theorem dX6_find_192 : decode cX6_find 192 = .ok (.iaload, 1) := by decide +kernel
theorem dX6_find_193 : decode cX6_find 193 = .ok (.putfield 185, 3) := by decide +kernel
theorem dX6_find_196 : decode cX6_find 196 = .ok (.iload 5, 2) := by decide +kernel
theorem dX6_find_198 : decode cX6_find 198 = .ok (.istore 4, 2) := by decide +kernel
theorem dX6_find_200 : decode cX6_find 200 = .ok (.goto 69, 3) := by decide +kernel
theorem dX6_find_203 : decode cX6_find 203 = .ok (.aload_n 0, 1) := by decide +kernel
theorem dX6_find_204 : decode cX6_find 204 = .ok (.getfield 34, 3) := by decide +kernel
theorem dX6_find_207 : decode cX6_find 207 = .ok (.iload 6, 2) := by decide +kernel
theorem dX6_find_209 : decode cX6_find 209 = .ok (.laload, 1) := by decide +kernel
theorem dX6_find_210 : decode cX6_find 210 = .ok (.aload_n 0, 1) := by decide +kernel
theorem dX6_find_211 : decode cX6_find 211 = .ok (.getfield 181, 3) := by decide +kernel
theorem dX6_find_214 : decode cX6_find 214 = .ok (.lcmp, 1) := by decide +kernel
theorem dX6_find_215 : decode cX6_find 215 = .ok (.ifCond .ne 54, 3) := by decide +kernel
theorem dX6_find_218 : decode cX6_find 218 = .ok (.aload_n 0, 1) := by decide +kernel
theorem dX6_find_219 : decode cX6_find 219 = .ok (.getfield 181, 3) := by decide +kernel
theorem dX6_find_222 : decode cX6_find 222 = .ok (.ldc2_w 158, 3) := by decide +kernel
theorem dX6_find_225 : decode cX6_find 225 = .ok (.lcmp, 1) := by decide +kernel
theorem dX6_find_226 : decode cX6_find 226 = .ok (.ifCond .ge 43, 3) := by decide +kernel
theorem dX6_find_229 : decode cX6_find 229 = .ok (.aload_n 0, 1) := by decide +kernel
theorem dX6_find_230 : decode cX6_find 230 = .ok (.aload_n 0, 1) := by decide +kernel
theorem dX6_find_231 : decode cX6_find 231 = .ok (.getfield 185, 3) := by decide +kernel
theorem dX6_find_234 : decode cX6_find 234 = .ok (.aload_n 0, 1) := by decide +kernel
theorem dX6_find_235 : decode cX6_find 235 = .ok (.getfield 38, 3) := by decide +kernel
theorem dX6_find_238 : decode cX6_find 238 = .ok (.iload 6, 2) := by decide +kernel
theorem dX6_find_240 : decode cX6_find 240 = .ok (.iaload, 1) := by decide +kernel
theorem dX6_find_241 : decode cX6_find 241 = .ok (.iadd, 1) := by decide +kernel
theorem dX6_find_242 : decode cX6_find 242 = .ok (.sipush 9999, 3) := by decide +kernel
theorem dX6_find_245 : decode cX6_find 245 = .ok (.if_icmp .le 9, 3) := by decide +kernel
theorem dX6_find_248 : decode cX6_find 248 = .ok (.sipush 9999, 3) := by decide +kernel
theorem dX6_find_251 : decode cX6_find 251 = .ok (.goto 15, 3) := by decide +kernel
theorem dX6_find_254 : decode cX6_find 254 = .ok (.aload_n 0, 1) := by decide +kernel
theorem dX6_find_255 : decode cX6_find 255 = .ok (.getfield 185, 3) := by decide +kernel
theorem dX6_find_258 : decode cX6_find 258 = .ok (.aload_n 0, 1) := by decide +kernel
theorem dX6_find_259 : decode cX6_find 259 = .ok (.getfield 38, 3) := by decide +kernel
theorem dX6_find_262 : decode cX6_find 262 = .ok (.iload 6, 2) := by decide +kernel
theorem dX6_find_264 : decode cX6_find 264 = .ok (.iaload, 1) := by decide +kernel
theorem dX6_find_265 : decode cX6_find 265 = .ok (.iadd, 1) := by decide +kernel
theorem dX6_find_266 : decode cX6_find 266 = .ok (.putfield 185, 3) := by decide +kernel
theorem dX6_find_269 : decode cX6_find 269 = .ok (.iinc 5 1, 3) := by decide +kernel
theorem dX6_find_272 : decode cX6_find 272 = .ok (.goto (-146), 3) := by decide +kernel
theorem dX6_find_275 : decode cX6_find 275 = .ok (.iload 4, 2) := by decide +kernel
theorem dX6_find_277 : decode cX6_find 277 = .ok (.istore 5, 2) := by decide +kernel
theorem dX6_find_279 : decode cX6_find 279 = .ok (.iload_n 3, 1) := by decide +kernel
theorem dX6_find_280 : decode cX6_find 280 = .ok (.ifCond .le 16, 3) := by decide +kernel
theorem dX6_find_283 : decode cX6_find 283 = .ok (.aload_n 0, 1) := by decide +kernel
theorem dX6_find_284 : decode cX6_find 284 = .ok (.iconst 0, 1) := by decide +kernel
theorem dX6_find_285 : decode cX6_find 285 = .ok (.invokevirtual 151, 3) := by decide +kernel
theorem dX6_find_288 : decode cX6_find 288 = .ok (.ifCond .eq 8, 3) := by decide +kernel
theorem dX6_find_291 : decode cX6_find 291 = .ok (.iload 5, 2) := by decide +kernel
theorem dX6_find_293 : decode cX6_find 293 = .ok (.goto 4, 3) := by decide +kernel
theorem dX6_find_296 : decode cX6_find 296 = .ok (.iconst 0, 1) := by decide +kernel
theorem dX6_find_297 : decode cX6_find 297 = .ok (.istore 6, 2) := by decide +kernel
theorem dX6_find_299 : decode cX6_find 299 = .ok (.iconst 0, 1) := by decide +kernel
theorem dX6_find_300 : decode cX6_find 300 = .ok (.istore 7, 2) := by decide +kernel
theorem dX6_find_302 : decode cX6_find 302 = .ok (.iload 7, 2) := by decide +kernel
theorem dX6_find_304 : decode cX6_find 304 = .ok (.iload_n 3, 1) := by decide +kernel
theorem dX6_find_305 : decode cX6_find 305 = .ok (.if_icmp .ge 75, 3) := by decide +kernel
theorem dX6_find_308 : decode cX6_find 308 = .ok (.aload_n 0, 1) := by decide +kernel
theorem dX6_find_309 : decode cX6_find 309 = .ok (.getfield 181, 3) := by decide +kernel
theorem dX6_find_312 : decode cX6_find 312 = .ok (.ldc2_w 158, 3) := by decide +kernel
theorem dX6_find_315 : decode cX6_find 315 = .ok (.lcmp, 1) := by decide +kernel
theorem dX6_find_316 : decode cX6_find 316 = .ok (.ifCond .ge 64, 3) := by decide +kernel
theorem dX6_find_319 : decode cX6_find 319 = .ok (.aload_n 0, 1) := by decide +kernel
theorem dX6_find_320 : decode cX6_find 320 = .ok (.getfield 41, 3) := by decide +kernel
theorem dX6_find_323 : decode cX6_find 323 = .ok (.iload 7, 2) := by decide +kernel
theorem dX6_find_325 : decode cX6_find 325 = .ok (.aload_n 0, 1) := by decide +kernel
theorem dX6_find_326 : decode cX6_find 326 = .ok (.getfield 7, 3) := by decide +kernel
theorem dX6_find_329 : decode cX6_find 329 = .ok (.iconst 1, 1) := by decide +kernel
theorem dX6_find_330 : decode cX6_find 330 = .ok (.iload 7, 2) := by decide +kernel
theorem dX6_find_332 : decode cX6_find 332 = .ok (.iadd, 1) := by decide +kernel
theorem dX6_find_333 : decode cX6_find 333 = .ok (.iaload, 1) := by decide +kernel
theorem dX6_find_334 : decode cX6_find 334 = .ok (.iload 5, 2) := by decide +kernel
theorem dX6_find_336 : decode cX6_find 336 = .ok (.iadd, 1) := by decide +kernel
theorem dX6_find_337 : decode cX6_find 337 = .ok (.iastore, 1) := by decide +kernel
theorem dX6_find_338 : decode cX6_find 338 = .ok (.iload 7, 2) := by decide +kernel
theorem dX6_find_340 : decode cX6_find 340 = .ok (.iconst 1, 1) := by decide +kernel
theorem dX6_find_341 : decode cX6_find 341 = .ok (.iadd, 1) := by decide +kernel
theorem dX6_find_342 : decode cX6_find 342 = .ok (.iload_n 3, 1) := by decide +kernel
theorem dX6_find_343 : decode cX6_find 343 = .ok (.if_icmp .ge 31, 3) := by decide +kernel
theorem dX6_find_346 : decode cX6_find 346 = .ok (.aload_n 0, 1) := by decide +kernel
theorem dX6_find_347 : decode cX6_find 347 = .ok (.iload 7, 2) := by decide +kernel
theorem dX6_find_349 : decode cX6_find 349 = .ok (.iload 5, 2) := by decide +kernel
theorem dX6_find_351 : decode cX6_find 351 = .ok (.iload 6, 2) := by decide +kernel
theorem dX6_find_353 : decode cX6_find 353 = .ok (.invokevirtual 188, 3) := by decide +kernel
theorem dX6_find_356 : decode cX6_find 356 = .ok (.istore 8, 2) := by decide +kernel
theorem dX6_find_358 : decode cX6_find 358 = .ok (.aload_n 0, 1) := by decide +kernel
theorem dX6_find_359 : decode cX6_find 359 = .ok (.iload 7, 2) := by decide +kernel
theorem dX6_find_361 : decode cX6_find 361 = .ok (.iload 6, 2) := by decide +kernel
theorem dX6_find_363 : decode cX6_find 363 = .ok (.iload 8, 2) := by decide +kernel
theorem dX6_find_365 : decode cX6_find 365 = .ok (.invokevirtual 164, 3) := by decide +kernel
theorem dX6_find_368 : decode cX6_find 368 = .ok (.istore 6, 2) := by decide +kernel
theorem dX6_find_370 : decode cX6_find 370 = .ok (.iload 8, 2) := by decide +kernel
theorem dX6_find_372 : decode cX6_find 372 = .ok (.istore 5, 2) := by decide +kernel
theorem dX6_find_374 : decode cX6_find 374 = .ok (.iinc 7 1, 3) := by decide +kernel
theorem dX6_find_377 : decode cX6_find 377 = .ok (.goto (-75), 3) := by decide +kernel
theorem dX6_find_380 : decode cX6_find 380 = .ok (.aload_n 0, 1) := by decide +kernel
theorem dX6_find_381 : decode cX6_find 381 = .ok (.getfield 181, 3) := by decide +kernel
theorem dX6_find_384 : decode cX6_find 384 = .ok (.ldc2_w 158, 3) := by decide +kernel
theorem dX6_find_387 : decode cX6_find 387 = .ok (.lcmp, 1) := by decide +kernel
theorem dX6_find_388 : decode cX6_find 388 = .ok (.ifCond .ge 7, 3) := by decide +kernel
theorem dX6_find_391 : decode cX6_find 391 = .ok (.iconst 1, 1) := by decide +kernel
theorem dX6_find_392 : decode cX6_find 392 = .ok (.goto 4, 3) := by decide +kernel
theorem dX6_find_395 : decode cX6_find 395 = .ok (.iconst 0, 1) := by decide +kernel
theorem dX6_find_396 : decode cX6_find 396 = .ok (.ireturn, 1) := by decide +kernel
theorem dX6_nextBest_0 : decode cX6_nextBest 0 = .ok (.bipush (-8), 2) := by decide +kernel
theorem dX6_nextBest_2 : decode cX6_nextBest 2 = .ok (.istore 4, 2) := by decide +kernel
theorem dX6_nextBest_4 : decode cX6_nextBest 4 = .ok (.aload_n 0, 1) := by decide +kernel
theorem dX6_nextBest_5 : decode cX6_nextBest 5 = .ok (.iload_n 1, 1) := by decide +kernel
theorem dX6_nextBest_6 : decode cX6_nextBest 6 = .ok (.iload_n 3, 1) := by decide +kernel
theorem dX6_nextBest_7 : decode cX6_nextBest 7 = .ok (.iload 4, 2) := by decide +kernel
theorem dX6_nextBest_9 : decode cX6_nextBest 9 = .ok (.invokevirtual 164, 3) := by decide +kernel
theorem dX6_nextBest_12 : decode cX6_nextBest 12 = .ok (.istore 5, 2) := by decide +kernel
theorem dX6_nextBest_14 : decode cX6_nextBest 14 = .ok (.iload 5, 2) := by decide +kernel
theorem dX6_nextBest_16 : decode cX6_nextBest 16 = .ok (.i2l, 1) := by decide +kernel
theorem dX6_nextBest_17 : decode cX6_nextBest 17 = .ok (.ldc2_w 167, 3) := by decide +kernel
theorem dX6_nextBest_20 : decode cX6_nextBest 20 = .ok (.ldc2_w 169, 3) := by decide +kernel
theorem dX6_nextBest_23 : decode cX6_nextBest 23 = .ok (.invokestatic 62, 3) := by decide +kernel
theorem dX6_nextBest_26 : decode cX6_nextBest 26 = .ok (.ifCond .eq 76, 3) := by decide +kernel
theorem dX6_nextBest_29 : decode cX6_nextBest 29 = .ok (.aload_n 0, 1) := by decide +kernel
theorem dX6_nextBest_30 : decode cX6_nextBest 30 = .ok (.getfield 34, 3) := by decide +kernel
theorem dX6_nextBest_33 : decode cX6_nextBest 33 = .ok (.iload_n 1, 1) := by decide +kernel
theorem dX6_nextBest_34 : decode cX6_nextBest 34 = .ok (.iconst 1, 1) := by decide +kernel
theorem dX6_nextBest_35 : decode cX6_nextBest 35 = .ok (.iadd, 1) := by decide +kernel
theorem dX6_nextBest_36 : decode cX6_nextBest 36 = .ok (.iload 4, 2) := by decide +kernel
theorem dX6_nextBest_38 : decode cX6_nextBest 38 = .ok (.iload 5, 2) := by decide +kernel
theorem dX6_nextBest_40 : decode cX6_nextBest 40 = .ok (.invokestatic 154, 3) := by decide +kernel
theorem dX6_nextBest_43 : decode cX6_nextBest 43 = .ok (.laload, 1) := by decide +kernel
theorem dX6_nextBest_44 : decode cX6_nextBest 44 = .ok (.ldc2_w 158, 3) := by decide +kernel
theorem dX6_nextBest_47 : decode cX6_nextBest 47 = .ok (.lcmp, 1) := by decide +kernel
theorem dX6_nextBest_48 : decode cX6_nextBest 48 = .ok (.ifCond .ge 54, 3) := by decide +kernel
theorem dX6_nextBest_51 : decode cX6_nextBest 51 = .ok (.aload_n 0, 1) := by decide +kernel
theorem dX6_nextBest_52 : decode cX6_nextBest 52 = .ok (.getfield 34, 3) := by decide +kernel
theorem dX6_nextBest_55 : decode cX6_nextBest 55 = .ok (.iload_n 1, 1) := by decide +kernel
theorem dX6_nextBest_56 : decode cX6_nextBest 56 = .ok (.iconst 1, 1) := by decide +kernel
theorem dX6_nextBest_57 : decode cX6_nextBest 57 = .ok (.iadd, 1) := by decide +kernel
theorem dX6_nextBest_58 : decode cX6_nextBest 58 = .ok (.iload 4, 2) := by decide +kernel
theorem dX6_nextBest_60 : decode cX6_nextBest 60 = .ok (.iload 5, 2) := by decide +kernel
theorem dX6_nextBest_62 : decode cX6_nextBest 62 = .ok (.invokestatic 154, 3) := by decide +kernel
theorem dX6_nextBest_65 : decode cX6_nextBest 65 = .ok (.laload, 1) := by decide +kernel
theorem dX6_nextBest_66 : decode cX6_nextBest 66 = .ok (.iload_n 2, 1) := by decide +kernel
theorem dX6_nextBest_67 : decode cX6_nextBest 67 = .ok (.iload_n 2, 1) := by decide +kernel
theorem dX6_nextBest_68 : decode cX6_nextBest 68 = .ok (.imul, 1) := by decide +kernel
theorem dX6_nextBest_69 : decode cX6_nextBest 69 = .ok (.i2l, 1) := by decide +kernel
theorem dX6_nextBest_70 : decode cX6_nextBest 70 = .ok (.ladd, 1) := by decide +kernel
theorem dX6_nextBest_71 : decode cX6_nextBest 71 = .ok (.ldc2_w 171, 3) := by decide +kernel
theorem dX6_nextBest_74 : decode cX6_nextBest 74 = .ok (.aload_n 0, 1) := by decide +kernel
theorem dX6_nextBest_75 : decode cX6_nextBest 75 = .ok (.iload_n 1, 1) := by decide +kernel
theorem dX6_nextBest_76 : decode cX6_nextBest 76 = .ok (.iload_n 2, 1) := by decide +kernel
theorem dX6_nextBest_77 : decode cX6_nextBest 77 = .ok (.iload 4, 2) := by decide +kernel
theorem dX6_nextBest_79 : decode cX6_nextBest 79 = .ok (.invokevirtual 173, 3) := by decide +kernel
theorem dX6_nextBest_82 : decode cX6_nextBest 82 = .ok (.lmul, 1) := by decide +kernel
theorem dX6_nextBest_83 : decode cX6_nextBest 83 = .ok (.ladd, 1) := by decide +kernel
theorem dX6_nextBest_84 : decode cX6_nextBest 84 = .ok (.aload_n 0, 1) := by decide +kernel
theorem dX6_nextBest_85 : decode cX6_nextBest 85 = .ok (.getfield 34, 3) := by decide +kernel
theorem dX6_nextBest_88 : decode cX6_nextBest 88 = .ok (.iload_n 1, 1) := by decide +kernel
theorem dX6_nextBest_89 : decode cX6_nextBest 89 = .ok (.iload_n 2, 1) := by decide +kernel
theorem dX6_nextBest_90 : decode cX6_nextBest 90 = .ok (.iload_n 3, 1) := by decide +kernel
theorem dX6_nextBest_91 : decode cX6_nextBest 91 = .ok (.invokestatic 154, 3) := by decide +kernel
theorem dX6_nextBest_94 : decode cX6_nextBest 94 = .ok (.laload, 1) := by decide +kernel
theorem dX6_nextBest_95 : decode cX6_nextBest 95 = .ok (.lcmp, 1) := by decide +kernel
theorem dX6_nextBest_96 : decode cX6_nextBest 96 = .ok (.ifCond .ne 6, 3) := by decide +kernel
theorem dX6_nextBest_99 : decode cX6_nextBest 99 = .ok (.iload 4, 2) := by decide +kernel
theorem dX6_nextBest_101 : decode cX6_nextBest 101 = .ok (.ireturn, 1) := by decide +kernel
theorem dX6_nextBest_102 : decode cX6_nextBest 102 = .ok (.iinc 4 1, 3) := by decide +kernel
theorem dX6_nextBest_105 : decode cX6_nextBest 105 = .ok (.goto (-101), 3) := by decide +kernel
theorem dX6_bend_0 : decode cX6_bend 0 = .ok (.aload_n 0, 1) := by decide +kernel
theorem dX6_bend_1 : decode cX6_bend 1 = .ok (.aload_n 0, 1) := by decide +kernel
theorem dX6_bend_2 : decode cX6_bend 2 = .ok (.getfield 7, 3) := by decide +kernel
theorem dX6_bend_5 : decode cX6_bend 5 = .ok (.bipush 29, 2) := by decide +kernel
theorem dX6_bend_7 : decode cX6_bend 7 = .ok (.iaload, 1) := by decide +kernel
theorem dX6_bend_8 : decode cX6_bend 8 = .ok (.iconst (-1), 1) := by decide +kernel
theorem dX6_bend_9 : decode cX6_bend 9 = .ok (.invokevirtual 191, 3) := by decide +kernel
theorem dX6_bend_12 : decode cX6_bend 12 = .ok (.ireturn, 1) := by decide +kernel
theorem dX6_movedBy_0 : decode cX6_movedBy 0 = .ok (.lconst 0, 1) := by decide +kernel
theorem dX6_movedBy_1 : decode cX6_movedBy 1 = .ok (.lstore_n 3, 1) := by decide +kernel
theorem dX6_movedBy_2 : decode cX6_movedBy 2 = .ok (.iconst 1, 1) := by decide +kernel
theorem dX6_movedBy_3 : decode cX6_movedBy 3 = .ok (.istore 5, 2) := by decide +kernel
theorem dX6_movedBy_5 : decode cX6_movedBy 5 = .ok (.iload 5, 2) := by decide +kernel
theorem dX6_movedBy_7 : decode cX6_movedBy 7 = .ok (.aload_n 0, 1) := by decide +kernel
theorem dX6_movedBy_8 : decode cX6_movedBy 8 = .ok (.getfield 7, 3) := by decide +kernel
theorem dX6_movedBy_11 : decode cX6_movedBy 11 = .ok (.iconst 0, 1) := by decide +kernel
theorem dX6_movedBy_12 : decode cX6_movedBy 12 = .ok (.iaload, 1) := by decide +kernel
theorem dX6_movedBy_13 : decode cX6_movedBy 13 = .ok (.if_icmp .ge 88, 3) := by decide +kernel
theorem dX6_movedBy_16 : decode cX6_movedBy 16 = .ok (.aload_n 0, 1) := by decide +kernel
theorem dX6_movedBy_17 : decode cX6_movedBy 17 = .ok (.getfield 7, 3) := by decide +kernel
theorem dX6_movedBy_20 : decode cX6_movedBy 20 = .ok (.iconst 1, 1) := by decide +kernel
theorem dX6_movedBy_21 : decode cX6_movedBy 21 = .ok (.iload 5, 2) := by decide +kernel
theorem dX6_movedBy_23 : decode cX6_movedBy 23 = .ok (.iadd, 1) := by decide +kernel
theorem dX6_movedBy_24 : decode cX6_movedBy 24 = .ok (.iconst 1, 1) := by decide +kernel
theorem dX6_movedBy_25 : decode cX6_movedBy 25 = .ok (.isub, 1) := by decide +kernel
theorem dX6_movedBy_26 : decode cX6_movedBy 26 = .ok (.iaload, 1) := by decide +kernel
theorem dX6_movedBy_27 : decode cX6_movedBy 27 = .ok (.istore 6, 2) := by decide +kernel
theorem dX6_movedBy_29 : decode cX6_movedBy 29 = .ok (.aload_n 0, 1) := by decide +kernel
theorem dX6_movedBy_30 : decode cX6_movedBy 30 = .ok (.getfield 7, 3) := by decide +kernel
theorem dX6_movedBy_33 : decode cX6_movedBy 33 = .ok (.iconst 1, 1) := by decide +kernel
theorem dX6_movedBy_34 : decode cX6_movedBy 34 = .ok (.iload 5, 2) := by decide +kernel
theorem dX6_movedBy_36 : decode cX6_movedBy 36 = .ok (.iadd, 1) := by decide +kernel
theorem dX6_movedBy_37 : decode cX6_movedBy 37 = .ok (.iaload, 1) := by decide +kernel
theorem dX6_movedBy_38 : decode cX6_movedBy 38 = .ok (.istore 7, 2) := by decide +kernel
theorem dX6_movedBy_40 : decode cX6_movedBy 40 = .ok (.lload_n 3, 1) := by decide +kernel
theorem dX6_movedBy_41 : decode cX6_movedBy 41 = .ok (.iload_n 1, 1) := by decide +kernel
theorem dX6_movedBy_42 : decode cX6_movedBy 42 = .ok (.ifCond .ne 27, 3) := by decide +kernel
theorem dX6_movedBy_45 : decode cX6_movedBy 45 = .ok (.aload_n 2, 1) := by decide +kernel
theorem dX6_movedBy_46 : decode cX6_movedBy 46 = .ok (.iload 5, 2) := by decide +kernel
theorem dX6_movedBy_48 : decode cX6_movedBy 48 = .ok (.iaload, 1) := by decide +kernel
theorem dX6_movedBy_49 : decode cX6_movedBy 49 = .ok (.iload 7, 2) := by decide +kernel
theorem dX6_movedBy_51 : decode cX6_movedBy 51 = .ok (.isub, 1) := by decide +kernel
theorem dX6_movedBy_52 : decode cX6_movedBy 52 = .ok (.aload_n 2, 1) := by decide +kernel
theorem dX6_movedBy_53 : decode cX6_movedBy 53 = .ok (.iload 5, 2) := by decide +kernel
theorem dX6_movedBy_55 : decode cX6_movedBy 55 = .ok (.iconst 1, 1) := by decide +kernel
theorem dX6_movedBy_56 : decode cX6_movedBy 56 = .ok (.isub, 1) := by decide +kernel
theorem dX6_movedBy_57 : decode cX6_movedBy 57 = .ok (.iaload, 1) := by decide +kernel
theorem dX6_movedBy_58 : decode cX6_movedBy 58 = .ok (.isub, 1) := by decide +kernel
theorem dX6_movedBy_59 : decode cX6_movedBy 59 = .ok (.iload 6, 2) := by decide +kernel
theorem dX6_movedBy_61 : decode cX6_movedBy 61 = .ok (.iadd, 1) := by decide +kernel
theorem dX6_movedBy_62 : decode cX6_movedBy 62 = .ok (.i2l, 1) := by decide +kernel
theorem dX6_movedBy_63 : decode cX6_movedBy 63 = .ok (.invokestatic 147, 3) := by decide +kernel
theorem dX6_movedBy_66 : decode cX6_movedBy 66 = .ok (.goto 27, 3) := by decide +kernel
theorem dX6_movedBy_69 : decode cX6_movedBy 69 = .ok (.aload_n 2, 1) := by decide +kernel
theorem dX6_movedBy_70 : decode cX6_movedBy 70 = .ok (.iload 5, 2) := by decide +kernel
theorem dX6_movedBy_72 : decode cX6_movedBy 72 = .ok (.iaload, 1) := by decide +kernel
theorem dX6_movedBy_73 : decode cX6_movedBy 73 = .ok (.i2l, 1) := by decide +kernel
theorem dX6_movedBy_74 : decode cX6_movedBy 74 = .ok (.iload 6, 2) := by decide +kernel
theorem dX6_movedBy_76 : decode cX6_movedBy 76 = .ok (.i2l, 1) := by decide +kernel
theorem dX6_movedBy_77 : decode cX6_movedBy 77 = .ok (.lmul, 1) := by decide +kernel
theorem dX6_movedBy_78 : decode cX6_movedBy 78 = .ok (.aload_n 2, 1) := by decide +kernel
theorem dX6_movedBy_79 : decode cX6_movedBy 79 = .ok (.iload 5, 2) := by decide +kernel
theorem dX6_movedBy_81 : decode cX6_movedBy 81 = .ok (.iconst 1, 1) := by decide +kernel
theorem dX6_movedBy_82 : decode cX6_movedBy 82 = .ok (.isub, 1) := by decide +kernel
theorem dX6_movedBy_83 : decode cX6_movedBy 83 = .ok (.iaload, 1) := by decide +kernel
theorem dX6_movedBy_84 : decode cX6_movedBy 84 = .ok (.i2l, 1) := by decide +kernel
theorem dX6_movedBy_85 : decode cX6_movedBy 85 = .ok (.iload 7, 2) := by decide +kernel
theorem dX6_movedBy_87 : decode cX6_movedBy 87 = .ok (.i2l, 1) := by decide +kernel
theorem dX6_movedBy_88 : decode cX6_movedBy 88 = .ok (.lmul, 1) := by decide +kernel
theorem dX6_movedBy_89 : decode cX6_movedBy 89 = .ok (.lsub, 1) := by decide +kernel
theorem dX6_movedBy_90 : decode cX6_movedBy 90 = .ok (.invokestatic 147, 3) := by decide +kernel
theorem dX6_movedBy_93 : decode cX6_movedBy 93 = .ok (.ladd, 1) := by decide +kernel
theorem dX6_movedBy_94 : decode cX6_movedBy 94 = .ok (.lstore_n 3, 1) := by decide +kernel
theorem dX6_movedBy_95 : decode cX6_movedBy 95 = .ok (.iinc 5 1, 3) := by decide +kernel
theorem dX6_movedBy_98 : decode cX6_movedBy 98 = .ok (.goto (-93), 3) := by decide +kernel
theorem dX6_movedBy_101 : decode cX6_movedBy 101 = .ok (.lload_n 3, 1) := by decide +kernel
theorem dX6_movedBy_102 : decode cX6_movedBy 102 = .ok (.lreturn, 1) := by decide +kernel
theorem dX6_bent_0 : decode cX6_bent 0 = .ok (.aload_n 0, 1) := by decide +kernel
theorem dX6_bent_1 : decode cX6_bent 1 = .ok (.iload_n 1, 1) := by decide +kernel
theorem dX6_bent_2 : decode cX6_bent 2 = .ok (.invokevirtual 70, 3) := by decide +kernel
theorem dX6_bent_5 : decode cX6_bent 5 = .ok (.ifCond .ne 10, 3) := by decide +kernel
theorem dX6_bent_8 : decode cX6_bent 8 = .ok (.aload_n 0, 1) := by decide +kernel
theorem dX6_bent_9 : decode cX6_bent 9 = .ok (.bipush (-2), 2) := by decide +kernel
theorem dX6_bent_11 : decode cX6_bent 11 = .ok (.invokevirtual 54, 3) := by decide +kernel
theorem dX6_bent_14 : decode cX6_bent 14 = .ok (.ireturn, 1) := by decide +kernel
theorem dX6_bent_15 : decode cX6_bent 15 = .ok (.aload_n 0, 1) := by decide +kernel
theorem dX6_bent_16 : decode cX6_bent 16 = .ok (.invokevirtual 86, 3) := by decide +kernel
theorem dX6_bent_19 : decode cX6_bent 19 = .ok (.ifCond .eq 15, 3) := by decide +kernel
theorem dX6_bent_22 : decode cX6_bent 22 = .ok (.aload_n 0, 1) := by decide +kernel
theorem dX6_bent_23 : decode cX6_bent 23 = .ok (.getfield 41, 3) := by decide +kernel
theorem dX6_bent_26 : decode cX6_bent 26 = .ok (.iload_n 1, 1) := by decide +kernel
theorem dX6_bent_27 : decode cX6_bent 27 = .ok (.iaload, 1) := by decide +kernel
theorem dX6_bent_28 : decode cX6_bent 28 = .ok (.bipush 8, 2) := by decide +kernel
theorem dX6_bent_30 : decode cX6_bent 30 = .ok (.iadd, 1) := by decide +kernel
theorem dX6_bent_31 : decode cX6_bent 31 = .ok (.goto 9, 3) := by decide +kernel
theorem dX6_bent_34 : decode cX6_bent 34 = .ok (.aload_n 0, 1) := by decide +kernel
theorem dX6_bent_35 : decode cX6_bent 35 = .ok (.bipush (-3), 2) := by decide +kernel
theorem dX6_bent_37 : decode cX6_bent 37 = .ok (.invokevirtual 54, 3) := by decide +kernel
theorem dX6_bent_40 : decode cX6_bent 40 = .ok (.ireturn, 1) := by decide +kernel
theorem dX6_moved_0 : decode cX6_moved 0 = .ok (.iload_n 1, 1) := by decide +kernel
theorem dX6_moved_1 : decode cX6_moved 1 = .ok (.i2l, 1) := by decide +kernel
theorem dX6_moved_2 : decode cX6_moved 2 = .ok (.lconst 0, 1) := by decide +kernel
theorem dX6_moved_3 : decode cX6_moved 3 = .ok (.lconst 1, 1) := by decide +kernel
theorem dX6_moved_4 : decode cX6_moved 4 = .ok (.invokestatic 62, 3) := by decide +kernel
theorem dX6_moved_7 : decode cX6_moved 7 = .ok (.ifCond .ne 11, 3) := by decide +kernel
theorem dX6_moved_10 : decode cX6_moved 10 = .ok (.aload_n 0, 1) := by decide +kernel
theorem dX6_moved_11 : decode cX6_moved 11 = .ok (.bipush (-2), 2) := by decide +kernel
theorem dX6_moved_13 : decode cX6_moved 13 = .ok (.invokevirtual 54, 3) := by decide +kernel
theorem dX6_moved_16 : decode cX6_moved 16 = .ok (.i2l, 1) := by decide +kernel
theorem dX6_moved_17 : decode cX6_moved 17 = .ok (.lreturn, 1) := by decide +kernel
theorem dX6_moved_18 : decode cX6_moved 18 = .ok (.aload_n 0, 1) := by decide +kernel
theorem dX6_moved_19 : decode cX6_moved 19 = .ok (.invokevirtual 86, 3) := by decide +kernel
theorem dX6_moved_22 : decode cX6_moved 22 = .ok (.ifCond .eq 15, 3) := by decide +kernel
theorem dX6_moved_25 : decode cX6_moved 25 = .ok (.aload_n 0, 1) := by decide +kernel
theorem dX6_moved_26 : decode cX6_moved 26 = .ok (.iload_n 1, 1) := by decide +kernel
theorem dX6_moved_27 : decode cX6_moved 27 = .ok (.aload_n 0, 1) := by decide +kernel
theorem dX6_moved_28 : decode cX6_moved 28 = .ok (.getfield 41, 3) := by decide +kernel
theorem dX6_moved_31 : decode cX6_moved 31 = .ok (.invokevirtual 194, 3) := by decide +kernel
theorem dX6_moved_34 : decode cX6_moved 34 = .ok (.goto 10, 3) := by decide +kernel
theorem dX6_moved_37 : decode cX6_moved 37 = .ok (.aload_n 0, 1) := by decide +kernel
theorem dX6_moved_38 : decode cX6_moved 38 = .ok (.bipush (-3), 2) := by decide +kernel
theorem dX6_moved_40 : decode cX6_moved 40 = .ok (.invokevirtual 54, 3) := by decide +kernel
theorem dX6_moved_43 : decode cX6_moved 43 = .ok (.i2l, 1) := by decide +kernel
theorem dX6_moved_44 : decode cX6_moved 44 = .ok (.lreturn, 1) := by decide +kernel
theorem dX6_revisedOf_0 : decode cX6_revisedOf 0 = .ok (.aload_n 0, 1) := by decide +kernel
theorem dX6_revisedOf_1 : decode cX6_revisedOf 1 = .ok (.getfield 41, 3) := by decide +kernel
theorem dX6_revisedOf_4 : decode cX6_revisedOf 4 = .ok (.iload_n 1, 1) := by decide +kernel
theorem dX6_revisedOf_5 : decode cX6_revisedOf 5 = .ok (.iaload, 1) := by decide +kernel
theorem dX6_revisedOf_6 : decode cX6_revisedOf 6 = .ok (.bipush 8, 2) := by decide +kernel
theorem dX6_revisedOf_8 : decode cX6_revisedOf 8 = .ok (.iadd, 1) := by decide +kernel
theorem dX6_revisedOf_9 : decode cX6_revisedOf 9 = .ok (.aload_n 0, 1) := by decide +kernel
theorem dX6_revisedOf_10 : decode cX6_revisedOf 10 = .ok (.getfield 7, 3) := by decide +kernel
theorem dX6_revisedOf_13 : decode cX6_revisedOf 13 = .ok (.bipush 16, 2) := by decide +kernel
theorem dX6_revisedOf_15 : decode cX6_revisedOf 15 = .ok (.iload_n 1, 1) := by decide +kernel
theorem dX6_revisedOf_16 : decode cX6_revisedOf 16 = .ok (.iadd, 1) := by decide +kernel
theorem dX6_revisedOf_17 : decode cX6_revisedOf 17 = .ok (.iaload, 1) := by decide +kernel
theorem dX6_revisedOf_18 : decode cX6_revisedOf 18 = .ok (.isub, 1) := by decide +kernel
theorem dX6_revisedOf_19 : decode cX6_revisedOf 19 = .ok (.istore_n 2, 1) := by decide +kernel
theorem dX6_revisedOf_20 : decode cX6_revisedOf 20 = .ok (.iload_n 2, 1) := by decide +kernel
theorem dX6_revisedOf_21 : decode cX6_revisedOf 21 = .ok (.ifCond .ge 8, 3) := by decide +kernel
theorem dX6_revisedOf_24 : decode cX6_revisedOf 24 = .ok (.iload_n 2, 1) := by decide +kernel
theorem dX6_revisedOf_25 : decode cX6_revisedOf 25 = .ok (.ineg, 1) := by decide +kernel
theorem dX6_revisedOf_26 : decode cX6_revisedOf 26 = .ok (.goto 4, 3) := by decide +kernel
theorem dX6_revisedOf_29 : decode cX6_revisedOf 29 = .ok (.iload_n 2, 1) := by decide +kernel
theorem dX6_revisedOf_30 : decode cX6_revisedOf 30 = .ok (.ireturn, 1) := by decide +kernel
theorem dX6_revised_0 : decode cX6_revised 0 = .ok (.aload_n 0, 1) := by decide +kernel
theorem dX6_revised_1 : decode cX6_revised 1 = .ok (.iload_n 1, 1) := by decide +kernel
theorem dX6_revised_2 : decode cX6_revised 2 = .ok (.invokevirtual 70, 3) := by decide +kernel
theorem dX6_revised_5 : decode cX6_revised 5 = .ok (.ifCond .ne 10, 3) := by decide +kernel
theorem dX6_revised_8 : decode cX6_revised 8 = .ok (.aload_n 0, 1) := by decide +kernel
theorem dX6_revised_9 : decode cX6_revised 9 = .ok (.bipush (-2), 2) := by decide +kernel
theorem dX6_revised_11 : decode cX6_revised 11 = .ok (.invokevirtual 54, 3) := by decide +kernel
theorem dX6_revised_14 : decode cX6_revised 14 = .ok (.ireturn, 1) := by decide +kernel
theorem dX6_revised_15 : decode cX6_revised 15 = .ok (.aload_n 0, 1) := by decide +kernel
theorem dX6_revised_16 : decode cX6_revised 16 = .ok (.invokevirtual 86, 3) := by decide +kernel
theorem dX6_revised_19 : decode cX6_revised 19 = .ok (.ifCond .eq 24, 3) := by decide +kernel
theorem dX6_revised_22 : decode cX6_revised 22 = .ok (.aload_n 0, 1) := by decide +kernel
theorem dX6_revised_23 : decode cX6_revised 23 = .ok (.getfield 7, 3) := by decide +kernel
theorem dX6_revised_26 : decode cX6_revised 26 = .ok (.bipush 16, 2) := by decide +kernel
theorem dX6_revised_28 : decode cX6_revised 28 = .ok (.iload_n 1, 1) := by decide +kernel
theorem dX6_revised_29 : decode cX6_revised 29 = .ok (.iadd, 1) := by decide +kernel
theorem dX6_revised_30 : decode cX6_revised 30 = .ok (.iaload, 1) := by decide +kernel
theorem dX6_revised_31 : decode cX6_revised 31 = .ok (.iconst (-1), 1) := by decide +kernel
theorem dX6_revised_32 : decode cX6_revised 32 = .ok (.if_icmp .eq 11, 3) := by decide +kernel
theorem dX6_revised_35 : decode cX6_revised 35 = .ok (.aload_n 0, 1) := by decide +kernel
theorem dX6_revised_36 : decode cX6_revised 36 = .ok (.iload_n 1, 1) := by decide +kernel
theorem dX6_revised_37 : decode cX6_revised 37 = .ok (.invokevirtual 198, 3) := by decide +kernel
theorem dX6_revised_40 : decode cX6_revised 40 = .ok (.goto 9, 3) := by decide +kernel
theorem dX6_revised_43 : decode cX6_revised 43 = .ok (.aload_n 0, 1) := by decide +kernel
theorem dX6_revised_44 : decode cX6_revised 44 = .ok (.bipush (-3), 2) := by decide +kernel
theorem dX6_revised_46 : decode cX6_revised 46 = .ok (.invokevirtual 54, 3) := by decide +kernel
theorem dX6_revised_49 : decode cX6_revised 49 = .ok (.ireturn, 1) := by decide +kernel
theorem dX6_farthest_0 : decode cX6_farthest 0 = .ok (.aload_n 0, 1) := by decide +kernel
theorem dX6_farthest_1 : decode cX6_farthest 1 = .ok (.invokevirtual 86, 3) := by decide +kernel
theorem dX6_farthest_4 : decode cX6_farthest 4 = .ok (.ifCond .ne 10, 3) := by decide +kernel
theorem dX6_farthest_7 : decode cX6_farthest 7 = .ok (.aload_n 0, 1) := by decide +kernel
theorem dX6_farthest_8 : decode cX6_farthest 8 = .ok (.bipush (-3), 2) := by decide +kernel
theorem dX6_farthest_10 : decode cX6_farthest 10 = .ok (.invokevirtual 54, 3) := by decide +kernel
theorem dX6_farthest_13 : decode cX6_farthest 13 = .ok (.ireturn, 1) := by decide +kernel
theorem dX6_farthest_14 : decode cX6_farthest 14 = .ok (.iconst (-1), 1) := by decide +kernel
theorem dX6_farthest_15 : decode cX6_farthest 15 = .ok (.istore_n 1, 1) := by decide +kernel
theorem dX6_farthest_16 : decode cX6_farthest 16 = .ok (.iconst 0, 1) := by decide +kernel
theorem dX6_farthest_17 : decode cX6_farthest 17 = .ok (.istore_n 2, 1) := by decide +kernel
theorem dX6_farthest_18 : decode cX6_farthest 18 = .ok (.iload_n 2, 1) := by decide +kernel
theorem dX6_farthest_19 : decode cX6_farthest 19 = .ok (.aload_n 0, 1) := by decide +kernel
theorem dX6_farthest_20 : decode cX6_farthest 20 = .ok (.getfield 7, 3) := by decide +kernel
theorem dX6_farthest_23 : decode cX6_farthest 23 = .ok (.iconst 0, 1) := by decide +kernel
theorem dX6_farthest_24 : decode cX6_farthest 24 = .ok (.iaload, 1) := by decide +kernel
theorem dX6_farthest_25 : decode cX6_farthest 25 = .ok (.if_icmp .ge 56, 3) := by decide +kernel
theorem dX6_farthest_28 : decode cX6_farthest 28 = .ok (.aload_n 0, 1) := by decide +kernel
theorem dX6_farthest_29 : decode cX6_farthest 29 = .ok (.getfield 7, 3) := by decide +kernel
theorem dX6_farthest_32 : decode cX6_farthest 32 = .ok (.bipush 16, 2) := by decide +kernel
theorem dX6_farthest_34 : decode cX6_farthest 34 = .ok (.iload_n 2, 1) := by decide +kernel
theorem dX6_farthest_35 : decode cX6_farthest 35 = .ok (.iadd, 1) := by decide +kernel
theorem dX6_farthest_36 : decode cX6_farthest 36 = .ok (.iaload, 1) := by decide +kernel
theorem dX6_farthest_37 : decode cX6_farthest 37 = .ok (.iconst (-1), 1) := by decide +kernel
theorem dX6_farthest_38 : decode cX6_farthest 38 = .ok (.if_icmp .eq 7, 3) := by decide +kernel
theorem dX6_farthest_41 : decode cX6_farthest 41 = .ok (.iconst 1, 1) := by decide +kernel
theorem dX6_farthest_42 : decode cX6_farthest 42 = .ok (.goto 4, 3) := by decide +kernel
theorem dX6_farthest_45 : decode cX6_farthest 45 = .ok (.iconst 0, 1) := by decide +kernel
theorem dX6_farthest_46 : decode cX6_farthest 46 = .ok (.istore_n 3, 1) := by decide +kernel
theorem dX6_farthest_47 : decode cX6_farthest 47 = .ok (.iload_n 3, 1) := by decide +kernel
theorem dX6_farthest_48 : decode cX6_farthest 48 = .ok (.ifCond .eq 25, 3) := by decide +kernel
theorem dX6_farthest_51 : decode cX6_farthest 51 = .ok (.iload_n 1, 1) := by decide +kernel
theorem dX6_farthest_52 : decode cX6_farthest 52 = .ok (.iconst (-1), 1) := by decide +kernel
theorem dX6_farthest_53 : decode cX6_farthest 53 = .ok (.if_icmp .eq 16, 3) := by decide +kernel
theorem dX6_farthest_56 : decode cX6_farthest 56 = .ok (.aload_n 0, 1) := by decide +kernel
theorem dX6_farthest_57 : decode cX6_farthest 57 = .ok (.iload_n 2, 1) := by decide +kernel
theorem dX6_farthest_58 : decode cX6_farthest 58 = .ok (.invokevirtual 198, 3) := by decide +kernel
theorem dX6_farthest_61 : decode cX6_farthest 61 = .ok (.aload_n 0, 1) := by decide +kernel
theorem dX6_farthest_62 : decode cX6_farthest 62 = .ok (.iload_n 1, 1) := by decide +kernel
theorem dX6_farthest_63 : decode cX6_farthest 63 = .ok (.invokevirtual 198, 3) := by decide +kernel
theorem dX6_farthest_66 : decode cX6_farthest 66 = .ok (.if_icmp .le 7, 3) := by decide +kernel
theorem dX6_farthest_69 : decode cX6_farthest 69 = .ok (.iload_n 2, 1) := by decide +kernel
theorem dX6_farthest_70 : decode cX6_farthest 70 = .ok (.goto 4, 3) := by decide +kernel
theorem dX6_farthest_73 : decode cX6_farthest 73 = .ok (.iload_n 1, 1) := by decide +kernel
theorem dX6_farthest_74 : decode cX6_farthest 74 = .ok (.istore_n 1, 1) := by decide +kernel
theorem dX6_farthest_75 : decode cX6_farthest 75 = .ok (.iinc 2 1, 3) := by decide +kernel
theorem dX6_farthest_78 : decode cX6_farthest 78 = .ok (.goto (-60), 3) := by decide +kernel
theorem dX6_farthest_81 : decode cX6_farthest 81 = .ok (.iload_n 1, 1) := by decide +kernel
theorem dX6_farthest_82 : decode cX6_farthest 82 = .ok (.ireturn, 1) := by decide +kernel
theorem dX6_least_0 : decode cX6_least 0 = .ok (.iconst 0, 1) := by decide +kernel
theorem dX6_least_1 : decode cX6_least 1 = .ok (.istore_n 1, 1) := by decide +kernel
theorem dX6_least_2 : decode cX6_least 2 = .ok (.iload_n 1, 1) := by decide +kernel
theorem dX6_least_3 : decode cX6_least 3 = .ok (.bipush 24, 2) := by decide +kernel
theorem dX6_least_5 : decode cX6_least 5 = .ok (.if_icmp .gt 20, 3) := by decide +kernel
theorem dX6_least_8 : decode cX6_least 8 = .ok (.aload_n 0, 1) := by decide +kernel
theorem dX6_least_9 : decode cX6_least 9 = .ok (.iload_n 1, 1) := by decide +kernel
theorem dX6_least_10 : decode cX6_least 10 = .ok (.iconst (-1), 1) := by decide +kernel
theorem dX6_least_11 : decode cX6_least 11 = .ok (.invokevirtual 191, 3) := by decide +kernel
theorem dX6_least_14 : decode cX6_least 14 = .ok (.ifCond .eq 5, 3) := by decide +kernel
theorem dX6_least_17 : decode cX6_least 17 = .ok (.iload_n 1, 1) := by decide +kernel
theorem dX6_least_18 : decode cX6_least 18 = .ok (.ireturn, 1) := by decide +kernel
theorem dX6_least_19 : decode cX6_least 19 = .ok (.iinc 1 1, 3) := by decide +kernel
theorem dX6_least_22 : decode cX6_least 22 = .ok (.goto (-20), 3) := by decide +kernel
theorem dX6_least_25 : decode cX6_least 25 = .ok (.iconst (-1), 1) := by decide +kernel
theorem dX6_least_26 : decode cX6_least 26 = .ok (.ireturn, 1) := by decide +kernel
theorem dX6_price_0 : decode cX6_price 0 = .ok (.iload_n 1, 1) := by decide +kernel
theorem dX6_price_1 : decode cX6_price 1 = .ok (.invokestatic 74, 3) := by decide +kernel
theorem dX6_price_4 : decode cX6_price 4 = .ok (.ifCond .ne 11, 3) := by decide +kernel
theorem dX6_price_7 : decode cX6_price 7 = .ok (.aload_n 0, 1) := by decide +kernel
theorem dX6_price_8 : decode cX6_price 8 = .ok (.bipush (-2), 2) := by decide +kernel
theorem dX6_price_10 : decode cX6_price 10 = .ok (.invokevirtual 54, 3) := by decide +kernel
theorem dX6_price_13 : decode cX6_price 13 = .ok (.i2l, 1) := by decide +kernel
theorem dX6_price_14 : decode cX6_price 14 = .ok (.lreturn, 1) := by decide +kernel
theorem dX6_price_15 : decode cX6_price 15 = .ok (.aload_n 0, 1) := by decide +kernel
theorem dX6_price_16 : decode cX6_price 16 = .ok (.getfield 7, 3) := by decide +kernel
theorem dX6_price_19 : decode cX6_price 19 = .ok (.bipush 13, 2) := by decide +kernel
theorem dX6_price_21 : decode cX6_price 21 = .ok (.iload_n 1, 1) := by decide +kernel
theorem dX6_price_22 : decode cX6_price 22 = .ok (.iadd, 1) := by decide +kernel
theorem dX6_price_23 : decode cX6_price 23 = .ok (.iaload, 1) := by decide +kernel
theorem dX6_price_24 : decode cX6_price 24 = .ok (.iconst (-1), 1) := by decide +kernel
theorem dX6_price_25 : decode cX6_price 25 = .ok (.if_icmp .eq 10, 3) := by decide +kernel
theorem dX6_price_28 : decode cX6_price 28 = .ok (.aload_n 0, 1) := by decide +kernel
theorem dX6_price_29 : decode cX6_price 29 = .ok (.invokevirtual 86, 3) := by decide +kernel
theorem dX6_price_32 : decode cX6_price 32 = .ok (.ifCond .ne 11, 3) := by decide +kernel
theorem dX6_price_35 : decode cX6_price 35 = .ok (.aload_n 0, 1) := by decide +kernel
theorem dX6_price_36 : decode cX6_price 36 = .ok (.bipush (-3), 2) := by decide +kernel
theorem dX6_price_38 : decode cX6_price 38 = .ok (.invokevirtual 54, 3) := by decide +kernel
theorem dX6_price_41 : decode cX6_price 41 = .ok (.i2l, 1) := by decide +kernel
theorem dX6_price_42 : decode cX6_price 42 = .ok (.lreturn, 1) := by decide +kernel
theorem dX6_price_43 : decode cX6_price 43 = .ok (.aload_n 0, 1) := by decide +kernel
theorem dX6_price_44 : decode cX6_price 44 = .ok (.getfield 181, 3) := by decide +kernel
theorem dX6_price_47 : decode cX6_price 47 = .ok (.ldc2_w 171, 3) := by decide +kernel
theorem dX6_price_50 : decode cX6_price 50 = .ok (.ldiv, 1) := by decide +kernel
theorem dX6_price_51 : decode cX6_price 51 = .ok (.lstore_n 2, 1) := by decide +kernel
theorem dX6_price_52 : decode cX6_price 52 = .ok (.aload_n 0, 1) := by decide +kernel
theorem dX6_price_53 : decode cX6_price 53 = .ok (.aload_n 0, 1) := by decide +kernel
theorem dX6_price_54 : decode cX6_price 54 = .ok (.getfield 7, 3) := by decide +kernel
theorem dX6_price_57 : decode cX6_price 57 = .ok (.bipush 29, 2) := by decide +kernel
theorem dX6_price_59 : decode cX6_price 59 = .ok (.iaload, 1) := by decide +kernel
theorem dX6_price_60 : decode cX6_price 60 = .ok (.iload_n 1, 1) := by decide +kernel
theorem dX6_price_61 : decode cX6_price 61 = .ok (.invokevirtual 191, 3) := by decide +kernel
theorem dX6_price_64 : decode cX6_price 64 = .ok (.istore 4, 2) := by decide +kernel
theorem dX6_price_66 : decode cX6_price 66 = .ok (.lload_n 2, 1) := by decide +kernel
theorem dX6_price_67 : decode cX6_price 67 = .ok (.aload_n 0, 1) := by decide +kernel
theorem dX6_price_68 : decode cX6_price 68 = .ok (.getfield 181, 3) := by decide +kernel
theorem dX6_price_71 : decode cX6_price 71 = .ok (.ldc2_w 171, 3) := by decide +kernel
theorem dX6_price_74 : decode cX6_price 74 = .ok (.ldiv, 1) := by decide +kernel
theorem dX6_price_75 : decode cX6_price 75 = .ok (.lsub, 1) := by decide +kernel
theorem dX6_price_76 : decode cX6_price 76 = .ok (.lreturn, 1) := by decide +kernel
theorem dX6_others_0 : decode cX6_others 0 = .ok (.aload_n 0, 1) := by decide +kernel
theorem dX6_others_1 : decode cX6_others 1 = .ok (.invokevirtual 86, 3) := by decide +kernel
theorem dX6_others_4 : decode cX6_others 4 = .ok (.ifCond .eq 10, 3) := by decide +kernel
theorem dX6_others_7 : decode cX6_others 7 = .ok (.aload_n 0, 1) := by decide +kernel
theorem dX6_others_8 : decode cX6_others 8 = .ok (.getfield 185, 3) := by decide +kernel
theorem dX6_others_11 : decode cX6_others 11 = .ok (.goto 4, 3) := by decide +kernel
theorem dX6_others_14 : decode cX6_others 14 = .ok (.iconst 0, 1) := by decide +kernel
theorem dX6_others_15 : decode cX6_others 15 = .ok (.ireturn, 1) := by decide +kernel
theorem dX6_shareOut_0 : decode cX6_shareOut 0 = .ok (.iconst 0, 1) := by decide +kernel
theorem dX6_shareOut_1 : decode cX6_shareOut 1 = .ok (.istore_n 1, 1) := by decide +kernel
theorem dX6_shareOut_2 : decode cX6_shareOut 2 = .ok (.iload_n 1, 1) := by decide +kernel
theorem dX6_shareOut_3 : decode cX6_shareOut 3 = .ok (.aload_n 0, 1) := by decide +kernel
theorem dX6_shareOut_4 : decode cX6_shareOut 4 = .ok (.getfield 7, 3) := by decide +kernel
theorem dX6_shareOut_7 : decode cX6_shareOut 7 = .ok (.iconst 0, 1) := by decide +kernel
theorem dX6_shareOut_8 : decode cX6_shareOut 8 = .ok (.iaload, 1) := by decide +kernel
theorem dX6_shareOut_9 : decode cX6_shareOut 9 = .ok (.if_icmp .ge 23, 3) := by decide +kernel
theorem dX6_shareOut_12 : decode cX6_shareOut 12 = .ok (.aload_n 0, 1) := by decide +kernel
theorem dX6_shareOut_13 : decode cX6_shareOut 13 = .ok (.getfield 44, 3) := by decide +kernel
theorem dX6_shareOut_16 : decode cX6_shareOut 16 = .ok (.iload_n 1, 1) := by decide +kernel
theorem dX6_shareOut_17 : decode cX6_shareOut 17 = .ok (.aload_n 0, 1) := by decide +kernel
theorem dX6_shareOut_18 : decode cX6_shareOut 18 = .ok (.getfield 7, 3) := by decide +kernel
theorem dX6_shareOut_21 : decode cX6_shareOut 21 = .ok (.iconst 1, 1) := by decide +kernel
theorem dX6_shareOut_22 : decode cX6_shareOut 22 = .ok (.iload_n 1, 1) := by decide +kernel
theorem dX6_shareOut_23 : decode cX6_shareOut 23 = .ok (.iadd, 1) := by decide +kernel
theorem dX6_shareOut_24 : decode cX6_shareOut 24 = .ok (.iaload, 1) := by decide +kernel
theorem dX6_shareOut_25 : decode cX6_shareOut 25 = .ok (.iastore, 1) := by decide +kernel
theorem dX6_shareOut_26 : decode cX6_shareOut 26 = .ok (.iinc 1 1, 3) := by decide +kernel
theorem dX6_shareOut_29 : decode cX6_shareOut 29 = .ok (.goto (-27), 3) := by decide +kernel
theorem dX6_shareOut_32 : decode cX6_shareOut 32 = .ok (.iconst 0, 1) := by decide +kernel
theorem dX6_shareOut_33 : decode cX6_shareOut 33 = .ok (.istore_n 1, 1) := by decide +kernel
theorem dX6_shareOut_34 : decode cX6_shareOut 34 = .ok (.iload_n 1, 1) := by decide +kernel
theorem dX6_shareOut_35 : decode cX6_shareOut 35 = .ok (.iconst 3, 1) := by decide +kernel
theorem dX6_shareOut_36 : decode cX6_shareOut 36 = .ok (.if_icmp .ge 41, 3) := by decide +kernel
theorem dX6_shareOut_39 : decode cX6_shareOut 39 = .ok (.aload_n 0, 1) := by decide +kernel
theorem dX6_shareOut_40 : decode cX6_shareOut 40 = .ok (.getfield 7, 3) := by decide +kernel
theorem dX6_shareOut_43 : decode cX6_shareOut 43 = .ok (.bipush 13, 2) := by decide +kernel
theorem dX6_shareOut_45 : decode cX6_shareOut 45 = .ok (.iload_n 1, 1) := by decide +kernel
theorem dX6_shareOut_46 : decode cX6_shareOut 46 = .ok (.iadd, 1) := by decide +kernel
theorem dX6_shareOut_47 : decode cX6_shareOut 47 = .ok (.iaload, 1) := by decide +kernel
theorem dX6_shareOut_48 : decode cX6_shareOut 48 = .ok (.iconst (-1), 1) := by decide +kernel
theorem dX6_shareOut_49 : decode cX6_shareOut 49 = .ok (.if_icmp .eq 22, 3) := by decide +kernel
theorem dX6_shareOut_52 : decode cX6_shareOut 52 = .ok (.aload_n 0, 1) := by decide +kernel
theorem dX6_shareOut_53 : decode cX6_shareOut 53 = .ok (.iload_n 1, 1) := by decide +kernel
theorem dX6_shareOut_54 : decode cX6_shareOut 54 = .ok (.aload_n 0, 1) := by decide +kernel
theorem dX6_shareOut_55 : decode cX6_shareOut 55 = .ok (.getfield 7, 3) := by decide +kernel
theorem dX6_shareOut_58 : decode cX6_shareOut 58 = .ok (.bipush 13, 2) := by decide +kernel
theorem dX6_shareOut_60 : decode cX6_shareOut 60 = .ok (.iload_n 1, 1) := by decide +kernel
theorem dX6_shareOut_61 : decode cX6_shareOut 61 = .ok (.iadd, 1) := by decide +kernel
theorem dX6_shareOut_62 : decode cX6_shareOut 62 = .ok (.iaload, 1) := by decide +kernel
theorem dX6_shareOut_63 : decode cX6_shareOut 63 = .ok (.aload_n 0, 1) := by decide +kernel
theorem dX6_shareOut_64 : decode cX6_shareOut 64 = .ok (.iload_n 1, 1) := by decide +kernel
theorem dX6_shareOut_65 : decode cX6_shareOut 65 = .ok (.invokevirtual 130, 3) := by decide +kernel
theorem dX6_shareOut_68 : decode cX6_shareOut 68 = .ok (.invokevirtual 201, 3) := by decide +kernel
theorem dX6_shareOut_71 : decode cX6_shareOut 71 = .ok (.iinc 1 1, 3) := by decide +kernel
theorem dX6_shareOut_74 : decode cX6_shareOut 74 = .ok (.goto (-40), 3) := by decide +kernel
theorem dX6_shareOut_77 : decode cX6_shareOut 77 = .ok (.return_, 1) := by decide +kernel
theorem dX6_shareYear_0 : decode cX6_shareYear 0 = .ok (.iload_n 2, 1) := by decide +kernel
theorem dX6_shareYear_1 : decode cX6_shareYear 1 = .ok (.istore 4, 2) := by decide +kernel
theorem dX6_shareYear_3 : decode cX6_shareYear 3 = .ok (.iconst 4, 1) := by decide +kernel
theorem dX6_shareYear_4 : decode cX6_shareYear 4 = .ok (.iload_n 1, 1) := by decide +kernel
theorem dX6_shareYear_5 : decode cX6_shareYear 5 = .ok (.imul, 1) := by decide +kernel
theorem dX6_shareYear_6 : decode cX6_shareYear 6 = .ok (.istore 5, 2) := by decide +kernel
theorem dX6_shareYear_8 : decode cX6_shareYear 8 = .ok (.iload 5, 2) := by decide +kernel
theorem dX6_shareYear_10 : decode cX6_shareYear 10 = .ok (.iconst 4, 1) := by decide +kernel
theorem dX6_shareYear_11 : decode cX6_shareYear 11 = .ok (.iload_n 1, 1) := by decide +kernel
theorem dX6_shareYear_12 : decode cX6_shareYear 12 = .ok (.imul, 1) := by decide +kernel
theorem dX6_shareYear_13 : decode cX6_shareYear 13 = .ok (.iconst 4, 1) := by decide +kernel
theorem dX6_shareYear_14 : decode cX6_shareYear 14 = .ok (.iadd, 1) := by decide +kernel
theorem dX6_shareYear_15 : decode cX6_shareYear 15 = .ok (.if_icmp .ge 41, 3) := by decide +kernel
theorem dX6_shareYear_18 : decode cX6_shareYear 18 = .ok (.aload_n 0, 1) := by decide +kernel
theorem dX6_shareYear_19 : decode cX6_shareYear 19 = .ok (.getfield 44, 3) := by decide +kernel
theorem dX6_shareYear_22 : decode cX6_shareYear 22 = .ok (.iload 5, 2) := by decide +kernel
theorem dX6_shareYear_24 : decode cX6_shareYear 24 = .ok (.iload_n 2, 1) := by decide +kernel
theorem dX6_shareYear_25 : decode cX6_shareYear 25 = .ok (.aload_n 0, 1) := by decide +kernel
theorem dX6_shareYear_26 : decode cX6_shareYear 26 = .ok (.getfield 7, 3) := by decide +kernel
theorem dX6_shareYear_29 : decode cX6_shareYear 29 = .ok (.iconst 1, 1) := by decide +kernel
theorem dX6_shareYear_30 : decode cX6_shareYear 30 = .ok (.iload 5, 2) := by decide +kernel
theorem dX6_shareYear_32 : decode cX6_shareYear 32 = .ok (.iadd, 1) := by decide +kernel
theorem dX6_shareYear_33 : decode cX6_shareYear 33 = .ok (.iaload, 1) := by decide +kernel
theorem dX6_shareYear_34 : decode cX6_shareYear 34 = .ok (.imul, 1) := by decide +kernel
theorem dX6_shareYear_35 : decode cX6_shareYear 35 = .ok (.iload_n 3, 1) := by decide +kernel
theorem dX6_shareYear_36 : decode cX6_shareYear 36 = .ok (.idiv, 1) := by decide +kernel
theorem dX6_shareYear_37 : decode cX6_shareYear 37 = .ok (.iastore, 1) := by decide +kernel
theorem dX6_shareYear_38 : decode cX6_shareYear 38 = .ok (.iload 4, 2) := by decide +kernel
theorem dX6_shareYear_40 : decode cX6_shareYear 40 = .ok (.aload_n 0, 1) := by decide +kernel
theorem dX6_shareYear_41 : decode cX6_shareYear 41 = .ok (.getfield 44, 3) := by decide +kernel
theorem dX6_shareYear_44 : decode cX6_shareYear 44 = .ok (.iload 5, 2) := by decide +kernel
theorem dX6_shareYear_46 : decode cX6_shareYear 46 = .ok (.iaload, 1) := by decide +kernel
theorem dX6_shareYear_47 : decode cX6_shareYear 47 = .ok (.isub, 1) := by decide +kernel
theorem dX6_shareYear_48 : decode cX6_shareYear 48 = .ok (.istore 4, 2) := by decide +kernel
theorem dX6_shareYear_50 : decode cX6_shareYear 50 = .ok (.iinc 5 1, 3) := by decide +kernel
theorem dX6_shareYear_53 : decode cX6_shareYear 53 = .ok (.goto (-45), 3) := by decide +kernel
theorem dX6_shareYear_56 : decode cX6_shareYear 56 = .ok (.iconst 0, 1) := by decide +kernel
theorem dX6_shareYear_57 : decode cX6_shareYear 57 = .ok (.istore 5, 2) := by decide +kernel
theorem dX6_shareYear_59 : decode cX6_shareYear 59 = .ok (.iload 4, 2) := by decide +kernel
theorem dX6_shareYear_61 : decode cX6_shareYear 61 = .ok (.ifCond .le 119, 3) := by decide +kernel
theorem dX6_shareYear_64 : decode cX6_shareYear 64 = .ok (.iconst (-1), 1) := by decide +kernel
theorem dX6_shareYear_65 : decode cX6_shareYear 65 = .ok (.istore 6, 2) := by decide +kernel
theorem dX6_shareYear_67 : decode cX6_shareYear 67 = .ok (.iconst 4, 1) := by decide +kernel
theorem dX6_shareYear_68 : decode cX6_shareYear 68 = .ok (.iload_n 1, 1) := by decide +kernel
theorem dX6_shareYear_69 : decode cX6_shareYear 69 = .ok (.imul, 1) := by decide +kernel
theorem dX6_shareYear_70 : decode cX6_shareYear 70 = .ok (.istore 7, 2) := by decide +kernel
theorem dX6_shareYear_72 : decode cX6_shareYear 72 = .ok (.iload 7, 2) := by decide +kernel
theorem dX6_shareYear_74 : decode cX6_shareYear 74 = .ok (.iconst 4, 1) := by decide +kernel
theorem dX6_shareYear_75 : decode cX6_shareYear 75 = .ok (.iload_n 1, 1) := by decide +kernel
theorem dX6_shareYear_76 : decode cX6_shareYear 76 = .ok (.imul, 1) := by decide +kernel
theorem dX6_shareYear_77 : decode cX6_shareYear 77 = .ok (.iconst 4, 1) := by decide +kernel
theorem dX6_shareYear_78 : decode cX6_shareYear 78 = .ok (.iadd, 1) := by decide +kernel
theorem dX6_shareYear_79 : decode cX6_shareYear 79 = .ok (.if_icmp .ge 75, 3) := by decide +kernel
theorem dX6_shareYear_82 : decode cX6_shareYear 82 = .ok (.iload 5, 2) := by decide +kernel
theorem dX6_shareYear_84 : decode cX6_shareYear 84 = .ok (.iload 7, 2) := by decide +kernel
theorem dX6_shareYear_86 : decode cX6_shareYear 86 = .ok (.ishr, 1) := by decide +kernel
theorem dX6_shareYear_87 : decode cX6_shareYear 87 = .ok (.iconst 1, 1) := by decide +kernel
theorem dX6_shareYear_88 : decode cX6_shareYear 88 = .ok (.iand, 1) := by decide +kernel
theorem dX6_shareYear_89 : decode cX6_shareYear 89 = .ok (.ifCond .ne 7, 3) := by decide +kernel
theorem dX6_shareYear_92 : decode cX6_shareYear 92 = .ok (.iconst 1, 1) := by decide +kernel
theorem dX6_shareYear_93 : decode cX6_shareYear 93 = .ok (.goto 4, 3) := by decide +kernel
theorem dX6_shareYear_96 : decode cX6_shareYear 96 = .ok (.iconst 0, 1) := by decide +kernel
theorem dX6_shareYear_97 : decode cX6_shareYear 97 = .ok (.istore 8, 2) := by decide +kernel
theorem dX6_shareYear_99 : decode cX6_shareYear 99 = .ok (.iload 8, 2) := by decide +kernel
theorem dX6_shareYear_101 : decode cX6_shareYear 101 = .ok (.ifCond .eq 43, 3) := by decide +kernel
theorem dX6_shareYear_104 : decode cX6_shareYear 104 = .ok (.iload 6, 2) := by decide +kernel
theorem dX6_shareYear_106 : decode cX6_shareYear 106 = .ok (.iconst (-1), 1) := by decide +kernel
theorem dX6_shareYear_107 : decode cX6_shareYear 107 = .ok (.if_icmp .eq 32, 3) := by decide +kernel
theorem dX6_shareYear_110 : decode cX6_shareYear 110 = .ok (.iload_n 2, 1) := by decide +kernel
theorem dX6_shareYear_111 : decode cX6_shareYear 111 = .ok (.aload_n 0, 1) := by decide +kernel
theorem dX6_shareYear_112 : decode cX6_shareYear 112 = .ok (.getfield 7, 3) := by decide +kernel
theorem dX6_shareYear_115 : decode cX6_shareYear 115 = .ok (.iconst 1, 1) := by decide +kernel
theorem dX6_shareYear_116 : decode cX6_shareYear 116 = .ok (.iload 7, 2) := by decide +kernel
theorem dX6_shareYear_118 : decode cX6_shareYear 118 = .ok (.iadd, 1) := by decide +kernel
theorem dX6_shareYear_119 : decode cX6_shareYear 119 = .ok (.iaload, 1) := by decide +kernel
theorem dX6_shareYear_120 : decode cX6_shareYear 120 = .ok (.imul, 1) := by decide +kernel
theorem dX6_shareYear_121 : decode cX6_shareYear 121 = .ok (.iload_n 3, 1) := by decide +kernel
theorem dX6_shareYear_122 : decode cX6_shareYear 122 = .ok (.irem, 1) := by decide +kernel
theorem dX6_shareYear_123 : decode cX6_shareYear 123 = .ok (.iload_n 2, 1) := by decide +kernel
theorem dX6_shareYear_124 : decode cX6_shareYear 124 = .ok (.aload_n 0, 1) := by decide +kernel
theorem dX6_shareYear_125 : decode cX6_shareYear 125 = .ok (.getfield 7, 3) := by decide +kernel
theorem dX6_shareYear_128 : decode cX6_shareYear 128 = .ok (.iconst 1, 1) := by decide +kernel
theorem dX6_shareYear_129 : decode cX6_shareYear 129 = .ok (.iload 6, 2) := by decide +kernel
theorem dX6_shareYear_131 : decode cX6_shareYear 131 = .ok (.iadd, 1) := by decide +kernel
theorem dX6_shareYear_132 : decode cX6_shareYear 132 = .ok (.iaload, 1) := by decide +kernel
theorem dX6_shareYear_133 : decode cX6_shareYear 133 = .ok (.imul, 1) := by decide +kernel
theorem dX6_shareYear_134 : decode cX6_shareYear 134 = .ok (.iload_n 3, 1) := by decide +kernel
theorem dX6_shareYear_135 : decode cX6_shareYear 135 = .ok (.irem, 1) := by decide +kernel
theorem dX6_shareYear_136 : decode cX6_shareYear 136 = .ok (.if_icmp .le 8, 3) := by decide +kernel
theorem dX6_shareYear_139 : decode cX6_shareYear 139 = .ok (.iload 7, 2) := by decide +kernel
theorem dX6_shareYear_141 : decode cX6_shareYear 141 = .ok (.goto 5, 3) := by decide +kernel
theorem dX6_shareYear_144 : decode cX6_shareYear 144 = .ok (.iload 6, 2) := by decide +kernel
theorem dX6_shareYear_146 : decode cX6_shareYear 146 = .ok (.istore 6, 2) := by decide +kernel
theorem dX6_shareYear_148 : decode cX6_shareYear 148 = .ok (.iinc 7 1, 3) := by decide +kernel
theorem dX6_shareYear_151 : decode cX6_shareYear 151 = .ok (.goto (-79), 3) := by decide +kernel
theorem dX6_shareYear_154 : decode cX6_shareYear 154 = .ok (.iload 5, 2) := by decide +kernel
theorem dX6_shareYear_156 : decode cX6_shareYear 156 = .ok (.iconst 1, 1) := by decide +kernel
theorem dX6_shareYear_157 : decode cX6_shareYear 157 = .ok (.iload 6, 2) := by decide +kernel
theorem dX6_shareYear_159 : decode cX6_shareYear 159 = .ok (.ishl, 1) := by decide +kernel
theorem dX6_shareYear_160 : decode cX6_shareYear 160 = .ok (.ior, 1) := by decide +kernel
theorem dX6_shareYear_161 : decode cX6_shareYear 161 = .ok (.istore 5, 2) := by decide +kernel
theorem dX6_shareYear_163 : decode cX6_shareYear 163 = .ok (.aload_n 0, 1) := by decide +kernel
theorem dX6_shareYear_164 : decode cX6_shareYear 164 = .ok (.getfield 44, 3) := by decide +kernel
theorem dX6_shareYear_167 : decode cX6_shareYear 167 = .ok (.iload 6, 2) := by decide +kernel
theorem dX6_shareYear_169 : decode cX6_shareYear 169 = .ok (.dup2, 1) := by decide +kernel
theorem dX6_shareYear_170 : decode cX6_shareYear 170 = .ok (.iaload, 1) := by decide +kernel
theorem dX6_shareYear_171 : decode cX6_shareYear 171 = .ok (.iconst 1, 1) := by decide +kernel
theorem dX6_shareYear_172 : decode cX6_shareYear 172 = .ok (.iadd, 1) := by decide +kernel
theorem dX6_shareYear_173 : decode cX6_shareYear 173 = .ok (.iastore, 1) := by decide +kernel
theorem dX6_shareYear_174 : decode cX6_shareYear 174 = .ok (.iinc 4 (-1), 3) := by decide +kernel
theorem dX6_shareYear_177 : decode cX6_shareYear 177 = .ok (.goto (-118), 3) := by decide +kernel
theorem dX6_shareYear_180 : decode cX6_shareYear 180 = .ok (.return_, 1) := by decide +kernel
theorem dX6_shared_0 : decode cX6_shared 0 = .ok (.aload_n 0, 1) := by decide +kernel
theorem dX6_shared_1 : decode cX6_shared 1 = .ok (.iload_n 1, 1) := by decide +kernel
theorem dX6_shared_2 : decode cX6_shared 2 = .ok (.invokevirtual 70, 3) := by decide +kernel
theorem dX6_shared_5 : decode cX6_shared 5 = .ok (.ifCond .ne 10, 3) := by decide +kernel
theorem dX6_shared_8 : decode cX6_shared 8 = .ok (.aload_n 0, 1) := by decide +kernel
theorem dX6_shared_9 : decode cX6_shared 9 = .ok (.bipush (-2), 2) := by decide +kernel
theorem dX6_shared_11 : decode cX6_shared 11 = .ok (.invokevirtual 54, 3) := by decide +kernel
theorem dX6_shared_14 : decode cX6_shared 14 = .ok (.ireturn, 1) := by decide +kernel
theorem dX6_shared_15 : decode cX6_shared 15 = .ok (.aload_n 0, 1) := by decide +kernel
theorem dX6_shared_16 : decode cX6_shared 16 = .ok (.invokevirtual 204, 3) := by decide +kernel
theorem dX6_shared_19 : decode cX6_shared 19 = .ok (.aload_n 0, 1) := by decide +kernel
theorem dX6_shared_20 : decode cX6_shared 20 = .ok (.getfield 44, 3) := by decide +kernel
theorem dX6_shared_23 : decode cX6_shared 23 = .ok (.iload_n 1, 1) := by decide +kernel
theorem dX6_shared_24 : decode cX6_shared 24 = .ok (.iaload, 1) := by decide +kernel
theorem dX6_shared_25 : decode cX6_shared 25 = .ok (.ireturn, 1) := by decide +kernel
theorem dX6_stepped_0 : decode cX6_stepped 0 = .ok (.iload_n 1, 1) := by decide +kernel
theorem dX6_stepped_1 : decode cX6_stepped 1 = .ok (.i2l, 1) := by decide +kernel
theorem dX6_stepped_2 : decode cX6_stepped 2 = .ok (.lconst 0, 1) := by decide +kernel
theorem dX6_stepped_3 : decode cX6_stepped 3 = .ok (.lconst 1, 1) := by decide +kernel
theorem dX6_stepped_4 : decode cX6_stepped 4 = .ok (.invokestatic 62, 3) := by decide +kernel
theorem dX6_stepped_7 : decode cX6_stepped 7 = .ok (.ifCond .ne 11, 3) := by decide +kernel
theorem dX6_stepped_10 : decode cX6_stepped 10 = .ok (.aload_n 0, 1) := by decide +kernel
theorem dX6_stepped_11 : decode cX6_stepped 11 = .ok (.bipush (-2), 2) := by decide +kernel
theorem dX6_stepped_13 : decode cX6_stepped 13 = .ok (.invokevirtual 54, 3) := by decide +kernel
theorem dX6_stepped_16 : decode cX6_stepped 16 = .ok (.i2l, 1) := by decide +kernel
theorem dX6_stepped_17 : decode cX6_stepped 17 = .ok (.lreturn, 1) := by decide +kernel
theorem dX6_stepped_18 : decode cX6_stepped 18 = .ok (.aload_n 0, 1) := by decide +kernel
theorem dX6_stepped_19 : decode cX6_stepped 19 = .ok (.invokevirtual 204, 3) := by decide +kernel
theorem dX6_stepped_22 : decode cX6_stepped 22 = .ok (.aload_n 0, 1) := by decide +kernel
theorem dX6_stepped_23 : decode cX6_stepped 23 = .ok (.iload_n 1, 1) := by decide +kernel
theorem dX6_stepped_24 : decode cX6_stepped 24 = .ok (.aload_n 0, 1) := by decide +kernel
theorem dX6_stepped_25 : decode cX6_stepped 25 = .ok (.getfield 44, 3) := by decide +kernel
theorem dX6_stepped_28 : decode cX6_stepped 28 = .ok (.invokevirtual 194, 3) := by decide +kernel
theorem dX6_stepped_31 : decode cX6_stepped 31 = .ok (.lreturn, 1) := by decide +kernel
theorem dX6_type_0 : decode cX6_type 0 = .ok (.iload_n 1, 1) := by decide +kernel
theorem dX6_type_1 : decode cX6_type 1 = .ok (.i2l, 1) := by decide +kernel
theorem dX6_type_2 : decode cX6_type 2 = .ok (.lconst 0, 1) := by decide +kernel
theorem dX6_type_3 : decode cX6_type 3 = .ok (.ldc2_w 207, 3) := by decide +kernel
theorem dX6_type_6 : decode cX6_type 6 = .ok (.invokestatic 62, 3) := by decide +kernel
theorem dX6_type_9 : decode cX6_type 9 = .ok (.ifCond .ne 10, 3) := by decide +kernel
theorem dX6_type_12 : decode cX6_type 12 = .ok (.aload_n 0, 1) := by decide +kernel
theorem dX6_type_13 : decode cX6_type 13 = .ok (.bipush (-2), 2) := by decide +kernel
theorem dX6_type_15 : decode cX6_type 15 = .ok (.invokevirtual 54, 3) := by decide +kernel
theorem dX6_type_18 : decode cX6_type 18 = .ok (.ireturn, 1) := by decide +kernel
theorem dX6_type_19 : decode cX6_type 19 = .ok (.aload_n 0, 1) := by decide +kernel
theorem dX6_type_20 : decode cX6_type 20 = .ok (.getfield 209, 3) := by decide +kernel
theorem dX6_type_23 : decode cX6_type 23 = .ok (.bipush 120, 2) := by decide +kernel
theorem dX6_type_25 : decode cX6_type 25 = .ok (.if_icmp .ne 10, 3) := by decide +kernel
theorem dX6_type_28 : decode cX6_type 28 = .ok (.aload_n 0, 1) := by decide +kernel
theorem dX6_type_29 : decode cX6_type 29 = .ok (.bipush (-4), 2) := by decide +kernel
theorem dX6_type_31 : decode cX6_type 31 = .ok (.invokevirtual 54, 3) := by decide +kernel
theorem dX6_type_34 : decode cX6_type 34 = .ok (.ireturn, 1) := by decide +kernel
theorem dX6_type_35 : decode cX6_type 35 = .ok (.aload_n 0, 1) := by decide +kernel
theorem dX6_type_36 : decode cX6_type 36 = .ok (.getfield 22, 3) := by decide +kernel
theorem dX6_type_39 : decode cX6_type 39 = .ok (.aload_n 0, 1) := by decide +kernel
theorem dX6_type_40 : decode cX6_type 40 = .ok (.getfield 209, 3) := by decide +kernel
theorem dX6_type_43 : decode cX6_type 43 = .ok (.iload_n 1, 1) := by decide +kernel
theorem dX6_type_44 : decode cX6_type 44 = .ok (.iastore, 1) := by decide +kernel
theorem dX6_type_45 : decode cX6_type 45 = .ok (.aload_n 0, 1) := by decide +kernel
theorem dX6_type_46 : decode cX6_type 46 = .ok (.dup, 1) := by decide +kernel
theorem dX6_type_47 : decode cX6_type 47 = .ok (.getfield 209, 3) := by decide +kernel
theorem dX6_type_50 : decode cX6_type 50 = .ok (.iconst 1, 1) := by decide +kernel
theorem dX6_type_51 : decode cX6_type 51 = .ok (.iadd, 1) := by decide +kernel
theorem dX6_type_52 : decode cX6_type 52 = .ok (.putfield 209, 3) := by decide +kernel
theorem dX6_type_55 : decode cX6_type 55 = .ok (.aload_n 0, 1) := by decide +kernel
theorem dX6_type_56 : decode cX6_type 56 = .ok (.getfield 209, 3) := by decide +kernel
theorem dX6_type_59 : decode cX6_type 59 = .ok (.ireturn, 1) := by decide +kernel
theorem dX6_clear_0 : decode cX6_clear 0 = .ok (.aload_n 0, 1) := by decide +kernel
theorem dX6_clear_1 : decode cX6_clear 1 = .ok (.getfield 209, 3) := by decide +kernel
theorem dX6_clear_4 : decode cX6_clear 4 = .ok (.istore_n 1, 1) := by decide +kernel
theorem dX6_clear_5 : decode cX6_clear 5 = .ok (.aload_n 0, 1) := by decide +kernel
theorem dX6_clear_6 : decode cX6_clear 6 = .ok (.iconst 0, 1) := by decide +kernel
theorem dX6_clear_7 : decode cX6_clear 7 = .ok (.putfield 209, 3) := by decide +kernel
theorem dX6_clear_10 : decode cX6_clear 10 = .ok (.iload_n 1, 1) := by decide +kernel
theorem dX6_clear_11 : decode cX6_clear 11 = .ok (.ireturn, 1) := by decide +kernel
theorem dX6_wantsOf_0 : decode cX6_wantsOf 0 = .ok (.iload_n 0, 1) := by decide +kernel
theorem dX6_wantsOf_1 : decode cX6_wantsOf 1 = .ok (.tableswitch 105 102 122 #[101, 105, 105, 105, 105, 105, 101, 105, 101, 99, 99, 101, 105, 105, 103, 105, 105, 105, 105, 105, 103], 99) := by decide +kernel
theorem dX6_wantsOf_100 : decode cX6_wantsOf 100 = .ok (.iconst 0, 1) := by decide +kernel
theorem dX6_wantsOf_101 : decode cX6_wantsOf 101 = .ok (.ireturn, 1) := by decide +kernel
theorem dX6_wantsOf_102 : decode cX6_wantsOf 102 = .ok (.iconst 1, 1) := by decide +kernel
theorem dX6_wantsOf_103 : decode cX6_wantsOf 103 = .ok (.ireturn, 1) := by decide +kernel
theorem dX6_wantsOf_104 : decode cX6_wantsOf 104 = .ok (.iconst 2, 1) := by decide +kernel
theorem dX6_wantsOf_105 : decode cX6_wantsOf 105 = .ok (.ireturn, 1) := by decide +kernel
theorem dX6_wantsOf_106 : decode cX6_wantsOf 106 = .ok (.iconst (-1), 1) := by decide +kernel
theorem dX6_wantsOf_107 : decode cX6_wantsOf 107 = .ok (.ireturn, 1) := by decide +kernel
theorem dX6_readByte_0 : decode cX6_readByte 0 = .ok (.aload_n 0, 1) := by decide +kernel
theorem dX6_readByte_1 : decode cX6_readByte 1 = .ok (.getfield 212, 3) := by decide +kernel
theorem dX6_readByte_4 : decode cX6_readByte 4 = .ok (.ifCond .ne 50, 3) := by decide +kernel
theorem dX6_readByte_7 : decode cX6_readByte 7 = .ok (.iload_n 1, 1) := by decide +kernel
theorem dX6_readByte_8 : decode cX6_readByte 8 = .ok (.bipush 32, 2) := by decide +kernel
theorem dX6_readByte_10 : decode cX6_readByte 10 = .ok (.if_icmp .ne 5, 3) := by decide +kernel
theorem dX6_readByte_13 : decode cX6_readByte 13 = .ok (.iconst 1, 1) := by decide +kernel
theorem dX6_readByte_14 : decode cX6_readByte 14 = .ok (.ireturn, 1) := by decide +kernel
theorem dX6_readByte_15 : decode cX6_readByte 15 = .ok (.aload_n 0, 1) := by decide +kernel
theorem dX6_readByte_16 : decode cX6_readByte 16 = .ok (.iload_n 1, 1) := by decide +kernel
theorem dX6_readByte_17 : decode cX6_readByte 17 = .ok (.putfield 212, 3) := by decide +kernel
theorem dX6_readByte_20 : decode cX6_readByte 20 = .ok (.aload_n 0, 1) := by decide +kernel
theorem dX6_readByte_21 : decode cX6_readByte 21 = .ok (.iconst 0, 1) := by decide +kernel
theorem dX6_readByte_22 : decode cX6_readByte 22 = .ok (.putfield 215, 3) := by decide +kernel
theorem dX6_readByte_25 : decode cX6_readByte 25 = .ok (.aload_n 0, 1) := by decide +kernel
theorem dX6_readByte_26 : decode cX6_readByte 26 = .ok (.iconst 0, 1) := by decide +kernel
theorem dX6_readByte_27 : decode cX6_readByte 27 = .ok (.putfield 218, 3) := by decide +kernel
theorem dX6_readByte_30 : decode cX6_readByte 30 = .ok (.aload_n 0, 1) := by decide +kernel
theorem dX6_readByte_31 : decode cX6_readByte 31 = .ok (.getfield 25, 3) := by decide +kernel
theorem dX6_readByte_34 : decode cX6_readByte 34 = .ok (.aload_n 0, 1) := by decide +kernel
theorem dX6_readByte_35 : decode cX6_readByte 35 = .ok (.getfield 221, 3) := by decide +kernel
theorem dX6_readByte_38 : decode cX6_readByte 38 = .ok (.iload_n 1, 1) := by decide +kernel
theorem dX6_readByte_39 : decode cX6_readByte 39 = .ok (.iastore, 1) := by decide +kernel
theorem dX6_readByte_40 : decode cX6_readByte 40 = .ok (.iload_n 1, 1) := by decide +kernel
theorem dX6_readByte_41 : decode cX6_readByte 41 = .ok (.invokestatic 224, 3) := by decide +kernel
theorem dX6_readByte_44 : decode cX6_readByte 44 = .ok (.iconst (-1), 1) := by decide +kernel
theorem dX6_readByte_45 : decode cX6_readByte 45 = .ok (.if_icmp .eq 7, 3) := by decide +kernel
theorem dX6_readByte_48 : decode cX6_readByte 48 = .ok (.iconst 1, 1) := by decide +kernel
theorem dX6_readByte_49 : decode cX6_readByte 49 = .ok (.goto 4, 3) := by decide +kernel
theorem dX6_readByte_52 : decode cX6_readByte 52 = .ok (.iconst 0, 1) := by decide +kernel
theorem dX6_readByte_53 : decode cX6_readByte 53 = .ok (.ireturn, 1) := by decide +kernel
theorem dX6_readByte_54 : decode cX6_readByte 54 = .ok (.iload_n 1, 1) := by decide +kernel
theorem dX6_readByte_55 : decode cX6_readByte 55 = .ok (.bipush 32, 2) := by decide +kernel
theorem dX6_readByte_57 : decode cX6_readByte 57 = .ok (.if_icmp .ne 10, 3) := by decide +kernel
theorem dX6_readByte_60 : decode cX6_readByte 60 = .ok (.aload_n 0, 1) := by decide +kernel
theorem dX6_readByte_61 : decode cX6_readByte 61 = .ok (.iconst 0, 1) := by decide +kernel
theorem dX6_readByte_62 : decode cX6_readByte 62 = .ok (.putfield 218, 3) := by decide +kernel
theorem dX6_readByte_65 : decode cX6_readByte 65 = .ok (.iconst 1, 1) := by decide +kernel
theorem dX6_readByte_66 : decode cX6_readByte 66 = .ok (.ireturn, 1) := by decide +kernel
theorem dX6_readByte_67 : decode cX6_readByte 67 = .ok (.iload_n 1, 1) := by decide +kernel
theorem dX6_readByte_68 : decode cX6_readByte 68 = .ok (.i2l, 1) := by decide +kernel
theorem dX6_readByte_69 : decode cX6_readByte 69 = .ok (.ldc2_w 227, 3) := by decide +kernel
theorem dX6_readByte_72 : decode cX6_readByte 72 = .ok (.ldc2_w 229, 3) := by decide +kernel
theorem dX6_readByte_75 : decode cX6_readByte 75 = .ok (.invokestatic 62, 3) := by decide +kernel
theorem dX6_readByte_78 : decode cX6_readByte 78 = .ok (.ifCond .eq 126, 3) := by decide +kernel
theorem dX6_readByte_81 : decode cX6_readByte 81 = .ok (.aload_n 0, 1) := by decide +kernel
theorem dX6_readByte_82 : decode cX6_readByte 82 = .ok (.getfield 218, 3) := by decide +kernel
theorem dX6_readByte_85 : decode cX6_readByte 85 = .ok (.iconst 3, 1) := by decide +kernel
theorem dX6_readByte_86 : decode cX6_readByte 86 = .ok (.if_icmp .eq 24, 3) := by decide +kernel
theorem dX6_readByte_89 : decode cX6_readByte 89 = .ok (.aload_n 0, 1) := by decide +kernel
theorem dX6_readByte_90 : decode cX6_readByte 90 = .ok (.getfield 218, 3) := by decide +kernel
theorem dX6_readByte_93 : decode cX6_readByte 93 = .ok (.ifCond .ne 19, 3) := by decide +kernel
theorem dX6_readByte_96 : decode cX6_readByte 96 = .ok (.aload_n 0, 1) := by decide +kernel
theorem dX6_readByte_97 : decode cX6_readByte 97 = .ok (.getfield 215, 3) := by decide +kernel
theorem dX6_readByte_100 : decode cX6_readByte 100 = .ok (.aload_n 0, 1) := by decide +kernel
theorem dX6_readByte_101 : decode cX6_readByte 101 = .ok (.getfield 212, 3) := by decide +kernel
theorem dX6_readByte_104 : decode cX6_readByte 104 = .ok (.invokestatic 224, 3) := by decide +kernel
theorem dX6_readByte_107 : decode cX6_readByte 107 = .ok (.if_icmp .ne 5, 3) := by decide +kernel
theorem dX6_readByte_110 : decode cX6_readByte 110 = .ok (.iconst 0, 1) := by decide +kernel
theorem dX6_readByte_111 : decode cX6_readByte 111 = .ok (.ireturn, 1) := by decide +kernel
theorem dX6_readByte_112 : decode cX6_readByte 112 = .ok (.aload_n 0, 1) := by decide +kernel
theorem dX6_readByte_113 : decode cX6_readByte 113 = .ok (.getfield 28, 3) := by decide +kernel
theorem dX6_readByte_116 : decode cX6_readByte 116 = .ok (.aload_n 0, 1) := by decide +kernel
theorem dX6_readByte_117 : decode cX6_readByte 117 = .ok (.getfield 221, 3) := by decide +kernel
theorem dX6_readByte_120 : decode cX6_readByte 120 = .ok (.iaload, 1) := by decide +kernel
theorem dX6_readByte_121 : decode cX6_readByte 121 = .ok (.aload_n 0, 1) := by decide +kernel
theorem dX6_readByte_122 : decode cX6_readByte 122 = .ok (.getfield 215, 3) := by decide +kernel
theorem dX6_readByte_125 : decode cX6_readByte 125 = .ok (.iadd, 1) := by decide +kernel
theorem dX6_readByte_126 : decode cX6_readByte 126 = .ok (.aload_n 0, 1) := by decide +kernel
theorem dX6_readByte_127 : decode cX6_readByte 127 = .ok (.getfield 218, 3) := by decide +kernel
theorem dX6_readByte_130 : decode cX6_readByte 130 = .ok (.ifCond .ne 7, 3) := by decide +kernel
theorem dX6_readByte_133 : decode cX6_readByte 133 = .ok (.iconst 0, 1) := by decide +kernel
theorem dX6_readByte_134 : decode cX6_readByte 134 = .ok (.goto 4, 3) := by decide +kernel
theorem dX6_readByte_137 : decode cX6_readByte 137 = .ok (.iconst 1, 1) := by decide +kernel
theorem dX6_readByte_138 : decode cX6_readByte 138 = .ok (.isub, 1) := by decide +kernel
theorem dX6_readByte_139 : decode cX6_readByte 139 = .ok (.istore_n 2, 1) := by decide +kernel
theorem dX6_readByte_140 : decode cX6_readByte 140 = .ok (.aload_n 0, 1) := by decide +kernel
theorem dX6_readByte_141 : decode cX6_readByte 141 = .ok (.getfield 31, 3) := by decide +kernel
theorem dX6_readByte_144 : decode cX6_readByte 144 = .ok (.iload_n 2, 1) := by decide +kernel
theorem dX6_readByte_145 : decode cX6_readByte 145 = .ok (.aload_n 0, 1) := by decide +kernel
theorem dX6_readByte_146 : decode cX6_readByte 146 = .ok (.getfield 218, 3) := by decide +kernel
theorem dX6_readByte_149 : decode cX6_readByte 149 = .ok (.ifCond .ne 7, 3) := by decide +kernel
theorem dX6_readByte_152 : decode cX6_readByte 152 = .ok (.iconst 0, 1) := by decide +kernel
theorem dX6_readByte_153 : decode cX6_readByte 153 = .ok (.goto 12, 3) := by decide +kernel
theorem dX6_readByte_156 : decode cX6_readByte 156 = .ok (.bipush 10, 2) := by decide +kernel
theorem dX6_readByte_158 : decode cX6_readByte 158 = .ok (.aload_n 0, 1) := by decide +kernel
theorem dX6_readByte_159 : decode cX6_readByte 159 = .ok (.getfield 31, 3) := by decide +kernel
theorem dX6_readByte_162 : decode cX6_readByte 162 = .ok (.iload_n 2, 1) := by decide +kernel
theorem dX6_readByte_163 : decode cX6_readByte 163 = .ok (.iaload, 1) := by decide +kernel
theorem dX6_readByte_164 : decode cX6_readByte 164 = .ok (.imul, 1) := by decide +kernel
theorem dX6_readByte_165 : decode cX6_readByte 165 = .ok (.iload_n 1, 1) := by decide +kernel
theorem dX6_readByte_166 : decode cX6_readByte 166 = .ok (.iadd, 1) := by decide +kernel
theorem dX6_readByte_167 : decode cX6_readByte 167 = .ok (.bipush 48, 2) := by decide +kernel
theorem dX6_readByte_169 : decode cX6_readByte 169 = .ok (.isub, 1) := by decide +kernel
theorem dX6_readByte_170 : decode cX6_readByte 170 = .ok (.iastore, 1) := by decide +kernel
theorem dX6_readByte_171 : decode cX6_readByte 171 = .ok (.aload_n 0, 1) := by decide +kernel
theorem dX6_readByte_172 : decode cX6_readByte 172 = .ok (.dup, 1) := by decide +kernel
theorem dX6_readByte_173 : decode cX6_readByte 173 = .ok (.getfield 215, 3) := by decide +kernel
theorem dX6_readByte_176 : decode cX6_readByte 176 = .ok (.aload_n 0, 1) := by decide +kernel
theorem dX6_readByte_177 : decode cX6_readByte 177 = .ok (.getfield 218, 3) := by decide +kernel
theorem dX6_readByte_180 : decode cX6_readByte 180 = .ok (.ifCond .ne 7, 3) := by decide +kernel
theorem dX6_readByte_183 : decode cX6_readByte 183 = .ok (.iconst 1, 1) := by decide +kernel
theorem dX6_readByte_184 : decode cX6_readByte 184 = .ok (.goto 4, 3) := by decide +kernel
theorem dX6_readByte_187 : decode cX6_readByte 187 = .ok (.iconst 0, 1) := by decide +kernel
theorem dX6_readByte_188 : decode cX6_readByte 188 = .ok (.iadd, 1) := by decide +kernel
theorem dX6_readByte_189 : decode cX6_readByte 189 = .ok (.putfield 215, 3) := by decide +kernel
theorem dX6_readByte_192 : decode cX6_readByte 192 = .ok (.aload_n 0, 1) := by decide +kernel
theorem dX6_readByte_193 : decode cX6_readByte 193 = .ok (.dup, 1) := by decide +kernel
theorem dX6_readByte_194 : decode cX6_readByte 194 = .ok (.getfield 218, 3) := by decide +kernel
theorem dX6_readByte_197 : decode cX6_readByte 197 = .ok (.iconst 1, 1) := by decide +kernel
theorem dX6_readByte_198 : decode cX6_readByte 198 = .ok (.iadd, 1) := by decide +kernel
theorem dX6_readByte_199 : decode cX6_readByte 199 = .ok (.putfield 218, 3) := by decide +kernel
theorem dX6_readByte_202 : decode cX6_readByte 202 = .ok (.iconst 1, 1) := by decide +kernel
theorem dX6_readByte_203 : decode cX6_readByte 203 = .ok (.ireturn, 1) := by decide +kernel
theorem dX6_readByte_204 : decode cX6_readByte 204 = .ok (.iload_n 1, 1) := by decide +kernel
theorem dX6_readByte_205 : decode cX6_readByte 205 = .ok (.bipush 59, 2) := by decide +kernel
theorem dX6_readByte_207 : decode cX6_readByte 207 = .ok (.if_icmp .ne 17, 3) := by decide +kernel
theorem dX6_readByte_210 : decode cX6_readByte 210 = .ok (.aload_n 0, 1) := by decide +kernel
theorem dX6_readByte_211 : decode cX6_readByte 211 = .ok (.getfield 215, 3) := by decide +kernel
theorem dX6_readByte_214 : decode cX6_readByte 214 = .ok (.aload_n 0, 1) := by decide +kernel
theorem dX6_readByte_215 : decode cX6_readByte 215 = .ok (.getfield 212, 3) := by decide +kernel
theorem dX6_readByte_218 : decode cX6_readByte 218 = .ok (.invokestatic 224, 3) := by decide +kernel
theorem dX6_readByte_221 : decode cX6_readByte 221 = .ok (.if_icmp .ge 5, 3) := by decide +kernel
theorem dX6_readByte_224 : decode cX6_readByte 224 = .ok (.iconst 0, 1) := by decide +kernel
theorem dX6_readByte_225 : decode cX6_readByte 225 = .ok (.ireturn, 1) := by decide +kernel
theorem dX6_readByte_226 : decode cX6_readByte 226 = .ok (.aload_n 0, 1) := by decide +kernel
theorem dX6_readByte_227 : decode cX6_readByte 227 = .ok (.iconst 0, 1) := by decide +kernel
theorem dX6_readByte_228 : decode cX6_readByte 228 = .ok (.putfield 212, 3) := by decide +kernel
theorem dX6_readByte_231 : decode cX6_readByte 231 = .ok (.aload_n 0, 1) := by decide +kernel
theorem dX6_readByte_232 : decode cX6_readByte 232 = .ok (.getfield 28, 3) := by decide +kernel
theorem dX6_readByte_235 : decode cX6_readByte 235 = .ok (.aload_n 0, 1) := by decide +kernel
theorem dX6_readByte_236 : decode cX6_readByte 236 = .ok (.getfield 221, 3) := by decide +kernel
theorem dX6_readByte_239 : decode cX6_readByte 239 = .ok (.iconst 1, 1) := by decide +kernel
theorem dX6_readByte_240 : decode cX6_readByte 240 = .ok (.iadd, 1) := by decide +kernel
theorem dX6_readByte_241 : decode cX6_readByte 241 = .ok (.aload_n 0, 1) := by decide +kernel
theorem dX6_readByte_242 : decode cX6_readByte 242 = .ok (.getfield 28, 3) := by decide +kernel
theorem dX6_readByte_245 : decode cX6_readByte 245 = .ok (.aload_n 0, 1) := by decide +kernel
theorem dX6_readByte_246 : decode cX6_readByte 246 = .ok (.getfield 221, 3) := by decide +kernel
theorem dX6_readByte_249 : decode cX6_readByte 249 = .ok (.iaload, 1) := by decide +kernel
theorem dX6_readByte_250 : decode cX6_readByte 250 = .ok (.aload_n 0, 1) := by decide +kernel
theorem dX6_readByte_251 : decode cX6_readByte 251 = .ok (.getfield 215, 3) := by decide +kernel
theorem dX6_readByte_254 : decode cX6_readByte 254 = .ok (.iadd, 1) := by decide +kernel
theorem dX6_readByte_255 : decode cX6_readByte 255 = .ok (.iastore, 1) := by decide +kernel
theorem dX6_readByte_256 : decode cX6_readByte 256 = .ok (.aload_n 0, 1) := by decide +kernel
theorem dX6_readByte_257 : decode cX6_readByte 257 = .ok (.dup, 1) := by decide +kernel
theorem dX6_readByte_258 : decode cX6_readByte 258 = .ok (.getfield 221, 3) := by decide +kernel
theorem dX6_readByte_261 : decode cX6_readByte 261 = .ok (.iconst 1, 1) := by decide +kernel
theorem dX6_readByte_262 : decode cX6_readByte 262 = .ok (.iadd, 1) := by decide +kernel
theorem dX6_readByte_263 : decode cX6_readByte 263 = .ok (.putfield 221, 3) := by decide +kernel
theorem dX6_readByte_266 : decode cX6_readByte 266 = .ok (.iconst 1, 1) := by decide +kernel
theorem dX6_readByte_267 : decode cX6_readByte 267 = .ok (.ireturn, 1) := by decide +kernel
theorem dX6_readText_0 : decode cX6_readText 0 = .ok (.aload_n 0, 1) := by decide +kernel
theorem dX6_readText_1 : decode cX6_readText 1 = .ok (.iconst 0, 1) := by decide +kernel
theorem dX6_readText_2 : decode cX6_readText 2 = .ok (.putfield 221, 3) := by decide +kernel
theorem dX6_readText_5 : decode cX6_readText 5 = .ok (.aload_n 0, 1) := by decide +kernel
theorem dX6_readText_6 : decode cX6_readText 6 = .ok (.getfield 28, 3) := by decide +kernel
theorem dX6_readText_9 : decode cX6_readText 9 = .ok (.iconst 0, 1) := by decide +kernel
theorem dX6_readText_10 : decode cX6_readText 10 = .ok (.iconst 0, 1) := by decide +kernel
theorem dX6_readText_11 : decode cX6_readText 11 = .ok (.iastore, 1) := by decide +kernel
theorem dX6_readText_12 : decode cX6_readText 12 = .ok (.aload_n 0, 1) := by decide +kernel
theorem dX6_readText_13 : decode cX6_readText 13 = .ok (.iconst 0, 1) := by decide +kernel
theorem dX6_readText_14 : decode cX6_readText 14 = .ok (.putfield 212, 3) := by decide +kernel
theorem dX6_readText_17 : decode cX6_readText 17 = .ok (.iconst 0, 1) := by decide +kernel
theorem dX6_readText_18 : decode cX6_readText 18 = .ok (.istore_n 1, 1) := by decide +kernel
theorem dX6_readText_19 : decode cX6_readText 19 = .ok (.iload_n 1, 1) := by decide +kernel
theorem dX6_readText_20 : decode cX6_readText 20 = .ok (.aload_n 0, 1) := by decide +kernel
theorem dX6_readText_21 : decode cX6_readText 21 = .ok (.getfield 209, 3) := by decide +kernel
theorem dX6_readText_24 : decode cX6_readText 24 = .ok (.if_icmp .ge 24, 3) := by decide +kernel
theorem dX6_readText_27 : decode cX6_readText 27 = .ok (.aload_n 0, 1) := by decide +kernel
theorem dX6_readText_28 : decode cX6_readText 28 = .ok (.aload_n 0, 1) := by decide +kernel
theorem dX6_readText_29 : decode cX6_readText 29 = .ok (.getfield 22, 3) := by decide +kernel
theorem dX6_readText_32 : decode cX6_readText 32 = .ok (.iload_n 1, 1) := by decide +kernel
theorem dX6_readText_33 : decode cX6_readText 33 = .ok (.iaload, 1) := by decide +kernel
theorem dX6_readText_34 : decode cX6_readText 34 = .ok (.invokevirtual 231, 3) := by decide +kernel
theorem dX6_readText_37 : decode cX6_readText 37 = .ok (.ifCond .ne 5, 3) := by decide +kernel
theorem dX6_readText_40 : decode cX6_readText 40 = .ok (.iload_n 1, 1) := by decide +kernel
theorem dX6_readText_41 : decode cX6_readText 41 = .ok (.ireturn, 1) := by decide +kernel
theorem dX6_readText_42 : decode cX6_readText 42 = .ok (.iinc 1 1, 3) := by decide +kernel
theorem dX6_readText_45 : decode cX6_readText 45 = .ok (.goto (-26), 3) := by decide +kernel
theorem dX6_readText_48 : decode cX6_readText 48 = .ok (.aload_n 0, 1) := by decide +kernel
theorem dX6_readText_49 : decode cX6_readText 49 = .ok (.getfield 212, 3) := by decide +kernel
theorem dX6_readText_52 : decode cX6_readText 52 = .ok (.ifCond .ne 10, 3) := by decide +kernel
theorem dX6_readText_55 : decode cX6_readText 55 = .ok (.aload_n 0, 1) := by decide +kernel
theorem dX6_readText_56 : decode cX6_readText 56 = .ok (.getfield 221, 3) := by decide +kernel
theorem dX6_readText_59 : decode cX6_readText 59 = .ok (.ifCond .ne 10, 3) := by decide +kernel
theorem dX6_readText_62 : decode cX6_readText 62 = .ok (.aload_n 0, 1) := by decide +kernel
theorem dX6_readText_63 : decode cX6_readText 63 = .ok (.getfield 209, 3) := by decide +kernel
theorem dX6_readText_66 : decode cX6_readText 66 = .ok (.goto 4, 3) := by decide +kernel
theorem dX6_readText_69 : decode cX6_readText 69 = .ok (.iconst (-1), 1) := by decide +kernel
theorem dX6_readText_70 : decode cX6_readText 70 = .ok (.ireturn, 1) := by decide +kernel
theorem dX6_doOrder_0 : decode cX6_doOrder 0 = .ok (.aload_n 0, 1) := by decide +kernel
theorem dX6_doOrder_1 : decode cX6_doOrder 1 = .ok (.getfield 28, 3) := by decide +kernel
theorem dX6_doOrder_4 : decode cX6_doOrder 4 = .ok (.iload_n 1, 1) := by decide +kernel
theorem dX6_doOrder_5 : decode cX6_doOrder 5 = .ok (.iaload, 1) := by decide +kernel
theorem dX6_doOrder_6 : decode cX6_doOrder 6 = .ok (.istore_n 2, 1) := by decide +kernel
theorem dX6_doOrder_7 : decode cX6_doOrder 7 = .ok (.aload_n 0, 1) := by decide +kernel
theorem dX6_doOrder_8 : decode cX6_doOrder 8 = .ok (.getfield 31, 3) := by decide +kernel
theorem dX6_doOrder_11 : decode cX6_doOrder 11 = .ok (.iload_n 2, 1) := by decide +kernel
theorem dX6_doOrder_12 : decode cX6_doOrder 12 = .ok (.iaload, 1) := by decide +kernel
theorem dX6_doOrder_13 : decode cX6_doOrder 13 = .ok (.istore_n 3, 1) := by decide +kernel
theorem dX6_doOrder_14 : decode cX6_doOrder 14 = .ok (.iload_n 2, 1) := by decide +kernel
theorem dX6_doOrder_15 : decode cX6_doOrder 15 = .ok (.iconst 1, 1) := by decide +kernel
theorem dX6_doOrder_16 : decode cX6_doOrder 16 = .ok (.iadd, 1) := by decide +kernel
theorem dX6_doOrder_17 : decode cX6_doOrder 17 = .ok (.bipush 120, 2) := by decide +kernel
theorem dX6_doOrder_19 : decode cX6_doOrder 19 = .ok (.if_icmp .ge 14, 3) := by decide +kernel
theorem dX6_doOrder_22 : decode cX6_doOrder 22 = .ok (.aload_n 0, 1) := by decide +kernel
theorem dX6_doOrder_23 : decode cX6_doOrder 23 = .ok (.getfield 31, 3) := by decide +kernel
theorem dX6_doOrder_26 : decode cX6_doOrder 26 = .ok (.iload_n 2, 1) := by decide +kernel
theorem dX6_doOrder_27 : decode cX6_doOrder 27 = .ok (.iconst 1, 1) := by decide +kernel
theorem dX6_doOrder_28 : decode cX6_doOrder 28 = .ok (.iadd, 1) := by decide +kernel
theorem dX6_doOrder_29 : decode cX6_doOrder 29 = .ok (.iaload, 1) := by decide +kernel
theorem dX6_doOrder_30 : decode cX6_doOrder 30 = .ok (.goto 4, 3) := by decide +kernel
theorem dX6_doOrder_33 : decode cX6_doOrder 33 = .ok (.iconst 0, 1) := by decide +kernel
theorem dX6_doOrder_34 : decode cX6_doOrder 34 = .ok (.istore 4, 2) := by decide +kernel
theorem dX6_doOrder_36 : decode cX6_doOrder 36 = .ok (.aload_n 0, 1) := by decide +kernel
theorem dX6_doOrder_37 : decode cX6_doOrder 37 = .ok (.getfield 25, 3) := by decide +kernel
theorem dX6_doOrder_40 : decode cX6_doOrder 40 = .ok (.iload_n 1, 1) := by decide +kernel
theorem dX6_doOrder_41 : decode cX6_doOrder 41 = .ok (.iaload, 1) := by decide +kernel
theorem dX6_doOrder_42 : decode cX6_doOrder 42 = .ok (.tableswitch 144 102 122 #[138, 144, 144, 144, 144, 144, 126, 144, 112, 132, 144, 98, 144, 144, 104, 144, 144, 144, 144, 144, 118], 98) := by decide +kernel
theorem dX6_doOrder_140 : decode cX6_doOrder 140 = .ok (.aload_n 0, 1) := by decide +kernel
theorem dX6_doOrder_141 : decode cX6_doOrder 141 = .ok (.iload_n 3, 1) := by decide +kernel
theorem dX6_doOrder_142 : decode cX6_doOrder 142 = .ok (.invokevirtual 93, 3) := by decide +kernel
theorem dX6_doOrder_145 : decode cX6_doOrder 145 = .ok (.ireturn, 1) := by decide +kernel
theorem dX6_doOrder_146 : decode cX6_doOrder 146 = .ok (.aload_n 0, 1) := by decide +kernel
theorem dX6_doOrder_147 : decode cX6_doOrder 147 = .ok (.iload_n 3, 1) := by decide +kernel
theorem dX6_doOrder_148 : decode cX6_doOrder 148 = .ok (.iload 4, 2) := by decide +kernel
theorem dX6_doOrder_150 : decode cX6_doOrder 150 = .ok (.invokevirtual 103, 3) := by decide +kernel
theorem dX6_doOrder_153 : decode cX6_doOrder 153 = .ok (.ireturn, 1) := by decide +kernel
theorem dX6_doOrder_154 : decode cX6_doOrder 154 = .ok (.aload_n 0, 1) := by decide +kernel
theorem dX6_doOrder_155 : decode cX6_doOrder 155 = .ok (.iload_n 3, 1) := by decide +kernel
theorem dX6_doOrder_156 : decode cX6_doOrder 156 = .ok (.invokevirtual 106, 3) := by decide +kernel
theorem dX6_doOrder_159 : decode cX6_doOrder 159 = .ok (.ireturn, 1) := by decide +kernel
theorem dX6_doOrder_160 : decode cX6_doOrder 160 = .ok (.aload_n 0, 1) := by decide +kernel
theorem dX6_doOrder_161 : decode cX6_doOrder 161 = .ok (.iload_n 3, 1) := by decide +kernel
theorem dX6_doOrder_162 : decode cX6_doOrder 162 = .ok (.iload 4, 2) := by decide +kernel
theorem dX6_doOrder_164 : decode cX6_doOrder 164 = .ok (.invokevirtual 109, 3) := by decide +kernel
theorem dX6_doOrder_167 : decode cX6_doOrder 167 = .ok (.ireturn, 1) := by decide +kernel
theorem dX6_doOrder_168 : decode cX6_doOrder 168 = .ok (.aload_n 0, 1) := by decide +kernel
theorem dX6_doOrder_169 : decode cX6_doOrder 169 = .ok (.iload_n 3, 1) := by decide +kernel
theorem dX6_doOrder_170 : decode cX6_doOrder 170 = .ok (.invokevirtual 112, 3) := by decide +kernel
theorem dX6_doOrder_173 : decode cX6_doOrder 173 = .ok (.ireturn, 1) := by decide +kernel
theorem dX6_doOrder_174 : decode cX6_doOrder 174 = .ok (.aload_n 0, 1) := by decide +kernel
theorem dX6_doOrder_175 : decode cX6_doOrder 175 = .ok (.iconst (-1), 1) := by decide +kernel
theorem dX6_doOrder_176 : decode cX6_doOrder 176 = .ok (.invokevirtual 112, 3) := by decide +kernel
theorem dX6_doOrder_179 : decode cX6_doOrder 179 = .ok (.ireturn, 1) := by decide +kernel
theorem dX6_doOrder_180 : decode cX6_doOrder 180 = .ok (.aload_n 0, 1) := by decide +kernel
theorem dX6_doOrder_181 : decode cX6_doOrder 181 = .ok (.iload_n 3, 1) := by decide +kernel
theorem dX6_doOrder_182 : decode cX6_doOrder 182 = .ok (.invokevirtual 115, 3) := by decide +kernel
theorem dX6_doOrder_185 : decode cX6_doOrder 185 = .ok (.ireturn, 1) := by decide +kernel
theorem dX6_doOrder_186 : decode cX6_doOrder 186 = .ok (.aload_n 0, 1) := by decide +kernel
theorem dX6_doOrder_187 : decode cX6_doOrder 187 = .ok (.invokevirtual 118, 3) := by decide +kernel
theorem dX6_doOrder_190 : decode cX6_doOrder 190 = .ok (.ireturn, 1) := by decide +kernel
theorem dX6_does_0 : decode cX6_does 0 = .ok (.aload_n 0, 1) := by decide +kernel
theorem dX6_does_1 : decode cX6_does 1 = .ok (.invokevirtual 234, 3) := by decide +kernel
theorem dX6_does_4 : decode cX6_does 4 = .ok (.istore_n 1, 1) := by decide +kernel
theorem dX6_does_5 : decode cX6_does 5 = .ok (.iload_n 1, 1) := by decide +kernel
theorem dX6_does_6 : decode cX6_does 6 = .ok (.iconst (-1), 1) := by decide +kernel
theorem dX6_does_7 : decode cX6_does 7 = .ok (.if_icmp .eq 8, 3) := by decide +kernel
theorem dX6_does_10 : decode cX6_does 10 = .ok (.bipush (-10), 2) := by decide +kernel
theorem dX6_does_12 : decode cX6_does 12 = .ok (.iload_n 1, 1) := by decide +kernel
theorem dX6_does_13 : decode cX6_does 13 = .ok (.isub, 1) := by decide +kernel
theorem dX6_does_14 : decode cX6_does 14 = .ok (.ireturn, 1) := by decide +kernel
theorem dX6_does_15 : decode cX6_does 15 = .ok (.aload_n 0, 1) := by decide +kernel
theorem dX6_does_16 : decode cX6_does 16 = .ok (.getfield 7, 3) := by decide +kernel
theorem dX6_does_19 : decode cX6_does 19 = .ok (.iconst 0, 1) := by decide +kernel
theorem dX6_does_20 : decode cX6_does 20 = .ok (.aload_n 0, 1) := by decide +kernel
theorem dX6_does_21 : decode cX6_does 21 = .ok (.getfield 47, 3) := by decide +kernel
theorem dX6_does_24 : decode cX6_does 24 = .ok (.iconst 0, 1) := by decide +kernel
theorem dX6_does_25 : decode cX6_does 25 = .ok (.invokestatic 50, 3) := by decide +kernel
theorem dX6_does_28 : decode cX6_does 28 = .ok (.iconst 0, 1) := by decide +kernel
theorem dX6_does_29 : decode cX6_does 29 = .ok (.istore_n 2, 1) := by decide +kernel
theorem dX6_does_30 : decode cX6_does 30 = .ok (.iload_n 2, 1) := by decide +kernel
theorem dX6_does_31 : decode cX6_does 31 = .ok (.aload_n 0, 1) := by decide +kernel
theorem dX6_does_32 : decode cX6_does 32 = .ok (.getfield 221, 3) := by decide +kernel
theorem dX6_does_35 : decode cX6_does 35 = .ok (.if_icmp .ge 38, 3) := by decide +kernel
theorem dX6_does_38 : decode cX6_does 38 = .ok (.aload_n 0, 1) := by decide +kernel
theorem dX6_does_39 : decode cX6_does 39 = .ok (.iload_n 2, 1) := by decide +kernel
theorem dX6_does_40 : decode cX6_does 40 = .ok (.invokevirtual 237, 3) := by decide +kernel
theorem dX6_does_43 : decode cX6_does 43 = .ok (.bipush (-2), 2) := by decide +kernel
theorem dX6_does_45 : decode cX6_does 45 = .ok (.if_icmp .gt 22, 3) := by decide +kernel
theorem dX6_does_48 : decode cX6_does 48 = .ok (.aload_n 0, 1) := by decide +kernel
theorem dX6_does_49 : decode cX6_does 49 = .ok (.getfield 47, 3) := by decide +kernel
theorem dX6_does_52 : decode cX6_does 52 = .ok (.iconst 0, 1) := by decide +kernel
theorem dX6_does_53 : decode cX6_does 53 = .ok (.aload_n 0, 1) := by decide +kernel
theorem dX6_does_54 : decode cX6_does 54 = .ok (.getfield 7, 3) := by decide +kernel
theorem dX6_does_57 : decode cX6_does 57 = .ok (.iconst 0, 1) := by decide +kernel
theorem dX6_does_58 : decode cX6_does 58 = .ok (.invokestatic 50, 3) := by decide +kernel
theorem dX6_does_61 : decode cX6_does 61 = .ok (.sipush (-1000), 3) := by decide +kernel
theorem dX6_does_64 : decode cX6_does 64 = .ok (.iload_n 2, 1) := by decide +kernel
theorem dX6_does_65 : decode cX6_does 65 = .ok (.isub, 1) := by decide +kernel
theorem dX6_does_66 : decode cX6_does 66 = .ok (.ireturn, 1) := by decide +kernel
theorem dX6_does_67 : decode cX6_does 67 = .ok (.iinc 2 1, 3) := by decide +kernel
theorem dX6_does_70 : decode cX6_does 70 = .ok (.goto (-40), 3) := by decide +kernel
theorem dX6_does_73 : decode cX6_does 73 = .ok (.aload_n 0, 1) := by decide +kernel
theorem dX6_does_74 : decode cX6_does 74 = .ok (.getfield 47, 3) := by decide +kernel
theorem dX6_does_77 : decode cX6_does 77 = .ok (.iconst 0, 1) := by decide +kernel
theorem dX6_does_78 : decode cX6_does 78 = .ok (.aload_n 0, 1) := by decide +kernel
theorem dX6_does_79 : decode cX6_does 79 = .ok (.getfield 13, 3) := by decide +kernel
theorem dX6_does_82 : decode cX6_does 82 = .ok (.iconst 0, 1) := by decide +kernel
theorem dX6_does_83 : decode cX6_does 83 = .ok (.invokestatic 50, 3) := by decide +kernel
theorem dX6_does_86 : decode cX6_does 86 = .ok (.aload_n 0, 1) := by decide +kernel
theorem dX6_does_87 : decode cX6_does 87 = .ok (.aload_n 0, 1) := by decide +kernel
theorem dX6_does_88 : decode cX6_does 88 = .ok (.getfield 221, 3) := by decide +kernel
theorem dX6_does_91 : decode cX6_does 91 = .ok (.invokevirtual 96, 3) := by decide +kernel
theorem dX6_does_94 : decode cX6_does 94 = .ok (.ireturn, 1) := by decide +kernel
theorem dX6_back_0 : decode cX6_back 0 = .ok (.aload_n 0, 1) := by decide +kernel
theorem dX6_back_1 : decode cX6_back 1 = .ok (.getfield 58, 3) := by decide +kernel
theorem dX6_back_4 : decode cX6_back 4 = .ok (.ifCond .ne 10, 3) := by decide +kernel
theorem dX6_back_7 : decode cX6_back 7 = .ok (.aload_n 0, 1) := by decide +kernel
theorem dX6_back_8 : decode cX6_back 8 = .ok (.bipush (-3), 2) := by decide +kernel
theorem dX6_back_10 : decode cX6_back 10 = .ok (.invokevirtual 54, 3) := by decide +kernel
theorem dX6_back_13 : decode cX6_back 13 = .ok (.ireturn, 1) := by decide +kernel
theorem dX6_back_14 : decode cX6_back 14 = .ok (.aload_n 0, 1) := by decide +kernel
theorem dX6_back_15 : decode cX6_back 15 = .ok (.dup, 1) := by decide +kernel
theorem dX6_back_16 : decode cX6_back 16 = .ok (.getfield 58, 3) := by decide +kernel
theorem dX6_back_19 : decode cX6_back 19 = .ok (.iconst 1, 1) := by decide +kernel
theorem dX6_back_20 : decode cX6_back 20 = .ok (.isub, 1) := by decide +kernel
theorem dX6_back_21 : decode cX6_back 21 = .ok (.putfield 58, 3) := by decide +kernel
theorem dX6_back_24 : decode cX6_back 24 = .ok (.aload_n 0, 1) := by decide +kernel
theorem dX6_back_25 : decode cX6_back 25 = .ok (.getfield 16, 3) := by decide +kernel
theorem dX6_back_28 : decode cX6_back 28 = .ok (.bipush 31, 2) := by decide +kernel
theorem dX6_back_30 : decode cX6_back 30 = .ok (.aload_n 0, 1) := by decide +kernel
theorem dX6_back_31 : decode cX6_back 31 = .ok (.getfield 58, 3) := by decide +kernel
theorem dX6_back_34 : decode cX6_back 34 = .ok (.imul, 1) := by decide +kernel
theorem dX6_back_35 : decode cX6_back 35 = .ok (.aload_n 0, 1) := by decide +kernel
theorem dX6_back_36 : decode cX6_back 36 = .ok (.getfield 7, 3) := by decide +kernel
theorem dX6_back_39 : decode cX6_back 39 = .ok (.iconst 0, 1) := by decide +kernel
theorem dX6_back_40 : decode cX6_back 40 = .ok (.invokestatic 50, 3) := by decide +kernel
theorem dX6_back_43 : decode cX6_back 43 = .ok (.aload_n 0, 1) := by decide +kernel
theorem dX6_back_44 : decode cX6_back 44 = .ok (.getfield 58, 3) := by decide +kernel
theorem dX6_back_47 : decode cX6_back 47 = .ok (.ireturn, 1) := by decide +kernel
theorem dX6_toldOf_0 : decode cX6_toldOf 0 = .ok (.iload_n 1, 1) := by decide +kernel
theorem dX6_toldOf_1 : decode cX6_toldOf 1 = .ok (.iconst 3, 1) := by decide +kernel
theorem dX6_toldOf_2 : decode cX6_toldOf 2 = .ok (.if_icmp .ge 12, 3) := by decide +kernel
theorem dX6_toldOf_5 : decode cX6_toldOf 5 = .ok (.aload_n 0, 1) := by decide +kernel
theorem dX6_toldOf_6 : decode cX6_toldOf 6 = .ok (.getfield 19, 3) := by decide +kernel
theorem dX6_toldOf_9 : decode cX6_toldOf 9 = .ok (.iload_n 1, 1) := by decide +kernel
theorem dX6_toldOf_10 : decode cX6_toldOf 10 = .ok (.iaload, 1) := by decide +kernel
theorem dX6_toldOf_11 : decode cX6_toldOf 11 = .ok (.goto 19, 3) := by decide +kernel
theorem dX6_toldOf_14 : decode cX6_toldOf 14 = .ok (.iload_n 1, 1) := by decide +kernel
theorem dX6_toldOf_15 : decode cX6_toldOf 15 = .ok (.iconst 3, 1) := by decide +kernel
theorem dX6_toldOf_16 : decode cX6_toldOf 16 = .ok (.if_icmp .ne 10, 3) := by decide +kernel
theorem dX6_toldOf_19 : decode cX6_toldOf 19 = .ok (.aload_n 0, 1) := by decide +kernel
theorem dX6_toldOf_20 : decode cX6_toldOf 20 = .ok (.getfield 209, 3) := by decide +kernel
theorem dX6_toldOf_23 : decode cX6_toldOf 23 = .ok (.goto 7, 3) := by decide +kernel
theorem dX6_toldOf_26 : decode cX6_toldOf 26 = .ok (.aload_n 0, 1) := by decide +kernel
theorem dX6_toldOf_27 : decode cX6_toldOf 27 = .ok (.getfield 58, 3) := by decide +kernel
theorem dX6_toldOf_30 : decode cX6_toldOf 30 = .ok (.ireturn, 1) := by decide +kernel
theorem dX6_told_0 : decode cX6_told 0 = .ok (.iload_n 1, 1) := by decide +kernel
theorem dX6_told_1 : decode cX6_told 1 = .ok (.i2l, 1) := by decide +kernel
theorem dX6_told_2 : decode cX6_told 2 = .ok (.lconst 0, 1) := by decide +kernel
theorem dX6_told_3 : decode cX6_told 3 = .ok (.ldc2_w 240, 3) := by decide +kernel
theorem dX6_told_6 : decode cX6_told 6 = .ok (.invokestatic 62, 3) := by decide +kernel
theorem dX6_told_9 : decode cX6_told 9 = .ok (.ifCond .eq 11, 3) := by decide +kernel
theorem dX6_told_12 : decode cX6_told 12 = .ok (.aload_n 0, 1) := by decide +kernel
theorem dX6_told_13 : decode cX6_told 13 = .ok (.iload_n 1, 1) := by decide +kernel
theorem dX6_told_14 : decode cX6_told 14 = .ok (.invokevirtual 242, 3) := by decide +kernel
theorem dX6_told_17 : decode cX6_told 17 = .ok (.goto 9, 3) := by decide +kernel
theorem dX6_told_20 : decode cX6_told 20 = .ok (.aload_n 0, 1) := by decide +kernel
theorem dX6_told_21 : decode cX6_told 21 = .ok (.bipush (-2), 2) := by decide +kernel
theorem dX6_told_23 : decode cX6_told 23 = .ok (.invokevirtual 54, 3) := by decide +kernel
theorem dX6_told_26 : decode cX6_told 26 = .ok (.ireturn, 1) := by decide +kernel
theorem dX6_digest_0 : decode cX6_digest 0 = .ok (.ldc2_w 245, 3) := by decide +kernel
theorem dX6_digest_3 : decode cX6_digest 3 = .ok (.lstore_n 1, 1) := by decide +kernel
theorem dX6_digest_4 : decode cX6_digest 4 = .ok (.iconst 0, 1) := by decide +kernel
theorem dX6_digest_5 : decode cX6_digest 5 = .ok (.istore_n 3, 1) := by decide +kernel
theorem dX6_digest_6 : decode cX6_digest 6 = .ok (.iload_n 3, 1) := by decide +kernel
theorem dX6_digest_7 : decode cX6_digest 7 = .ok (.iconst 5, 1) := by decide +kernel
theorem dX6_digest_8 : decode cX6_digest 8 = .ok (.if_icmp .ge 22, 3) := by decide +kernel
theorem dX6_digest_11 : decode cX6_digest 11 = .ok (.ldc2_w 247, 3) := by decide +kernel
theorem dX6_digest_14 : decode cX6_digest 14 = .ok (.lload_n 1, 1) := by decide +kernel
theorem dX6_digest_15 : decode cX6_digest 15 = .ok (.lmul, 1) := by decide +kernel
theorem dX6_digest_16 : decode cX6_digest 16 = .ok (.aload_n 0, 1) := by decide +kernel
theorem dX6_digest_17 : decode cX6_digest 17 = .ok (.iload_n 3, 1) := by decide +kernel
theorem dX6_digest_18 : decode cX6_digest 18 = .ok (.invokevirtual 242, 3) := by decide +kernel
theorem dX6_digest_21 : decode cX6_digest 21 = .ok (.i2l, 1) := by decide +kernel
theorem dX6_digest_22 : decode cX6_digest 22 = .ok (.ladd, 1) := by decide +kernel
theorem dX6_digest_23 : decode cX6_digest 23 = .ok (.lstore_n 1, 1) := by decide +kernel
theorem dX6_digest_24 : decode cX6_digest 24 = .ok (.iinc 3 1, 3) := by decide +kernel
theorem dX6_digest_27 : decode cX6_digest 27 = .ok (.goto (-21), 3) := by decide +kernel
theorem dX6_digest_30 : decode cX6_digest 30 = .ok (.iconst 0, 1) := by decide +kernel
theorem dX6_digest_31 : decode cX6_digest 31 = .ok (.istore_n 3, 1) := by decide +kernel
theorem dX6_digest_32 : decode cX6_digest 32 = .ok (.iload_n 3, 1) := by decide +kernel
theorem dX6_digest_33 : decode cX6_digest 33 = .ok (.bipush 6, 2) := by decide +kernel
theorem dX6_digest_35 : decode cX6_digest 35 = .ok (.if_icmp .ge 22, 3) := by decide +kernel
theorem dX6_digest_38 : decode cX6_digest 38 = .ok (.ldc2_w 247, 3) := by decide +kernel
theorem dX6_digest_41 : decode cX6_digest 41 = .ok (.lload_n 1, 1) := by decide +kernel
theorem dX6_digest_42 : decode cX6_digest 42 = .ok (.lmul, 1) := by decide +kernel
theorem dX6_digest_43 : decode cX6_digest 43 = .ok (.aload_n 0, 1) := by decide +kernel
theorem dX6_digest_44 : decode cX6_digest 44 = .ok (.iload_n 3, 1) := by decide +kernel
theorem dX6_digest_45 : decode cX6_digest 45 = .ok (.invokevirtual 138, 3) := by decide +kernel
theorem dX6_digest_48 : decode cX6_digest 48 = .ok (.i2l, 1) := by decide +kernel
theorem dX6_digest_49 : decode cX6_digest 49 = .ok (.ladd, 1) := by decide +kernel
theorem dX6_digest_50 : decode cX6_digest 50 = .ok (.lstore_n 1, 1) := by decide +kernel
theorem dX6_digest_51 : decode cX6_digest 51 = .ok (.iinc 3 1, 3) := by decide +kernel
theorem dX6_digest_54 : decode cX6_digest 54 = .ok (.goto (-22), 3) := by decide +kernel
theorem dX6_digest_57 : decode cX6_digest 57 = .ok (.aload_n 0, 1) := by decide +kernel
theorem dX6_digest_58 : decode cX6_digest 58 = .ok (.invokevirtual 204, 3) := by decide +kernel
theorem dX6_digest_61 : decode cX6_digest 61 = .ok (.iconst 0, 1) := by decide +kernel
theorem dX6_digest_62 : decode cX6_digest 62 = .ok (.istore_n 3, 1) := by decide +kernel
theorem dX6_digest_63 : decode cX6_digest 63 = .ok (.iload_n 3, 1) := by decide +kernel
theorem dX6_digest_64 : decode cX6_digest 64 = .ok (.aload_n 0, 1) := by decide +kernel
theorem dX6_digest_65 : decode cX6_digest 65 = .ok (.getfield 7, 3) := by decide +kernel
theorem dX6_digest_68 : decode cX6_digest 68 = .ok (.iconst 0, 1) := by decide +kernel
theorem dX6_digest_69 : decode cX6_digest 69 = .ok (.iaload, 1) := by decide +kernel
theorem dX6_digest_70 : decode cX6_digest 70 = .ok (.if_icmp .ge 53, 3) := by decide +kernel
theorem dX6_digest_73 : decode cX6_digest 73 = .ok (.iconst 0, 1) := by decide +kernel
theorem dX6_digest_74 : decode cX6_digest 74 = .ok (.istore 4, 2) := by decide +kernel
theorem dX6_digest_76 : decode cX6_digest 76 = .ok (.iload 4, 2) := by decide +kernel
theorem dX6_digest_78 : decode cX6_digest 78 = .ok (.iconst 4, 1) := by decide +kernel
theorem dX6_digest_79 : decode cX6_digest 79 = .ok (.if_icmp .ge 24, 3) := by decide +kernel
theorem dX6_digest_82 : decode cX6_digest 82 = .ok (.ldc2_w 247, 3) := by decide +kernel
theorem dX6_digest_85 : decode cX6_digest 85 = .ok (.lload_n 1, 1) := by decide +kernel
theorem dX6_digest_86 : decode cX6_digest 86 = .ok (.lmul, 1) := by decide +kernel
theorem dX6_digest_87 : decode cX6_digest 87 = .ok (.aload_n 0, 1) := by decide +kernel
theorem dX6_digest_88 : decode cX6_digest 88 = .ok (.iload_n 3, 1) := by decide +kernel
theorem dX6_digest_89 : decode cX6_digest 89 = .ok (.iload 4, 2) := by decide +kernel
theorem dX6_digest_91 : decode cX6_digest 91 = .ok (.invokevirtual 127, 3) := by decide +kernel
theorem dX6_digest_94 : decode cX6_digest 94 = .ok (.i2l, 1) := by decide +kernel
theorem dX6_digest_95 : decode cX6_digest 95 = .ok (.ladd, 1) := by decide +kernel
theorem dX6_digest_96 : decode cX6_digest 96 = .ok (.lstore_n 1, 1) := by decide +kernel
theorem dX6_digest_97 : decode cX6_digest 97 = .ok (.iinc 4 1, 3) := by decide +kernel
theorem dX6_digest_100 : decode cX6_digest 100 = .ok (.goto (-24), 3) := by decide +kernel
theorem dX6_digest_103 : decode cX6_digest 103 = .ok (.ldc2_w 247, 3) := by decide +kernel
theorem dX6_digest_106 : decode cX6_digest 106 = .ok (.lload_n 1, 1) := by decide +kernel
theorem dX6_digest_107 : decode cX6_digest 107 = .ok (.lmul, 1) := by decide +kernel
theorem dX6_digest_108 : decode cX6_digest 108 = .ok (.aload_n 0, 1) := by decide +kernel
theorem dX6_digest_109 : decode cX6_digest 109 = .ok (.getfield 44, 3) := by decide +kernel
theorem dX6_digest_112 : decode cX6_digest 112 = .ok (.iload_n 3, 1) := by decide +kernel
theorem dX6_digest_113 : decode cX6_digest 113 = .ok (.iaload, 1) := by decide +kernel
theorem dX6_digest_114 : decode cX6_digest 114 = .ok (.i2l, 1) := by decide +kernel
theorem dX6_digest_115 : decode cX6_digest 115 = .ok (.ladd, 1) := by decide +kernel
theorem dX6_digest_116 : decode cX6_digest 116 = .ok (.lstore_n 1, 1) := by decide +kernel
theorem dX6_digest_117 : decode cX6_digest 117 = .ok (.iinc 3 1, 3) := by decide +kernel
theorem dX6_digest_120 : decode cX6_digest 120 = .ok (.goto (-57), 3) := by decide +kernel
theorem dX6_digest_123 : decode cX6_digest 123 = .ok (.iconst 0, 1) := by decide +kernel
theorem dX6_digest_124 : decode cX6_digest 124 = .ok (.istore_n 3, 1) := by decide +kernel
theorem dX6_digest_125 : decode cX6_digest 125 = .ok (.iload_n 3, 1) := by decide +kernel
theorem dX6_digest_126 : decode cX6_digest 126 = .ok (.iconst 3, 1) := by decide +kernel
theorem dX6_digest_127 : decode cX6_digest 127 = .ok (.if_icmp .ge 39, 3) := by decide +kernel
theorem dX6_digest_130 : decode cX6_digest 130 = .ok (.iconst 0, 1) := by decide +kernel
theorem dX6_digest_131 : decode cX6_digest 131 = .ok (.istore 4, 2) := by decide +kernel
theorem dX6_digest_133 : decode cX6_digest 133 = .ok (.iload 4, 2) := by decide +kernel
theorem dX6_digest_135 : decode cX6_digest 135 = .ok (.iconst 3, 1) := by decide +kernel
theorem dX6_digest_136 : decode cX6_digest 136 = .ok (.if_icmp .ge 24, 3) := by decide +kernel
theorem dX6_digest_139 : decode cX6_digest 139 = .ok (.ldc2_w 247, 3) := by decide +kernel
theorem dX6_digest_142 : decode cX6_digest 142 = .ok (.lload_n 1, 1) := by decide +kernel
theorem dX6_digest_143 : decode cX6_digest 143 = .ok (.lmul, 1) := by decide +kernel
theorem dX6_digest_144 : decode cX6_digest 144 = .ok (.aload_n 0, 1) := by decide +kernel
theorem dX6_digest_145 : decode cX6_digest 145 = .ok (.iload_n 3, 1) := by decide +kernel
theorem dX6_digest_146 : decode cX6_digest 146 = .ok (.iload 4, 2) := by decide +kernel
theorem dX6_digest_148 : decode cX6_digest 148 = .ok (.invokevirtual 133, 3) := by decide +kernel
theorem dX6_digest_151 : decode cX6_digest 151 = .ok (.i2l, 1) := by decide +kernel
theorem dX6_digest_152 : decode cX6_digest 152 = .ok (.ladd, 1) := by decide +kernel
theorem dX6_digest_153 : decode cX6_digest 153 = .ok (.lstore_n 1, 1) := by decide +kernel
theorem dX6_digest_154 : decode cX6_digest 154 = .ok (.iinc 4 1, 3) := by decide +kernel
theorem dX6_digest_157 : decode cX6_digest 157 = .ok (.goto (-24), 3) := by decide +kernel
theorem dX6_digest_160 : decode cX6_digest 160 = .ok (.iinc 3 1, 3) := by decide +kernel
theorem dX6_digest_163 : decode cX6_digest 163 = .ok (.goto (-38), 3) := by decide +kernel
theorem dX6_digest_166 : decode cX6_digest 166 = .ok (.aload_n 0, 1) := by decide +kernel
theorem dX6_digest_167 : decode cX6_digest 167 = .ok (.invokevirtual 86, 3) := by decide +kernel
theorem dX6_digest_170 : decode cX6_digest 170 = .ok (.istore_n 3, 1) := by decide +kernel
theorem dX6_digest_171 : decode cX6_digest 171 = .ok (.ldc2_w 247, 3) := by decide +kernel
theorem dX6_digest_174 : decode cX6_digest 174 = .ok (.lload_n 1, 1) := by decide +kernel
theorem dX6_digest_175 : decode cX6_digest 175 = .ok (.lmul, 1) := by decide +kernel
theorem dX6_digest_176 : decode cX6_digest 176 = .ok (.iload_n 3, 1) := by decide +kernel
theorem dX6_digest_177 : decode cX6_digest 177 = .ok (.ifCond .eq 7, 3) := by decide +kernel
theorem dX6_digest_180 : decode cX6_digest 180 = .ok (.iconst 1, 1) := by decide +kernel
theorem dX6_digest_181 : decode cX6_digest 181 = .ok (.goto 4, 3) := by decide +kernel
theorem dX6_digest_184 : decode cX6_digest 184 = .ok (.iconst 0, 1) := by decide +kernel
theorem dX6_digest_185 : decode cX6_digest 185 = .ok (.i2l, 1) := by decide +kernel
theorem dX6_digest_186 : decode cX6_digest 186 = .ok (.ladd, 1) := by decide +kernel
theorem dX6_digest_187 : decode cX6_digest 187 = .ok (.lstore_n 1, 1) := by decide +kernel
theorem dX6_digest_188 : decode cX6_digest 188 = .ok (.iconst 0, 1) := by decide +kernel
theorem dX6_digest_189 : decode cX6_digest 189 = .ok (.istore 4, 2) := by decide +kernel
theorem dX6_digest_191 : decode cX6_digest 191 = .ok (.iload 4, 2) := by decide +kernel
theorem dX6_digest_193 : decode cX6_digest 193 = .ok (.aload_n 0, 1) := by decide +kernel
theorem dX6_digest_194 : decode cX6_digest 194 = .ok (.getfield 7, 3) := by decide +kernel
theorem dX6_digest_197 : decode cX6_digest 197 = .ok (.iconst 0, 1) := by decide +kernel
theorem dX6_digest_198 : decode cX6_digest 198 = .ok (.iaload, 1) := by decide +kernel
theorem dX6_digest_199 : decode cX6_digest 199 = .ok (.if_icmp .ge 32, 3) := by decide +kernel
theorem dX6_digest_202 : decode cX6_digest 202 = .ok (.iload_n 3, 1) := by decide +kernel
theorem dX6_digest_203 : decode cX6_digest 203 = .ok (.ifCond .eq 28, 3) := by decide +kernel
theorem dX6_digest_206 : decode cX6_digest 206 = .ok (.ldc2_w 247, 3) := by decide +kernel
theorem dX6_digest_209 : decode cX6_digest 209 = .ok (.lload_n 1, 1) := by decide +kernel
theorem dX6_digest_210 : decode cX6_digest 210 = .ok (.lmul, 1) := by decide +kernel
theorem dX6_digest_211 : decode cX6_digest 211 = .ok (.aload_n 0, 1) := by decide +kernel
theorem dX6_digest_212 : decode cX6_digest 212 = .ok (.getfield 41, 3) := by decide +kernel
theorem dX6_digest_215 : decode cX6_digest 215 = .ok (.iload 4, 2) := by decide +kernel
theorem dX6_digest_217 : decode cX6_digest 217 = .ok (.iaload, 1) := by decide +kernel
theorem dX6_digest_218 : decode cX6_digest 218 = .ok (.i2l, 1) := by decide +kernel
theorem dX6_digest_219 : decode cX6_digest 219 = .ok (.ladd, 1) := by decide +kernel
theorem dX6_digest_220 : decode cX6_digest 220 = .ok (.ldc2_w 249, 3) := by decide +kernel
theorem dX6_digest_223 : decode cX6_digest 223 = .ok (.ladd, 1) := by decide +kernel
theorem dX6_digest_224 : decode cX6_digest 224 = .ok (.lstore_n 1, 1) := by decide +kernel
theorem dX6_digest_225 : decode cX6_digest 225 = .ok (.iinc 4 1, 3) := by decide +kernel
theorem dX6_digest_228 : decode cX6_digest 228 = .ok (.goto (-37), 3) := by decide +kernel
theorem dX6_digest_231 : decode cX6_digest 231 = .ok (.iconst 0, 1) := by decide +kernel
theorem dX6_digest_232 : decode cX6_digest 232 = .ok (.istore 4, 2) := by decide +kernel
theorem dX6_digest_234 : decode cX6_digest 234 = .ok (.iload 4, 2) := by decide +kernel
theorem dX6_digest_236 : decode cX6_digest 236 = .ok (.iconst 2, 1) := by decide +kernel
theorem dX6_digest_237 : decode cX6_digest 237 = .ok (.if_icmp .ge 30, 3) := by decide +kernel
theorem dX6_digest_240 : decode cX6_digest 240 = .ok (.iload_n 3, 1) := by decide +kernel
theorem dX6_digest_241 : decode cX6_digest 241 = .ok (.ifCond .eq 26, 3) := by decide +kernel
theorem dX6_digest_244 : decode cX6_digest 244 = .ok (.ldc2_w 247, 3) := by decide +kernel
theorem dX6_digest_247 : decode cX6_digest 247 = .ok (.lload_n 1, 1) := by decide +kernel
theorem dX6_digest_248 : decode cX6_digest 248 = .ok (.lmul, 1) := by decide +kernel
theorem dX6_digest_249 : decode cX6_digest 249 = .ok (.aload_n 0, 1) := by decide +kernel
theorem dX6_digest_250 : decode cX6_digest 250 = .ok (.iload 4, 2) := by decide +kernel
theorem dX6_digest_252 : decode cX6_digest 252 = .ok (.aload_n 0, 1) := by decide +kernel
theorem dX6_digest_253 : decode cX6_digest 253 = .ok (.getfield 41, 3) := by decide +kernel
theorem dX6_digest_256 : decode cX6_digest 256 = .ok (.invokevirtual 194, 3) := by decide +kernel
theorem dX6_digest_259 : decode cX6_digest 259 = .ok (.ladd, 1) := by decide +kernel
theorem dX6_digest_260 : decode cX6_digest 260 = .ok (.lstore_n 1, 1) := by decide +kernel
theorem dX6_digest_261 : decode cX6_digest 261 = .ok (.iinc 4 1, 3) := by decide +kernel
theorem dX6_digest_264 : decode cX6_digest 264 = .ok (.goto (-30), 3) := by decide +kernel
theorem dX6_digest_267 : decode cX6_digest 267 = .ok (.iconst 0, 1) := by decide +kernel
theorem dX6_digest_268 : decode cX6_digest 268 = .ok (.istore 4, 2) := by decide +kernel
theorem dX6_digest_270 : decode cX6_digest 270 = .ok (.iload 4, 2) := by decide +kernel
theorem dX6_digest_272 : decode cX6_digest 272 = .ok (.iconst 2, 1) := by decide +kernel
theorem dX6_digest_273 : decode cX6_digest 273 = .ok (.if_icmp .ge 26, 3) := by decide +kernel
theorem dX6_digest_276 : decode cX6_digest 276 = .ok (.ldc2_w 247, 3) := by decide +kernel
theorem dX6_digest_279 : decode cX6_digest 279 = .ok (.lload_n 1, 1) := by decide +kernel
theorem dX6_digest_280 : decode cX6_digest 280 = .ok (.lmul, 1) := by decide +kernel
theorem dX6_digest_281 : decode cX6_digest 281 = .ok (.aload_n 0, 1) := by decide +kernel
theorem dX6_digest_282 : decode cX6_digest 282 = .ok (.iload 4, 2) := by decide +kernel
theorem dX6_digest_284 : decode cX6_digest 284 = .ok (.aload_n 0, 1) := by decide +kernel
theorem dX6_digest_285 : decode cX6_digest 285 = .ok (.getfield 44, 3) := by decide +kernel
theorem dX6_digest_288 : decode cX6_digest 288 = .ok (.invokevirtual 194, 3) := by decide +kernel
theorem dX6_digest_291 : decode cX6_digest 291 = .ok (.ladd, 1) := by decide +kernel
theorem dX6_digest_292 : decode cX6_digest 292 = .ok (.lstore_n 1, 1) := by decide +kernel
theorem dX6_digest_293 : decode cX6_digest 293 = .ok (.iinc 4 1, 3) := by decide +kernel
theorem dX6_digest_296 : decode cX6_digest 296 = .ok (.goto (-26), 3) := by decide +kernel
theorem dX6_digest_299 : decode cX6_digest 299 = .ok (.lload_n 1, 1) := by decide +kernel
theorem dX6_digest_300 : decode cX6_digest 300 = .ok (.lreturn, 1) := by decide +kernel
end
section
theorem dX0_init_0 : decode cX0_init 0 = .ok (.aload_n 0, 1) := by decide +kernel
theorem dX0_init_1 : decode cX0_init 1 = .ok (.invokespecial 3, 3) := by decide +kernel
theorem dX0_init_4 : decode cX0_init 4 = .ok (.aload_n 0, 1) := by decide +kernel
theorem dX0_init_5 : decode cX0_init 5 = .ok (.new 9, 3) := by decide +kernel
theorem dX0_init_8 : decode cX0_init 8 = .ok (.dup, 1) := by decide +kernel
theorem dX0_init_9 : decode cX0_init 9 = .ok (.invokespecial 11, 3) := by decide +kernel
theorem dX0_init_12 : decode cX0_init 12 = .ok (.putfield 12, 3) := by decide +kernel
theorem dX0_init_15 : decode cX0_init 15 = .ok (.aload_n 0, 1) := by decide +kernel
theorem dX0_init_16 : decode cX0_init 16 = .ok (.sipush 3468, 3) := by decide +kernel
theorem dX0_init_19 : decode cX0_init 19 = .ok (.newarray .long, 2) := by decide +kernel
theorem dX0_init_21 : decode cX0_init 21 = .ok (.putfield 18, 3) := by decide +kernel
theorem dX0_init_24 : decode cX0_init 24 = .ok (.aload_n 0, 1) := by decide +kernel
theorem dX0_init_25 : decode cX0_init 25 = .ok (.sipush 3468, 3) := by decide +kernel
theorem dX0_init_28 : decode cX0_init 28 = .ok (.newarray .int, 2) := by decide +kernel
theorem dX0_init_30 : decode cX0_init 30 = .ok (.putfield 22, 3) := by decide +kernel
theorem dX0_init_33 : decode cX0_init 33 = .ok (.aload_n 0, 1) := by decide +kernel
theorem dX0_init_34 : decode cX0_init 34 = .ok (.bipush 17, 2) := by decide +kernel
theorem dX0_init_36 : decode cX0_init 36 = .ok (.newarray .long, 2) := by decide +kernel
theorem dX0_init_38 : decode cX0_init 38 = .ok (.putfield 26, 3) := by decide +kernel
theorem dX0_init_41 : decode cX0_init 41 = .ok (.aload_n 0, 1) := by decide +kernel
theorem dX0_init_42 : decode cX0_init 42 = .ok (.lconst 0, 1) := by decide +kernel
theorem dX0_init_43 : decode cX0_init 43 = .ok (.putfield 29, 3) := by decide +kernel
theorem dX0_init_46 : decode cX0_init 46 = .ok (.aload_n 0, 1) := by decide +kernel
theorem dX0_init_47 : decode cX0_init 47 = .ok (.iconst 0, 1) := by decide +kernel
theorem dX0_init_48 : decode cX0_init 48 = .ok (.putfield 33, 3) := by decide +kernel
theorem dX0_init_51 : decode cX0_init 51 = .ok (.aload_n 0, 1) := by decide +kernel
theorem dX0_init_52 : decode cX0_init 52 = .ok (.iconst 0, 1) := by decide +kernel
theorem dX0_init_53 : decode cX0_init 53 = .ok (.putfield 37, 3) := by decide +kernel
theorem dX0_init_56 : decode cX0_init 56 = .ok (.aload_n 0, 1) := by decide +kernel
theorem dX0_init_57 : decode cX0_init 57 = .ok (.iconst 0, 1) := by decide +kernel
theorem dX0_init_58 : decode cX0_init 58 = .ok (.putfield 40, 3) := by decide +kernel
theorem dX0_init_61 : decode cX0_init 61 = .ok (.aload_n 0, 1) := by decide +kernel
theorem dX0_init_62 : decode cX0_init 62 = .ok (.iconst 0, 1) := by decide +kernel
theorem dX0_init_63 : decode cX0_init 63 = .ok (.putfield 44, 3) := by decide +kernel
theorem dX0_init_66 : decode cX0_init 66 = .ok (.aload_n 0, 1) := by decide +kernel
theorem dX0_init_67 : decode cX0_init 67 = .ok (.bipush 12, 2) := by decide +kernel
theorem dX0_init_69 : decode cX0_init 69 = .ok (.newarray .int, 2) := by decide +kernel
theorem dX0_init_71 : decode cX0_init 71 = .ok (.putfield 47, 3) := by decide +kernel
theorem dX0_init_74 : decode cX0_init 74 = .ok (.aload_n 0, 1) := by decide +kernel
theorem dX0_init_75 : decode cX0_init 75 = .ok (.iconst 0, 1) := by decide +kernel
theorem dX0_init_76 : decode cX0_init 76 = .ok (.putfield 50, 3) := by decide +kernel
theorem dX0_init_79 : decode cX0_init 79 = .ok (.return_, 1) := by decide +kernel
theorem dX0_forgets_0 : decode cX0_forgets 0 = .ok (.aload_n 0, 1) := by decide +kernel
theorem dX0_forgets_1 : decode cX0_forgets 1 = .ok (.iconst 0, 1) := by decide +kernel
theorem dX0_forgets_2 : decode cX0_forgets 2 = .ok (.putfield 40, 3) := by decide +kernel
theorem dX0_forgets_5 : decode cX0_forgets 5 = .ok (.return_, 1) := by decide +kernel
theorem dX0_meetsWithin_0 : decode cX0_meetsWithin 0 = .ok (.aload_n 0, 1) := by decide +kernel
theorem dX0_meetsWithin_1 : decode cX0_meetsWithin 1 = .ok (.getfield 12, 3) := by decide +kernel
theorem dX0_meetsWithin_4 : decode cX0_meetsWithin 4 = .ok (.aload_n 1, 1) := by decide +kernel
theorem dX0_meetsWithin_5 : decode cX0_meetsWithin 5 = .ok (.iload_n 2, 1) := by decide +kernel
theorem dX0_meetsWithin_6 : decode cX0_meetsWithin 6 = .ok (.iconst (-1), 1) := by decide +kernel
theorem dX0_meetsWithin_7 : decode cX0_meetsWithin 7 = .ok (.invokevirtual 53, 3) := by decide +kernel
theorem dX0_meetsWithin_10 : decode cX0_meetsWithin 10 = .ok (.ireturn, 1) := by decide +kernel
theorem dX0_bends_0 : decode cX0_bends 0 = .ok (.aload_n 0, 1) := by decide +kernel
theorem dX0_bends_1 : decode cX0_bends 1 = .ok (.getfield 40, 3) := by decide +kernel
theorem dX0_bends_4 : decode cX0_bends 4 = .ok (.ifCond .ne 50, 3) := by decide +kernel
theorem dX0_bends_7 : decode cX0_bends 7 = .ok (.aload_n 0, 1) := by decide +kernel
theorem dX0_bends_8 : decode cX0_bends 8 = .ok (.iconst 1, 1) := by decide +kernel
theorem dX0_bends_9 : decode cX0_bends 9 = .ok (.putfield 40, 3) := by decide +kernel
theorem dX0_bends_12 : decode cX0_bends 12 = .ok (.aload_n 0, 1) := by decide +kernel
theorem dX0_bends_13 : decode cX0_bends 13 = .ok (.aload_n 0, 1) := by decide +kernel
theorem dX0_bends_14 : decode cX0_bends 14 = .ok (.getfield 12, 3) := by decide +kernel
theorem dX0_bends_17 : decode cX0_bends 17 = .ok (.aload_n 1, 1) := by decide +kernel
theorem dX0_bends_18 : decode cX0_bends 18 = .ok (.aload_n 1, 1) := by decide +kernel
theorem dX0_bends_19 : decode cX0_bends 19 = .ok (.getfield 57, 3) := by decide +kernel
theorem dX0_bends_22 : decode cX0_bends 22 = .ok (.iconst (-1), 1) := by decide +kernel
theorem dX0_bends_23 : decode cX0_bends 23 = .ok (.invokevirtual 53, 3) := by decide +kernel
theorem dX0_bends_26 : decode cX0_bends 26 = .ok (.putfield 44, 3) := by decide +kernel
theorem dX0_bends_29 : decode cX0_bends 29 = .ok (.aload_n 0, 1) := by decide +kernel
theorem dX0_bends_30 : decode cX0_bends 30 = .ok (.getfield 44, 3) := by decide +kernel
theorem dX0_bends_33 : decode cX0_bends 33 = .ok (.ifCond .eq 21, 3) := by decide +kernel
theorem dX0_bends_36 : decode cX0_bends 36 = .ok (.aload_n 0, 1) := by decide +kernel
theorem dX0_bends_37 : decode cX0_bends 37 = .ok (.aload_n 1, 1) := by decide +kernel
theorem dX0_bends_38 : decode cX0_bends 38 = .ok (.invokevirtual 62, 3) := by decide +kernel
theorem dX0_bends_41 : decode cX0_bends 41 = .ok (.aload_n 0, 1) := by decide +kernel
theorem dX0_bends_42 : decode cX0_bends 42 = .ok (.aload_n 0, 1) := by decide +kernel
theorem dX0_bends_43 : decode cX0_bends 43 = .ok (.getfield 33, 3) := by decide +kernel
theorem dX0_bends_46 : decode cX0_bends 46 = .ok (.putfield 50, 3) := by decide +kernel
theorem dX0_bends_49 : decode cX0_bends 49 = .ok (.aload_n 0, 1) := by decide +kernel
theorem dX0_bends_50 : decode cX0_bends 50 = .ok (.aload_n 1, 1) := by decide +kernel
theorem dX0_bends_51 : decode cX0_bends 51 = .ok (.invokevirtual 66, 3) := by decide +kernel
theorem dX0_bends_54 : decode cX0_bends 54 = .ok (.aload_n 0, 1) := by decide +kernel
theorem dX0_bends_55 : decode cX0_bends 55 = .ok (.getfield 44, 3) := by decide +kernel
theorem dX0_bends_58 : decode cX0_bends 58 = .ok (.ireturn, 1) := by decide +kernel
theorem dX0_leastWithout_0 : decode cX0_leastWithout 0 = .ok (.aload_n 0, 1) := by decide +kernel
theorem dX0_leastWithout_1 : decode cX0_leastWithout 1 = .ok (.getfield 12, 3) := by decide +kernel
theorem dX0_leastWithout_4 : decode cX0_leastWithout 4 = .ok (.aload_n 1, 1) := by decide +kernel
theorem dX0_leastWithout_5 : decode cX0_leastWithout 5 = .ok (.aload_n 1, 1) := by decide +kernel
theorem dX0_leastWithout_6 : decode cX0_leastWithout 6 = .ok (.getfield 57, 3) := by decide +kernel
theorem dX0_leastWithout_9 : decode cX0_leastWithout 9 = .ok (.iload_n 2, 1) := by decide +kernel
theorem dX0_leastWithout_10 : decode cX0_leastWithout 10 = .ok (.invokevirtual 53, 3) := by decide +kernel
theorem dX0_leastWithout_13 : decode cX0_leastWithout 13 = .ok (.ifCond .ne 5, 3) := by decide +kernel
theorem dX0_leastWithout_16 : decode cX0_leastWithout 16 = .ok (.lconst 0, 1) := by decide +kernel
theorem dX0_leastWithout_17 : decode cX0_leastWithout 17 = .ok (.lreturn, 1) := by decide +kernel
theorem dX0_leastWithout_18 : decode cX0_leastWithout 18 = .ok (.aload_n 0, 1) := by decide +kernel
theorem dX0_leastWithout_19 : decode cX0_leastWithout 19 = .ok (.aload_n 1, 1) := by decide +kernel
theorem dX0_leastWithout_20 : decode cX0_leastWithout 20 = .ok (.invokevirtual 62, 3) := by decide +kernel
theorem dX0_leastWithout_23 : decode cX0_leastWithout 23 = .ok (.aload_n 0, 1) := by decide +kernel
theorem dX0_leastWithout_24 : decode cX0_leastWithout 24 = .ok (.getfield 29, 3) := by decide +kernel
theorem dX0_leastWithout_27 : decode cX0_leastWithout 27 = .ok (.bipush 10, 2) := by decide +kernel
theorem dX0_leastWithout_29 : decode cX0_leastWithout 29 = .ok (.lshr, 1) := by decide +kernel
theorem dX0_leastWithout_30 : decode cX0_leastWithout 30 = .ok (.lreturn, 1) := by decide +kernel
theorem dX0_fills_0 : decode cX0_fills 0 = .ok (.aload_n 1, 1) := by decide +kernel
theorem dX0_fills_1 : decode cX0_fills 1 = .ok (.getfield 69, 3) := by decide +kernel
theorem dX0_fills_4 : decode cX0_fills 4 = .ok (.iconst 1, 1) := by decide +kernel
theorem dX0_fills_5 : decode cX0_fills 5 = .ok (.isub, 1) := by decide +kernel
theorem dX0_fills_6 : decode cX0_fills 6 = .ok (.istore_n 2, 1) := by decide +kernel
theorem dX0_fills_7 : decode cX0_fills 7 = .ok (.iload_n 2, 1) := by decide +kernel
theorem dX0_fills_8 : decode cX0_fills 8 = .ok (.ifCond .lt 103, 3) := by decide +kernel
theorem dX0_fills_11 : decode cX0_fills 11 = .ok (.aload_n 0, 1) := by decide +kernel
theorem dX0_fills_12 : decode cX0_fills 12 = .ok (.getfield 12, 3) := by decide +kernel
theorem dX0_fills_15 : decode cX0_fills 15 = .ok (.getfield 72, 3) := by decide +kernel
theorem dX0_fills_18 : decode cX0_fills 18 = .ok (.iload_n 2, 1) := by decide +kernel
theorem dX0_fills_19 : decode cX0_fills 19 = .ok (.iaload, 1) := by decide +kernel
theorem dX0_fills_20 : decode cX0_fills 20 = .ok (.istore_n 3, 1) := by decide +kernel
theorem dX0_fills_21 : decode cX0_fills 21 = .ok (.iload_n 3, 1) := by decide +kernel
theorem dX0_fills_22 : decode cX0_fills 22 = .ok (.aload_n 0, 1) := by decide +kernel
theorem dX0_fills_23 : decode cX0_fills 23 = .ok (.getfield 12, 3) := by decide +kernel
theorem dX0_fills_26 : decode cX0_fills 26 = .ok (.getfield 75, 3) := by decide +kernel
theorem dX0_fills_29 : decode cX0_fills 29 = .ok (.iload_n 2, 1) := by decide +kernel
theorem dX0_fills_30 : decode cX0_fills 30 = .ok (.iaload, 1) := by decide +kernel
theorem dX0_fills_31 : decode cX0_fills 31 = .ok (.if_icmp .gt 74, 3) := by decide +kernel
theorem dX0_fills_34 : decode cX0_fills 34 = .ok (.aload_n 0, 1) := by decide +kernel
theorem dX0_fills_35 : decode cX0_fills 35 = .ok (.aload_n 1, 1) := by decide +kernel
theorem dX0_fills_36 : decode cX0_fills 36 = .ok (.iload_n 2, 1) := by decide +kernel
theorem dX0_fills_37 : decode cX0_fills 37 = .ok (.iconst 1, 1) := by decide +kernel
theorem dX0_fills_38 : decode cX0_fills 38 = .ok (.iadd, 1) := by decide +kernel
theorem dX0_fills_39 : decode cX0_fills 39 = .ok (.iload_n 3, 1) := by decide +kernel
theorem dX0_fills_40 : decode cX0_fills 40 = .ok (.invokevirtual 78, 3) := by decide +kernel
theorem dX0_fills_43 : decode cX0_fills 43 = .ok (.aload_n 0, 1) := by decide +kernel
theorem dX0_fills_44 : decode cX0_fills 44 = .ok (.getfield 12, 3) := by decide +kernel
theorem dX0_fills_47 : decode cX0_fills 47 = .ok (.iload_n 2, 1) := by decide +kernel
theorem dX0_fills_48 : decode cX0_fills 48 = .ok (.iload_n 3, 1) := by decide +kernel
theorem dX0_fills_49 : decode cX0_fills 49 = .ok (.invokevirtual 82, 3) := by decide +kernel
theorem dX0_fills_52 : decode cX0_fills 52 = .ok (.istore 4, 2) := by decide +kernel
theorem dX0_fills_54 : decode cX0_fills 54 = .ok (.aload_n 0, 1) := by decide +kernel
theorem dX0_fills_55 : decode cX0_fills 55 = .ok (.getfield 12, 3) := by decide +kernel
theorem dX0_fills_58 : decode cX0_fills 58 = .ok (.iload_n 2, 1) := by decide +kernel
theorem dX0_fills_59 : decode cX0_fills 59 = .ok (.iload_n 3, 1) := by decide +kernel
theorem dX0_fills_60 : decode cX0_fills 60 = .ok (.invokevirtual 86, 3) := by decide +kernel
theorem dX0_fills_63 : decode cX0_fills 63 = .ok (.istore 5, 2) := by decide +kernel
theorem dX0_fills_65 : decode cX0_fills 65 = .ok (.iload 5, 2) := by decide +kernel
theorem dX0_fills_67 : decode cX0_fills 67 = .ok (.iload 4, 2) := by decide +kernel
theorem dX0_fills_69 : decode cX0_fills 69 = .ok (.if_icmp .gt 30, 3) := by decide +kernel
theorem dX0_fills_72 : decode cX0_fills 72 = .ok (.aload_n 0, 1) := by decide +kernel
theorem dX0_fills_73 : decode cX0_fills 73 = .ok (.iload_n 2, 1) := by decide +kernel
theorem dX0_fills_74 : decode cX0_fills 74 = .ok (.iconst 1, 1) := by decide +kernel
theorem dX0_fills_75 : decode cX0_fills 75 = .ok (.iadd, 1) := by decide +kernel
theorem dX0_fills_76 : decode cX0_fills 76 = .ok (.iload 5, 2) := by decide +kernel
theorem dX0_fills_78 : decode cX0_fills 78 = .ok (.invokevirtual 89, 3) := by decide +kernel
theorem dX0_fills_81 : decode cX0_fills 81 = .ok (.aload_n 0, 1) := by decide +kernel
theorem dX0_fills_82 : decode cX0_fills 82 = .ok (.aload_n 0, 1) := by decide +kernel
theorem dX0_fills_83 : decode cX0_fills 83 = .ok (.iload_n 2, 1) := by decide +kernel
theorem dX0_fills_84 : decode cX0_fills 84 = .ok (.iload 5, 2) := by decide +kernel
theorem dX0_fills_86 : decode cX0_fills 86 = .ok (.iload_n 3, 1) := by decide +kernel
theorem dX0_fills_87 : decode cX0_fills 87 = .ok (.invokevirtual 93, 3) := by decide +kernel
theorem dX0_fills_90 : decode cX0_fills 90 = .ok (.invokevirtual 97, 3) := by decide +kernel
theorem dX0_fills_93 : decode cX0_fills 93 = .ok (.iinc 5 1, 3) := by decide +kernel
theorem dX0_fills_96 : decode cX0_fills 96 = .ok (.goto (-31), 3) := by decide +kernel
theorem dX0_fills_99 : decode cX0_fills 99 = .ok (.iinc 3 1, 3) := by decide +kernel
theorem dX0_fills_102 : decode cX0_fills 102 = .ok (.goto (-81), 3) := by decide +kernel
theorem dX0_fills_105 : decode cX0_fills 105 = .ok (.iinc 2 (-1), 3) := by decide +kernel
theorem dX0_fills_108 : decode cX0_fills 108 = .ok (.goto (-101), 3) := by decide +kernel
theorem dX0_fills_111 : decode cX0_fills 111 = .ok (.aload_n 0, 1) := by decide +kernel
theorem dX0_fills_112 : decode cX0_fills 112 = .ok (.aload_n 1, 1) := by decide +kernel
theorem dX0_fills_113 : decode cX0_fills 113 = .ok (.iconst 0, 1) := by decide +kernel
theorem dX0_fills_114 : decode cX0_fills 114 = .ok (.iconst 0, 1) := by decide +kernel
theorem dX0_fills_115 : decode cX0_fills 115 = .ok (.invokevirtual 78, 3) := by decide +kernel
theorem dX0_fills_118 : decode cX0_fills 118 = .ok (.aload_n 0, 1) := by decide +kernel
theorem dX0_fills_119 : decode cX0_fills 119 = .ok (.iconst 0, 1) := by decide +kernel
theorem dX0_fills_120 : decode cX0_fills 120 = .ok (.iconst 0, 1) := by decide +kernel
theorem dX0_fills_121 : decode cX0_fills 121 = .ok (.invokevirtual 89, 3) := by decide +kernel
theorem dX0_fills_124 : decode cX0_fills 124 = .ok (.return_, 1) := by decide +kernel
theorem dX0_keepsBest_0 : decode cX0_keepsBest 0 = .ok (.aload_n 0, 1) := by decide +kernel
theorem dX0_keepsBest_1 : decode cX0_keepsBest 1 = .ok (.iload_n 1, 1) := by decide +kernel
theorem dX0_keepsBest_2 : decode cX0_keepsBest 2 = .ok (.invokevirtual 101, 3) := by decide +kernel
theorem dX0_keepsBest_5 : decode cX0_keepsBest 5 = .ok (.ifCond .eq 23, 3) := by decide +kernel
theorem dX0_keepsBest_8 : decode cX0_keepsBest 8 = .ok (.aload_n 0, 1) := by decide +kernel
theorem dX0_keepsBest_9 : decode cX0_keepsBest 9 = .ok (.getfield 18, 3) := by decide +kernel
theorem dX0_keepsBest_12 : decode cX0_keepsBest 12 = .ok (.iload_n 1, 1) := by decide +kernel
theorem dX0_keepsBest_13 : decode cX0_keepsBest 13 = .ok (.aload_n 0, 1) := by decide +kernel
theorem dX0_keepsBest_14 : decode cX0_keepsBest 14 = .ok (.getfield 29, 3) := by decide +kernel
theorem dX0_keepsBest_17 : decode cX0_keepsBest 17 = .ok (.lastore, 1) := by decide +kernel
theorem dX0_keepsBest_18 : decode cX0_keepsBest 18 = .ok (.aload_n 0, 1) := by decide +kernel
theorem dX0_keepsBest_19 : decode cX0_keepsBest 19 = .ok (.getfield 22, 3) := by decide +kernel
theorem dX0_keepsBest_22 : decode cX0_keepsBest 22 = .ok (.iload_n 1, 1) := by decide +kernel
theorem dX0_keepsBest_23 : decode cX0_keepsBest 23 = .ok (.aload_n 0, 1) := by decide +kernel
theorem dX0_keepsBest_24 : decode cX0_keepsBest 24 = .ok (.getfield 33, 3) := by decide +kernel
theorem dX0_keepsBest_27 : decode cX0_keepsBest 27 = .ok (.iastore, 1) := by decide +kernel
theorem dX0_keepsBest_28 : decode cX0_keepsBest 28 = .ok (.return_, 1) := by decide +kernel
theorem dX0_traces_0 : decode cX0_traces 0 = .ok (.iconst 0, 1) := by decide +kernel
theorem dX0_traces_1 : decode cX0_traces 1 = .ok (.istore_n 2, 1) := by decide +kernel
theorem dX0_traces_2 : decode cX0_traces 2 = .ok (.iconst 0, 1) := by decide +kernel
theorem dX0_traces_3 : decode cX0_traces 3 = .ok (.istore_n 3, 1) := by decide +kernel
theorem dX0_traces_4 : decode cX0_traces 4 = .ok (.iconst 0, 1) := by decide +kernel
theorem dX0_traces_5 : decode cX0_traces 5 = .ok (.istore 4, 2) := by decide +kernel
theorem dX0_traces_7 : decode cX0_traces 7 = .ok (.iload 4, 2) := by decide +kernel
theorem dX0_traces_9 : decode cX0_traces 9 = .ok (.aload_n 1, 1) := by decide +kernel
theorem dX0_traces_10 : decode cX0_traces 10 = .ok (.getfield 69, 3) := by decide +kernel
theorem dX0_traces_13 : decode cX0_traces 13 = .ok (.if_icmp .ge 74, 3) := by decide +kernel
theorem dX0_traces_16 : decode cX0_traces 16 = .ok (.aload_n 0, 1) := by decide +kernel
theorem dX0_traces_17 : decode cX0_traces 17 = .ok (.aload_n 1, 1) := by decide +kernel
theorem dX0_traces_18 : decode cX0_traces 18 = .ok (.iload 4, 2) := by decide +kernel
theorem dX0_traces_20 : decode cX0_traces 20 = .ok (.iload_n 3, 1) := by decide +kernel
theorem dX0_traces_21 : decode cX0_traces 21 = .ok (.invokevirtual 78, 3) := by decide +kernel
theorem dX0_traces_24 : decode cX0_traces 24 = .ok (.aload_n 0, 1) := by decide +kernel
theorem dX0_traces_25 : decode cX0_traces 25 = .ok (.iload 4, 2) := by decide +kernel
theorem dX0_traces_27 : decode cX0_traces 27 = .ok (.iload_n 2, 1) := by decide +kernel
theorem dX0_traces_28 : decode cX0_traces 28 = .ok (.invokevirtual 89, 3) := by decide +kernel
theorem dX0_traces_31 : decode cX0_traces 31 = .ok (.aload_n 0, 1) := by decide +kernel
theorem dX0_traces_32 : decode cX0_traces 32 = .ok (.getfield 37, 3) := by decide +kernel
theorem dX0_traces_35 : decode cX0_traces 35 = .ok (.istore_n 3, 1) := by decide +kernel
theorem dX0_traces_36 : decode cX0_traces 36 = .ok (.aload_n 0, 1) := by decide +kernel
theorem dX0_traces_37 : decode cX0_traces 37 = .ok (.getfield 12, 3) := by decide +kernel
theorem dX0_traces_40 : decode cX0_traces 40 = .ok (.iload 4, 2) := by decide +kernel
theorem dX0_traces_42 : decode cX0_traces 42 = .ok (.invokevirtual 105, 3) := by decide +kernel
theorem dX0_traces_45 : decode cX0_traces 45 = .ok (.ifCond .eq 18, 3) := by decide +kernel
theorem dX0_traces_48 : decode cX0_traces 48 = .ok (.aload_n 0, 1) := by decide +kernel
theorem dX0_traces_49 : decode cX0_traces 49 = .ok (.getfield 12, 3) := by decide +kernel
theorem dX0_traces_52 : decode cX0_traces 52 = .ok (.iload 4, 2) := by decide +kernel
theorem dX0_traces_54 : decode cX0_traces 54 = .ok (.iload_n 2, 1) := by decide +kernel
theorem dX0_traces_55 : decode cX0_traces 55 = .ok (.invokevirtual 108, 3) := by decide +kernel
theorem dX0_traces_58 : decode cX0_traces 58 = .ok (.iload_n 3, 1) := by decide +kernel
theorem dX0_traces_59 : decode cX0_traces 59 = .ok (.isub, 1) := by decide +kernel
theorem dX0_traces_60 : decode cX0_traces 60 = .ok (.goto 4, 3) := by decide +kernel
theorem dX0_traces_63 : decode cX0_traces 63 = .ok (.iconst 0, 1) := by decide +kernel
theorem dX0_traces_64 : decode cX0_traces 64 = .ok (.istore_n 2, 1) := by decide +kernel
theorem dX0_traces_65 : decode cX0_traces 65 = .ok (.aload_n 0, 1) := by decide +kernel
theorem dX0_traces_66 : decode cX0_traces 66 = .ok (.getfield 47, 3) := by decide +kernel
theorem dX0_traces_69 : decode cX0_traces 69 = .ok (.iload 4, 2) := by decide +kernel
theorem dX0_traces_71 : decode cX0_traces 71 = .ok (.aload_n 1, 1) := by decide +kernel
theorem dX0_traces_72 : decode cX0_traces 72 = .ok (.getfield 111, 3) := by decide +kernel
theorem dX0_traces_75 : decode cX0_traces 75 = .ok (.iload 4, 2) := by decide +kernel
theorem dX0_traces_77 : decode cX0_traces 77 = .ok (.iaload, 1) := by decide +kernel
theorem dX0_traces_78 : decode cX0_traces 78 = .ok (.iload_n 3, 1) := by decide +kernel
theorem dX0_traces_79 : decode cX0_traces 79 = .ok (.iadd, 1) := by decide +kernel
theorem dX0_traces_80 : decode cX0_traces 80 = .ok (.iastore, 1) := by decide +kernel
theorem dX0_traces_81 : decode cX0_traces 81 = .ok (.iinc 4 1, 3) := by decide +kernel
theorem dX0_traces_84 : decode cX0_traces 84 = .ok (.goto (-77), 3) := by decide +kernel
theorem dX0_traces_87 : decode cX0_traces 87 = .ok (.return_, 1) := by decide +kernel
theorem dX0_weighsSteps_0 : decode cX0_weighsSteps 0 = .ok (.iload_n 2, 1) := by decide +kernel
theorem dX0_weighsSteps_1 : decode cX0_weighsSteps 1 = .ok (.aload_n 1, 1) := by decide +kernel
theorem dX0_weighsSteps_2 : decode cX0_weighsSteps 2 = .ok (.getfield 69, 3) := by decide +kernel
theorem dX0_weighsSteps_5 : decode cX0_weighsSteps 5 = .ok (.if_icmp .lt 4, 3) := by decide +kernel
theorem dX0_weighsSteps_8 : decode cX0_weighsSteps 8 = .ok (.return_, 1) := by decide +kernel
theorem dX0_weighsSteps_9 : decode cX0_weighsSteps 9 = .ok (.aload_n 0, 1) := by decide +kernel
theorem dX0_weighsSteps_10 : decode cX0_weighsSteps 10 = .ok (.getfield 12, 3) := by decide +kernel
theorem dX0_weighsSteps_13 : decode cX0_weighsSteps 13 = .ok (.getfield 72, 3) := by decide +kernel
theorem dX0_weighsSteps_16 : decode cX0_weighsSteps 16 = .ok (.iload_n 2, 1) := by decide +kernel
theorem dX0_weighsSteps_17 : decode cX0_weighsSteps 17 = .ok (.iaload, 1) := by decide +kernel
theorem dX0_weighsSteps_18 : decode cX0_weighsSteps 18 = .ok (.istore 4, 2) := by decide +kernel
theorem dX0_weighsSteps_20 : decode cX0_weighsSteps 20 = .ok (.iload 4, 2) := by decide +kernel
theorem dX0_weighsSteps_22 : decode cX0_weighsSteps 22 = .ok (.aload_n 0, 1) := by decide +kernel
theorem dX0_weighsSteps_23 : decode cX0_weighsSteps 23 = .ok (.getfield 12, 3) := by decide +kernel
theorem dX0_weighsSteps_26 : decode cX0_weighsSteps 26 = .ok (.getfield 75, 3) := by decide +kernel
theorem dX0_weighsSteps_29 : decode cX0_weighsSteps 29 = .ok (.iload_n 2, 1) := by decide +kernel
theorem dX0_weighsSteps_30 : decode cX0_weighsSteps 30 = .ok (.iaload, 1) := by decide +kernel
theorem dX0_weighsSteps_31 : decode cX0_weighsSteps 31 = .ok (.if_icmp .gt 79, 3) := by decide +kernel
theorem dX0_weighsSteps_34 : decode cX0_weighsSteps 34 = .ok (.lconst 0, 1) := by decide +kernel
theorem dX0_weighsSteps_35 : decode cX0_weighsSteps 35 = .ok (.lstore 5, 2) := by decide +kernel
theorem dX0_weighsSteps_37 : decode cX0_weighsSteps 37 = .ok (.iload_n 2, 1) := by decide +kernel
theorem dX0_weighsSteps_38 : decode cX0_weighsSteps 38 = .ok (.ifCond .le 41, 3) := by decide +kernel
theorem dX0_weighsSteps_41 : decode cX0_weighsSteps 41 = .ok (.aload_n 1, 1) := by decide +kernel
theorem dX0_weighsSteps_42 : decode cX0_weighsSteps 42 = .ok (.getfield 114, 3) := by decide +kernel
theorem dX0_weighsSteps_45 : decode cX0_weighsSteps 45 = .ok (.ifCond .ne 11, 3) := by decide +kernel
theorem dX0_weighsSteps_48 : decode cX0_weighsSteps 48 = .ok (.iload 4, 2) := by decide +kernel
theorem dX0_weighsSteps_50 : decode cX0_weighsSteps 50 = .ok (.iload_n 3, 1) := by decide +kernel
theorem dX0_weighsSteps_51 : decode cX0_weighsSteps 51 = .ok (.isub, 1) := by decide +kernel
theorem dX0_weighsSteps_52 : decode cX0_weighsSteps 52 = .ok (.i2l, 1) := by decide +kernel
theorem dX0_weighsSteps_53 : decode cX0_weighsSteps 53 = .ok (.goto 24, 3) := by decide +kernel
theorem dX0_weighsSteps_56 : decode cX0_weighsSteps 56 = .ok (.iload 4, 2) := by decide +kernel
theorem dX0_weighsSteps_58 : decode cX0_weighsSteps 58 = .ok (.aload_n 1, 1) := by decide +kernel
theorem dX0_weighsSteps_59 : decode cX0_weighsSteps 59 = .ok (.getfield 111, 3) := by decide +kernel
theorem dX0_weighsSteps_62 : decode cX0_weighsSteps 62 = .ok (.iload_n 2, 1) := by decide +kernel
theorem dX0_weighsSteps_63 : decode cX0_weighsSteps 63 = .ok (.iconst 1, 1) := by decide +kernel
theorem dX0_weighsSteps_64 : decode cX0_weighsSteps 64 = .ok (.isub, 1) := by decide +kernel
theorem dX0_weighsSteps_65 : decode cX0_weighsSteps 65 = .ok (.iaload, 1) := by decide +kernel
theorem dX0_weighsSteps_66 : decode cX0_weighsSteps 66 = .ok (.imul, 1) := by decide +kernel
theorem dX0_weighsSteps_67 : decode cX0_weighsSteps 67 = .ok (.iload_n 3, 1) := by decide +kernel
theorem dX0_weighsSteps_68 : decode cX0_weighsSteps 68 = .ok (.aload_n 1, 1) := by decide +kernel
theorem dX0_weighsSteps_69 : decode cX0_weighsSteps 69 = .ok (.getfield 111, 3) := by decide +kernel
theorem dX0_weighsSteps_72 : decode cX0_weighsSteps 72 = .ok (.iload_n 2, 1) := by decide +kernel
theorem dX0_weighsSteps_73 : decode cX0_weighsSteps 73 = .ok (.iaload, 1) := by decide +kernel
theorem dX0_weighsSteps_74 : decode cX0_weighsSteps 74 = .ok (.imul, 1) := by decide +kernel
theorem dX0_weighsSteps_75 : decode cX0_weighsSteps 75 = .ok (.isub, 1) := by decide +kernel
theorem dX0_weighsSteps_76 : decode cX0_weighsSteps 76 = .ok (.i2l, 1) := by decide +kernel
theorem dX0_weighsSteps_77 : decode cX0_weighsSteps 77 = .ok (.lstore 5, 2) := by decide +kernel
theorem dX0_weighsSteps_79 : decode cX0_weighsSteps 79 = .ok (.aload_n 0, 1) := by decide +kernel
theorem dX0_weighsSteps_80 : decode cX0_weighsSteps 80 = .ok (.getfield 26, 3) := by decide +kernel
theorem dX0_weighsSteps_83 : decode cX0_weighsSteps 83 = .ok (.iload 4, 2) := by decide +kernel
theorem dX0_weighsSteps_85 : decode cX0_weighsSteps 85 = .ok (.bipush 8, 2) := by decide +kernel
theorem dX0_weighsSteps_87 : decode cX0_weighsSteps 87 = .ok (.iadd, 1) := by decide +kernel
theorem dX0_weighsSteps_88 : decode cX0_weighsSteps 88 = .ok (.lload 5, 2) := by decide +kernel
theorem dX0_weighsSteps_90 : decode cX0_weighsSteps 90 = .ok (.lload 5, 2) := by decide +kernel
theorem dX0_weighsSteps_92 : decode cX0_weighsSteps 92 = .ok (.lmul, 1) := by decide +kernel
theorem dX0_weighsSteps_93 : decode cX0_weighsSteps 93 = .ok (.bipush 10, 2) := by decide +kernel
theorem dX0_weighsSteps_95 : decode cX0_weighsSteps 95 = .ok (.lshl, 1) := by decide +kernel
theorem dX0_weighsSteps_96 : decode cX0_weighsSteps 96 = .ok (.iload 4, 2) := by decide +kernel
theorem dX0_weighsSteps_98 : decode cX0_weighsSteps 98 = .ok (.iload 4, 2) := by decide +kernel
theorem dX0_weighsSteps_100 : decode cX0_weighsSteps 100 = .ok (.imul, 1) := by decide +kernel
theorem dX0_weighsSteps_101 : decode cX0_weighsSteps 101 = .ok (.i2l, 1) := by decide +kernel
theorem dX0_weighsSteps_102 : decode cX0_weighsSteps 102 = .ok (.ladd, 1) := by decide +kernel
theorem dX0_weighsSteps_103 : decode cX0_weighsSteps 103 = .ok (.lastore, 1) := by decide +kernel
theorem dX0_weighsSteps_104 : decode cX0_weighsSteps 104 = .ok (.iinc 4 1, 3) := by decide +kernel
theorem dX0_weighsSteps_107 : decode cX0_weighsSteps 107 = .ok (.goto (-87), 3) := by decide +kernel
theorem dX0_weighsSteps_110 : decode cX0_weighsSteps 110 = .ok (.return_, 1) := by decide +kernel
theorem dX0_choosesStep_0 : decode cX0_choosesStep 0 = .ok (.aload_n 0, 1) := by decide +kernel
theorem dX0_choosesStep_1 : decode cX0_choosesStep 1 = .ok (.lconst 0, 1) := by decide +kernel
theorem dX0_choosesStep_2 : decode cX0_choosesStep 2 = .ok (.putfield 29, 3) := by decide +kernel
theorem dX0_choosesStep_5 : decode cX0_choosesStep 5 = .ok (.aload_n 0, 1) := by decide +kernel
theorem dX0_choosesStep_6 : decode cX0_choosesStep 6 = .ok (.iconst 1, 1) := by decide +kernel
theorem dX0_choosesStep_7 : decode cX0_choosesStep 7 = .ok (.putfield 33, 3) := by decide +kernel
theorem dX0_choosesStep_10 : decode cX0_choosesStep 10 = .ok (.aload_n 0, 1) := by decide +kernel
theorem dX0_choosesStep_11 : decode cX0_choosesStep 11 = .ok (.iconst 0, 1) := by decide +kernel
theorem dX0_choosesStep_12 : decode cX0_choosesStep 12 = .ok (.putfield 37, 3) := by decide +kernel
theorem dX0_choosesStep_15 : decode cX0_choosesStep 15 = .ok (.iload_n 1, 1) := by decide +kernel
theorem dX0_choosesStep_16 : decode cX0_choosesStep 16 = .ok (.aload_n 0, 1) := by decide +kernel
theorem dX0_choosesStep_17 : decode cX0_choosesStep 17 = .ok (.getfield 12, 3) := by decide +kernel
theorem dX0_choosesStep_20 : decode cX0_choosesStep 20 = .ok (.getfield 117, 3) := by decide +kernel
theorem dX0_choosesStep_23 : decode cX0_choosesStep 23 = .ok (.if_icmp .lt 4, 3) := by decide +kernel
theorem dX0_choosesStep_26 : decode cX0_choosesStep 26 = .ok (.return_, 1) := by decide +kernel
theorem dX0_choosesStep_27 : decode cX0_choosesStep 27 = .ok (.aload_n 0, 1) := by decide +kernel
theorem dX0_choosesStep_28 : decode cX0_choosesStep 28 = .ok (.getfield 12, 3) := by decide +kernel
theorem dX0_choosesStep_31 : decode cX0_choosesStep 31 = .ok (.iload_n 1, 1) := by decide +kernel
theorem dX0_choosesStep_32 : decode cX0_choosesStep 32 = .ok (.invokevirtual 105, 3) := by decide +kernel
theorem dX0_choosesStep_35 : decode cX0_choosesStep 35 = .ok (.istore_n 3, 1) := by decide +kernel
theorem dX0_choosesStep_36 : decode cX0_choosesStep 36 = .ok (.aload_n 0, 1) := by decide +kernel
theorem dX0_choosesStep_37 : decode cX0_choosesStep 37 = .ok (.getfield 12, 3) := by decide +kernel
theorem dX0_choosesStep_40 : decode cX0_choosesStep 40 = .ok (.iload_n 1, 1) := by decide +kernel
theorem dX0_choosesStep_41 : decode cX0_choosesStep 41 = .ok (.iload_n 2, 1) := by decide +kernel
theorem dX0_choosesStep_42 : decode cX0_choosesStep 42 = .ok (.invokevirtual 108, 3) := by decide +kernel
theorem dX0_choosesStep_45 : decode cX0_choosesStep 45 = .ok (.istore 4, 2) := by decide +kernel
theorem dX0_choosesStep_47 : decode cX0_choosesStep 47 = .ok (.aload_n 0, 1) := by decide +kernel
theorem dX0_choosesStep_48 : decode cX0_choosesStep 48 = .ok (.getfield 12, 3) := by decide +kernel
theorem dX0_choosesStep_51 : decode cX0_choosesStep 51 = .ok (.getfield 72, 3) := by decide +kernel
theorem dX0_choosesStep_54 : decode cX0_choosesStep 54 = .ok (.iload_n 1, 1) := by decide +kernel
theorem dX0_choosesStep_55 : decode cX0_choosesStep 55 = .ok (.iaload, 1) := by decide +kernel
theorem dX0_choosesStep_56 : decode cX0_choosesStep 56 = .ok (.istore 5, 2) := by decide +kernel
theorem dX0_choosesStep_58 : decode cX0_choosesStep 58 = .ok (.aload_n 0, 1) := by decide +kernel
theorem dX0_choosesStep_59 : decode cX0_choosesStep 59 = .ok (.getfield 12, 3) := by decide +kernel
theorem dX0_choosesStep_62 : decode cX0_choosesStep 62 = .ok (.getfield 75, 3) := by decide +kernel
theorem dX0_choosesStep_65 : decode cX0_choosesStep 65 = .ok (.iload_n 1, 1) := by decide +kernel
theorem dX0_choosesStep_66 : decode cX0_choosesStep 66 = .ok (.iaload, 1) := by decide +kernel
theorem dX0_choosesStep_67 : decode cX0_choosesStep 67 = .ok (.istore 6, 2) := by decide +kernel
theorem dX0_choosesStep_69 : decode cX0_choosesStep 69 = .ok (.iload_n 3, 1) := by decide +kernel
theorem dX0_choosesStep_70 : decode cX0_choosesStep 70 = .ok (.ifCond .eq 41, 3) := by decide +kernel
theorem dX0_choosesStep_73 : decode cX0_choosesStep 73 = .ok (.iload 5, 2) := by decide +kernel
theorem dX0_choosesStep_75 : decode cX0_choosesStep 75 = .ok (.iload 4, 2) := by decide +kernel
theorem dX0_choosesStep_77 : decode cX0_choosesStep 77 = .ok (.aload_n 0, 1) := by decide +kernel
theorem dX0_choosesStep_78 : decode cX0_choosesStep 78 = .ok (.getfield 12, 3) := by decide +kernel
theorem dX0_choosesStep_81 : decode cX0_choosesStep 81 = .ok (.getfield 118, 3) := by decide +kernel
theorem dX0_choosesStep_84 : decode cX0_choosesStep 84 = .ok (.iload_n 1, 1) := by decide +kernel
theorem dX0_choosesStep_85 : decode cX0_choosesStep 85 = .ok (.iaload, 1) := by decide +kernel
theorem dX0_choosesStep_86 : decode cX0_choosesStep 86 = .ok (.isub, 1) := by decide +kernel
theorem dX0_choosesStep_87 : decode cX0_choosesStep 87 = .ok (.invokestatic 121, 3) := by decide +kernel
theorem dX0_choosesStep_90 : decode cX0_choosesStep 90 = .ok (.istore 5, 2) := by decide +kernel
theorem dX0_choosesStep_92 : decode cX0_choosesStep 92 = .ok (.iload 6, 2) := by decide +kernel
theorem dX0_choosesStep_94 : decode cX0_choosesStep 94 = .ok (.iload 4, 2) := by decide +kernel
theorem dX0_choosesStep_96 : decode cX0_choosesStep 96 = .ok (.aload_n 0, 1) := by decide +kernel
theorem dX0_choosesStep_97 : decode cX0_choosesStep 97 = .ok (.getfield 12, 3) := by decide +kernel
theorem dX0_choosesStep_100 : decode cX0_choosesStep 100 = .ok (.getfield 126, 3) := by decide +kernel
theorem dX0_choosesStep_103 : decode cX0_choosesStep 103 = .ok (.iload_n 1, 1) := by decide +kernel
theorem dX0_choosesStep_104 : decode cX0_choosesStep 104 = .ok (.iaload, 1) := by decide +kernel
theorem dX0_choosesStep_105 : decode cX0_choosesStep 105 = .ok (.isub, 1) := by decide +kernel
theorem dX0_choosesStep_106 : decode cX0_choosesStep 106 = .ok (.invokestatic 129, 3) := by decide +kernel
theorem dX0_choosesStep_109 : decode cX0_choosesStep 109 = .ok (.istore 6, 2) := by decide +kernel
theorem dX0_choosesStep_111 : decode cX0_choosesStep 111 = .ok (.aload_n 0, 1) := by decide +kernel
theorem dX0_choosesStep_112 : decode cX0_choosesStep 112 = .ok (.iload_n 1, 1) := by decide +kernel
theorem dX0_choosesStep_113 : decode cX0_choosesStep 113 = .ok (.iload_n 3, 1) := by decide +kernel
theorem dX0_choosesStep_114 : decode cX0_choosesStep 114 = .ok (.ifCond .eq 11, 3) := by decide +kernel
theorem dX0_choosesStep_117 : decode cX0_choosesStep 117 = .ok (.iload 4, 2) := by decide +kernel
theorem dX0_choosesStep_119 : decode cX0_choosesStep 119 = .ok (.iload 5, 2) := by decide +kernel
theorem dX0_choosesStep_121 : decode cX0_choosesStep 121 = .ok (.isub, 1) := by decide +kernel
theorem dX0_choosesStep_122 : decode cX0_choosesStep 122 = .ok (.goto 4, 3) := by decide +kernel
theorem dX0_choosesStep_125 : decode cX0_choosesStep 125 = .ok (.iconst 0, 1) := by decide +kernel
theorem dX0_choosesStep_126 : decode cX0_choosesStep 126 = .ok (.iload 5, 2) := by decide +kernel
theorem dX0_choosesStep_128 : decode cX0_choosesStep 128 = .ok (.invokevirtual 93, 3) := by decide +kernel
theorem dX0_choosesStep_131 : decode cX0_choosesStep 131 = .ok (.istore 7, 2) := by decide +kernel
theorem dX0_choosesStep_133 : decode cX0_choosesStep 133 = .ok (.iload_n 3, 1) := by decide +kernel
theorem dX0_choosesStep_134 : decode cX0_choosesStep 134 = .ok (.ifCond .eq 8, 3) := by decide +kernel
theorem dX0_choosesStep_137 : decode cX0_choosesStep 137 = .ok (.bipush (-16), 2) := by decide +kernel
theorem dX0_choosesStep_139 : decode cX0_choosesStep 139 = .ok (.goto 4, 3) := by decide +kernel
theorem dX0_choosesStep_142 : decode cX0_choosesStep 142 = .ok (.iconst 1, 1) := by decide +kernel
theorem dX0_choosesStep_143 : decode cX0_choosesStep 143 = .ok (.istore 8, 2) := by decide +kernel
theorem dX0_choosesStep_145 : decode cX0_choosesStep 145 = .ok (.aload_n 0, 1) := by decide +kernel
theorem dX0_choosesStep_146 : decode cX0_choosesStep 146 = .ok (.ldc2_w 132, 3) := by decide +kernel
theorem dX0_choosesStep_149 : decode cX0_choosesStep 149 = .ok (.putfield 29, 3) := by decide +kernel
theorem dX0_choosesStep_152 : decode cX0_choosesStep 152 = .ok (.aload_n 0, 1) := by decide +kernel
theorem dX0_choosesStep_153 : decode cX0_choosesStep 153 = .ok (.iconst 0, 1) := by decide +kernel
theorem dX0_choosesStep_154 : decode cX0_choosesStep 154 = .ok (.putfield 33, 3) := by decide +kernel
theorem dX0_choosesStep_157 : decode cX0_choosesStep 157 = .ok (.iload 5, 2) := by decide +kernel
theorem dX0_choosesStep_159 : decode cX0_choosesStep 159 = .ok (.istore 9, 2) := by decide +kernel
theorem dX0_choosesStep_161 : decode cX0_choosesStep 161 = .ok (.iload 9, 2) := by decide +kernel
theorem dX0_choosesStep_163 : decode cX0_choosesStep 163 = .ok (.iload 6, 2) := by decide +kernel
theorem dX0_choosesStep_165 : decode cX0_choosesStep 165 = .ok (.if_icmp .gt 113, 3) := by decide +kernel
theorem dX0_choosesStep_168 : decode cX0_choosesStep 168 = .ok (.aload_n 0, 1) := by decide +kernel
theorem dX0_choosesStep_169 : decode cX0_choosesStep 169 = .ok (.iload 7, 2) := by decide +kernel
theorem dX0_choosesStep_171 : decode cX0_choosesStep 171 = .ok (.invokevirtual 101, 3) := by decide +kernel
theorem dX0_choosesStep_174 : decode cX0_choosesStep 174 = .ok (.ifCond .eq 104, 3) := by decide +kernel
theorem dX0_choosesStep_177 : decode cX0_choosesStep 177 = .ok (.aload_n 0, 1) := by decide +kernel
theorem dX0_choosesStep_178 : decode cX0_choosesStep 178 = .ok (.getfield 26, 3) := by decide +kernel
theorem dX0_choosesStep_181 : decode cX0_choosesStep 181 = .ok (.iload 9, 2) := by decide +kernel
theorem dX0_choosesStep_183 : decode cX0_choosesStep 183 = .ok (.bipush 8, 2) := by decide +kernel
theorem dX0_choosesStep_185 : decode cX0_choosesStep 185 = .ok (.iadd, 1) := by decide +kernel
theorem dX0_choosesStep_186 : decode cX0_choosesStep 186 = .ok (.laload, 1) := by decide +kernel
theorem dX0_choosesStep_187 : decode cX0_choosesStep 187 = .ok (.aload_n 0, 1) := by decide +kernel
theorem dX0_choosesStep_188 : decode cX0_choosesStep 188 = .ok (.getfield 18, 3) := by decide +kernel
theorem dX0_choosesStep_191 : decode cX0_choosesStep 191 = .ok (.iload 7, 2) := by decide +kernel
theorem dX0_choosesStep_193 : decode cX0_choosesStep 193 = .ok (.laload, 1) := by decide +kernel
theorem dX0_choosesStep_194 : decode cX0_choosesStep 194 = .ok (.ladd, 1) := by decide +kernel
theorem dX0_choosesStep_195 : decode cX0_choosesStep 195 = .ok (.lstore 10, 2) := by decide +kernel
theorem dX0_choosesStep_197 : decode cX0_choosesStep 197 = .ok (.lload 10, 2) := by decide +kernel
theorem dX0_choosesStep_199 : decode cX0_choosesStep 199 = .ok (.aload_n 0, 1) := by decide +kernel
theorem dX0_choosesStep_200 : decode cX0_choosesStep 200 = .ok (.getfield 29, 3) := by decide +kernel
theorem dX0_choosesStep_203 : decode cX0_choosesStep 203 = .ok (.lcmp, 1) := by decide +kernel
theorem dX0_choosesStep_204 : decode cX0_choosesStep 204 = .ok (.ifCond .ge 29, 3) := by decide +kernel
theorem dX0_choosesStep_207 : decode cX0_choosesStep 207 = .ok (.aload_n 0, 1) := by decide +kernel
theorem dX0_choosesStep_208 : decode cX0_choosesStep 208 = .ok (.lload 10, 2) := by decide +kernel
theorem dX0_choosesStep_210 : decode cX0_choosesStep 210 = .ok (.putfield 29, 3) := by decide +kernel
theorem dX0_choosesStep_213 : decode cX0_choosesStep 213 = .ok (.aload_n 0, 1) := by decide +kernel
theorem dX0_choosesStep_214 : decode cX0_choosesStep 214 = .ok (.aload_n 0, 1) := by decide +kernel
theorem dX0_choosesStep_215 : decode cX0_choosesStep 215 = .ok (.getfield 22, 3) := by decide +kernel
theorem dX0_choosesStep_218 : decode cX0_choosesStep 218 = .ok (.iload 7, 2) := by decide +kernel
theorem dX0_choosesStep_220 : decode cX0_choosesStep 220 = .ok (.iaload, 1) := by decide +kernel
theorem dX0_choosesStep_221 : decode cX0_choosesStep 221 = .ok (.putfield 33, 3) := by decide +kernel
theorem dX0_choosesStep_224 : decode cX0_choosesStep 224 = .ok (.aload_n 0, 1) := by decide +kernel
theorem dX0_choosesStep_225 : decode cX0_choosesStep 225 = .ok (.iload 9, 2) := by decide +kernel
theorem dX0_choosesStep_227 : decode cX0_choosesStep 227 = .ok (.putfield 37, 3) := by decide +kernel
theorem dX0_choosesStep_230 : decode cX0_choosesStep 230 = .ok (.goto 35, 3) := by decide +kernel
theorem dX0_choosesStep_233 : decode cX0_choosesStep 233 = .ok (.lload 10, 2) := by decide +kernel
theorem dX0_choosesStep_235 : decode cX0_choosesStep 235 = .ok (.aload_n 0, 1) := by decide +kernel
theorem dX0_choosesStep_236 : decode cX0_choosesStep 236 = .ok (.getfield 29, 3) := by decide +kernel
theorem dX0_choosesStep_239 : decode cX0_choosesStep 239 = .ok (.lcmp, 1) := by decide +kernel
theorem dX0_choosesStep_240 : decode cX0_choosesStep 240 = .ok (.ifCond .ne 25, 3) := by decide +kernel
theorem dX0_choosesStep_243 : decode cX0_choosesStep 243 = .ok (.aload_n 0, 1) := by decide +kernel
theorem dX0_choosesStep_244 : decode cX0_choosesStep 244 = .ok (.sipush 9999, 3) := by decide +kernel
theorem dX0_choosesStep_247 : decode cX0_choosesStep 247 = .ok (.aload_n 0, 1) := by decide +kernel
theorem dX0_choosesStep_248 : decode cX0_choosesStep 248 = .ok (.getfield 33, 3) := by decide +kernel
theorem dX0_choosesStep_251 : decode cX0_choosesStep 251 = .ok (.aload_n 0, 1) := by decide +kernel
theorem dX0_choosesStep_252 : decode cX0_choosesStep 252 = .ok (.getfield 22, 3) := by decide +kernel
theorem dX0_choosesStep_255 : decode cX0_choosesStep 255 = .ok (.iload 7, 2) := by decide +kernel
theorem dX0_choosesStep_257 : decode cX0_choosesStep 257 = .ok (.iaload, 1) := by decide +kernel
theorem dX0_choosesStep_258 : decode cX0_choosesStep 258 = .ok (.iadd, 1) := by decide +kernel
theorem dX0_choosesStep_259 : decode cX0_choosesStep 259 = .ok (.invokestatic 129, 3) := by decide +kernel
theorem dX0_choosesStep_262 : decode cX0_choosesStep 262 = .ok (.putfield 33, 3) := by decide +kernel
theorem dX0_choosesStep_265 : decode cX0_choosesStep 265 = .ok (.iload 7, 2) := by decide +kernel
theorem dX0_choosesStep_267 : decode cX0_choosesStep 267 = .ok (.iload 8, 2) := by decide +kernel
theorem dX0_choosesStep_269 : decode cX0_choosesStep 269 = .ok (.iadd, 1) := by decide +kernel
theorem dX0_choosesStep_270 : decode cX0_choosesStep 270 = .ok (.istore 7, 2) := by decide +kernel
theorem dX0_choosesStep_272 : decode cX0_choosesStep 272 = .ok (.iinc 9 1, 3) := by decide +kernel
theorem dX0_choosesStep_275 : decode cX0_choosesStep 275 = .ok (.goto (-114), 3) := by decide +kernel
theorem dX0_choosesStep_278 : decode cX0_choosesStep 278 = .ok (.return_, 1) := by decide +kernel
theorem dX0_spot_0 : decode cX0_spot 0 = .ok (.sipush 1156, 3) := by decide +kernel
theorem dX0_spot_3 : decode cX0_spot 3 = .ok (.iload_n 1, 1) := by decide +kernel
theorem dX0_spot_4 : decode cX0_spot 4 = .ok (.iconst 4, 1) := by decide +kernel
theorem dX0_spot_5 : decode cX0_spot 5 = .ok (.idiv, 1) := by decide +kernel
theorem dX0_spot_6 : decode cX0_spot 6 = .ok (.imul, 1) := by decide +kernel
theorem dX0_spot_7 : decode cX0_spot 7 = .ok (.getstatic 134, 3) := by decide +kernel
theorem dX0_spot_10 : decode cX0_spot 10 = .ok (.iload_n 1, 1) := by decide +kernel
theorem dX0_spot_11 : decode cX0_spot 11 = .ok (.iconst 4, 1) := by decide +kernel
theorem dX0_spot_12 : decode cX0_spot 12 = .ok (.irem, 1) := by decide +kernel
theorem dX0_spot_13 : decode cX0_spot 13 = .ok (.iaload, 1) := by decide +kernel
theorem dX0_spot_14 : decode cX0_spot 14 = .ok (.iadd, 1) := by decide +kernel
theorem dX0_spot_15 : decode cX0_spot 15 = .ok (.istore 4, 2) := by decide +kernel
theorem dX0_spot_17 : decode cX0_spot 17 = .ok (.iload 4, 2) := by decide +kernel
theorem dX0_spot_19 : decode cX0_spot 19 = .ok (.iload_n 2, 1) := by decide +kernel
theorem dX0_spot_20 : decode cX0_spot 20 = .ok (.aload_n 0, 1) := by decide +kernel
theorem dX0_spot_21 : decode cX0_spot 21 = .ok (.getfield 12, 3) := by decide +kernel
theorem dX0_spot_24 : decode cX0_spot 24 = .ok (.getfield 126, 3) := by decide +kernel
theorem dX0_spot_27 : decode cX0_spot 27 = .ok (.iload_n 1, 1) := by decide +kernel
theorem dX0_spot_28 : decode cX0_spot 28 = .ok (.iaload, 1) := by decide +kernel
theorem dX0_spot_29 : decode cX0_spot 29 = .ok (.isub, 1) := by decide +kernel
theorem dX0_spot_30 : decode cX0_spot 30 = .ok (.bipush 17, 2) := by decide +kernel
theorem dX0_spot_32 : decode cX0_spot 32 = .ok (.imul, 1) := by decide +kernel
theorem dX0_spot_33 : decode cX0_spot 33 = .ok (.iadd, 1) := by decide +kernel
theorem dX0_spot_34 : decode cX0_spot 34 = .ok (.iload_n 3, 1) := by decide +kernel
theorem dX0_spot_35 : decode cX0_spot 35 = .ok (.iadd, 1) := by decide +kernel
theorem dX0_spot_36 : decode cX0_spot 36 = .ok (.bipush 8, 2) := by decide +kernel
theorem dX0_spot_38 : decode cX0_spot 38 = .ok (.iadd, 1) := by decide +kernel
theorem dX0_spot_39 : decode cX0_spot 39 = .ok (.ireturn, 1) := by decide +kernel
theorem dX0_isSpot_0 : decode cX0_isSpot 0 = .ok (.iload_n 1, 1) := by decide +kernel
theorem dX0_isSpot_1 : decode cX0_isSpot 1 = .ok (.ifCond .lt 16, 3) := by decide +kernel
theorem dX0_isSpot_4 : decode cX0_isSpot 4 = .ok (.iload_n 1, 1) := by decide +kernel
theorem dX0_isSpot_5 : decode cX0_isSpot 5 = .ok (.aload_n 0, 1) := by decide +kernel
theorem dX0_isSpot_6 : decode cX0_isSpot 6 = .ok (.getfield 18, 3) := by decide +kernel
theorem dX0_isSpot_9 : decode cX0_isSpot 9 = .ok (.arraylength, 1) := by decide +kernel
theorem dX0_isSpot_10 : decode cX0_isSpot 10 = .ok (.if_icmp .ge 7, 3) := by decide +kernel
theorem dX0_isSpot_13 : decode cX0_isSpot 13 = .ok (.iconst 1, 1) := by decide +kernel
theorem dX0_isSpot_14 : decode cX0_isSpot 14 = .ok (.goto 4, 3) := by decide +kernel
theorem dX0_isSpot_17 : decode cX0_isSpot 17 = .ok (.iconst 0, 1) := by decide +kernel
theorem dX0_isSpot_18 : decode cX0_isSpot 18 = .ok (.ireturn, 1) := by decide +kernel
theorem dX1_init_0 : decode cX1_init 0 = .ok (.aload_n 0, 1) := by decide +kernel
theorem dX1_init_1 : decode cX1_init 1 = .ok (.invokespecial 3, 3) := by decide +kernel
theorem dX1_init_4 : decode cX1_init 4 = .ok (.aload_n 0, 1) := by decide +kernel
theorem dX1_init_5 : decode cX1_init 5 = .ok (.bipush 12, 2) := by decide +kernel
theorem dX1_init_7 : decode cX1_init 7 = .ok (.newarray .int, 2) := by decide +kernel
theorem dX1_init_9 : decode cX1_init 9 = .ok (.putfield 9, 3) := by decide +kernel
theorem dX1_init_12 : decode cX1_init 12 = .ok (.aload_n 0, 1) := by decide +kernel
theorem dX1_init_13 : decode cX1_init 13 = .ok (.bipush 12, 2) := by decide +kernel
theorem dX1_init_15 : decode cX1_init 15 = .ok (.newarray .int, 2) := by decide +kernel
theorem dX1_init_17 : decode cX1_init 17 = .ok (.putfield 15, 3) := by decide +kernel
theorem dX1_init_20 : decode cX1_init 20 = .ok (.aload_n 0, 1) := by decide +kernel
theorem dX1_init_21 : decode cX1_init 21 = .ok (.bipush 12, 2) := by decide +kernel
theorem dX1_init_23 : decode cX1_init 23 = .ok (.newarray .int, 2) := by decide +kernel
theorem dX1_init_25 : decode cX1_init 25 = .ok (.putfield 18, 3) := by decide +kernel
theorem dX1_init_28 : decode cX1_init 28 = .ok (.aload_n 0, 1) := by decide +kernel
theorem dX1_init_29 : decode cX1_init 29 = .ok (.bipush 12, 2) := by decide +kernel
theorem dX1_init_31 : decode cX1_init 31 = .ok (.newarray .int, 2) := by decide +kernel
theorem dX1_init_33 : decode cX1_init 33 = .ok (.putfield 21, 3) := by decide +kernel
theorem dX1_init_36 : decode cX1_init 36 = .ok (.aload_n 0, 1) := by decide +kernel
theorem dX1_init_37 : decode cX1_init 37 = .ok (.iconst 3, 1) := by decide +kernel
theorem dX1_init_38 : decode cX1_init 38 = .ok (.newarray .boolean, 2) := by decide +kernel
theorem dX1_init_40 : decode cX1_init 40 = .ok (.putfield 24, 3) := by decide +kernel
theorem dX1_init_43 : decode cX1_init 43 = .ok (.aload_n 0, 1) := by decide +kernel
theorem dX1_init_44 : decode cX1_init 44 = .ok (.iconst 3, 1) := by decide +kernel
theorem dX1_init_45 : decode cX1_init 45 = .ok (.newarray .int, 2) := by decide +kernel
theorem dX1_init_47 : decode cX1_init 47 = .ok (.putfield 28, 3) := by decide +kernel
theorem dX1_init_50 : decode cX1_init 50 = .ok (.aload_n 0, 1) := by decide +kernel
theorem dX1_init_51 : decode cX1_init 51 = .ok (.iconst 0, 1) := by decide +kernel
theorem dX1_init_52 : decode cX1_init 52 = .ok (.putfield 31, 3) := by decide +kernel
theorem dX1_init_55 : decode cX1_init 55 = .ok (.return_, 1) := by decide +kernel
theorem dX1_lays_0 : decode cX1_lays 0 = .ok (.aload_n 0, 1) := by decide +kernel
theorem dX1_lays_1 : decode cX1_lays 1 = .ok (.aload_n 1, 1) := by decide +kernel
theorem dX1_lays_2 : decode cX1_lays 2 = .ok (.getfield 35, 3) := by decide +kernel
theorem dX1_lays_5 : decode cX1_lays 5 = .ok (.putfield 31, 3) := by decide +kernel
theorem dX1_lays_8 : decode cX1_lays 8 = .ok (.iconst 1, 1) := by decide +kernel
theorem dX1_lays_9 : decode cX1_lays 9 = .ok (.istore 4, 2) := by decide +kernel
theorem dX1_lays_11 : decode cX1_lays 11 = .ok (.iconst 0, 1) := by decide +kernel
theorem dX1_lays_12 : decode cX1_lays 12 = .ok (.istore 5, 2) := by decide +kernel
theorem dX1_lays_14 : decode cX1_lays 14 = .ok (.iload 5, 2) := by decide +kernel
theorem dX1_lays_16 : decode cX1_lays 16 = .ok (.aload_n 0, 1) := by decide +kernel
theorem dX1_lays_17 : decode cX1_lays 17 = .ok (.getfield 31, 3) := by decide +kernel
theorem dX1_lays_20 : decode cX1_lays 20 = .ok (.if_icmp .ge 46, 3) := by decide +kernel
theorem dX1_lays_23 : decode cX1_lays 23 = .ok (.aload_n 0, 1) := by decide +kernel
theorem dX1_lays_24 : decode cX1_lays 24 = .ok (.aload_n 1, 1) := by decide +kernel
theorem dX1_lays_25 : decode cX1_lays 25 = .ok (.iload_n 2, 1) := by decide +kernel
theorem dX1_lays_26 : decode cX1_lays 26 = .ok (.iload 5, 2) := by decide +kernel
theorem dX1_lays_28 : decode cX1_lays 28 = .ok (.invokevirtual 38, 3) := by decide +kernel
theorem dX1_lays_31 : decode cX1_lays 31 = .ok (.iload 4, 2) := by decide +kernel
theorem dX1_lays_33 : decode cX1_lays 33 = .ok (.ifCond .eq 24, 3) := by decide +kernel
theorem dX1_lays_36 : decode cX1_lays 36 = .ok (.aload_n 0, 1) := by decide +kernel
theorem dX1_lays_37 : decode cX1_lays 37 = .ok (.getfield 9, 3) := by decide +kernel
theorem dX1_lays_40 : decode cX1_lays 40 = .ok (.iload 5, 2) := by decide +kernel
theorem dX1_lays_42 : decode cX1_lays 42 = .ok (.iaload, 1) := by decide +kernel
theorem dX1_lays_43 : decode cX1_lays 43 = .ok (.aload_n 0, 1) := by decide +kernel
theorem dX1_lays_44 : decode cX1_lays 44 = .ok (.getfield 15, 3) := by decide +kernel
theorem dX1_lays_47 : decode cX1_lays 47 = .ok (.iload 5, 2) := by decide +kernel
theorem dX1_lays_49 : decode cX1_lays 49 = .ok (.iaload, 1) := by decide +kernel
theorem dX1_lays_50 : decode cX1_lays 50 = .ok (.if_icmp .gt 7, 3) := by decide +kernel
theorem dX1_lays_53 : decode cX1_lays 53 = .ok (.iconst 1, 1) := by decide +kernel
theorem dX1_lays_54 : decode cX1_lays 54 = .ok (.goto 4, 3) := by decide +kernel
theorem dX1_lays_57 : decode cX1_lays 57 = .ok (.iconst 0, 1) := by decide +kernel
theorem dX1_lays_58 : decode cX1_lays 58 = .ok (.istore 4, 2) := by decide +kernel
theorem dX1_lays_60 : decode cX1_lays 60 = .ok (.iinc 5 1, 3) := by decide +kernel
theorem dX1_lays_63 : decode cX1_lays 63 = .ok (.goto (-49), 3) := by decide +kernel
theorem dX1_lays_66 : decode cX1_lays 66 = .ok (.iconst 0, 1) := by decide +kernel
theorem dX1_lays_67 : decode cX1_lays 67 = .ok (.istore 5, 2) := by decide +kernel
theorem dX1_lays_69 : decode cX1_lays 69 = .ok (.iload 5, 2) := by decide +kernel
theorem dX1_lays_71 : decode cX1_lays 71 = .ok (.iconst 3, 1) := by decide +kernel
theorem dX1_lays_72 : decode cX1_lays 72 = .ok (.if_icmp .ge 86, 3) := by decide +kernel
theorem dX1_lays_75 : decode cX1_lays 75 = .ok (.aload_n 0, 1) := by decide +kernel
theorem dX1_lays_76 : decode cX1_lays 76 = .ok (.getfield 24, 3) := by decide +kernel
theorem dX1_lays_79 : decode cX1_lays 79 = .ok (.iload 5, 2) := by decide +kernel
theorem dX1_lays_81 : decode cX1_lays 81 = .ok (.iload 5, 2) := by decide +kernel
theorem dX1_lays_83 : decode cX1_lays 83 = .ok (.iload_n 3, 1) := by decide +kernel
theorem dX1_lays_84 : decode cX1_lays 84 = .ok (.if_icmp .eq 18, 3) := by decide +kernel
theorem dX1_lays_87 : decode cX1_lays 87 = .ok (.aload_n 1, 1) := by decide +kernel
theorem dX1_lays_88 : decode cX1_lays 88 = .ok (.getfield 42, 3) := by decide +kernel
theorem dX1_lays_91 : decode cX1_lays 91 = .ok (.iload 5, 2) := by decide +kernel
theorem dX1_lays_93 : decode cX1_lays 93 = .ok (.iaload, 1) := by decide +kernel
theorem dX1_lays_94 : decode cX1_lays 94 = .ok (.iconst (-1), 1) := by decide +kernel
theorem dX1_lays_95 : decode cX1_lays 95 = .ok (.if_icmp .eq 7, 3) := by decide +kernel
theorem dX1_lays_98 : decode cX1_lays 98 = .ok (.iconst 1, 1) := by decide +kernel
theorem dX1_lays_99 : decode cX1_lays 99 = .ok (.goto 4, 3) := by decide +kernel
theorem dX1_lays_102 : decode cX1_lays 102 = .ok (.iconst 0, 1) := by decide +kernel
theorem dX1_lays_103 : decode cX1_lays 103 = .ok (.bastore, 1) := by decide +kernel
theorem dX1_lays_104 : decode cX1_lays 104 = .ok (.aload_n 0, 1) := by decide +kernel
theorem dX1_lays_105 : decode cX1_lays 105 = .ok (.getfield 28, 3) := by decide +kernel
theorem dX1_lays_108 : decode cX1_lays 108 = .ok (.iload 5, 2) := by decide +kernel
theorem dX1_lays_110 : decode cX1_lays 110 = .ok (.aload_n 0, 1) := by decide +kernel
theorem dX1_lays_111 : decode cX1_lays 111 = .ok (.getfield 24, 3) := by decide +kernel
theorem dX1_lays_114 : decode cX1_lays 114 = .ok (.iload 5, 2) := by decide +kernel
theorem dX1_lays_116 : decode cX1_lays 116 = .ok (.baload, 1) := by decide +kernel
theorem dX1_lays_117 : decode cX1_lays 117 = .ok (.ifCond .eq 12, 3) := by decide +kernel
theorem dX1_lays_120 : decode cX1_lays 120 = .ok (.aload_n 1, 1) := by decide +kernel
theorem dX1_lays_121 : decode cX1_lays 121 = .ok (.iload 5, 2) := by decide +kernel
theorem dX1_lays_123 : decode cX1_lays 123 = .ok (.invokevirtual 45, 3) := by decide +kernel
theorem dX1_lays_126 : decode cX1_lays 126 = .ok (.goto 4, 3) := by decide +kernel
theorem dX1_lays_129 : decode cX1_lays 129 = .ok (.iconst 0, 1) := by decide +kernel
theorem dX1_lays_130 : decode cX1_lays 130 = .ok (.iastore, 1) := by decide +kernel
theorem dX1_lays_131 : decode cX1_lays 131 = .ok (.iload 4, 2) := by decide +kernel
theorem dX1_lays_133 : decode cX1_lays 133 = .ok (.ifCond .eq 16, 3) := by decide +kernel
theorem dX1_lays_136 : decode cX1_lays 136 = .ok (.aload_n 0, 1) := by decide +kernel
theorem dX1_lays_137 : decode cX1_lays 137 = .ok (.iload 5, 2) := by decide +kernel
theorem dX1_lays_139 : decode cX1_lays 139 = .ok (.invokevirtual 49, 3) := by decide +kernel
theorem dX1_lays_142 : decode cX1_lays 142 = .ok (.ifCond .eq 7, 3) := by decide +kernel
theorem dX1_lays_145 : decode cX1_lays 145 = .ok (.iconst 1, 1) := by decide +kernel
theorem dX1_lays_146 : decode cX1_lays 146 = .ok (.goto 4, 3) := by decide +kernel
theorem dX1_lays_149 : decode cX1_lays 149 = .ok (.iconst 0, 1) := by decide +kernel
theorem dX1_lays_150 : decode cX1_lays 150 = .ok (.istore 4, 2) := by decide +kernel
theorem dX1_lays_152 : decode cX1_lays 152 = .ok (.iinc 5 1, 3) := by decide +kernel
theorem dX1_lays_155 : decode cX1_lays 155 = .ok (.goto (-86), 3) := by decide +kernel
theorem dX1_lays_158 : decode cX1_lays 158 = .ok (.iload 4, 2) := by decide +kernel
theorem dX1_lays_160 : decode cX1_lays 160 = .ok (.ireturn, 1) := by decide +kernel
theorem dX1_laysQuarter_0 : decode cX1_laysQuarter 0 = .ok (.aload_n 0, 1) := by decide +kernel
theorem dX1_laysQuarter_1 : decode cX1_laysQuarter 1 = .ok (.getfield 9, 3) := by decide +kernel
theorem dX1_laysQuarter_4 : decode cX1_laysQuarter 4 = .ok (.iload_n 3, 1) := by decide +kernel
theorem dX1_laysQuarter_5 : decode cX1_laysQuarter 5 = .ok (.bipush (-8), 2) := by decide +kernel
theorem dX1_laysQuarter_7 : decode cX1_laysQuarter 7 = .ok (.iastore, 1) := by decide +kernel
theorem dX1_laysQuarter_8 : decode cX1_laysQuarter 8 = .ok (.aload_n 0, 1) := by decide +kernel
theorem dX1_laysQuarter_9 : decode cX1_laysQuarter 9 = .ok (.getfield 15, 3) := by decide +kernel
theorem dX1_laysQuarter_12 : decode cX1_laysQuarter 12 = .ok (.iload_n 3, 1) := by decide +kernel
theorem dX1_laysQuarter_13 : decode cX1_laysQuarter 13 = .ok (.bipush 8, 2) := by decide +kernel
theorem dX1_laysQuarter_15 : decode cX1_laysQuarter 15 = .ok (.iastore, 1) := by decide +kernel
theorem dX1_laysQuarter_16 : decode cX1_laysQuarter 16 = .ok (.aload_n 1, 1) := by decide +kernel
theorem dX1_laysQuarter_17 : decode cX1_laysQuarter 17 = .ok (.iload_n 3, 1) := by decide +kernel
theorem dX1_laysQuarter_18 : decode cX1_laysQuarter 18 = .ok (.invokevirtual 53, 3) := by decide +kernel
theorem dX1_laysQuarter_21 : decode cX1_laysQuarter 21 = .ok (.ifCond .eq 7, 3) := by decide +kernel
theorem dX1_laysQuarter_24 : decode cX1_laysQuarter 24 = .ok (.iconst 0, 1) := by decide +kernel
theorem dX1_laysQuarter_25 : decode cX1_laysQuarter 25 = .ok (.goto 4, 3) := by decide +kernel
theorem dX1_laysQuarter_28 : decode cX1_laysQuarter 28 = .ok (.iload_n 2, 1) := by decide +kernel
theorem dX1_laysQuarter_29 : decode cX1_laysQuarter 29 = .ok (.istore 4, 2) := by decide +kernel
theorem dX1_laysQuarter_31 : decode cX1_laysQuarter 31 = .ok (.aload_n 1, 1) := by decide +kernel
theorem dX1_laysQuarter_32 : decode cX1_laysQuarter 32 = .ok (.iload_n 3, 1) := by decide +kernel
theorem dX1_laysQuarter_33 : decode cX1_laysQuarter 33 = .ok (.invokevirtual 56, 3) := by decide +kernel
theorem dX1_laysQuarter_36 : decode cX1_laysQuarter 36 = .ok (.ifCond .eq 67, 3) := by decide +kernel
theorem dX1_laysQuarter_39 : decode cX1_laysQuarter 39 = .ok (.iload 4, 2) := by decide +kernel
theorem dX1_laysQuarter_41 : decode cX1_laysQuarter 41 = .ok (.iconst (-1), 1) := by decide +kernel
theorem dX1_laysQuarter_42 : decode cX1_laysQuarter 42 = .ok (.if_icmp .eq 61, 3) := by decide +kernel
theorem dX1_laysQuarter_45 : decode cX1_laysQuarter 45 = .ok (.aload_n 1, 1) := by decide +kernel
theorem dX1_laysQuarter_46 : decode cX1_laysQuarter 46 = .ok (.getfield 59, 3) := by decide +kernel
theorem dX1_laysQuarter_49 : decode cX1_laysQuarter 49 = .ok (.iload_n 3, 1) := by decide +kernel
theorem dX1_laysQuarter_50 : decode cX1_laysQuarter 50 = .ok (.iaload, 1) := by decide +kernel
theorem dX1_laysQuarter_51 : decode cX1_laysQuarter 51 = .ok (.bipush 8, 2) := by decide +kernel
theorem dX1_laysQuarter_53 : decode cX1_laysQuarter 53 = .ok (.isub, 1) := by decide +kernel
theorem dX1_laysQuarter_54 : decode cX1_laysQuarter 54 = .ok (.aload_n 1, 1) := by decide +kernel
theorem dX1_laysQuarter_55 : decode cX1_laysQuarter 55 = .ok (.getfield 62, 3) := by decide +kernel
theorem dX1_laysQuarter_58 : decode cX1_laysQuarter 58 = .ok (.iload_n 3, 1) := by decide +kernel
theorem dX1_laysQuarter_59 : decode cX1_laysQuarter 59 = .ok (.iaload, 1) := by decide +kernel
theorem dX1_laysQuarter_60 : decode cX1_laysQuarter 60 = .ok (.isub, 1) := by decide +kernel
theorem dX1_laysQuarter_61 : decode cX1_laysQuarter 61 = .ok (.istore 5, 2) := by decide +kernel
theorem dX1_laysQuarter_63 : decode cX1_laysQuarter 63 = .ok (.aload_n 0, 1) := by decide +kernel
theorem dX1_laysQuarter_64 : decode cX1_laysQuarter 64 = .ok (.getfield 9, 3) := by decide +kernel
theorem dX1_laysQuarter_67 : decode cX1_laysQuarter 67 = .ok (.iload_n 3, 1) := by decide +kernel
theorem dX1_laysQuarter_68 : decode cX1_laysQuarter 68 = .ok (.aload_n 0, 1) := by decide +kernel
theorem dX1_laysQuarter_69 : decode cX1_laysQuarter 69 = .ok (.getfield 9, 3) := by decide +kernel
theorem dX1_laysQuarter_72 : decode cX1_laysQuarter 72 = .ok (.iload_n 3, 1) := by decide +kernel
theorem dX1_laysQuarter_73 : decode cX1_laysQuarter 73 = .ok (.iaload, 1) := by decide +kernel
theorem dX1_laysQuarter_74 : decode cX1_laysQuarter 74 = .ok (.iload 5, 2) := by decide +kernel
theorem dX1_laysQuarter_76 : decode cX1_laysQuarter 76 = .ok (.iload 4, 2) := by decide +kernel
theorem dX1_laysQuarter_78 : decode cX1_laysQuarter 78 = .ok (.isub, 1) := by decide +kernel
theorem dX1_laysQuarter_79 : decode cX1_laysQuarter 79 = .ok (.invokestatic 65, 3) := by decide +kernel
theorem dX1_laysQuarter_82 : decode cX1_laysQuarter 82 = .ok (.iastore, 1) := by decide +kernel
theorem dX1_laysQuarter_83 : decode cX1_laysQuarter 83 = .ok (.aload_n 0, 1) := by decide +kernel
theorem dX1_laysQuarter_84 : decode cX1_laysQuarter 84 = .ok (.getfield 15, 3) := by decide +kernel
theorem dX1_laysQuarter_87 : decode cX1_laysQuarter 87 = .ok (.iload_n 3, 1) := by decide +kernel
theorem dX1_laysQuarter_88 : decode cX1_laysQuarter 88 = .ok (.aload_n 0, 1) := by decide +kernel
theorem dX1_laysQuarter_89 : decode cX1_laysQuarter 89 = .ok (.getfield 15, 3) := by decide +kernel
theorem dX1_laysQuarter_92 : decode cX1_laysQuarter 92 = .ok (.iload_n 3, 1) := by decide +kernel
theorem dX1_laysQuarter_93 : decode cX1_laysQuarter 93 = .ok (.iaload, 1) := by decide +kernel
theorem dX1_laysQuarter_94 : decode cX1_laysQuarter 94 = .ok (.iload 5, 2) := by decide +kernel
theorem dX1_laysQuarter_96 : decode cX1_laysQuarter 96 = .ok (.iload 4, 2) := by decide +kernel
theorem dX1_laysQuarter_98 : decode cX1_laysQuarter 98 = .ok (.iadd, 1) := by decide +kernel
theorem dX1_laysQuarter_99 : decode cX1_laysQuarter 99 = .ok (.invokestatic 71, 3) := by decide +kernel
theorem dX1_laysQuarter_102 : decode cX1_laysQuarter 102 = .ok (.iastore, 1) := by decide +kernel
theorem dX1_laysQuarter_103 : decode cX1_laysQuarter 103 = .ok (.return_, 1) := by decide +kernel
theorem dX1_laysYear_0 : decode cX1_laysYear 0 = .ok (.iconst 4, 1) := by decide +kernel
theorem dX1_laysYear_1 : decode cX1_laysYear 1 = .ok (.iload_n 1, 1) := by decide +kernel
theorem dX1_laysYear_2 : decode cX1_laysYear 2 = .ok (.imul, 1) := by decide +kernel
theorem dX1_laysYear_3 : decode cX1_laysYear 3 = .ok (.istore_n 2, 1) := by decide +kernel
theorem dX1_laysYear_4 : decode cX1_laysYear 4 = .ok (.iconst 0, 1) := by decide +kernel
theorem dX1_laysYear_5 : decode cX1_laysYear 5 = .ok (.istore_n 3, 1) := by decide +kernel
theorem dX1_laysYear_6 : decode cX1_laysYear 6 = .ok (.iconst 0, 1) := by decide +kernel
theorem dX1_laysYear_7 : decode cX1_laysYear 7 = .ok (.istore 4, 2) := by decide +kernel
theorem dX1_laysYear_9 : decode cX1_laysYear 9 = .ok (.iload_n 2, 1) := by decide +kernel
theorem dX1_laysYear_10 : decode cX1_laysYear 10 = .ok (.istore 5, 2) := by decide +kernel
theorem dX1_laysYear_12 : decode cX1_laysYear 12 = .ok (.iload 5, 2) := by decide +kernel
theorem dX1_laysYear_14 : decode cX1_laysYear 14 = .ok (.iload_n 2, 1) := by decide +kernel
theorem dX1_laysYear_15 : decode cX1_laysYear 15 = .ok (.iconst 4, 1) := by decide +kernel
theorem dX1_laysYear_16 : decode cX1_laysYear 16 = .ok (.iadd, 1) := by decide +kernel
theorem dX1_laysYear_17 : decode cX1_laysYear 17 = .ok (.if_icmp .ge 31, 3) := by decide +kernel
theorem dX1_laysYear_20 : decode cX1_laysYear 20 = .ok (.iload_n 3, 1) := by decide +kernel
theorem dX1_laysYear_21 : decode cX1_laysYear 21 = .ok (.aload_n 0, 1) := by decide +kernel
theorem dX1_laysYear_22 : decode cX1_laysYear 22 = .ok (.getfield 9, 3) := by decide +kernel
theorem dX1_laysYear_25 : decode cX1_laysYear 25 = .ok (.iload 5, 2) := by decide +kernel
theorem dX1_laysYear_27 : decode cX1_laysYear 27 = .ok (.iaload, 1) := by decide +kernel
theorem dX1_laysYear_28 : decode cX1_laysYear 28 = .ok (.iadd, 1) := by decide +kernel
theorem dX1_laysYear_29 : decode cX1_laysYear 29 = .ok (.istore_n 3, 1) := by decide +kernel
theorem dX1_laysYear_30 : decode cX1_laysYear 30 = .ok (.iload 4, 2) := by decide +kernel
theorem dX1_laysYear_32 : decode cX1_laysYear 32 = .ok (.aload_n 0, 1) := by decide +kernel
theorem dX1_laysYear_33 : decode cX1_laysYear 33 = .ok (.getfield 15, 3) := by decide +kernel
theorem dX1_laysYear_36 : decode cX1_laysYear 36 = .ok (.iload 5, 2) := by decide +kernel
theorem dX1_laysYear_38 : decode cX1_laysYear 38 = .ok (.iaload, 1) := by decide +kernel
theorem dX1_laysYear_39 : decode cX1_laysYear 39 = .ok (.iadd, 1) := by decide +kernel
theorem dX1_laysYear_40 : decode cX1_laysYear 40 = .ok (.istore 4, 2) := by decide +kernel
theorem dX1_laysYear_42 : decode cX1_laysYear 42 = .ok (.iinc 5 1, 3) := by decide +kernel
theorem dX1_laysYear_45 : decode cX1_laysYear 45 = .ok (.goto (-33), 3) := by decide +kernel
theorem dX1_laysYear_48 : decode cX1_laysYear 48 = .ok (.aload_n 0, 1) := by decide +kernel
theorem dX1_laysYear_49 : decode cX1_laysYear 49 = .ok (.getfield 24, 3) := by decide +kernel
theorem dX1_laysYear_52 : decode cX1_laysYear 52 = .ok (.iload_n 1, 1) := by decide +kernel
theorem dX1_laysYear_53 : decode cX1_laysYear 53 = .ok (.baload, 1) := by decide +kernel
theorem dX1_laysYear_54 : decode cX1_laysYear 54 = .ok (.ifCond .eq 24, 3) := by decide +kernel
theorem dX1_laysYear_57 : decode cX1_laysYear 57 = .ok (.iload_n 3, 1) := by decide +kernel
theorem dX1_laysYear_58 : decode cX1_laysYear 58 = .ok (.aload_n 0, 1) := by decide +kernel
theorem dX1_laysYear_59 : decode cX1_laysYear 59 = .ok (.getfield 28, 3) := by decide +kernel
theorem dX1_laysYear_62 : decode cX1_laysYear 62 = .ok (.iload_n 1, 1) := by decide +kernel
theorem dX1_laysYear_63 : decode cX1_laysYear 63 = .ok (.iaload, 1) := by decide +kernel
theorem dX1_laysYear_64 : decode cX1_laysYear 64 = .ok (.if_icmp .gt 18, 3) := by decide +kernel
theorem dX1_laysYear_67 : decode cX1_laysYear 67 = .ok (.aload_n 0, 1) := by decide +kernel
theorem dX1_laysYear_68 : decode cX1_laysYear 68 = .ok (.getfield 28, 3) := by decide +kernel
theorem dX1_laysYear_71 : decode cX1_laysYear 71 = .ok (.iload_n 1, 1) := by decide +kernel
theorem dX1_laysYear_72 : decode cX1_laysYear 72 = .ok (.iaload, 1) := by decide +kernel
theorem dX1_laysYear_73 : decode cX1_laysYear 73 = .ok (.iload 4, 2) := by decide +kernel
theorem dX1_laysYear_75 : decode cX1_laysYear 75 = .ok (.if_icmp .gt 7, 3) := by decide +kernel
theorem dX1_laysYear_78 : decode cX1_laysYear 78 = .ok (.iconst 1, 1) := by decide +kernel
theorem dX1_laysYear_79 : decode cX1_laysYear 79 = .ok (.goto 4, 3) := by decide +kernel
theorem dX1_laysYear_82 : decode cX1_laysYear 82 = .ok (.iconst 0, 1) := by decide +kernel
theorem dX1_laysYear_83 : decode cX1_laysYear 83 = .ok (.istore 5, 2) := by decide +kernel
theorem dX1_laysYear_85 : decode cX1_laysYear 85 = .ok (.aload_n 0, 1) := by decide +kernel
theorem dX1_laysYear_86 : decode cX1_laysYear 86 = .ok (.getfield 28, 3) := by decide +kernel
theorem dX1_laysYear_89 : decode cX1_laysYear 89 = .ok (.iload_n 1, 1) := by decide +kernel
theorem dX1_laysYear_90 : decode cX1_laysYear 90 = .ok (.iaload, 1) := by decide +kernel
theorem dX1_laysYear_91 : decode cX1_laysYear 91 = .ok (.istore 6, 2) := by decide +kernel
theorem dX1_laysYear_93 : decode cX1_laysYear 93 = .ok (.aload_n 0, 1) := by decide +kernel
theorem dX1_laysYear_94 : decode cX1_laysYear 94 = .ok (.getfield 28, 3) := by decide +kernel
theorem dX1_laysYear_97 : decode cX1_laysYear 97 = .ok (.iload_n 1, 1) := by decide +kernel
theorem dX1_laysYear_98 : decode cX1_laysYear 98 = .ok (.iaload, 1) := by decide +kernel
theorem dX1_laysYear_99 : decode cX1_laysYear 99 = .ok (.istore 7, 2) := by decide +kernel
theorem dX1_laysYear_101 : decode cX1_laysYear 101 = .ok (.iload_n 2, 1) := by decide +kernel
theorem dX1_laysYear_102 : decode cX1_laysYear 102 = .ok (.istore 8, 2) := by decide +kernel
theorem dX1_laysYear_104 : decode cX1_laysYear 104 = .ok (.iload 8, 2) := by decide +kernel
theorem dX1_laysYear_106 : decode cX1_laysYear 106 = .ok (.iload_n 2, 1) := by decide +kernel
theorem dX1_laysYear_107 : decode cX1_laysYear 107 = .ok (.iconst 4, 1) := by decide +kernel
theorem dX1_laysYear_108 : decode cX1_laysYear 108 = .ok (.iadd, 1) := by decide +kernel
theorem dX1_laysYear_109 : decode cX1_laysYear 109 = .ok (.if_icmp .ge 108, 3) := by decide +kernel
theorem dX1_laysYear_112 : decode cX1_laysYear 112 = .ok (.iload_n 3, 1) := by decide +kernel
theorem dX1_laysYear_113 : decode cX1_laysYear 113 = .ok (.aload_n 0, 1) := by decide +kernel
theorem dX1_laysYear_114 : decode cX1_laysYear 114 = .ok (.getfield 9, 3) := by decide +kernel
theorem dX1_laysYear_117 : decode cX1_laysYear 117 = .ok (.iload 8, 2) := by decide +kernel
theorem dX1_laysYear_119 : decode cX1_laysYear 119 = .ok (.iaload, 1) := by decide +kernel
theorem dX1_laysYear_120 : decode cX1_laysYear 120 = .ok (.isub, 1) := by decide +kernel
theorem dX1_laysYear_121 : decode cX1_laysYear 121 = .ok (.istore_n 3, 1) := by decide +kernel
theorem dX1_laysYear_122 : decode cX1_laysYear 122 = .ok (.iload 4, 2) := by decide +kernel
theorem dX1_laysYear_124 : decode cX1_laysYear 124 = .ok (.aload_n 0, 1) := by decide +kernel
theorem dX1_laysYear_125 : decode cX1_laysYear 125 = .ok (.getfield 15, 3) := by decide +kernel
theorem dX1_laysYear_128 : decode cX1_laysYear 128 = .ok (.iload 8, 2) := by decide +kernel
theorem dX1_laysYear_130 : decode cX1_laysYear 130 = .ok (.iaload, 1) := by decide +kernel
theorem dX1_laysYear_131 : decode cX1_laysYear 131 = .ok (.isub, 1) := by decide +kernel
theorem dX1_laysYear_132 : decode cX1_laysYear 132 = .ok (.istore 4, 2) := by decide +kernel
theorem dX1_laysYear_134 : decode cX1_laysYear 134 = .ok (.aload_n 0, 1) := by decide +kernel
theorem dX1_laysYear_135 : decode cX1_laysYear 135 = .ok (.getfield 24, 3) := by decide +kernel
theorem dX1_laysYear_138 : decode cX1_laysYear 138 = .ok (.iload_n 1, 1) := by decide +kernel
theorem dX1_laysYear_139 : decode cX1_laysYear 139 = .ok (.baload, 1) := by decide +kernel
theorem dX1_laysYear_140 : decode cX1_laysYear 140 = .ok (.ifCond .eq 20, 3) := by decide +kernel
theorem dX1_laysYear_143 : decode cX1_laysYear 143 = .ok (.iload_n 3, 1) := by decide +kernel
theorem dX1_laysYear_144 : decode cX1_laysYear 144 = .ok (.iload 6, 2) := by decide +kernel
theorem dX1_laysYear_146 : decode cX1_laysYear 146 = .ok (.aload_n 0, 1) := by decide +kernel
theorem dX1_laysYear_147 : decode cX1_laysYear 147 = .ok (.getfield 15, 3) := by decide +kernel
theorem dX1_laysYear_150 : decode cX1_laysYear 150 = .ok (.iload 8, 2) := by decide +kernel
theorem dX1_laysYear_152 : decode cX1_laysYear 152 = .ok (.iaload, 1) := by decide +kernel
theorem dX1_laysYear_153 : decode cX1_laysYear 153 = .ok (.isub, 1) := by decide +kernel
theorem dX1_laysYear_154 : decode cX1_laysYear 154 = .ok (.invokestatic 65, 3) := by decide +kernel
theorem dX1_laysYear_157 : decode cX1_laysYear 157 = .ok (.goto 4, 3) := by decide +kernel
theorem dX1_laysYear_160 : decode cX1_laysYear 160 = .ok (.iconst 0, 1) := by decide +kernel
theorem dX1_laysYear_161 : decode cX1_laysYear 161 = .ok (.istore 6, 2) := by decide +kernel
theorem dX1_laysYear_163 : decode cX1_laysYear 163 = .ok (.aload_n 0, 1) := by decide +kernel
theorem dX1_laysYear_164 : decode cX1_laysYear 164 = .ok (.getfield 24, 3) := by decide +kernel
theorem dX1_laysYear_167 : decode cX1_laysYear 167 = .ok (.iload_n 1, 1) := by decide +kernel
theorem dX1_laysYear_168 : decode cX1_laysYear 168 = .ok (.baload, 1) := by decide +kernel
theorem dX1_laysYear_169 : decode cX1_laysYear 169 = .ok (.ifCond .eq 21, 3) := by decide +kernel
theorem dX1_laysYear_172 : decode cX1_laysYear 172 = .ok (.iload 4, 2) := by decide +kernel
theorem dX1_laysYear_174 : decode cX1_laysYear 174 = .ok (.iload 7, 2) := by decide +kernel
theorem dX1_laysYear_176 : decode cX1_laysYear 176 = .ok (.aload_n 0, 1) := by decide +kernel
theorem dX1_laysYear_177 : decode cX1_laysYear 177 = .ok (.getfield 9, 3) := by decide +kernel
theorem dX1_laysYear_180 : decode cX1_laysYear 180 = .ok (.iload 8, 2) := by decide +kernel
theorem dX1_laysYear_182 : decode cX1_laysYear 182 = .ok (.iaload, 1) := by decide +kernel
theorem dX1_laysYear_183 : decode cX1_laysYear 183 = .ok (.isub, 1) := by decide +kernel
theorem dX1_laysYear_184 : decode cX1_laysYear 184 = .ok (.invokestatic 71, 3) := by decide +kernel
theorem dX1_laysYear_187 : decode cX1_laysYear 187 = .ok (.goto 4, 3) := by decide +kernel
theorem dX1_laysYear_190 : decode cX1_laysYear 190 = .ok (.iconst 0, 1) := by decide +kernel
theorem dX1_laysYear_191 : decode cX1_laysYear 191 = .ok (.istore 7, 2) := by decide +kernel
theorem dX1_laysYear_193 : decode cX1_laysYear 193 = .ok (.aload_n 0, 1) := by decide +kernel
theorem dX1_laysYear_194 : decode cX1_laysYear 194 = .ok (.getfield 18, 3) := by decide +kernel
theorem dX1_laysYear_197 : decode cX1_laysYear 197 = .ok (.iload 8, 2) := by decide +kernel
theorem dX1_laysYear_199 : decode cX1_laysYear 199 = .ok (.iload 6, 2) := by decide +kernel
theorem dX1_laysYear_201 : decode cX1_laysYear 201 = .ok (.iastore, 1) := by decide +kernel
theorem dX1_laysYear_202 : decode cX1_laysYear 202 = .ok (.aload_n 0, 1) := by decide +kernel
theorem dX1_laysYear_203 : decode cX1_laysYear 203 = .ok (.getfield 21, 3) := by decide +kernel
theorem dX1_laysYear_206 : decode cX1_laysYear 206 = .ok (.iload 8, 2) := by decide +kernel
theorem dX1_laysYear_208 : decode cX1_laysYear 208 = .ok (.iload 7, 2) := by decide +kernel
theorem dX1_laysYear_210 : decode cX1_laysYear 210 = .ok (.iastore, 1) := by decide +kernel
theorem dX1_laysYear_211 : decode cX1_laysYear 211 = .ok (.iinc 8 1, 3) := by decide +kernel
theorem dX1_laysYear_214 : decode cX1_laysYear 214 = .ok (.goto (-110), 3) := by decide +kernel
theorem dX1_laysYear_217 : decode cX1_laysYear 217 = .ok (.iload 5, 2) := by decide +kernel
theorem dX1_laysYear_219 : decode cX1_laysYear 219 = .ok (.ireturn, 1) := by decide +kernel
theorem dX1_isBound_0 : decode cX1_isBound 0 = .ok (.aload_n 0, 1) := by decide +kernel
theorem dX1_isBound_1 : decode cX1_isBound 1 = .ok (.getfield 24, 3) := by decide +kernel
theorem dX1_isBound_4 : decode cX1_isBound 4 = .ok (.iload_n 1, 1) := by decide +kernel
theorem dX1_isBound_5 : decode cX1_isBound 5 = .ok (.iconst 4, 1) := by decide +kernel
theorem dX1_isBound_6 : decode cX1_isBound 6 = .ok (.idiv, 1) := by decide +kernel
theorem dX1_isBound_7 : decode cX1_isBound 7 = .ok (.baload, 1) := by decide +kernel
theorem dX1_isBound_8 : decode cX1_isBound 8 = .ok (.ireturn, 1) := by decide +kernel
theorem dX1_leftAhead_0 : decode cX1_leftAhead 0 = .ok (.iload_n 1, 1) := by decide +kernel
theorem dX1_leftAhead_1 : decode cX1_leftAhead 1 = .ok (.iconst 4, 1) := by decide +kernel
theorem dX1_leftAhead_2 : decode cX1_leftAhead 2 = .ok (.irem, 1) := by decide +kernel
theorem dX1_leftAhead_3 : decode cX1_leftAhead 3 = .ok (.ifCond .ne 14, 3) := by decide +kernel
theorem dX1_leftAhead_6 : decode cX1_leftAhead 6 = .ok (.aload_n 0, 1) := by decide +kernel
theorem dX1_leftAhead_7 : decode cX1_leftAhead 7 = .ok (.getfield 28, 3) := by decide +kernel
theorem dX1_leftAhead_10 : decode cX1_leftAhead 10 = .ok (.iload_n 1, 1) := by decide +kernel
theorem dX1_leftAhead_11 : decode cX1_leftAhead 11 = .ok (.iconst 4, 1) := by decide +kernel
theorem dX1_leftAhead_12 : decode cX1_leftAhead 12 = .ok (.idiv, 1) := by decide +kernel
theorem dX1_leftAhead_13 : decode cX1_leftAhead 13 = .ok (.iaload, 1) := by decide +kernel
theorem dX1_leftAhead_14 : decode cX1_leftAhead 14 = .ok (.goto 4, 3) := by decide +kernel
theorem dX1_leftAhead_17 : decode cX1_leftAhead 17 = .ok (.iload_n 2, 1) := by decide +kernel
theorem dX1_leftAhead_18 : decode cX1_leftAhead 18 = .ok (.ireturn, 1) := by decide +kernel
theorem dX1_leastLeft_0 : decode cX1_leastLeft 0 = .ok (.aload_n 0, 1) := by decide +kernel
theorem dX1_leastLeft_1 : decode cX1_leastLeft 1 = .ok (.iload_n 1, 1) := by decide +kernel
theorem dX1_leastLeft_2 : decode cX1_leastLeft 2 = .ok (.invokevirtual 74, 3) := by decide +kernel
theorem dX1_leastLeft_5 : decode cX1_leastLeft 5 = .ok (.ifCond .ne 5, 3) := by decide +kernel
theorem dX1_leastLeft_8 : decode cX1_leastLeft 8 = .ok (.iconst 0, 1) := by decide +kernel
theorem dX1_leastLeft_9 : decode cX1_leastLeft 9 = .ok (.ireturn, 1) := by decide +kernel
theorem dX1_leastLeft_10 : decode cX1_leastLeft 10 = .ok (.iload_n 1, 1) := by decide +kernel
theorem dX1_leastLeft_11 : decode cX1_leastLeft 11 = .ok (.ifCond .le 19, 3) := by decide +kernel
theorem dX1_leastLeft_14 : decode cX1_leastLeft 14 = .ok (.aload_n 0, 1) := by decide +kernel
theorem dX1_leastLeft_15 : decode cX1_leastLeft 15 = .ok (.iload_n 1, 1) := by decide +kernel
theorem dX1_leastLeft_16 : decode cX1_leastLeft 16 = .ok (.aload_n 0, 1) := by decide +kernel
theorem dX1_leastLeft_17 : decode cX1_leastLeft 17 = .ok (.getfield 18, 3) := by decide +kernel
theorem dX1_leastLeft_20 : decode cX1_leastLeft 20 = .ok (.iload_n 1, 1) := by decide +kernel
theorem dX1_leastLeft_21 : decode cX1_leastLeft 21 = .ok (.iconst 1, 1) := by decide +kernel
theorem dX1_leastLeft_22 : decode cX1_leastLeft 22 = .ok (.isub, 1) := by decide +kernel
theorem dX1_leastLeft_23 : decode cX1_leastLeft 23 = .ok (.iaload, 1) := by decide +kernel
theorem dX1_leastLeft_24 : decode cX1_leastLeft 24 = .ok (.invokevirtual 77, 3) := by decide +kernel
theorem dX1_leastLeft_27 : decode cX1_leastLeft 27 = .ok (.goto 9, 3) := by decide +kernel
theorem dX1_leastLeft_30 : decode cX1_leastLeft 30 = .ok (.aload_n 0, 1) := by decide +kernel
theorem dX1_leastLeft_31 : decode cX1_leastLeft 31 = .ok (.getfield 28, 3) := by decide +kernel
theorem dX1_leastLeft_34 : decode cX1_leastLeft 34 = .ok (.iconst 0, 1) := by decide +kernel
theorem dX1_leastLeft_35 : decode cX1_leastLeft 35 = .ok (.iaload, 1) := by decide +kernel
theorem dX1_leastLeft_36 : decode cX1_leastLeft 36 = .ok (.istore_n 3, 1) := by decide +kernel
theorem dX1_leastLeft_37 : decode cX1_leastLeft 37 = .ok (.aload_n 0, 1) := by decide +kernel
theorem dX1_leastLeft_38 : decode cX1_leastLeft 38 = .ok (.getfield 18, 3) := by decide +kernel
theorem dX1_leastLeft_41 : decode cX1_leastLeft 41 = .ok (.iload_n 1, 1) := by decide +kernel
theorem dX1_leastLeft_42 : decode cX1_leastLeft 42 = .ok (.iaload, 1) := by decide +kernel
theorem dX1_leastLeft_43 : decode cX1_leastLeft 43 = .ok (.iload_n 3, 1) := by decide +kernel
theorem dX1_leastLeft_44 : decode cX1_leastLeft 44 = .ok (.iload_n 2, 1) := by decide +kernel
theorem dX1_leastLeft_45 : decode cX1_leastLeft 45 = .ok (.isub, 1) := by decide +kernel
theorem dX1_leastLeft_46 : decode cX1_leastLeft 46 = .ok (.invokestatic 65, 3) := by decide +kernel
theorem dX1_leastLeft_49 : decode cX1_leastLeft 49 = .ok (.ireturn, 1) := by decide +kernel
theorem dX1_mostLeft_0 : decode cX1_mostLeft 0 = .ok (.aload_n 0, 1) := by decide +kernel
theorem dX1_mostLeft_1 : decode cX1_mostLeft 1 = .ok (.iload_n 1, 1) := by decide +kernel
theorem dX1_mostLeft_2 : decode cX1_mostLeft 2 = .ok (.invokevirtual 74, 3) := by decide +kernel
theorem dX1_mostLeft_5 : decode cX1_mostLeft 5 = .ok (.ifCond .ne 5, 3) := by decide +kernel
theorem dX1_mostLeft_8 : decode cX1_mostLeft 8 = .ok (.iconst 0, 1) := by decide +kernel
theorem dX1_mostLeft_9 : decode cX1_mostLeft 9 = .ok (.ireturn, 1) := by decide +kernel
theorem dX1_mostLeft_10 : decode cX1_mostLeft 10 = .ok (.iload_n 1, 1) := by decide +kernel
theorem dX1_mostLeft_11 : decode cX1_mostLeft 11 = .ok (.ifCond .le 19, 3) := by decide +kernel
theorem dX1_mostLeft_14 : decode cX1_mostLeft 14 = .ok (.aload_n 0, 1) := by decide +kernel
theorem dX1_mostLeft_15 : decode cX1_mostLeft 15 = .ok (.iload_n 1, 1) := by decide +kernel
theorem dX1_mostLeft_16 : decode cX1_mostLeft 16 = .ok (.aload_n 0, 1) := by decide +kernel
theorem dX1_mostLeft_17 : decode cX1_mostLeft 17 = .ok (.getfield 21, 3) := by decide +kernel
theorem dX1_mostLeft_20 : decode cX1_mostLeft 20 = .ok (.iload_n 1, 1) := by decide +kernel
theorem dX1_mostLeft_21 : decode cX1_mostLeft 21 = .ok (.iconst 1, 1) := by decide +kernel
theorem dX1_mostLeft_22 : decode cX1_mostLeft 22 = .ok (.isub, 1) := by decide +kernel
theorem dX1_mostLeft_23 : decode cX1_mostLeft 23 = .ok (.iaload, 1) := by decide +kernel
theorem dX1_mostLeft_24 : decode cX1_mostLeft 24 = .ok (.invokevirtual 77, 3) := by decide +kernel
theorem dX1_mostLeft_27 : decode cX1_mostLeft 27 = .ok (.goto 9, 3) := by decide +kernel
theorem dX1_mostLeft_30 : decode cX1_mostLeft 30 = .ok (.aload_n 0, 1) := by decide +kernel
theorem dX1_mostLeft_31 : decode cX1_mostLeft 31 = .ok (.getfield 28, 3) := by decide +kernel
theorem dX1_mostLeft_34 : decode cX1_mostLeft 34 = .ok (.iconst 0, 1) := by decide +kernel
theorem dX1_mostLeft_35 : decode cX1_mostLeft 35 = .ok (.iaload, 1) := by decide +kernel
theorem dX1_mostLeft_36 : decode cX1_mostLeft 36 = .ok (.istore_n 3, 1) := by decide +kernel
theorem dX1_mostLeft_37 : decode cX1_mostLeft 37 = .ok (.aload_n 0, 1) := by decide +kernel
theorem dX1_mostLeft_38 : decode cX1_mostLeft 38 = .ok (.getfield 21, 3) := by decide +kernel
theorem dX1_mostLeft_41 : decode cX1_mostLeft 41 = .ok (.iload_n 1, 1) := by decide +kernel
theorem dX1_mostLeft_42 : decode cX1_mostLeft 42 = .ok (.iaload, 1) := by decide +kernel
theorem dX1_mostLeft_43 : decode cX1_mostLeft 43 = .ok (.iload_n 3, 1) := by decide +kernel
theorem dX1_mostLeft_44 : decode cX1_mostLeft 44 = .ok (.iload_n 2, 1) := by decide +kernel
theorem dX1_mostLeft_45 : decode cX1_mostLeft 45 = .ok (.isub, 1) := by decide +kernel
theorem dX1_mostLeft_46 : decode cX1_mostLeft 46 = .ok (.invokestatic 71, 3) := by decide +kernel
theorem dX1_mostLeft_49 : decode cX1_mostLeft 49 = .ok (.ireturn, 1) := by decide +kernel
theorem dX2_init_0 : decode cX2_init 0 = .ok (.aload_n 0, 1) := by decide +kernel
theorem dX2_init_1 : decode cX2_init 1 = .ok (.invokespecial 3, 3) := by decide +kernel
theorem dX2_init_4 : decode cX2_init 4 = .ok (.aload_n 0, 1) := by decide +kernel
theorem dX2_init_5 : decode cX2_init 5 = .ok (.bipush 12, 2) := by decide +kernel
theorem dX2_init_7 : decode cX2_init 7 = .ok (.newarray .int, 2) := by decide +kernel
theorem dX2_init_9 : decode cX2_init 9 = .ok (.putfield 9, 3) := by decide +kernel
theorem dX2_init_12 : decode cX2_init 12 = .ok (.aload_n 0, 1) := by decide +kernel
theorem dX2_init_13 : decode cX2_init 13 = .ok (.iconst 3, 1) := by decide +kernel
theorem dX2_init_14 : decode cX2_init 14 = .ok (.newarray .int, 2) := by decide +kernel
theorem dX2_init_16 : decode cX2_init 16 = .ok (.putfield 15, 3) := by decide +kernel
theorem dX2_init_19 : decode cX2_init 19 = .ok (.aload_n 0, 1) := by decide +kernel
theorem dX2_init_20 : decode cX2_init 20 = .ok (.bipush 12, 2) := by decide +kernel
theorem dX2_init_22 : decode cX2_init 22 = .ok (.newarray .int, 2) := by decide +kernel
theorem dX2_init_24 : decode cX2_init 24 = .ok (.putfield 18, 3) := by decide +kernel
theorem dX2_init_27 : decode cX2_init 27 = .ok (.aload_n 0, 1) := by decide +kernel
theorem dX2_init_28 : decode cX2_init 28 = .ok (.iconst 0, 1) := by decide +kernel
theorem dX2_init_29 : decode cX2_init 29 = .ok (.putfield 21, 3) := by decide +kernel
theorem dX2_init_32 : decode cX2_init 32 = .ok (.aload_n 0, 1) := by decide +kernel
theorem dX2_init_33 : decode cX2_init 33 = .ok (.iconst 0, 1) := by decide +kernel
theorem dX2_init_34 : decode cX2_init 34 = .ok (.putfield 25, 3) := by decide +kernel
theorem dX2_init_37 : decode cX2_init 37 = .ok (.aload_n 0, 1) := by decide +kernel
theorem dX2_init_38 : decode cX2_init 38 = .ok (.iconst (-1), 1) := by decide +kernel
theorem dX2_init_39 : decode cX2_init 39 = .ok (.putfield 28, 3) := by decide +kernel
theorem dX2_init_42 : decode cX2_init 42 = .ok (.aload_n 0, 1) := by decide +kernel
theorem dX2_init_43 : decode cX2_init 43 = .ok (.iconst 0, 1) := by decide +kernel
theorem dX2_init_44 : decode cX2_init 44 = .ok (.putfield 31, 3) := by decide +kernel
theorem dX2_init_47 : decode cX2_init 47 = .ok (.iconst 0, 1) := by decide +kernel
theorem dX2_init_48 : decode cX2_init 48 = .ok (.istore_n 1, 1) := by decide +kernel
theorem dX2_init_49 : decode cX2_init 49 = .ok (.iload_n 1, 1) := by decide +kernel
theorem dX2_init_50 : decode cX2_init 50 = .ok (.iconst 3, 1) := by decide +kernel
theorem dX2_init_51 : decode cX2_init 51 = .ok (.if_icmp .ge 16, 3) := by decide +kernel
theorem dX2_init_54 : decode cX2_init 54 = .ok (.aload_n 0, 1) := by decide +kernel
theorem dX2_init_55 : decode cX2_init 55 = .ok (.getfield 15, 3) := by decide +kernel
theorem dX2_init_58 : decode cX2_init 58 = .ok (.iload_n 1, 1) := by decide +kernel
theorem dX2_init_59 : decode cX2_init 59 = .ok (.iconst (-1), 1) := by decide +kernel
theorem dX2_init_60 : decode cX2_init 60 = .ok (.iastore, 1) := by decide +kernel
theorem dX2_init_61 : decode cX2_init 61 = .ok (.iinc 1 1, 3) := by decide +kernel
theorem dX2_init_64 : decode cX2_init 64 = .ok (.goto (-15), 3) := by decide +kernel
theorem dX2_init_67 : decode cX2_init 67 = .ok (.iconst 0, 1) := by decide +kernel
theorem dX2_init_68 : decode cX2_init 68 = .ok (.istore_n 1, 1) := by decide +kernel
theorem dX2_init_69 : decode cX2_init 69 = .ok (.iload_n 1, 1) := by decide +kernel
theorem dX2_init_70 : decode cX2_init 70 = .ok (.bipush 12, 2) := by decide +kernel
theorem dX2_init_72 : decode cX2_init 72 = .ok (.if_icmp .ge 16, 3) := by decide +kernel
theorem dX2_init_75 : decode cX2_init 75 = .ok (.aload_n 0, 1) := by decide +kernel
theorem dX2_init_76 : decode cX2_init 76 = .ok (.getfield 18, 3) := by decide +kernel
theorem dX2_init_79 : decode cX2_init 79 = .ok (.iload_n 1, 1) := by decide +kernel
theorem dX2_init_80 : decode cX2_init 80 = .ok (.iconst (-1), 1) := by decide +kernel
theorem dX2_init_81 : decode cX2_init 81 = .ok (.iastore, 1) := by decide +kernel
theorem dX2_init_82 : decode cX2_init 82 = .ok (.iinc 1 1, 3) := by decide +kernel
theorem dX2_init_85 : decode cX2_init 85 = .ok (.goto (-16), 3) := by decide +kernel
theorem dX2_init_88 : decode cX2_init 88 = .ok (.return_, 1) := by decide +kernel
theorem dX2_becomes_0 : decode cX2_becomes 0 = .ok (.aload_n 1, 1) := by decide +kernel
theorem dX2_becomes_1 : decode cX2_becomes 1 = .ok (.getfield 9, 3) := by decide +kernel
theorem dX2_becomes_4 : decode cX2_becomes 4 = .ok (.iconst 0, 1) := by decide +kernel
theorem dX2_becomes_5 : decode cX2_becomes 5 = .ok (.aload_n 0, 1) := by decide +kernel
theorem dX2_becomes_6 : decode cX2_becomes 6 = .ok (.getfield 9, 3) := by decide +kernel
theorem dX2_becomes_9 : decode cX2_becomes 9 = .ok (.iconst 0, 1) := by decide +kernel
theorem dX2_becomes_10 : decode cX2_becomes 10 = .ok (.bipush 12, 2) := by decide +kernel
theorem dX2_becomes_12 : decode cX2_becomes 12 = .ok (.invokestatic 34, 3) := by decide +kernel
theorem dX2_becomes_15 : decode cX2_becomes 15 = .ok (.aload_n 1, 1) := by decide +kernel
theorem dX2_becomes_16 : decode cX2_becomes 16 = .ok (.getfield 15, 3) := by decide +kernel
theorem dX2_becomes_19 : decode cX2_becomes 19 = .ok (.iconst 0, 1) := by decide +kernel
theorem dX2_becomes_20 : decode cX2_becomes 20 = .ok (.aload_n 0, 1) := by decide +kernel
theorem dX2_becomes_21 : decode cX2_becomes 21 = .ok (.getfield 15, 3) := by decide +kernel
theorem dX2_becomes_24 : decode cX2_becomes 24 = .ok (.iconst 0, 1) := by decide +kernel
theorem dX2_becomes_25 : decode cX2_becomes 25 = .ok (.iconst 3, 1) := by decide +kernel
theorem dX2_becomes_26 : decode cX2_becomes 26 = .ok (.invokestatic 34, 3) := by decide +kernel
theorem dX2_becomes_29 : decode cX2_becomes 29 = .ok (.aload_n 1, 1) := by decide +kernel
theorem dX2_becomes_30 : decode cX2_becomes 30 = .ok (.getfield 18, 3) := by decide +kernel
theorem dX2_becomes_33 : decode cX2_becomes 33 = .ok (.iconst 0, 1) := by decide +kernel
theorem dX2_becomes_34 : decode cX2_becomes 34 = .ok (.aload_n 0, 1) := by decide +kernel
theorem dX2_becomes_35 : decode cX2_becomes 35 = .ok (.getfield 18, 3) := by decide +kernel
theorem dX2_becomes_38 : decode cX2_becomes 38 = .ok (.iconst 0, 1) := by decide +kernel
theorem dX2_becomes_39 : decode cX2_becomes 39 = .ok (.bipush 12, 2) := by decide +kernel
theorem dX2_becomes_41 : decode cX2_becomes 41 = .ok (.invokestatic 34, 3) := by decide +kernel
theorem dX2_becomes_44 : decode cX2_becomes 44 = .ok (.aload_n 0, 1) := by decide +kernel
theorem dX2_becomes_45 : decode cX2_becomes 45 = .ok (.aload_n 1, 1) := by decide +kernel
theorem dX2_becomes_46 : decode cX2_becomes 46 = .ok (.getfield 21, 3) := by decide +kernel
theorem dX2_becomes_49 : decode cX2_becomes 49 = .ok (.putfield 21, 3) := by decide +kernel
theorem dX2_becomes_52 : decode cX2_becomes 52 = .ok (.aload_n 0, 1) := by decide +kernel
theorem dX2_becomes_53 : decode cX2_becomes 53 = .ok (.aload_n 1, 1) := by decide +kernel
theorem dX2_becomes_54 : decode cX2_becomes 54 = .ok (.getfield 25, 3) := by decide +kernel
theorem dX2_becomes_57 : decode cX2_becomes 57 = .ok (.putfield 25, 3) := by decide +kernel
theorem dX2_becomes_60 : decode cX2_becomes 60 = .ok (.aload_n 0, 1) := by decide +kernel
theorem dX2_becomes_61 : decode cX2_becomes 61 = .ok (.aload_n 1, 1) := by decide +kernel
theorem dX2_becomes_62 : decode cX2_becomes 62 = .ok (.getfield 28, 3) := by decide +kernel
theorem dX2_becomes_65 : decode cX2_becomes 65 = .ok (.putfield 28, 3) := by decide +kernel
theorem dX2_becomes_68 : decode cX2_becomes 68 = .ok (.aload_n 0, 1) := by decide +kernel
theorem dX2_becomes_69 : decode cX2_becomes 69 = .ok (.aload_n 1, 1) := by decide +kernel
theorem dX2_becomes_70 : decode cX2_becomes 70 = .ok (.getfield 31, 3) := by decide +kernel
theorem dX2_becomes_73 : decode cX2_becomes 73 = .ok (.putfield 31, 3) := by decide +kernel
theorem dX2_becomes_76 : decode cX2_becomes 76 = .ok (.return_, 1) := by decide +kernel
theorem dX2_has_0 : decode cX2_has 0 = .ok (.iload_n 1, 1) := by decide +kernel
theorem dX2_has_1 : decode cX2_has 1 = .ok (.iconst 0, 1) := by decide +kernel
theorem dX2_has_2 : decode cX2_has 2 = .ok (.aload_n 0, 1) := by decide +kernel
theorem dX2_has_3 : decode cX2_has 3 = .ok (.getfield 21, 3) := by decide +kernel
theorem dX2_has_6 : decode cX2_has 6 = .ok (.iconst 1, 1) := by decide +kernel
theorem dX2_has_7 : decode cX2_has 7 = .ok (.isub, 1) := by decide +kernel
theorem dX2_has_8 : decode cX2_has 8 = .ok (.invokestatic 40, 3) := by decide +kernel
theorem dX2_has_11 : decode cX2_has 11 = .ok (.ireturn, 1) := by decide +kernel
theorem dX2_isPrinted_0 : decode cX2_isPrinted 0 = .ok (.aload_n 0, 1) := by decide +kernel
theorem dX2_isPrinted_1 : decode cX2_isPrinted 1 = .ok (.getfield 18, 3) := by decide +kernel
theorem dX2_isPrinted_4 : decode cX2_isPrinted 4 = .ok (.iload_n 1, 1) := by decide +kernel
theorem dX2_isPrinted_5 : decode cX2_isPrinted 5 = .ok (.iaload, 1) := by decide +kernel
theorem dX2_isPrinted_6 : decode cX2_isPrinted 6 = .ok (.iconst (-1), 1) := by decide +kernel
theorem dX2_isPrinted_7 : decode cX2_isPrinted 7 = .ok (.if_icmp .eq 7, 3) := by decide +kernel
theorem dX2_isPrinted_10 : decode cX2_isPrinted 10 = .ok (.iconst 1, 1) := by decide +kernel
theorem dX2_isPrinted_11 : decode cX2_isPrinted 11 = .ok (.goto 4, 3) := by decide +kernel
theorem dX2_isPrinted_14 : decode cX2_isPrinted 14 = .ok (.iconst 0, 1) := by decide +kernel
theorem dX2_isPrinted_15 : decode cX2_isPrinted 15 = .ok (.ireturn, 1) := by decide +kernel
theorem dX2_isFrozen_0 : decode cX2_isFrozen 0 = .ok (.aload_n 0, 1) := by decide +kernel
theorem dX2_isFrozen_1 : decode cX2_isFrozen 1 = .ok (.getfield 25, 3) := by decide +kernel
theorem dX2_isFrozen_4 : decode cX2_isFrozen 4 = .ok (.iload_n 1, 1) := by decide +kernel
theorem dX2_isFrozen_5 : decode cX2_isFrozen 5 = .ok (.ishr, 1) := by decide +kernel
theorem dX2_isFrozen_6 : decode cX2_isFrozen 6 = .ok (.iconst 1, 1) := by decide +kernel
theorem dX2_isFrozen_7 : decode cX2_isFrozen 7 = .ok (.iand, 1) := by decide +kernel
theorem dX2_isFrozen_8 : decode cX2_isFrozen 8 = .ok (.iconst 1, 1) := by decide +kernel
theorem dX2_isFrozen_9 : decode cX2_isFrozen 9 = .ok (.if_icmp .ne 7, 3) := by decide +kernel
theorem dX2_isFrozen_12 : decode cX2_isFrozen 12 = .ok (.iconst 1, 1) := by decide +kernel
theorem dX2_isFrozen_13 : decode cX2_isFrozen 13 = .ok (.goto 4, 3) := by decide +kernel
theorem dX2_isFrozen_16 : decode cX2_isFrozen 16 = .ok (.iconst 0, 1) := by decide +kernel
theorem dX2_isFrozen_17 : decode cX2_isFrozen 17 = .ok (.ireturn, 1) := by decide +kernel
theorem dX2_adds_0 : decode cX2_adds 0 = .ok (.iload_n 1, 1) := by decide +kernel
theorem dX2_adds_1 : decode cX2_adds 1 = .ok (.iconst 1, 1) := by decide +kernel
theorem dX2_adds_2 : decode cX2_adds 2 = .ok (.bipush 99, 2) := by decide +kernel
theorem dX2_adds_4 : decode cX2_adds 4 = .ok (.invokestatic 40, 3) := by decide +kernel
theorem dX2_adds_7 : decode cX2_adds 7 = .ok (.ifCond .ne 6, 3) := by decide +kernel
theorem dX2_adds_10 : decode cX2_adds 10 = .ok (.bipush (-2), 2) := by decide +kernel
theorem dX2_adds_12 : decode cX2_adds 12 = .ok (.ireturn, 1) := by decide +kernel
theorem dX2_adds_13 : decode cX2_adds 13 = .ok (.aload_n 0, 1) := by decide +kernel
theorem dX2_adds_14 : decode cX2_adds 14 = .ok (.getfield 21, 3) := by decide +kernel
theorem dX2_adds_17 : decode cX2_adds 17 = .ok (.bipush 12, 2) := by decide +kernel
theorem dX2_adds_19 : decode cX2_adds 19 = .ok (.if_icmp .lt 6, 3) := by decide +kernel
theorem dX2_adds_22 : decode cX2_adds 22 = .ok (.bipush (-4), 2) := by decide +kernel
theorem dX2_adds_24 : decode cX2_adds 24 = .ok (.ireturn, 1) := by decide +kernel
theorem dX2_adds_25 : decode cX2_adds 25 = .ok (.aload_n 0, 1) := by decide +kernel
theorem dX2_adds_26 : decode cX2_adds 26 = .ok (.getfield 9, 3) := by decide +kernel
theorem dX2_adds_29 : decode cX2_adds 29 = .ok (.aload_n 0, 1) := by decide +kernel
theorem dX2_adds_30 : decode cX2_adds 30 = .ok (.getfield 21, 3) := by decide +kernel
theorem dX2_adds_33 : decode cX2_adds 33 = .ok (.iload_n 1, 1) := by decide +kernel
theorem dX2_adds_34 : decode cX2_adds 34 = .ok (.iastore, 1) := by decide +kernel
theorem dX2_adds_35 : decode cX2_adds 35 = .ok (.aload_n 0, 1) := by decide +kernel
theorem dX2_adds_36 : decode cX2_adds 36 = .ok (.dup, 1) := by decide +kernel
theorem dX2_adds_37 : decode cX2_adds 37 = .ok (.getfield 21, 3) := by decide +kernel
theorem dX2_adds_40 : decode cX2_adds 40 = .ok (.iconst 1, 1) := by decide +kernel
theorem dX2_adds_41 : decode cX2_adds 41 = .ok (.iadd, 1) := by decide +kernel
theorem dX2_adds_42 : decode cX2_adds 42 = .ok (.putfield 21, 3) := by decide +kernel
theorem dX2_adds_45 : decode cX2_adds 45 = .ok (.aload_n 0, 1) := by decide +kernel
theorem dX2_adds_46 : decode cX2_adds 46 = .ok (.getfield 21, 3) := by decide +kernel
theorem dX2_adds_49 : decode cX2_adds 49 = .ok (.iconst 1, 1) := by decide +kernel
theorem dX2_adds_50 : decode cX2_adds 50 = .ok (.isub, 1) := by decide +kernel
theorem dX2_adds_51 : decode cX2_adds 51 = .ok (.ireturn, 1) := by decide +kernel
theorem dX2_reindicates_0 : decode cX2_reindicates 0 = .ok (.aload_n 0, 1) := by decide +kernel
theorem dX2_reindicates_1 : decode cX2_reindicates 1 = .ok (.iload_n 1, 1) := by decide +kernel
theorem dX2_reindicates_2 : decode cX2_reindicates 2 = .ok (.invokevirtual 44, 3) := by decide +kernel
theorem dX2_reindicates_5 : decode cX2_reindicates 5 = .ok (.ifCond .eq 13, 3) := by decide +kernel
theorem dX2_reindicates_8 : decode cX2_reindicates 8 = .ok (.iload_n 2, 1) := by decide +kernel
theorem dX2_reindicates_9 : decode cX2_reindicates 9 = .ok (.iconst 1, 1) := by decide +kernel
theorem dX2_reindicates_10 : decode cX2_reindicates 10 = .ok (.bipush 99, 2) := by decide +kernel
theorem dX2_reindicates_12 : decode cX2_reindicates 12 = .ok (.invokestatic 40, 3) := by decide +kernel
theorem dX2_reindicates_15 : decode cX2_reindicates 15 = .ok (.ifCond .ne 6, 3) := by decide +kernel
theorem dX2_reindicates_18 : decode cX2_reindicates 18 = .ok (.bipush (-2), 2) := by decide +kernel
theorem dX2_reindicates_20 : decode cX2_reindicates 20 = .ok (.ireturn, 1) := by decide +kernel
theorem dX2_reindicates_21 : decode cX2_reindicates 21 = .ok (.aload_n 0, 1) := by decide +kernel
theorem dX2_reindicates_22 : decode cX2_reindicates 22 = .ok (.getfield 9, 3) := by decide +kernel
theorem dX2_reindicates_25 : decode cX2_reindicates 25 = .ok (.iload_n 1, 1) := by decide +kernel
theorem dX2_reindicates_26 : decode cX2_reindicates 26 = .ok (.iaload, 1) := by decide +kernel
theorem dX2_reindicates_27 : decode cX2_reindicates 27 = .ok (.istore_n 3, 1) := by decide +kernel
theorem dX2_reindicates_28 : decode cX2_reindicates 28 = .ok (.aload_n 0, 1) := by decide +kernel
theorem dX2_reindicates_29 : decode cX2_reindicates 29 = .ok (.getfield 9, 3) := by decide +kernel
theorem dX2_reindicates_32 : decode cX2_reindicates 32 = .ok (.iload_n 1, 1) := by decide +kernel
theorem dX2_reindicates_33 : decode cX2_reindicates 33 = .ok (.iload_n 2, 1) := by decide +kernel
theorem dX2_reindicates_34 : decode cX2_reindicates 34 = .ok (.iastore, 1) := by decide +kernel
theorem dX2_reindicates_35 : decode cX2_reindicates 35 = .ok (.iload_n 3, 1) := by decide +kernel
theorem dX2_reindicates_36 : decode cX2_reindicates 36 = .ok (.ireturn, 1) := by decide +kernel
theorem dX2_tells_0 : decode cX2_tells 0 = .ok (.iload_n 1, 1) := by decide +kernel
theorem dX2_tells_1 : decode cX2_tells 1 = .ok (.invokestatic 48, 3) := by decide +kernel
theorem dX2_tells_4 : decode cX2_tells 4 = .ok (.ifCond .eq 14, 3) := by decide +kernel
theorem dX2_tells_7 : decode cX2_tells 7 = .ok (.iload_n 2, 1) := by decide +kernel
theorem dX2_tells_8 : decode cX2_tells 8 = .ok (.iconst 0, 1) := by decide +kernel
theorem dX2_tells_9 : decode cX2_tells 9 = .ok (.sipush 999, 3) := by decide +kernel
theorem dX2_tells_12 : decode cX2_tells 12 = .ok (.invokestatic 40, 3) := by decide +kernel
theorem dX2_tells_15 : decode cX2_tells 15 = .ok (.ifCond .ne 6, 3) := by decide +kernel
theorem dX2_tells_18 : decode cX2_tells 18 = .ok (.bipush (-2), 2) := by decide +kernel
theorem dX2_tells_20 : decode cX2_tells 20 = .ok (.ireturn, 1) := by decide +kernel
theorem dX2_tells_21 : decode cX2_tells 21 = .ok (.aload_n 0, 1) := by decide +kernel
theorem dX2_tells_22 : decode cX2_tells 22 = .ok (.getfield 21, 3) := by decide +kernel
theorem dX2_tells_25 : decode cX2_tells 25 = .ok (.iconst 4, 1) := by decide +kernel
theorem dX2_tells_26 : decode cX2_tells 26 = .ok (.iload_n 1, 1) := by decide +kernel
theorem dX2_tells_27 : decode cX2_tells 27 = .ok (.iconst 1, 1) := by decide +kernel
theorem dX2_tells_28 : decode cX2_tells 28 = .ok (.iadd, 1) := by decide +kernel
theorem dX2_tells_29 : decode cX2_tells 29 = .ok (.imul, 1) := by decide +kernel
theorem dX2_tells_30 : decode cX2_tells 30 = .ok (.if_icmp .ge 6, 3) := by decide +kernel
theorem dX2_tells_33 : decode cX2_tells 33 = .ok (.bipush (-3), 2) := by decide +kernel
theorem dX2_tells_35 : decode cX2_tells 35 = .ok (.ireturn, 1) := by decide +kernel
theorem dX2_tells_36 : decode cX2_tells 36 = .ok (.aload_n 0, 1) := by decide +kernel
theorem dX2_tells_37 : decode cX2_tells 37 = .ok (.getfield 15, 3) := by decide +kernel
theorem dX2_tells_40 : decode cX2_tells 40 = .ok (.iload_n 1, 1) := by decide +kernel
theorem dX2_tells_41 : decode cX2_tells 41 = .ok (.iaload, 1) := by decide +kernel
theorem dX2_tells_42 : decode cX2_tells 42 = .ok (.istore_n 3, 1) := by decide +kernel
theorem dX2_tells_43 : decode cX2_tells 43 = .ok (.aload_n 0, 1) := by decide +kernel
theorem dX2_tells_44 : decode cX2_tells 44 = .ok (.getfield 15, 3) := by decide +kernel
theorem dX2_tells_47 : decode cX2_tells 47 = .ok (.iload_n 1, 1) := by decide +kernel
theorem dX2_tells_48 : decode cX2_tells 48 = .ok (.iload_n 2, 1) := by decide +kernel
theorem dX2_tells_49 : decode cX2_tells 49 = .ok (.iastore, 1) := by decide +kernel
theorem dX2_tells_50 : decode cX2_tells 50 = .ok (.iload_n 3, 1) := by decide +kernel
theorem dX2_tells_51 : decode cX2_tells 51 = .ok (.ireturn, 1) := by decide +kernel
theorem dX2_untells_0 : decode cX2_untells 0 = .ok (.iload_n 1, 1) := by decide +kernel
theorem dX2_untells_1 : decode cX2_untells 1 = .ok (.invokestatic 48, 3) := by decide +kernel
theorem dX2_untells_4 : decode cX2_untells 4 = .ok (.ifCond .ne 6, 3) := by decide +kernel
theorem dX2_untells_7 : decode cX2_untells 7 = .ok (.bipush (-2), 2) := by decide +kernel
theorem dX2_untells_9 : decode cX2_untells 9 = .ok (.ireturn, 1) := by decide +kernel
theorem dX2_untells_10 : decode cX2_untells 10 = .ok (.aload_n 0, 1) := by decide +kernel
theorem dX2_untells_11 : decode cX2_untells 11 = .ok (.getfield 15, 3) := by decide +kernel
theorem dX2_untells_14 : decode cX2_untells 14 = .ok (.iload_n 1, 1) := by decide +kernel
theorem dX2_untells_15 : decode cX2_untells 15 = .ok (.iaload, 1) := by decide +kernel
theorem dX2_untells_16 : decode cX2_untells 16 = .ok (.iconst (-1), 1) := by decide +kernel
theorem dX2_untells_17 : decode cX2_untells 17 = .ok (.if_icmp .ne 6, 3) := by decide +kernel
theorem dX2_untells_20 : decode cX2_untells 20 = .ok (.bipush (-3), 2) := by decide +kernel
theorem dX2_untells_22 : decode cX2_untells 22 = .ok (.ireturn, 1) := by decide +kernel
theorem dX2_untells_23 : decode cX2_untells 23 = .ok (.aload_n 0, 1) := by decide +kernel
theorem dX2_untells_24 : decode cX2_untells 24 = .ok (.getfield 15, 3) := by decide +kernel
theorem dX2_untells_27 : decode cX2_untells 27 = .ok (.iload_n 1, 1) := by decide +kernel
theorem dX2_untells_28 : decode cX2_untells 28 = .ok (.iaload, 1) := by decide +kernel
theorem dX2_untells_29 : decode cX2_untells 29 = .ok (.istore_n 2, 1) := by decide +kernel
theorem dX2_untells_30 : decode cX2_untells 30 = .ok (.aload_n 0, 1) := by decide +kernel
theorem dX2_untells_31 : decode cX2_untells 31 = .ok (.getfield 15, 3) := by decide +kernel
theorem dX2_untells_34 : decode cX2_untells 34 = .ok (.iload_n 1, 1) := by decide +kernel
theorem dX2_untells_35 : decode cX2_untells 35 = .ok (.iconst (-1), 1) := by decide +kernel
theorem dX2_untells_36 : decode cX2_untells 36 = .ok (.iastore, 1) := by decide +kernel
theorem dX2_untells_37 : decode cX2_untells 37 = .ok (.iload_n 2, 1) := by decide +kernel
theorem dX2_untells_38 : decode cX2_untells 38 = .ok (.ireturn, 1) := by decide +kernel
theorem dX2_ices_0 : decode cX2_ices 0 = .ok (.aload_n 0, 1) := by decide +kernel
theorem dX2_ices_1 : decode cX2_ices 1 = .ok (.iload_n 1, 1) := by decide +kernel
theorem dX2_ices_2 : decode cX2_ices 2 = .ok (.invokevirtual 44, 3) := by decide +kernel
theorem dX2_ices_5 : decode cX2_ices 5 = .ok (.ifCond .eq 12, 3) := by decide +kernel
theorem dX2_ices_8 : decode cX2_ices 8 = .ok (.iload_n 2, 1) := by decide +kernel
theorem dX2_ices_9 : decode cX2_ices 9 = .ok (.iconst 0, 1) := by decide +kernel
theorem dX2_ices_10 : decode cX2_ices 10 = .ok (.iconst 1, 1) := by decide +kernel
theorem dX2_ices_11 : decode cX2_ices 11 = .ok (.invokestatic 40, 3) := by decide +kernel
theorem dX2_ices_14 : decode cX2_ices 14 = .ok (.ifCond .ne 6, 3) := by decide +kernel
theorem dX2_ices_17 : decode cX2_ices 17 = .ok (.bipush (-2), 2) := by decide +kernel
theorem dX2_ices_19 : decode cX2_ices 19 = .ok (.ireturn, 1) := by decide +kernel
theorem dX2_ices_20 : decode cX2_ices 20 = .ok (.aload_n 0, 1) := by decide +kernel
theorem dX2_ices_21 : decode cX2_ices 21 = .ok (.iload_n 1, 1) := by decide +kernel
theorem dX2_ices_22 : decode cX2_ices 22 = .ok (.invokevirtual 51, 3) := by decide +kernel
theorem dX2_ices_25 : decode cX2_ices 25 = .ok (.ifCond .ne 6, 3) := by decide +kernel
theorem dX2_ices_28 : decode cX2_ices 28 = .ok (.bipush (-3), 2) := by decide +kernel
theorem dX2_ices_30 : decode cX2_ices 30 = .ok (.ireturn, 1) := by decide +kernel
theorem dX2_ices_31 : decode cX2_ices 31 = .ok (.iconst 1, 1) := by decide +kernel
theorem dX2_ices_32 : decode cX2_ices 32 = .ok (.iload_n 1, 1) := by decide +kernel
theorem dX2_ices_33 : decode cX2_ices 33 = .ok (.ishl, 1) := by decide +kernel
theorem dX2_ices_34 : decode cX2_ices 34 = .ok (.istore_n 3, 1) := by decide +kernel
theorem dX2_ices_35 : decode cX2_ices 35 = .ok (.aload_n 0, 1) := by decide +kernel
theorem dX2_ices_36 : decode cX2_ices 36 = .ok (.iload_n 2, 1) := by decide +kernel
theorem dX2_ices_37 : decode cX2_ices 37 = .ok (.iconst 1, 1) := by decide +kernel
theorem dX2_ices_38 : decode cX2_ices 38 = .ok (.if_icmp .ne 12, 3) := by decide +kernel
theorem dX2_ices_41 : decode cX2_ices 41 = .ok (.aload_n 0, 1) := by decide +kernel
theorem dX2_ices_42 : decode cX2_ices 42 = .ok (.getfield 25, 3) := by decide +kernel
theorem dX2_ices_45 : decode cX2_ices 45 = .ok (.iload_n 3, 1) := by decide +kernel
theorem dX2_ices_46 : decode cX2_ices 46 = .ok (.ior, 1) := by decide +kernel
theorem dX2_ices_47 : decode cX2_ices 47 = .ok (.goto 11, 3) := by decide +kernel
theorem dX2_ices_50 : decode cX2_ices 50 = .ok (.aload_n 0, 1) := by decide +kernel
theorem dX2_ices_51 : decode cX2_ices 51 = .ok (.getfield 25, 3) := by decide +kernel
theorem dX2_ices_54 : decode cX2_ices 54 = .ok (.iload_n 3, 1) := by decide +kernel
theorem dX2_ices_55 : decode cX2_ices 55 = .ok (.iconst (-1), 1) := by decide +kernel
theorem dX2_ices_56 : decode cX2_ices 56 = .ok (.ixor, 1) := by decide +kernel
theorem dX2_ices_57 : decode cX2_ices 57 = .ok (.iand, 1) := by decide +kernel
theorem dX2_ices_58 : decode cX2_ices 58 = .ok (.putfield 25, 3) := by decide +kernel
theorem dX2_ices_61 : decode cX2_ices 61 = .ok (.aload_n 0, 1) := by decide +kernel
theorem dX2_ices_62 : decode cX2_ices 62 = .ok (.getfield 25, 3) := by decide +kernel
theorem dX2_ices_65 : decode cX2_ices 65 = .ok (.invokestatic 54, 3) := by decide +kernel
theorem dX2_ices_68 : decode cX2_ices 68 = .ok (.ireturn, 1) := by decide +kernel
theorem dX2_bounds_0 : decode cX2_bounds 0 = .ok (.iload_n 1, 1) := by decide +kernel
theorem dX2_bounds_1 : decode cX2_bounds 1 = .ok (.iconst (-1), 1) := by decide +kernel
theorem dX2_bounds_2 : decode cX2_bounds 2 = .ok (.if_icmp .eq 16, 3) := by decide +kernel
theorem dX2_bounds_5 : decode cX2_bounds 5 = .ok (.iload_n 1, 1) := by decide +kernel
theorem dX2_bounds_6 : decode cX2_bounds 6 = .ok (.iconst 0, 1) := by decide +kernel
theorem dX2_bounds_7 : decode cX2_bounds 7 = .ok (.bipush 24, 2) := by decide +kernel
theorem dX2_bounds_9 : decode cX2_bounds 9 = .ok (.invokestatic 40, 3) := by decide +kernel
theorem dX2_bounds_12 : decode cX2_bounds 12 = .ok (.ifCond .ne 6, 3) := by decide +kernel
theorem dX2_bounds_15 : decode cX2_bounds 15 = .ok (.bipush (-2), 2) := by decide +kernel
theorem dX2_bounds_17 : decode cX2_bounds 17 = .ok (.ireturn, 1) := by decide +kernel
theorem dX2_bounds_18 : decode cX2_bounds 18 = .ok (.aload_n 0, 1) := by decide +kernel
theorem dX2_bounds_19 : decode cX2_bounds 19 = .ok (.getfield 28, 3) := by decide +kernel
theorem dX2_bounds_22 : decode cX2_bounds 22 = .ok (.istore_n 2, 1) := by decide +kernel
theorem dX2_bounds_23 : decode cX2_bounds 23 = .ok (.aload_n 0, 1) := by decide +kernel
theorem dX2_bounds_24 : decode cX2_bounds 24 = .ok (.iload_n 1, 1) := by decide +kernel
theorem dX2_bounds_25 : decode cX2_bounds 25 = .ok (.putfield 28, 3) := by decide +kernel
theorem dX2_bounds_28 : decode cX2_bounds 28 = .ok (.iload_n 2, 1) := by decide +kernel
theorem dX2_bounds_29 : decode cX2_bounds 29 = .ok (.ireturn, 1) := by decide +kernel
theorem dX2_shapes_0 : decode cX2_shapes 0 = .ok (.iload_n 1, 1) := by decide +kernel
theorem dX2_shapes_1 : decode cX2_shapes 1 = .ok (.invokestatic 60, 3) := by decide +kernel
theorem dX2_shapes_4 : decode cX2_shapes 4 = .ok (.ifCond .ne 6, 3) := by decide +kernel
theorem dX2_shapes_7 : decode cX2_shapes 7 = .ok (.bipush (-2), 2) := by decide +kernel
theorem dX2_shapes_9 : decode cX2_shapes 9 = .ok (.ireturn, 1) := by decide +kernel
theorem dX2_shapes_10 : decode cX2_shapes 10 = .ok (.aload_n 0, 1) := by decide +kernel
theorem dX2_shapes_11 : decode cX2_shapes 11 = .ok (.getfield 31, 3) := by decide +kernel
theorem dX2_shapes_14 : decode cX2_shapes 14 = .ok (.istore_n 2, 1) := by decide +kernel
theorem dX2_shapes_15 : decode cX2_shapes 15 = .ok (.aload_n 0, 1) := by decide +kernel
theorem dX2_shapes_16 : decode cX2_shapes 16 = .ok (.iload_n 1, 1) := by decide +kernel
theorem dX2_shapes_17 : decode cX2_shapes 17 = .ok (.putfield 31, 3) := by decide +kernel
theorem dX2_shapes_20 : decode cX2_shapes 20 = .ok (.iload_n 2, 1) := by decide +kernel
theorem dX2_shapes_21 : decode cX2_shapes 21 = .ok (.ireturn, 1) := by decide +kernel
theorem dX2_unprints_0 : decode cX2_unprints 0 = .ok (.aload_n 0, 1) := by decide +kernel
theorem dX2_unprints_1 : decode cX2_unprints 1 = .ok (.invokevirtual 63, 3) := by decide +kernel
theorem dX2_unprints_4 : decode cX2_unprints 4 = .ok (.istore_n 1, 1) := by decide +kernel
theorem dX2_unprints_5 : decode cX2_unprints 5 = .ok (.iconst 0, 1) := by decide +kernel
theorem dX2_unprints_6 : decode cX2_unprints 6 = .ok (.istore_n 2, 1) := by decide +kernel
theorem dX2_unprints_7 : decode cX2_unprints 7 = .ok (.iload_n 2, 1) := by decide +kernel
theorem dX2_unprints_8 : decode cX2_unprints 8 = .ok (.bipush 12, 2) := by decide +kernel
theorem dX2_unprints_10 : decode cX2_unprints 10 = .ok (.if_icmp .ge 16, 3) := by decide +kernel
theorem dX2_unprints_13 : decode cX2_unprints 13 = .ok (.aload_n 0, 1) := by decide +kernel
theorem dX2_unprints_14 : decode cX2_unprints 14 = .ok (.getfield 18, 3) := by decide +kernel
theorem dX2_unprints_17 : decode cX2_unprints 17 = .ok (.iload_n 2, 1) := by decide +kernel
theorem dX2_unprints_18 : decode cX2_unprints 18 = .ok (.iconst (-1), 1) := by decide +kernel
theorem dX2_unprints_19 : decode cX2_unprints 19 = .ok (.iastore, 1) := by decide +kernel
theorem dX2_unprints_20 : decode cX2_unprints 20 = .ok (.iinc 2 1, 3) := by decide +kernel
theorem dX2_unprints_23 : decode cX2_unprints 23 = .ok (.goto (-16), 3) := by decide +kernel
theorem dX2_unprints_26 : decode cX2_unprints 26 = .ok (.aload_n 0, 1) := by decide +kernel
theorem dX2_unprints_27 : decode cX2_unprints 27 = .ok (.iconst 0, 1) := by decide +kernel
theorem dX2_unprints_28 : decode cX2_unprints 28 = .ok (.putfield 25, 3) := by decide +kernel
theorem dX2_unprints_31 : decode cX2_unprints 31 = .ok (.iload_n 1, 1) := by decide +kernel
theorem dX2_unprints_32 : decode cX2_unprints 32 = .ok (.ireturn, 1) := by decide +kernel
theorem dX2_printedOnes_0 : decode cX2_printedOnes 0 = .ok (.iconst 0, 1) := by decide +kernel
theorem dX2_printedOnes_1 : decode cX2_printedOnes 1 = .ok (.istore_n 1, 1) := by decide +kernel
theorem dX2_printedOnes_2 : decode cX2_printedOnes 2 = .ok (.iconst 0, 1) := by decide +kernel
theorem dX2_printedOnes_3 : decode cX2_printedOnes 3 = .ok (.istore_n 2, 1) := by decide +kernel
theorem dX2_printedOnes_4 : decode cX2_printedOnes 4 = .ok (.iload_n 2, 1) := by decide +kernel
theorem dX2_printedOnes_5 : decode cX2_printedOnes 5 = .ok (.aload_n 0, 1) := by decide +kernel
theorem dX2_printedOnes_6 : decode cX2_printedOnes 6 = .ok (.getfield 21, 3) := by decide +kernel
theorem dX2_printedOnes_9 : decode cX2_printedOnes 9 = .ok (.if_icmp .ge 25, 3) := by decide +kernel
theorem dX2_printedOnes_12 : decode cX2_printedOnes 12 = .ok (.iload_n 1, 1) := by decide +kernel
theorem dX2_printedOnes_13 : decode cX2_printedOnes 13 = .ok (.aload_n 0, 1) := by decide +kernel
theorem dX2_printedOnes_14 : decode cX2_printedOnes 14 = .ok (.iload_n 2, 1) := by decide +kernel
theorem dX2_printedOnes_15 : decode cX2_printedOnes 15 = .ok (.invokevirtual 51, 3) := by decide +kernel
theorem dX2_printedOnes_18 : decode cX2_printedOnes 18 = .ok (.ifCond .eq 7, 3) := by decide +kernel
theorem dX2_printedOnes_21 : decode cX2_printedOnes 21 = .ok (.iconst 1, 1) := by decide +kernel
theorem dX2_printedOnes_22 : decode cX2_printedOnes 22 = .ok (.goto 4, 3) := by decide +kernel
theorem dX2_printedOnes_25 : decode cX2_printedOnes 25 = .ok (.iconst 0, 1) := by decide +kernel
theorem dX2_printedOnes_26 : decode cX2_printedOnes 26 = .ok (.iadd, 1) := by decide +kernel
theorem dX2_printedOnes_27 : decode cX2_printedOnes 27 = .ok (.istore_n 1, 1) := by decide +kernel
theorem dX2_printedOnes_28 : decode cX2_printedOnes 28 = .ok (.iinc 2 1, 3) := by decide +kernel
theorem dX2_printedOnes_31 : decode cX2_printedOnes 31 = .ok (.goto (-27), 3) := by decide +kernel
theorem dX2_printedOnes_34 : decode cX2_printedOnes 34 = .ok (.iload_n 1, 1) := by decide +kernel
theorem dX2_printedOnes_35 : decode cX2_printedOnes 35 = .ok (.ireturn, 1) := by decide +kernel
theorem dX2_toldOfQuarter_0 : decode cX2_toldOfQuarter 0 = .ok (.iload_n 2, 1) := by decide +kernel
theorem dX2_toldOfQuarter_1 : decode cX2_toldOfQuarter 1 = .ok (.tableswitch 55 0 2 #[27, 34, 41], 27) := by decide +kernel
theorem dX2_toldOfQuarter_28 : decode cX2_toldOfQuarter 28 = .ok (.aload_n 0, 1) := by decide +kernel
theorem dX2_toldOfQuarter_29 : decode cX2_toldOfQuarter 29 = .ok (.getfield 9, 3) := by decide +kernel
theorem dX2_toldOfQuarter_32 : decode cX2_toldOfQuarter 32 = .ok (.iload_n 1, 1) := by decide +kernel
theorem dX2_toldOfQuarter_33 : decode cX2_toldOfQuarter 33 = .ok (.iaload, 1) := by decide +kernel
theorem dX2_toldOfQuarter_34 : decode cX2_toldOfQuarter 34 = .ok (.ireturn, 1) := by decide +kernel
theorem dX2_toldOfQuarter_35 : decode cX2_toldOfQuarter 35 = .ok (.aload_n 0, 1) := by decide +kernel
theorem dX2_toldOfQuarter_36 : decode cX2_toldOfQuarter 36 = .ok (.getfield 18, 3) := by decide +kernel
theorem dX2_toldOfQuarter_39 : decode cX2_toldOfQuarter 39 = .ok (.iload_n 1, 1) := by decide +kernel
theorem dX2_toldOfQuarter_40 : decode cX2_toldOfQuarter 40 = .ok (.iaload, 1) := by decide +kernel
theorem dX2_toldOfQuarter_41 : decode cX2_toldOfQuarter 41 = .ok (.ireturn, 1) := by decide +kernel
theorem dX2_toldOfQuarter_42 : decode cX2_toldOfQuarter 42 = .ok (.aload_n 0, 1) := by decide +kernel
theorem dX2_toldOfQuarter_43 : decode cX2_toldOfQuarter 43 = .ok (.iload_n 1, 1) := by decide +kernel
theorem dX2_toldOfQuarter_44 : decode cX2_toldOfQuarter 44 = .ok (.invokevirtual 67, 3) := by decide +kernel
theorem dX2_toldOfQuarter_47 : decode cX2_toldOfQuarter 47 = .ok (.ifCond .eq 7, 3) := by decide +kernel
theorem dX2_toldOfQuarter_50 : decode cX2_toldOfQuarter 50 = .ok (.iconst 1, 1) := by decide +kernel
theorem dX2_toldOfQuarter_51 : decode cX2_toldOfQuarter 51 = .ok (.goto 4, 3) := by decide +kernel
theorem dX2_toldOfQuarter_54 : decode cX2_toldOfQuarter 54 = .ok (.iconst 0, 1) := by decide +kernel
theorem dX2_toldOfQuarter_55 : decode cX2_toldOfQuarter 55 = .ok (.ireturn, 1) := by decide +kernel
theorem dX2_toldOfQuarter_56 : decode cX2_toldOfQuarter 56 = .ok (.iload_n 1, 1) := by decide +kernel
theorem dX2_toldOfQuarter_57 : decode cX2_toldOfQuarter 57 = .ok (.iconst 4, 1) := by decide +kernel
theorem dX2_toldOfQuarter_58 : decode cX2_toldOfQuarter 58 = .ok (.idiv, 1) := by decide +kernel
theorem dX2_toldOfQuarter_59 : decode cX2_toldOfQuarter 59 = .ok (.ireturn, 1) := by decide +kernel
theorem dX2_toldOfYear_0 : decode cX2_toldOfYear 0 = .ok (.iload_n 2, 1) := by decide +kernel
theorem dX2_toldOfYear_1 : decode cX2_toldOfYear 1 = .ok (.iconst 1, 1) := by decide +kernel
theorem dX2_toldOfYear_2 : decode cX2_toldOfYear 2 = .ok (.if_icmp .ne 9, 3) := by decide +kernel
theorem dX2_toldOfYear_5 : decode cX2_toldOfYear 5 = .ok (.aload_n 0, 1) := by decide +kernel
theorem dX2_toldOfYear_6 : decode cX2_toldOfYear 6 = .ok (.iload_n 1, 1) := by decide +kernel
theorem dX2_toldOfYear_7 : decode cX2_toldOfYear 7 = .ok (.invokevirtual 70, 3) := by decide +kernel
theorem dX2_toldOfYear_10 : decode cX2_toldOfYear 10 = .ok (.ireturn, 1) := by decide +kernel
theorem dX2_toldOfYear_11 : decode cX2_toldOfYear 11 = .ok (.iload_n 2, 1) := by decide +kernel
theorem dX2_toldOfYear_12 : decode cX2_toldOfYear 12 = .ok (.ifCond .eq 13, 3) := by decide +kernel
theorem dX2_toldOfYear_15 : decode cX2_toldOfYear 15 = .ok (.aload_n 0, 1) := by decide +kernel
theorem dX2_toldOfYear_16 : decode cX2_toldOfYear 16 = .ok (.getfield 15, 3) := by decide +kernel
theorem dX2_toldOfYear_19 : decode cX2_toldOfYear 19 = .ok (.iload_n 1, 1) := by decide +kernel
theorem dX2_toldOfYear_20 : decode cX2_toldOfYear 20 = .ok (.iaload, 1) := by decide +kernel
theorem dX2_toldOfYear_21 : decode cX2_toldOfYear 21 = .ok (.iconst (-1), 1) := by decide +kernel
theorem dX2_toldOfYear_22 : decode cX2_toldOfYear 22 = .ok (.if_icmp .ne 10, 3) := by decide +kernel
theorem dX2_toldOfYear_25 : decode cX2_toldOfYear 25 = .ok (.aload_n 0, 1) := by decide +kernel
theorem dX2_toldOfYear_26 : decode cX2_toldOfYear 26 = .ok (.getfield 15, 3) := by decide +kernel
theorem dX2_toldOfYear_29 : decode cX2_toldOfYear 29 = .ok (.iload_n 1, 1) := by decide +kernel
theorem dX2_toldOfYear_30 : decode cX2_toldOfYear 30 = .ok (.iaload, 1) := by decide +kernel
theorem dX2_toldOfYear_31 : decode cX2_toldOfYear 31 = .ok (.ireturn, 1) := by decide +kernel
theorem dX2_toldOfYear_32 : decode cX2_toldOfYear 32 = .ok (.aload_n 0, 1) := by decide +kernel
theorem dX2_toldOfYear_33 : decode cX2_toldOfYear 33 = .ok (.iload_n 1, 1) := by decide +kernel
theorem dX2_toldOfYear_34 : decode cX2_toldOfYear 34 = .ok (.invokevirtual 73, 3) := by decide +kernel
theorem dX2_toldOfYear_37 : decode cX2_toldOfYear 37 = .ok (.sipush 1000, 3) := by decide +kernel
theorem dX2_toldOfYear_40 : decode cX2_toldOfYear 40 = .ok (.iadd, 1) := by decide +kernel
theorem dX2_toldOfYear_41 : decode cX2_toldOfYear 41 = .ok (.ireturn, 1) := by decide +kernel
theorem dX2_toldOfAll_0 : decode cX2_toldOfAll 0 = .ok (.iload_n 1, 1) := by decide +kernel
theorem dX2_toldOfAll_1 : decode cX2_toldOfAll 1 = .ok (.tableswitch 60 0 4 #[35, 40, 45, 50, 55], 35) := by decide +kernel
theorem dX2_toldOfAll_36 : decode cX2_toldOfAll 36 = .ok (.aload_n 0, 1) := by decide +kernel
theorem dX2_toldOfAll_37 : decode cX2_toldOfAll 37 = .ok (.getfield 21, 3) := by decide +kernel
theorem dX2_toldOfAll_40 : decode cX2_toldOfAll 40 = .ok (.ireturn, 1) := by decide +kernel
theorem dX2_toldOfAll_41 : decode cX2_toldOfAll 41 = .ok (.aload_n 0, 1) := by decide +kernel
theorem dX2_toldOfAll_42 : decode cX2_toldOfAll 42 = .ok (.invokevirtual 76, 3) := by decide +kernel
theorem dX2_toldOfAll_45 : decode cX2_toldOfAll 45 = .ok (.ireturn, 1) := by decide +kernel
theorem dX2_toldOfAll_46 : decode cX2_toldOfAll 46 = .ok (.aload_n 0, 1) := by decide +kernel
theorem dX2_toldOfAll_47 : decode cX2_toldOfAll 47 = .ok (.invokevirtual 63, 3) := by decide +kernel
theorem dX2_toldOfAll_50 : decode cX2_toldOfAll 50 = .ok (.ireturn, 1) := by decide +kernel
theorem dX2_toldOfAll_51 : decode cX2_toldOfAll 51 = .ok (.aload_n 0, 1) := by decide +kernel
theorem dX2_toldOfAll_52 : decode cX2_toldOfAll 52 = .ok (.getfield 25, 3) := by decide +kernel
theorem dX2_toldOfAll_55 : decode cX2_toldOfAll 55 = .ok (.ireturn, 1) := by decide +kernel
theorem dX2_toldOfAll_56 : decode cX2_toldOfAll 56 = .ok (.aload_n 0, 1) := by decide +kernel
theorem dX2_toldOfAll_57 : decode cX2_toldOfAll 57 = .ok (.getfield 28, 3) := by decide +kernel
theorem dX2_toldOfAll_60 : decode cX2_toldOfAll 60 = .ok (.ireturn, 1) := by decide +kernel
theorem dX2_toldOfAll_61 : decode cX2_toldOfAll 61 = .ok (.aload_n 0, 1) := by decide +kernel
theorem dX2_toldOfAll_62 : decode cX2_toldOfAll 62 = .ok (.getfield 31, 3) := by decide +kernel
theorem dX2_toldOfAll_65 : decode cX2_toldOfAll 65 = .ok (.ireturn, 1) := by decide +kernel
theorem dX2_yearsTold_0 : decode cX2_yearsTold 0 = .ok (.iconst 0, 1) := by decide +kernel
theorem dX2_yearsTold_1 : decode cX2_yearsTold 1 = .ok (.istore_n 1, 1) := by decide +kernel
theorem dX2_yearsTold_2 : decode cX2_yearsTold 2 = .ok (.iconst 0, 1) := by decide +kernel
theorem dX2_yearsTold_3 : decode cX2_yearsTold 3 = .ok (.istore_n 2, 1) := by decide +kernel
theorem dX2_yearsTold_4 : decode cX2_yearsTold 4 = .ok (.iload_n 2, 1) := by decide +kernel
theorem dX2_yearsTold_5 : decode cX2_yearsTold 5 = .ok (.iconst 3, 1) := by decide +kernel
theorem dX2_yearsTold_6 : decode cX2_yearsTold 6 = .ok (.if_icmp .ge 27, 3) := by decide +kernel
theorem dX2_yearsTold_9 : decode cX2_yearsTold 9 = .ok (.iload_n 1, 1) := by decide +kernel
theorem dX2_yearsTold_10 : decode cX2_yearsTold 10 = .ok (.aload_n 0, 1) := by decide +kernel
theorem dX2_yearsTold_11 : decode cX2_yearsTold 11 = .ok (.getfield 15, 3) := by decide +kernel
theorem dX2_yearsTold_14 : decode cX2_yearsTold 14 = .ok (.iload_n 2, 1) := by decide +kernel
theorem dX2_yearsTold_15 : decode cX2_yearsTold 15 = .ok (.iaload, 1) := by decide +kernel
theorem dX2_yearsTold_16 : decode cX2_yearsTold 16 = .ok (.iconst (-1), 1) := by decide +kernel
theorem dX2_yearsTold_17 : decode cX2_yearsTold 17 = .ok (.if_icmp .eq 7, 3) := by decide +kernel
theorem dX2_yearsTold_20 : decode cX2_yearsTold 20 = .ok (.iconst 1, 1) := by decide +kernel
theorem dX2_yearsTold_21 : decode cX2_yearsTold 21 = .ok (.goto 4, 3) := by decide +kernel
theorem dX2_yearsTold_24 : decode cX2_yearsTold 24 = .ok (.iconst 0, 1) := by decide +kernel
theorem dX2_yearsTold_25 : decode cX2_yearsTold 25 = .ok (.iadd, 1) := by decide +kernel
theorem dX2_yearsTold_26 : decode cX2_yearsTold 26 = .ok (.istore_n 1, 1) := by decide +kernel
theorem dX2_yearsTold_27 : decode cX2_yearsTold 27 = .ok (.iinc 2 1, 3) := by decide +kernel
theorem dX2_yearsTold_30 : decode cX2_yearsTold 30 = .ok (.goto (-26), 3) := by decide +kernel
theorem dX2_yearsTold_33 : decode cX2_yearsTold 33 = .ok (.iload_n 1, 1) := by decide +kernel
theorem dX2_yearsTold_34 : decode cX2_yearsTold 34 = .ok (.ireturn, 1) := by decide +kernel
theorem dX2_indicated_0 : decode cX2_indicated 0 = .ok (.iconst 0, 1) := by decide +kernel
theorem dX2_indicated_1 : decode cX2_indicated 1 = .ok (.istore_n 2, 1) := by decide +kernel
theorem dX2_indicated_2 : decode cX2_indicated 2 = .ok (.iconst 4, 1) := by decide +kernel
theorem dX2_indicated_3 : decode cX2_indicated 3 = .ok (.iload_n 1, 1) := by decide +kernel
theorem dX2_indicated_4 : decode cX2_indicated 4 = .ok (.imul, 1) := by decide +kernel
theorem dX2_indicated_5 : decode cX2_indicated 5 = .ok (.istore_n 3, 1) := by decide +kernel
theorem dX2_indicated_6 : decode cX2_indicated 6 = .ok (.iload_n 3, 1) := by decide +kernel
theorem dX2_indicated_7 : decode cX2_indicated 7 = .ok (.iconst 4, 1) := by decide +kernel
theorem dX2_indicated_8 : decode cX2_indicated 8 = .ok (.iload_n 1, 1) := by decide +kernel
theorem dX2_indicated_9 : decode cX2_indicated 9 = .ok (.iconst 1, 1) := by decide +kernel
theorem dX2_indicated_10 : decode cX2_indicated 10 = .ok (.iadd, 1) := by decide +kernel
theorem dX2_indicated_11 : decode cX2_indicated 11 = .ok (.imul, 1) := by decide +kernel
theorem dX2_indicated_12 : decode cX2_indicated 12 = .ok (.if_icmp .ge 26, 3) := by decide +kernel
theorem dX2_indicated_15 : decode cX2_indicated 15 = .ok (.iload_n 3, 1) := by decide +kernel
theorem dX2_indicated_16 : decode cX2_indicated 16 = .ok (.aload_n 0, 1) := by decide +kernel
theorem dX2_indicated_17 : decode cX2_indicated 17 = .ok (.getfield 21, 3) := by decide +kernel
theorem dX2_indicated_20 : decode cX2_indicated 20 = .ok (.if_icmp .ge 18, 3) := by decide +kernel
theorem dX2_indicated_23 : decode cX2_indicated 23 = .ok (.iload_n 2, 1) := by decide +kernel
theorem dX2_indicated_24 : decode cX2_indicated 24 = .ok (.aload_n 0, 1) := by decide +kernel
theorem dX2_indicated_25 : decode cX2_indicated 25 = .ok (.getfield 9, 3) := by decide +kernel
theorem dX2_indicated_28 : decode cX2_indicated 28 = .ok (.iload_n 3, 1) := by decide +kernel
theorem dX2_indicated_29 : decode cX2_indicated 29 = .ok (.iaload, 1) := by decide +kernel
theorem dX2_indicated_30 : decode cX2_indicated 30 = .ok (.iadd, 1) := by decide +kernel
theorem dX2_indicated_31 : decode cX2_indicated 31 = .ok (.istore_n 2, 1) := by decide +kernel
theorem dX2_indicated_32 : decode cX2_indicated 32 = .ok (.iinc 3 1, 3) := by decide +kernel
theorem dX2_indicated_35 : decode cX2_indicated 35 = .ok (.goto (-29), 3) := by decide +kernel
theorem dX2_indicated_38 : decode cX2_indicated 38 = .ok (.iload_n 2, 1) := by decide +kernel
theorem dX2_indicated_39 : decode cX2_indicated 39 = .ok (.ireturn, 1) := by decide +kernel
theorem dX2_gap_0 : decode cX2_gap 0 = .ok (.aload_n 0, 1) := by decide +kernel
theorem dX2_gap_1 : decode cX2_gap 1 = .ok (.getfield 15, 3) := by decide +kernel
theorem dX2_gap_4 : decode cX2_gap 4 = .ok (.iload_n 1, 1) := by decide +kernel
theorem dX2_gap_5 : decode cX2_gap 5 = .ok (.iaload, 1) := by decide +kernel
theorem dX2_gap_6 : decode cX2_gap 6 = .ok (.aload_n 0, 1) := by decide +kernel
theorem dX2_gap_7 : decode cX2_gap 7 = .ok (.iload_n 1, 1) := by decide +kernel
theorem dX2_gap_8 : decode cX2_gap 8 = .ok (.invokevirtual 70, 3) := by decide +kernel
theorem dX2_gap_11 : decode cX2_gap 11 = .ok (.isub, 1) := by decide +kernel
theorem dX2_gap_12 : decode cX2_gap 12 = .ok (.ireturn, 1) := by decide +kernel
theorem dX2_share_0 : decode cX2_share 0 = .ok (.iload_n 1, 1) := by decide +kernel
theorem dX2_share_1 : decode cX2_share 1 = .ok (.iconst 4, 1) := by decide +kernel
theorem dX2_share_2 : decode cX2_share 2 = .ok (.idiv, 1) := by decide +kernel
theorem dX2_share_3 : decode cX2_share 3 = .ok (.istore_n 2, 1) := by decide +kernel
theorem dX2_share_4 : decode cX2_share 4 = .ok (.aload_n 0, 1) := by decide +kernel
theorem dX2_share_5 : decode cX2_share 5 = .ok (.iload_n 2, 1) := by decide +kernel
theorem dX2_share_6 : decode cX2_share 6 = .ok (.invokevirtual 70, 3) := by decide +kernel
theorem dX2_share_9 : decode cX2_share 9 = .ok (.istore_n 3, 1) := by decide +kernel
theorem dX2_share_10 : decode cX2_share 10 = .ok (.aload_n 0, 1) := by decide +kernel
theorem dX2_share_11 : decode cX2_share 11 = .ok (.getfield 15, 3) := by decide +kernel
theorem dX2_share_14 : decode cX2_share 14 = .ok (.iload_n 2, 1) := by decide +kernel
theorem dX2_share_15 : decode cX2_share 15 = .ok (.iaload, 1) := by decide +kernel
theorem dX2_share_16 : decode cX2_share 16 = .ok (.iconst (-1), 1) := by decide +kernel
theorem dX2_share_17 : decode cX2_share 17 = .ok (.if_icmp .eq 7, 3) := by decide +kernel
theorem dX2_share_20 : decode cX2_share 20 = .ok (.iload_n 3, 1) := by decide +kernel
theorem dX2_share_21 : decode cX2_share 21 = .ok (.ifCond .gt 10, 3) := by decide +kernel
theorem dX2_share_24 : decode cX2_share 24 = .ok (.aload_n 0, 1) := by decide +kernel
theorem dX2_share_25 : decode cX2_share 25 = .ok (.getfield 9, 3) := by decide +kernel
theorem dX2_share_28 : decode cX2_share 28 = .ok (.iload_n 1, 1) := by decide +kernel
theorem dX2_share_29 : decode cX2_share 29 = .ok (.iaload, 1) := by decide +kernel
theorem dX2_share_30 : decode cX2_share 30 = .ok (.ireturn, 1) := by decide +kernel
theorem dX2_share_31 : decode cX2_share 31 = .ok (.aload_n 0, 1) := by decide +kernel
theorem dX2_share_32 : decode cX2_share 32 = .ok (.getfield 15, 3) := by decide +kernel
theorem dX2_share_35 : decode cX2_share 35 = .ok (.iload_n 2, 1) := by decide +kernel
theorem dX2_share_36 : decode cX2_share 36 = .ok (.iaload, 1) := by decide +kernel
theorem dX2_share_37 : decode cX2_share 37 = .ok (.aload_n 0, 1) := by decide +kernel
theorem dX2_share_38 : decode cX2_share 38 = .ok (.getfield 9, 3) := by decide +kernel
theorem dX2_share_41 : decode cX2_share 41 = .ok (.iload_n 1, 1) := by decide +kernel
theorem dX2_share_42 : decode cX2_share 42 = .ok (.iaload, 1) := by decide +kernel
theorem dX2_share_43 : decode cX2_share 43 = .ok (.imul, 1) := by decide +kernel
theorem dX2_share_44 : decode cX2_share 44 = .ok (.iload_n 3, 1) := by decide +kernel
theorem dX2_share_45 : decode cX2_share 45 = .ok (.irem, 1) := by decide +kernel
theorem dX2_share_46 : decode cX2_share 46 = .ok (.istore 4, 2) := by decide +kernel
theorem dX2_share_48 : decode cX2_share 48 = .ok (.aload_n 0, 1) := by decide +kernel
theorem dX2_share_49 : decode cX2_share 49 = .ok (.getfield 15, 3) := by decide +kernel
theorem dX2_share_52 : decode cX2_share 52 = .ok (.iload_n 2, 1) := by decide +kernel
theorem dX2_share_53 : decode cX2_share 53 = .ok (.iaload, 1) := by decide +kernel
theorem dX2_share_54 : decode cX2_share 54 = .ok (.istore 5, 2) := by decide +kernel
theorem dX2_share_56 : decode cX2_share 56 = .ok (.iconst 0, 1) := by decide +kernel
theorem dX2_share_57 : decode cX2_share 57 = .ok (.istore 6, 2) := by decide +kernel
theorem dX2_share_59 : decode cX2_share 59 = .ok (.iconst 4, 1) := by decide +kernel
theorem dX2_share_60 : decode cX2_share 60 = .ok (.iload_n 2, 1) := by decide +kernel
theorem dX2_share_61 : decode cX2_share 61 = .ok (.imul, 1) := by decide +kernel
theorem dX2_share_62 : decode cX2_share 62 = .ok (.istore 7, 2) := by decide +kernel
theorem dX2_share_64 : decode cX2_share 64 = .ok (.iload 7, 2) := by decide +kernel
theorem dX2_share_66 : decode cX2_share 66 = .ok (.iconst 4, 1) := by decide +kernel
theorem dX2_share_67 : decode cX2_share 67 = .ok (.iload_n 2, 1) := by decide +kernel
theorem dX2_share_68 : decode cX2_share 68 = .ok (.iconst 1, 1) := by decide +kernel
theorem dX2_share_69 : decode cX2_share 69 = .ok (.iadd, 1) := by decide +kernel
theorem dX2_share_70 : decode cX2_share 70 = .ok (.imul, 1) := by decide +kernel
theorem dX2_share_71 : decode cX2_share 71 = .ok (.if_icmp .ge 87, 3) := by decide +kernel
theorem dX2_share_74 : decode cX2_share 74 = .ok (.iload 7, 2) := by decide +kernel
theorem dX2_share_76 : decode cX2_share 76 = .ok (.aload_n 0, 1) := by decide +kernel
theorem dX2_share_77 : decode cX2_share 77 = .ok (.getfield 21, 3) := by decide +kernel
theorem dX2_share_80 : decode cX2_share 80 = .ok (.if_icmp .ge 78, 3) := by decide +kernel
theorem dX2_share_83 : decode cX2_share 83 = .ok (.aload_n 0, 1) := by decide +kernel
theorem dX2_share_84 : decode cX2_share 84 = .ok (.getfield 15, 3) := by decide +kernel
theorem dX2_share_87 : decode cX2_share 87 = .ok (.iload_n 2, 1) := by decide +kernel
theorem dX2_share_88 : decode cX2_share 88 = .ok (.iaload, 1) := by decide +kernel
theorem dX2_share_89 : decode cX2_share 89 = .ok (.aload_n 0, 1) := by decide +kernel
theorem dX2_share_90 : decode cX2_share 90 = .ok (.getfield 9, 3) := by decide +kernel
theorem dX2_share_93 : decode cX2_share 93 = .ok (.iload 7, 2) := by decide +kernel
theorem dX2_share_95 : decode cX2_share 95 = .ok (.iaload, 1) := by decide +kernel
theorem dX2_share_96 : decode cX2_share 96 = .ok (.imul, 1) := by decide +kernel
theorem dX2_share_97 : decode cX2_share 97 = .ok (.iload_n 3, 1) := by decide +kernel
theorem dX2_share_98 : decode cX2_share 98 = .ok (.irem, 1) := by decide +kernel
theorem dX2_share_99 : decode cX2_share 99 = .ok (.istore 8, 2) := by decide +kernel
theorem dX2_share_101 : decode cX2_share 101 = .ok (.iload 5, 2) := by decide +kernel
theorem dX2_share_103 : decode cX2_share 103 = .ok (.aload_n 0, 1) := by decide +kernel
theorem dX2_share_104 : decode cX2_share 104 = .ok (.getfield 15, 3) := by decide +kernel
theorem dX2_share_107 : decode cX2_share 107 = .ok (.iload_n 2, 1) := by decide +kernel
theorem dX2_share_108 : decode cX2_share 108 = .ok (.iaload, 1) := by decide +kernel
theorem dX2_share_109 : decode cX2_share 109 = .ok (.aload_n 0, 1) := by decide +kernel
theorem dX2_share_110 : decode cX2_share 110 = .ok (.getfield 9, 3) := by decide +kernel
theorem dX2_share_113 : decode cX2_share 113 = .ok (.iload 7, 2) := by decide +kernel
theorem dX2_share_115 : decode cX2_share 115 = .ok (.iaload, 1) := by decide +kernel
theorem dX2_share_116 : decode cX2_share 116 = .ok (.imul, 1) := by decide +kernel
theorem dX2_share_117 : decode cX2_share 117 = .ok (.iload_n 3, 1) := by decide +kernel
theorem dX2_share_118 : decode cX2_share 118 = .ok (.idiv, 1) := by decide +kernel
theorem dX2_share_119 : decode cX2_share 119 = .ok (.isub, 1) := by decide +kernel
theorem dX2_share_120 : decode cX2_share 120 = .ok (.istore 5, 2) := by decide +kernel
theorem dX2_share_122 : decode cX2_share 122 = .ok (.iload 6, 2) := by decide +kernel
theorem dX2_share_124 : decode cX2_share 124 = .ok (.iload 8, 2) := by decide +kernel
theorem dX2_share_126 : decode cX2_share 126 = .ok (.iload 4, 2) := by decide +kernel
theorem dX2_share_128 : decode cX2_share 128 = .ok (.if_icmp .gt 16, 3) := by decide +kernel
theorem dX2_share_131 : decode cX2_share 131 = .ok (.iload 8, 2) := by decide +kernel
theorem dX2_share_133 : decode cX2_share 133 = .ok (.iload 4, 2) := by decide +kernel
theorem dX2_share_135 : decode cX2_share 135 = .ok (.if_icmp .ne 13, 3) := by decide +kernel
theorem dX2_share_138 : decode cX2_share 138 = .ok (.iload 7, 2) := by decide +kernel
theorem dX2_share_140 : decode cX2_share 140 = .ok (.iload_n 1, 1) := by decide +kernel
theorem dX2_share_141 : decode cX2_share 141 = .ok (.if_icmp .ge 7, 3) := by decide +kernel
theorem dX2_share_144 : decode cX2_share 144 = .ok (.iconst 1, 1) := by decide +kernel
theorem dX2_share_145 : decode cX2_share 145 = .ok (.goto 4, 3) := by decide +kernel
theorem dX2_share_148 : decode cX2_share 148 = .ok (.iconst 0, 1) := by decide +kernel
theorem dX2_share_149 : decode cX2_share 149 = .ok (.iadd, 1) := by decide +kernel
theorem dX2_share_150 : decode cX2_share 150 = .ok (.istore 6, 2) := by decide +kernel
theorem dX2_share_152 : decode cX2_share 152 = .ok (.iinc 7 1, 3) := by decide +kernel
theorem dX2_share_155 : decode cX2_share 155 = .ok (.goto (-91), 3) := by decide +kernel
theorem dX2_share_158 : decode cX2_share 158 = .ok (.aload_n 0, 1) := by decide +kernel
theorem dX2_share_159 : decode cX2_share 159 = .ok (.getfield 15, 3) := by decide +kernel
theorem dX2_share_162 : decode cX2_share 162 = .ok (.iload_n 2, 1) := by decide +kernel
theorem dX2_share_163 : decode cX2_share 163 = .ok (.iaload, 1) := by decide +kernel
theorem dX2_share_164 : decode cX2_share 164 = .ok (.aload_n 0, 1) := by decide +kernel
theorem dX2_share_165 : decode cX2_share 165 = .ok (.getfield 9, 3) := by decide +kernel
theorem dX2_share_168 : decode cX2_share 168 = .ok (.iload_n 1, 1) := by decide +kernel
theorem dX2_share_169 : decode cX2_share 169 = .ok (.iaload, 1) := by decide +kernel
theorem dX2_share_170 : decode cX2_share 170 = .ok (.imul, 1) := by decide +kernel
theorem dX2_share_171 : decode cX2_share 171 = .ok (.iload_n 3, 1) := by decide +kernel
theorem dX2_share_172 : decode cX2_share 172 = .ok (.idiv, 1) := by decide +kernel
theorem dX2_share_173 : decode cX2_share 173 = .ok (.iload 6, 2) := by decide +kernel
theorem dX2_share_175 : decode cX2_share 175 = .ok (.iload 5, 2) := by decide +kernel
theorem dX2_share_177 : decode cX2_share 177 = .ok (.if_icmp .ge 7, 3) := by decide +kernel
theorem dX2_share_180 : decode cX2_share 180 = .ok (.iconst 1, 1) := by decide +kernel
theorem dX2_share_181 : decode cX2_share 181 = .ok (.goto 4, 3) := by decide +kernel
theorem dX2_share_184 : decode cX2_share 184 = .ok (.iconst 0, 1) := by decide +kernel
theorem dX2_share_185 : decode cX2_share 185 = .ok (.iadd, 1) := by decide +kernel
theorem dX2_share_186 : decode cX2_share 186 = .ok (.ireturn, 1) := by decide +kernel
theorem dX2_movement_0 : decode cX2_movement 0 = .ok (.lconst 0, 1) := by decide +kernel
theorem dX2_movement_1 : decode cX2_movement 1 = .ok (.lstore_n 3, 1) := by decide +kernel
theorem dX2_movement_2 : decode cX2_movement 2 = .ok (.iconst 1, 1) := by decide +kernel
theorem dX2_movement_3 : decode cX2_movement 3 = .ok (.istore 5, 2) := by decide +kernel
theorem dX2_movement_5 : decode cX2_movement 5 = .ok (.iload 5, 2) := by decide +kernel
theorem dX2_movement_7 : decode cX2_movement 7 = .ok (.aload_n 0, 1) := by decide +kernel
theorem dX2_movement_8 : decode cX2_movement 8 = .ok (.getfield 21, 3) := by decide +kernel
theorem dX2_movement_11 : decode cX2_movement 11 = .ok (.if_icmp .ge 93, 3) := by decide +kernel
theorem dX2_movement_14 : decode cX2_movement 14 = .ok (.iload 5, 2) := by decide +kernel
theorem dX2_movement_16 : decode cX2_movement 16 = .ok (.aload_n 1, 1) := by decide +kernel
theorem dX2_movement_17 : decode cX2_movement 17 = .ok (.arraylength, 1) := by decide +kernel
theorem dX2_movement_18 : decode cX2_movement 18 = .ok (.if_icmp .ge 86, 3) := by decide +kernel
theorem dX2_movement_21 : decode cX2_movement 21 = .ok (.iload_n 2, 1) := by decide +kernel
theorem dX2_movement_22 : decode cX2_movement 22 = .ok (.ifCond .ne 36, 3) := by decide +kernel
theorem dX2_movement_25 : decode cX2_movement 25 = .ok (.aload_n 1, 1) := by decide +kernel
theorem dX2_movement_26 : decode cX2_movement 26 = .ok (.iload 5, 2) := by decide +kernel
theorem dX2_movement_28 : decode cX2_movement 28 = .ok (.iaload, 1) := by decide +kernel
theorem dX2_movement_29 : decode cX2_movement 29 = .ok (.aload_n 0, 1) := by decide +kernel
theorem dX2_movement_30 : decode cX2_movement 30 = .ok (.getfield 9, 3) := by decide +kernel
theorem dX2_movement_33 : decode cX2_movement 33 = .ok (.iload 5, 2) := by decide +kernel
theorem dX2_movement_35 : decode cX2_movement 35 = .ok (.iaload, 1) := by decide +kernel
theorem dX2_movement_36 : decode cX2_movement 36 = .ok (.isub, 1) := by decide +kernel
theorem dX2_movement_37 : decode cX2_movement 37 = .ok (.aload_n 1, 1) := by decide +kernel
theorem dX2_movement_38 : decode cX2_movement 38 = .ok (.iload 5, 2) := by decide +kernel
theorem dX2_movement_40 : decode cX2_movement 40 = .ok (.iconst 1, 1) := by decide +kernel
theorem dX2_movement_41 : decode cX2_movement 41 = .ok (.isub, 1) := by decide +kernel
theorem dX2_movement_42 : decode cX2_movement 42 = .ok (.iaload, 1) := by decide +kernel
theorem dX2_movement_43 : decode cX2_movement 43 = .ok (.aload_n 0, 1) := by decide +kernel
theorem dX2_movement_44 : decode cX2_movement 44 = .ok (.getfield 9, 3) := by decide +kernel
theorem dX2_movement_47 : decode cX2_movement 47 = .ok (.iload 5, 2) := by decide +kernel
theorem dX2_movement_49 : decode cX2_movement 49 = .ok (.iconst 1, 1) := by decide +kernel
theorem dX2_movement_50 : decode cX2_movement 50 = .ok (.isub, 1) := by decide +kernel
theorem dX2_movement_51 : decode cX2_movement 51 = .ok (.iaload, 1) := by decide +kernel
theorem dX2_movement_52 : decode cX2_movement 52 = .ok (.isub, 1) := by decide +kernel
theorem dX2_movement_53 : decode cX2_movement 53 = .ok (.isub, 1) := by decide +kernel
theorem dX2_movement_54 : decode cX2_movement 54 = .ok (.i2l, 1) := by decide +kernel
theorem dX2_movement_55 : decode cX2_movement 55 = .ok (.goto 33, 3) := by decide +kernel
theorem dX2_movement_58 : decode cX2_movement 58 = .ok (.aload_n 1, 1) := by decide +kernel
theorem dX2_movement_59 : decode cX2_movement 59 = .ok (.iload 5, 2) := by decide +kernel
theorem dX2_movement_61 : decode cX2_movement 61 = .ok (.iaload, 1) := by decide +kernel
theorem dX2_movement_62 : decode cX2_movement 62 = .ok (.aload_n 0, 1) := by decide +kernel
theorem dX2_movement_63 : decode cX2_movement 63 = .ok (.getfield 9, 3) := by decide +kernel
theorem dX2_movement_66 : decode cX2_movement 66 = .ok (.iload 5, 2) := by decide +kernel
theorem dX2_movement_68 : decode cX2_movement 68 = .ok (.iconst 1, 1) := by decide +kernel
theorem dX2_movement_69 : decode cX2_movement 69 = .ok (.isub, 1) := by decide +kernel
theorem dX2_movement_70 : decode cX2_movement 70 = .ok (.iaload, 1) := by decide +kernel
theorem dX2_movement_71 : decode cX2_movement 71 = .ok (.imul, 1) := by decide +kernel
theorem dX2_movement_72 : decode cX2_movement 72 = .ok (.aload_n 1, 1) := by decide +kernel
theorem dX2_movement_73 : decode cX2_movement 73 = .ok (.iload 5, 2) := by decide +kernel
theorem dX2_movement_75 : decode cX2_movement 75 = .ok (.iconst 1, 1) := by decide +kernel
theorem dX2_movement_76 : decode cX2_movement 76 = .ok (.isub, 1) := by decide +kernel
theorem dX2_movement_77 : decode cX2_movement 77 = .ok (.iaload, 1) := by decide +kernel
theorem dX2_movement_78 : decode cX2_movement 78 = .ok (.aload_n 0, 1) := by decide +kernel
theorem dX2_movement_79 : decode cX2_movement 79 = .ok (.getfield 9, 3) := by decide +kernel
theorem dX2_movement_82 : decode cX2_movement 82 = .ok (.iload 5, 2) := by decide +kernel
theorem dX2_movement_84 : decode cX2_movement 84 = .ok (.iaload, 1) := by decide +kernel
theorem dX2_movement_85 : decode cX2_movement 85 = .ok (.imul, 1) := by decide +kernel
theorem dX2_movement_86 : decode cX2_movement 86 = .ok (.isub, 1) := by decide +kernel
theorem dX2_movement_87 : decode cX2_movement 87 = .ok (.i2l, 1) := by decide +kernel
theorem dX2_movement_88 : decode cX2_movement 88 = .ok (.lstore 6, 2) := by decide +kernel
theorem dX2_movement_90 : decode cX2_movement 90 = .ok (.lload_n 3, 1) := by decide +kernel
theorem dX2_movement_91 : decode cX2_movement 91 = .ok (.lload 6, 2) := by decide +kernel
theorem dX2_movement_93 : decode cX2_movement 93 = .ok (.lload 6, 2) := by decide +kernel
theorem dX2_movement_95 : decode cX2_movement 95 = .ok (.lmul, 1) := by decide +kernel
theorem dX2_movement_96 : decode cX2_movement 96 = .ok (.ladd, 1) := by decide +kernel
theorem dX2_movement_97 : decode cX2_movement 97 = .ok (.lstore_n 3, 1) := by decide +kernel
theorem dX2_movement_98 : decode cX2_movement 98 = .ok (.iinc 5 1, 3) := by decide +kernel
theorem dX2_movement_101 : decode cX2_movement 101 = .ok (.goto (-96), 3) := by decide +kernel
theorem dX2_movement_104 : decode cX2_movement 104 = .ok (.lload_n 3, 1) := by decide +kernel
theorem dX2_movement_105 : decode cX2_movement 105 = .ok (.lreturn, 1) := by decide +kernel
theorem dX3_init_0 : decode cX3_init 0 = .ok (.aload_n 0, 1) := by decide +kernel
theorem dX3_init_1 : decode cX3_init 1 = .ok (.invokespecial 3, 3) := by decide +kernel
theorem dX3_init_4 : decode cX3_init 4 = .ok (.aload_n 0, 1) := by decide +kernel
theorem dX3_init_5 : decode cX3_init 5 = .ok (.bipush 6, 2) := by decide +kernel
theorem dX3_init_7 : decode cX3_init 7 = .ok (.anewarray 9, 3) := by decide +kernel
theorem dX3_init_10 : decode cX3_init 10 = .ok (.putfield 11, 3) := by decide +kernel
theorem dX3_init_13 : decode cX3_init 13 = .ok (.aload_n 0, 1) := by decide +kernel
theorem dX3_init_14 : decode cX3_init 14 = .ok (.iconst 0, 1) := by decide +kernel
theorem dX3_init_15 : decode cX3_init 15 = .ok (.putfield 17, 3) := by decide +kernel
theorem dX3_init_18 : decode cX3_init 18 = .ok (.aload_n 0, 1) := by decide +kernel
theorem dX3_init_19 : decode cX3_init 19 = .ok (.iconst 0, 1) := by decide +kernel
theorem dX3_init_20 : decode cX3_init 20 = .ok (.putfield 21, 3) := by decide +kernel
theorem dX3_init_23 : decode cX3_init 23 = .ok (.iconst 0, 1) := by decide +kernel
theorem dX3_init_24 : decode cX3_init 24 = .ok (.istore_n 1, 1) := by decide +kernel
theorem dX3_init_25 : decode cX3_init 25 = .ok (.iload_n 1, 1) := by decide +kernel
theorem dX3_init_26 : decode cX3_init 26 = .ok (.iconst 5, 1) := by decide +kernel
theorem dX3_init_27 : decode cX3_init 27 = .ok (.if_icmp .gt 22, 3) := by decide +kernel
theorem dX3_init_30 : decode cX3_init 30 = .ok (.aload_n 0, 1) := by decide +kernel
theorem dX3_init_31 : decode cX3_init 31 = .ok (.getfield 11, 3) := by decide +kernel
theorem dX3_init_34 : decode cX3_init 34 = .ok (.iload_n 1, 1) := by decide +kernel
theorem dX3_init_35 : decode cX3_init 35 = .ok (.new 9, 3) := by decide +kernel
theorem dX3_init_38 : decode cX3_init 38 = .ok (.dup, 1) := by decide +kernel
theorem dX3_init_39 : decode cX3_init 39 = .ok (.invokespecial 24, 3) := by decide +kernel
theorem dX3_init_42 : decode cX3_init 42 = .ok (.aastore, 1) := by decide +kernel
theorem dX3_init_43 : decode cX3_init 43 = .ok (.iinc 1 1, 3) := by decide +kernel
theorem dX3_init_46 : decode cX3_init 46 = .ok (.goto (-21), 3) := by decide +kernel
theorem dX3_init_49 : decode cX3_init 49 = .ok (.return_, 1) := by decide +kernel
theorem dX3_holds_0 : decode cX3_holds 0 = .ok (.aload_n 0, 1) := by decide +kernel
theorem dX3_holds_1 : decode cX3_holds 1 = .ok (.getfield 11, 3) := by decide +kernel
theorem dX3_holds_4 : decode cX3_holds 4 = .ok (.aload_n 0, 1) := by decide +kernel
theorem dX3_holds_5 : decode cX3_holds 5 = .ok (.getfield 17, 3) := by decide +kernel
theorem dX3_holds_8 : decode cX3_holds 8 = .ok (.aaload, 1) := by decide +kernel
theorem dX3_holds_9 : decode cX3_holds 9 = .ok (.aload_n 1, 1) := by decide +kernel
theorem dX3_holds_10 : decode cX3_holds 10 = .ok (.invokevirtual 25, 3) := by decide +kernel
theorem dX3_holds_13 : decode cX3_holds 13 = .ok (.return_, 1) := by decide +kernel
theorem dX3_restores_0 : decode cX3_restores 0 = .ok (.aload_n 1, 1) := by decide +kernel
theorem dX3_restores_1 : decode cX3_restores 1 = .ok (.aload_n 0, 1) := by decide +kernel
theorem dX3_restores_2 : decode cX3_restores 2 = .ok (.getfield 11, 3) := by decide +kernel
theorem dX3_restores_5 : decode cX3_restores 5 = .ok (.aload_n 0, 1) := by decide +kernel
theorem dX3_restores_6 : decode cX3_restores 6 = .ok (.getfield 17, 3) := by decide +kernel
theorem dX3_restores_9 : decode cX3_restores 9 = .ok (.aaload, 1) := by decide +kernel
theorem dX3_restores_10 : decode cX3_restores 10 = .ok (.invokevirtual 25, 3) := by decide +kernel
theorem dX3_restores_13 : decode cX3_restores 13 = .ok (.return_, 1) := by decide +kernel
theorem dX3_keeps_0 : decode cX3_keeps 0 = .ok (.aload_n 0, 1) := by decide +kernel
theorem dX3_keeps_1 : decode cX3_keeps 1 = .ok (.aload_n 0, 1) := by decide +kernel
theorem dX3_keeps_2 : decode cX3_keeps 2 = .ok (.getfield 17, 3) := by decide +kernel
theorem dX3_keeps_5 : decode cX3_keeps 5 = .ok (.iconst 5, 1) := by decide +kernel
theorem dX3_keeps_6 : decode cX3_keeps 6 = .ok (.if_icmp .ne 7, 3) := by decide +kernel
theorem dX3_keeps_9 : decode cX3_keeps 9 = .ok (.iconst 0, 1) := by decide +kernel
theorem dX3_keeps_10 : decode cX3_keeps 10 = .ok (.goto 9, 3) := by decide +kernel
theorem dX3_keeps_13 : decode cX3_keeps 13 = .ok (.aload_n 0, 1) := by decide +kernel
theorem dX3_keeps_14 : decode cX3_keeps 14 = .ok (.getfield 17, 3) := by decide +kernel
theorem dX3_keeps_17 : decode cX3_keeps 17 = .ok (.iconst 1, 1) := by decide +kernel
theorem dX3_keeps_18 : decode cX3_keeps 18 = .ok (.iadd, 1) := by decide +kernel
theorem dX3_keeps_19 : decode cX3_keeps 19 = .ok (.putfield 17, 3) := by decide +kernel
theorem dX3_keeps_22 : decode cX3_keeps 22 = .ok (.aload_n 0, 1) := by decide +kernel
theorem dX3_keeps_23 : decode cX3_keeps 23 = .ok (.iconst 5, 1) := by decide +kernel
theorem dX3_keeps_24 : decode cX3_keeps 24 = .ok (.aload_n 0, 1) := by decide +kernel
theorem dX3_keeps_25 : decode cX3_keeps 25 = .ok (.getfield 21, 3) := by decide +kernel
theorem dX3_keeps_28 : decode cX3_keeps 28 = .ok (.iconst 1, 1) := by decide +kernel
theorem dX3_keeps_29 : decode cX3_keeps 29 = .ok (.iadd, 1) := by decide +kernel
theorem dX3_keeps_30 : decode cX3_keeps 30 = .ok (.invokestatic 29, 3) := by decide +kernel
theorem dX3_keeps_33 : decode cX3_keeps 33 = .ok (.putfield 21, 3) := by decide +kernel
theorem dX3_keeps_36 : decode cX3_keeps 36 = .ok (.return_, 1) := by decide +kernel
theorem dX3_returns_0 : decode cX3_returns 0 = .ok (.aload_n 0, 1) := by decide +kernel
theorem dX3_returns_1 : decode cX3_returns 1 = .ok (.getfield 21, 3) := by decide +kernel
theorem dX3_returns_4 : decode cX3_returns 4 = .ok (.ifCond .le 47, 3) := by decide +kernel
theorem dX3_returns_7 : decode cX3_returns 7 = .ok (.aload_n 0, 1) := by decide +kernel
theorem dX3_returns_8 : decode cX3_returns 8 = .ok (.aload_n 0, 1) := by decide +kernel
theorem dX3_returns_9 : decode cX3_returns 9 = .ok (.getfield 17, 3) := by decide +kernel
theorem dX3_returns_12 : decode cX3_returns 12 = .ok (.ifCond .ne 7, 3) := by decide +kernel
theorem dX3_returns_15 : decode cX3_returns 15 = .ok (.iconst 5, 1) := by decide +kernel
theorem dX3_returns_16 : decode cX3_returns 16 = .ok (.goto 9, 3) := by decide +kernel
theorem dX3_returns_19 : decode cX3_returns 19 = .ok (.aload_n 0, 1) := by decide +kernel
theorem dX3_returns_20 : decode cX3_returns 20 = .ok (.getfield 17, 3) := by decide +kernel
theorem dX3_returns_23 : decode cX3_returns 23 = .ok (.iconst 1, 1) := by decide +kernel
theorem dX3_returns_24 : decode cX3_returns 24 = .ok (.isub, 1) := by decide +kernel
theorem dX3_returns_25 : decode cX3_returns 25 = .ok (.putfield 17, 3) := by decide +kernel
theorem dX3_returns_28 : decode cX3_returns 28 = .ok (.aload_n 0, 1) := by decide +kernel
theorem dX3_returns_29 : decode cX3_returns 29 = .ok (.dup, 1) := by decide +kernel
theorem dX3_returns_30 : decode cX3_returns 30 = .ok (.getfield 21, 3) := by decide +kernel
theorem dX3_returns_33 : decode cX3_returns 33 = .ok (.iconst 1, 1) := by decide +kernel
theorem dX3_returns_34 : decode cX3_returns 34 = .ok (.isub, 1) := by decide +kernel
theorem dX3_returns_35 : decode cX3_returns 35 = .ok (.putfield 21, 3) := by decide +kernel
theorem dX3_returns_38 : decode cX3_returns 38 = .ok (.aload_n 1, 1) := by decide +kernel
theorem dX3_returns_39 : decode cX3_returns 39 = .ok (.aload_n 0, 1) := by decide +kernel
theorem dX3_returns_40 : decode cX3_returns 40 = .ok (.getfield 11, 3) := by decide +kernel
theorem dX3_returns_43 : decode cX3_returns 43 = .ok (.aload_n 0, 1) := by decide +kernel
theorem dX3_returns_44 : decode cX3_returns 44 = .ok (.getfield 17, 3) := by decide +kernel
theorem dX3_returns_47 : decode cX3_returns 47 = .ok (.aaload, 1) := by decide +kernel
theorem dX3_returns_48 : decode cX3_returns 48 = .ok (.invokevirtual 25, 3) := by decide +kernel
theorem dX3_returns_51 : decode cX3_returns 51 = .ok (.return_, 1) := by decide +kernel
theorem dX4_init_0 : decode cX4_init 0 = .ok (.aload_n 0, 1) := by decide +kernel
theorem dX4_init_1 : decode cX4_init 1 = .ok (.invokespecial 3, 3) := by decide +kernel
theorem dX4_init_4 : decode cX4_init 4 = .ok (.aload_n 0, 1) := by decide +kernel
theorem dX4_init_5 : decode cX4_init 5 = .ok (.bipush 120, 2) := by decide +kernel
theorem dX4_init_7 : decode cX4_init 7 = .ok (.newarray .int, 2) := by decide +kernel
theorem dX4_init_9 : decode cX4_init 9 = .ok (.putfield 9, 3) := by decide +kernel
theorem dX4_init_12 : decode cX4_init 12 = .ok (.aload_n 0, 1) := by decide +kernel
theorem dX4_init_13 : decode cX4_init 13 = .ok (.iconst 0, 1) := by decide +kernel
theorem dX4_init_14 : decode cX4_init 14 = .ok (.putfield 15, 3) := by decide +kernel
theorem dX4_init_17 : decode cX4_init 17 = .ok (.aload_n 0, 1) := by decide +kernel
theorem dX4_init_18 : decode cX4_init 18 = .ok (.bipush 60, 2) := by decide +kernel
theorem dX4_init_20 : decode cX4_init 20 = .ok (.newarray .int, 2) := by decide +kernel
theorem dX4_init_22 : decode cX4_init 22 = .ok (.putfield 19, 3) := by decide +kernel
theorem dX4_init_25 : decode cX4_init 25 = .ok (.aload_n 0, 1) := by decide +kernel
theorem dX4_init_26 : decode cX4_init 26 = .ok (.bipush 60, 2) := by decide +kernel
theorem dX4_init_28 : decode cX4_init 28 = .ok (.newarray .int, 2) := by decide +kernel
theorem dX4_init_30 : decode cX4_init 30 = .ok (.putfield 22, 3) := by decide +kernel
theorem dX4_init_33 : decode cX4_init 33 = .ok (.aload_n 0, 1) := by decide +kernel
theorem dX4_init_34 : decode cX4_init 34 = .ok (.bipush 60, 2) := by decide +kernel
theorem dX4_init_36 : decode cX4_init 36 = .ok (.newarray .int, 2) := by decide +kernel
theorem dX4_init_38 : decode cX4_init 38 = .ok (.putfield 25, 3) := by decide +kernel
theorem dX4_init_41 : decode cX4_init 41 = .ok (.aload_n 0, 1) := by decide +kernel
theorem dX4_init_42 : decode cX4_init 42 = .ok (.iconst 0, 1) := by decide +kernel
theorem dX4_init_43 : decode cX4_init 43 = .ok (.putfield 28, 3) := by decide +kernel
theorem dX4_init_46 : decode cX4_init 46 = .ok (.aload_n 0, 1) := by decide +kernel
theorem dX4_init_47 : decode cX4_init 47 = .ok (.iconst 0, 1) := by decide +kernel
theorem dX4_init_48 : decode cX4_init 48 = .ok (.putfield 31, 3) := by decide +kernel
theorem dX4_init_51 : decode cX4_init 51 = .ok (.aload_n 0, 1) := by decide +kernel
theorem dX4_init_52 : decode cX4_init 52 = .ok (.iconst 0, 1) := by decide +kernel
theorem dX4_init_53 : decode cX4_init 53 = .ok (.putfield 35, 3) := by decide +kernel
theorem dX4_init_56 : decode cX4_init 56 = .ok (.aload_n 0, 1) := by decide +kernel
theorem dX4_init_57 : decode cX4_init 57 = .ok (.iconst 0, 1) := by decide +kernel
theorem dX4_init_58 : decode cX4_init 58 = .ok (.putfield 38, 3) := by decide +kernel
theorem dX4_init_61 : decode cX4_init 61 = .ok (.return_, 1) := by decide +kernel
theorem dX4_takes_0 : decode cX4_takes 0 = .ok (.aload_n 0, 1) := by decide +kernel
theorem dX4_takes_1 : decode cX4_takes 1 = .ok (.getfield 15, 3) := by decide +kernel
theorem dX4_takes_4 : decode cX4_takes 4 = .ok (.bipush 120, 2) := by decide +kernel
theorem dX4_takes_6 : decode cX4_takes 6 = .ok (.if_icmp .ge 23, 3) := by decide +kernel
theorem dX4_takes_9 : decode cX4_takes 9 = .ok (.aload_n 0, 1) := by decide +kernel
theorem dX4_takes_10 : decode cX4_takes 10 = .ok (.getfield 9, 3) := by decide +kernel
theorem dX4_takes_13 : decode cX4_takes 13 = .ok (.aload_n 0, 1) := by decide +kernel
theorem dX4_takes_14 : decode cX4_takes 14 = .ok (.getfield 15, 3) := by decide +kernel
theorem dX4_takes_17 : decode cX4_takes 17 = .ok (.iload_n 1, 1) := by decide +kernel
theorem dX4_takes_18 : decode cX4_takes 18 = .ok (.iastore, 1) := by decide +kernel
theorem dX4_takes_19 : decode cX4_takes 19 = .ok (.aload_n 0, 1) := by decide +kernel
theorem dX4_takes_20 : decode cX4_takes 20 = .ok (.dup, 1) := by decide +kernel
theorem dX4_takes_21 : decode cX4_takes 21 = .ok (.getfield 15, 3) := by decide +kernel
theorem dX4_takes_24 : decode cX4_takes 24 = .ok (.iconst 1, 1) := by decide +kernel
theorem dX4_takes_25 : decode cX4_takes 25 = .ok (.iadd, 1) := by decide +kernel
theorem dX4_takes_26 : decode cX4_takes 26 = .ok (.putfield 15, 3) := by decide +kernel
theorem dX4_takes_29 : decode cX4_takes 29 = .ok (.aload_n 0, 1) := by decide +kernel
theorem dX4_takes_30 : decode cX4_takes 30 = .ok (.getfield 15, 3) := by decide +kernel
theorem dX4_takes_33 : decode cX4_takes 33 = .ok (.ireturn, 1) := by decide +kernel
theorem dX4_reads_0 : decode cX4_reads 0 = .ok (.aload_n 0, 1) := by decide +kernel
theorem dX4_reads_1 : decode cX4_reads 1 = .ok (.iconst 0, 1) := by decide +kernel
theorem dX4_reads_2 : decode cX4_reads 2 = .ok (.putfield 28, 3) := by decide +kernel
theorem dX4_reads_5 : decode cX4_reads 5 = .ok (.aload_n 0, 1) := by decide +kernel
theorem dX4_reads_6 : decode cX4_reads 6 = .ok (.iconst 0, 1) := by decide +kernel
theorem dX4_reads_7 : decode cX4_reads 7 = .ok (.putfield 31, 3) := by decide +kernel
theorem dX4_reads_10 : decode cX4_reads 10 = .ok (.iconst 0, 1) := by decide +kernel
theorem dX4_reads_11 : decode cX4_reads 11 = .ok (.istore_n 1, 1) := by decide +kernel
theorem dX4_reads_12 : decode cX4_reads 12 = .ok (.iload_n 1, 1) := by decide +kernel
theorem dX4_reads_13 : decode cX4_reads 13 = .ok (.aload_n 0, 1) := by decide +kernel
theorem dX4_reads_14 : decode cX4_reads 14 = .ok (.getfield 15, 3) := by decide +kernel
theorem dX4_reads_17 : decode cX4_reads 17 = .ok (.if_icmp .ge 24, 3) := by decide +kernel
theorem dX4_reads_20 : decode cX4_reads 20 = .ok (.aload_n 0, 1) := by decide +kernel
theorem dX4_reads_21 : decode cX4_reads 21 = .ok (.aload_n 0, 1) := by decide +kernel
theorem dX4_reads_22 : decode cX4_reads 22 = .ok (.getfield 9, 3) := by decide +kernel
theorem dX4_reads_25 : decode cX4_reads 25 = .ok (.iload_n 1, 1) := by decide +kernel
theorem dX4_reads_26 : decode cX4_reads 26 = .ok (.iaload, 1) := by decide +kernel
theorem dX4_reads_27 : decode cX4_reads 27 = .ok (.invokevirtual 41, 3) := by decide +kernel
theorem dX4_reads_30 : decode cX4_reads 30 = .ok (.ifCond .ne 5, 3) := by decide +kernel
theorem dX4_reads_33 : decode cX4_reads 33 = .ok (.iload_n 1, 1) := by decide +kernel
theorem dX4_reads_34 : decode cX4_reads 34 = .ok (.ireturn, 1) := by decide +kernel
theorem dX4_reads_35 : decode cX4_reads 35 = .ok (.iinc 1 1, 3) := by decide +kernel
theorem dX4_reads_38 : decode cX4_reads 38 = .ok (.goto (-26), 3) := by decide +kernel
theorem dX4_reads_41 : decode cX4_reads 41 = .ok (.aload_n 0, 1) := by decide +kernel
theorem dX4_reads_42 : decode cX4_reads 42 = .ok (.getfield 31, 3) := by decide +kernel
theorem dX4_reads_45 : decode cX4_reads 45 = .ok (.ifCond .ne 10, 3) := by decide +kernel
theorem dX4_reads_48 : decode cX4_reads 48 = .ok (.aload_n 0, 1) := by decide +kernel
theorem dX4_reads_49 : decode cX4_reads 49 = .ok (.getfield 28, 3) := by decide +kernel
theorem dX4_reads_52 : decode cX4_reads 52 = .ok (.ifCond .ne 10, 3) := by decide +kernel
theorem dX4_reads_55 : decode cX4_reads 55 = .ok (.aload_n 0, 1) := by decide +kernel
theorem dX4_reads_56 : decode cX4_reads 56 = .ok (.getfield 15, 3) := by decide +kernel
theorem dX4_reads_59 : decode cX4_reads 59 = .ok (.goto 4, 3) := by decide +kernel
theorem dX4_reads_62 : decode cX4_reads 62 = .ok (.iconst (-1), 1) := by decide +kernel
theorem dX4_reads_63 : decode cX4_reads 63 = .ok (.ireturn, 1) := by decide +kernel
theorem dX4_readsByte_0 : decode cX4_readsByte 0 = .ok (.iload_n 1, 1) := by decide +kernel
theorem dX4_readsByte_1 : decode cX4_readsByte 1 = .ok (.bipush 32, 2) := by decide +kernel
theorem dX4_readsByte_3 : decode cX4_readsByte 3 = .ok (.if_icmp .ne 10, 3) := by decide +kernel
theorem dX4_readsByte_6 : decode cX4_readsByte 6 = .ok (.aload_n 0, 1) := by decide +kernel
theorem dX4_readsByte_7 : decode cX4_readsByte 7 = .ok (.iconst 0, 1) := by decide +kernel
theorem dX4_readsByte_8 : decode cX4_readsByte 8 = .ok (.putfield 38, 3) := by decide +kernel
theorem dX4_readsByte_11 : decode cX4_readsByte 11 = .ok (.iconst 1, 1) := by decide +kernel
theorem dX4_readsByte_12 : decode cX4_readsByte 12 = .ok (.ireturn, 1) := by decide +kernel
theorem dX4_readsByte_13 : decode cX4_readsByte 13 = .ok (.aload_n 0, 1) := by decide +kernel
theorem dX4_readsByte_14 : decode cX4_readsByte 14 = .ok (.getfield 31, 3) := by decide +kernel
theorem dX4_readsByte_17 : decode cX4_readsByte 17 = .ok (.ifCond .ne 9, 3) := by decide +kernel
theorem dX4_readsByte_20 : decode cX4_readsByte 20 = .ok (.aload_n 0, 1) := by decide +kernel
theorem dX4_readsByte_21 : decode cX4_readsByte 21 = .ok (.iload_n 1, 1) := by decide +kernel
theorem dX4_readsByte_22 : decode cX4_readsByte 22 = .ok (.invokevirtual 45, 3) := by decide +kernel
theorem dX4_readsByte_25 : decode cX4_readsByte 25 = .ok (.ireturn, 1) := by decide +kernel
theorem dX4_readsByte_26 : decode cX4_readsByte 26 = .ok (.iload_n 1, 1) := by decide +kernel
theorem dX4_readsByte_27 : decode cX4_readsByte 27 = .ok (.bipush 59, 2) := by decide +kernel
theorem dX4_readsByte_29 : decode cX4_readsByte 29 = .ok (.if_icmp .ne 8, 3) := by decide +kernel
theorem dX4_readsByte_32 : decode cX4_readsByte 32 = .ok (.aload_n 0, 1) := by decide +kernel
theorem dX4_readsByte_33 : decode cX4_readsByte 33 = .ok (.invokevirtual 48, 3) := by decide +kernel
theorem dX4_readsByte_36 : decode cX4_readsByte 36 = .ok (.ireturn, 1) := by decide +kernel
theorem dX4_readsByte_37 : decode cX4_readsByte 37 = .ok (.iload_n 1, 1) := by decide +kernel
theorem dX4_readsByte_38 : decode cX4_readsByte 38 = .ok (.bipush 48, 2) := by decide +kernel
theorem dX4_readsByte_40 : decode cX4_readsByte 40 = .ok (.bipush 57, 2) := by decide +kernel
theorem dX4_readsByte_42 : decode cX4_readsByte 42 = .ok (.invokestatic 52, 3) := by decide +kernel
theorem dX4_readsByte_45 : decode cX4_readsByte 45 = .ok (.ifCond .eq 18, 3) := by decide +kernel
theorem dX4_readsByte_48 : decode cX4_readsByte 48 = .ok (.aload_n 0, 1) := by decide +kernel
theorem dX4_readsByte_49 : decode cX4_readsByte 49 = .ok (.iload_n 1, 1) := by decide +kernel
theorem dX4_readsByte_50 : decode cX4_readsByte 50 = .ok (.bipush 48, 2) := by decide +kernel
theorem dX4_readsByte_52 : decode cX4_readsByte 52 = .ok (.isub, 1) := by decide +kernel
theorem dX4_readsByte_53 : decode cX4_readsByte 53 = .ok (.invokevirtual 56, 3) := by decide +kernel
theorem dX4_readsByte_56 : decode cX4_readsByte 56 = .ok (.ifCond .eq 7, 3) := by decide +kernel
theorem dX4_readsByte_59 : decode cX4_readsByte 59 = .ok (.iconst 1, 1) := by decide +kernel
theorem dX4_readsByte_60 : decode cX4_readsByte 60 = .ok (.goto 4, 3) := by decide +kernel
theorem dX4_readsByte_63 : decode cX4_readsByte 63 = .ok (.iconst 0, 1) := by decide +kernel
theorem dX4_readsByte_64 : decode cX4_readsByte 64 = .ok (.ireturn, 1) := by decide +kernel
theorem dX4_opens_0 : decode cX4_opens 0 = .ok (.iload_n 1, 1) := by decide +kernel
theorem dX4_opens_1 : decode cX4_opens 1 = .ok (.invokestatic 59, 3) := by decide +kernel
theorem dX4_opens_4 : decode cX4_opens 4 = .ok (.iconst (-1), 1) := by decide +kernel
theorem dX4_opens_5 : decode cX4_opens 5 = .ok (.if_icmp .eq 15, 3) := by decide +kernel
theorem dX4_opens_8 : decode cX4_opens 8 = .ok (.aload_n 0, 1) := by decide +kernel
theorem dX4_opens_9 : decode cX4_opens 9 = .ok (.getfield 28, 3) := by decide +kernel
theorem dX4_opens_12 : decode cX4_opens 12 = .ok (.aload_n 0, 1) := by decide +kernel
theorem dX4_opens_13 : decode cX4_opens 13 = .ok (.getfield 19, 3) := by decide +kernel
theorem dX4_opens_16 : decode cX4_opens 16 = .ok (.arraylength, 1) := by decide +kernel
theorem dX4_opens_17 : decode cX4_opens 17 = .ok (.if_icmp .lt 5, 3) := by decide +kernel
theorem dX4_opens_20 : decode cX4_opens 20 = .ok (.iconst 0, 1) := by decide +kernel
theorem dX4_opens_21 : decode cX4_opens 21 = .ok (.ireturn, 1) := by decide +kernel
theorem dX4_opens_22 : decode cX4_opens 22 = .ok (.aload_n 0, 1) := by decide +kernel
theorem dX4_opens_23 : decode cX4_opens 23 = .ok (.getfield 19, 3) := by decide +kernel
theorem dX4_opens_26 : decode cX4_opens 26 = .ok (.aload_n 0, 1) := by decide +kernel
theorem dX4_opens_27 : decode cX4_opens 27 = .ok (.getfield 28, 3) := by decide +kernel
theorem dX4_opens_30 : decode cX4_opens 30 = .ok (.iload_n 1, 1) := by decide +kernel
theorem dX4_opens_31 : decode cX4_opens 31 = .ok (.iastore, 1) := by decide +kernel
theorem dX4_opens_32 : decode cX4_opens 32 = .ok (.aload_n 0, 1) := by decide +kernel
theorem dX4_opens_33 : decode cX4_opens 33 = .ok (.getfield 22, 3) := by decide +kernel
theorem dX4_opens_36 : decode cX4_opens 36 = .ok (.aload_n 0, 1) := by decide +kernel
theorem dX4_opens_37 : decode cX4_opens 37 = .ok (.getfield 28, 3) := by decide +kernel
theorem dX4_opens_40 : decode cX4_opens 40 = .ok (.iconst 0, 1) := by decide +kernel
theorem dX4_opens_41 : decode cX4_opens 41 = .ok (.iastore, 1) := by decide +kernel
theorem dX4_opens_42 : decode cX4_opens 42 = .ok (.aload_n 0, 1) := by decide +kernel
theorem dX4_opens_43 : decode cX4_opens 43 = .ok (.getfield 25, 3) := by decide +kernel
theorem dX4_opens_46 : decode cX4_opens 46 = .ok (.aload_n 0, 1) := by decide +kernel
theorem dX4_opens_47 : decode cX4_opens 47 = .ok (.getfield 28, 3) := by decide +kernel
theorem dX4_opens_50 : decode cX4_opens 50 = .ok (.iconst 0, 1) := by decide +kernel
theorem dX4_opens_51 : decode cX4_opens 51 = .ok (.iastore, 1) := by decide +kernel
theorem dX4_opens_52 : decode cX4_opens 52 = .ok (.aload_n 0, 1) := by decide +kernel
theorem dX4_opens_53 : decode cX4_opens 53 = .ok (.iconst 1, 1) := by decide +kernel
theorem dX4_opens_54 : decode cX4_opens 54 = .ok (.putfield 31, 3) := by decide +kernel
theorem dX4_opens_57 : decode cX4_opens 57 = .ok (.aload_n 0, 1) := by decide +kernel
theorem dX4_opens_58 : decode cX4_opens 58 = .ok (.iconst 0, 1) := by decide +kernel
theorem dX4_opens_59 : decode cX4_opens 59 = .ok (.putfield 35, 3) := by decide +kernel
theorem dX4_opens_62 : decode cX4_opens 62 = .ok (.aload_n 0, 1) := by decide +kernel
theorem dX4_opens_63 : decode cX4_opens 63 = .ok (.iconst 0, 1) := by decide +kernel
theorem dX4_opens_64 : decode cX4_opens 64 = .ok (.putfield 38, 3) := by decide +kernel
theorem dX4_opens_67 : decode cX4_opens 67 = .ok (.iconst 1, 1) := by decide +kernel
theorem dX4_opens_68 : decode cX4_opens 68 = .ok (.ireturn, 1) := by decide +kernel
theorem dX4_closes_0 : decode cX4_closes 0 = .ok (.aload_n 0, 1) := by decide +kernel
theorem dX4_closes_1 : decode cX4_closes 1 = .ok (.getfield 35, 3) := by decide +kernel
theorem dX4_closes_4 : decode cX4_closes 4 = .ok (.aload_n 0, 1) := by decide +kernel
theorem dX4_closes_5 : decode cX4_closes 5 = .ok (.getfield 19, 3) := by decide +kernel
theorem dX4_closes_8 : decode cX4_closes 8 = .ok (.aload_n 0, 1) := by decide +kernel
theorem dX4_closes_9 : decode cX4_closes 9 = .ok (.getfield 28, 3) := by decide +kernel
theorem dX4_closes_12 : decode cX4_closes 12 = .ok (.iaload, 1) := by decide +kernel
theorem dX4_closes_13 : decode cX4_closes 13 = .ok (.invokestatic 59, 3) := by decide +kernel
theorem dX4_closes_16 : decode cX4_closes 16 = .ok (.if_icmp .ge 5, 3) := by decide +kernel
theorem dX4_closes_19 : decode cX4_closes 19 = .ok (.iconst 0, 1) := by decide +kernel
theorem dX4_closes_20 : decode cX4_closes 20 = .ok (.ireturn, 1) := by decide +kernel
theorem dX4_closes_21 : decode cX4_closes 21 = .ok (.aload_n 0, 1) := by decide +kernel
theorem dX4_closes_22 : decode cX4_closes 22 = .ok (.iconst 0, 1) := by decide +kernel
theorem dX4_closes_23 : decode cX4_closes 23 = .ok (.putfield 31, 3) := by decide +kernel
theorem dX4_closes_26 : decode cX4_closes 26 = .ok (.aload_n 0, 1) := by decide +kernel
theorem dX4_closes_27 : decode cX4_closes 27 = .ok (.dup, 1) := by decide +kernel
theorem dX4_closes_28 : decode cX4_closes 28 = .ok (.getfield 28, 3) := by decide +kernel
theorem dX4_closes_31 : decode cX4_closes 31 = .ok (.iconst 1, 1) := by decide +kernel
theorem dX4_closes_32 : decode cX4_closes 32 = .ok (.iadd, 1) := by decide +kernel
theorem dX4_closes_33 : decode cX4_closes 33 = .ok (.putfield 28, 3) := by decide +kernel
theorem dX4_closes_36 : decode cX4_closes 36 = .ok (.iconst 1, 1) := by decide +kernel
theorem dX4_closes_37 : decode cX4_closes 37 = .ok (.ireturn, 1) := by decide +kernel
theorem dX4_readsFigure_0 : decode cX4_readsFigure 0 = .ok (.aload_n 0, 1) := by decide +kernel
theorem dX4_readsFigure_1 : decode cX4_readsFigure 1 = .ok (.getfield 38, 3) := by decide +kernel
theorem dX4_readsFigure_4 : decode cX4_readsFigure 4 = .ok (.ifCond .ne 7, 3) := by decide +kernel
theorem dX4_readsFigure_7 : decode cX4_readsFigure 7 = .ok (.iconst 1, 1) := by decide +kernel
theorem dX4_readsFigure_8 : decode cX4_readsFigure 8 = .ok (.goto 4, 3) := by decide +kernel
theorem dX4_readsFigure_11 : decode cX4_readsFigure 11 = .ok (.iconst 0, 1) := by decide +kernel
theorem dX4_readsFigure_12 : decode cX4_readsFigure 12 = .ok (.istore_n 2, 1) := by decide +kernel
theorem dX4_readsFigure_13 : decode cX4_readsFigure 13 = .ok (.iload_n 2, 1) := by decide +kernel
theorem dX4_readsFigure_14 : decode cX4_readsFigure 14 = .ok (.ifCond .eq 22, 3) := by decide +kernel
theorem dX4_readsFigure_17 : decode cX4_readsFigure 17 = .ok (.aload_n 0, 1) := by decide +kernel
theorem dX4_readsFigure_18 : decode cX4_readsFigure 18 = .ok (.getfield 35, 3) := by decide +kernel
theorem dX4_readsFigure_21 : decode cX4_readsFigure 21 = .ok (.aload_n 0, 1) := by decide +kernel
theorem dX4_readsFigure_22 : decode cX4_readsFigure 22 = .ok (.getfield 19, 3) := by decide +kernel
theorem dX4_readsFigure_25 : decode cX4_readsFigure 25 = .ok (.aload_n 0, 1) := by decide +kernel
theorem dX4_readsFigure_26 : decode cX4_readsFigure 26 = .ok (.getfield 28, 3) := by decide +kernel
theorem dX4_readsFigure_29 : decode cX4_readsFigure 29 = .ok (.iaload, 1) := by decide +kernel
theorem dX4_readsFigure_30 : decode cX4_readsFigure 30 = .ok (.invokestatic 59, 3) := by decide +kernel
theorem dX4_readsFigure_33 : decode cX4_readsFigure 33 = .ok (.if_icmp .ge 11, 3) := by decide +kernel
theorem dX4_readsFigure_36 : decode cX4_readsFigure 36 = .ok (.aload_n 0, 1) := by decide +kernel
theorem dX4_readsFigure_37 : decode cX4_readsFigure 37 = .ok (.getfield 38, 3) := by decide +kernel
theorem dX4_readsFigure_40 : decode cX4_readsFigure 40 = .ok (.iconst 3, 1) := by decide +kernel
theorem dX4_readsFigure_41 : decode cX4_readsFigure 41 = .ok (.if_icmp .lt 5, 3) := by decide +kernel
theorem dX4_readsFigure_44 : decode cX4_readsFigure 44 = .ok (.iconst 0, 1) := by decide +kernel
theorem dX4_readsFigure_45 : decode cX4_readsFigure 45 = .ok (.ireturn, 1) := by decide +kernel
theorem dX4_readsFigure_46 : decode cX4_readsFigure 46 = .ok (.aload_n 0, 1) := by decide +kernel
theorem dX4_readsFigure_47 : decode cX4_readsFigure 47 = .ok (.dup, 1) := by decide +kernel
theorem dX4_readsFigure_48 : decode cX4_readsFigure 48 = .ok (.getfield 35, 3) := by decide +kernel
theorem dX4_readsFigure_51 : decode cX4_readsFigure 51 = .ok (.iload_n 2, 1) := by decide +kernel
theorem dX4_readsFigure_52 : decode cX4_readsFigure 52 = .ok (.ifCond .eq 7, 3) := by decide +kernel
theorem dX4_readsFigure_55 : decode cX4_readsFigure 55 = .ok (.iconst 1, 1) := by decide +kernel
theorem dX4_readsFigure_56 : decode cX4_readsFigure 56 = .ok (.goto 4, 3) := by decide +kernel
theorem dX4_readsFigure_59 : decode cX4_readsFigure 59 = .ok (.iconst 0, 1) := by decide +kernel
theorem dX4_readsFigure_60 : decode cX4_readsFigure 60 = .ok (.iadd, 1) := by decide +kernel
theorem dX4_readsFigure_61 : decode cX4_readsFigure 61 = .ok (.putfield 35, 3) := by decide +kernel
theorem dX4_readsFigure_64 : decode cX4_readsFigure 64 = .ok (.aload_n 0, 1) := by decide +kernel
theorem dX4_readsFigure_65 : decode cX4_readsFigure 65 = .ok (.dup, 1) := by decide +kernel
theorem dX4_readsFigure_66 : decode cX4_readsFigure 66 = .ok (.getfield 38, 3) := by decide +kernel
theorem dX4_readsFigure_69 : decode cX4_readsFigure 69 = .ok (.iconst 1, 1) := by decide +kernel
theorem dX4_readsFigure_70 : decode cX4_readsFigure 70 = .ok (.iadd, 1) := by decide +kernel
theorem dX4_readsFigure_71 : decode cX4_readsFigure 71 = .ok (.putfield 38, 3) := by decide +kernel
theorem dX4_readsFigure_74 : decode cX4_readsFigure 74 = .ok (.aload_n 0, 1) := by decide +kernel
theorem dX4_readsFigure_75 : decode cX4_readsFigure 75 = .ok (.getfield 35, 3) := by decide +kernel
theorem dX4_readsFigure_78 : decode cX4_readsFigure 78 = .ok (.iconst 1, 1) := by decide +kernel
theorem dX4_readsFigure_79 : decode cX4_readsFigure 79 = .ok (.if_icmp .ne 29, 3) := by decide +kernel
theorem dX4_readsFigure_82 : decode cX4_readsFigure 82 = .ok (.aload_n 0, 1) := by decide +kernel
theorem dX4_readsFigure_83 : decode cX4_readsFigure 83 = .ok (.getfield 22, 3) := by decide +kernel
theorem dX4_readsFigure_86 : decode cX4_readsFigure 86 = .ok (.aload_n 0, 1) := by decide +kernel
theorem dX4_readsFigure_87 : decode cX4_readsFigure 87 = .ok (.getfield 28, 3) := by decide +kernel
theorem dX4_readsFigure_90 : decode cX4_readsFigure 90 = .ok (.bipush 10, 2) := by decide +kernel
theorem dX4_readsFigure_92 : decode cX4_readsFigure 92 = .ok (.aload_n 0, 1) := by decide +kernel
theorem dX4_readsFigure_93 : decode cX4_readsFigure 93 = .ok (.getfield 22, 3) := by decide +kernel
theorem dX4_readsFigure_96 : decode cX4_readsFigure 96 = .ok (.aload_n 0, 1) := by decide +kernel
theorem dX4_readsFigure_97 : decode cX4_readsFigure 97 = .ok (.getfield 28, 3) := by decide +kernel
theorem dX4_readsFigure_100 : decode cX4_readsFigure 100 = .ok (.iaload, 1) := by decide +kernel
theorem dX4_readsFigure_101 : decode cX4_readsFigure 101 = .ok (.imul, 1) := by decide +kernel
theorem dX4_readsFigure_102 : decode cX4_readsFigure 102 = .ok (.iload_n 1, 1) := by decide +kernel
theorem dX4_readsFigure_103 : decode cX4_readsFigure 103 = .ok (.iadd, 1) := by decide +kernel
theorem dX4_readsFigure_104 : decode cX4_readsFigure 104 = .ok (.iastore, 1) := by decide +kernel
theorem dX4_readsFigure_105 : decode cX4_readsFigure 105 = .ok (.goto 26, 3) := by decide +kernel
theorem dX4_readsFigure_108 : decode cX4_readsFigure 108 = .ok (.aload_n 0, 1) := by decide +kernel
theorem dX4_readsFigure_109 : decode cX4_readsFigure 109 = .ok (.getfield 25, 3) := by decide +kernel
theorem dX4_readsFigure_112 : decode cX4_readsFigure 112 = .ok (.aload_n 0, 1) := by decide +kernel
theorem dX4_readsFigure_113 : decode cX4_readsFigure 113 = .ok (.getfield 28, 3) := by decide +kernel
theorem dX4_readsFigure_116 : decode cX4_readsFigure 116 = .ok (.bipush 10, 2) := by decide +kernel
theorem dX4_readsFigure_118 : decode cX4_readsFigure 118 = .ok (.aload_n 0, 1) := by decide +kernel
theorem dX4_readsFigure_119 : decode cX4_readsFigure 119 = .ok (.getfield 25, 3) := by decide +kernel
theorem dX4_readsFigure_122 : decode cX4_readsFigure 122 = .ok (.aload_n 0, 1) := by decide +kernel
theorem dX4_readsFigure_123 : decode cX4_readsFigure 123 = .ok (.getfield 28, 3) := by decide +kernel
theorem dX4_readsFigure_126 : decode cX4_readsFigure 126 = .ok (.iaload, 1) := by decide +kernel
theorem dX4_readsFigure_127 : decode cX4_readsFigure 127 = .ok (.imul, 1) := by decide +kernel
theorem dX4_readsFigure_128 : decode cX4_readsFigure 128 = .ok (.iload_n 1, 1) := by decide +kernel
theorem dX4_readsFigure_129 : decode cX4_readsFigure 129 = .ok (.iadd, 1) := by decide +kernel
theorem dX4_readsFigure_130 : decode cX4_readsFigure 130 = .ok (.iastore, 1) := by decide +kernel
theorem dX4_readsFigure_131 : decode cX4_readsFigure 131 = .ok (.iconst 1, 1) := by decide +kernel
theorem dX4_readsFigure_132 : decode cX4_readsFigure 132 = .ok (.ireturn, 1) := by decide +kernel
theorem dX4_numbersOf_0 : decode cX4_numbersOf 0 = .ok (.iload_n 0, 1) := by decide +kernel
theorem dX4_numbersOf_1 : decode cX4_numbersOf 1 = .ok (.tableswitch 105 102 122 #[101, 105, 105, 105, 105, 105, 101, 105, 101, 99, 99, 101, 105, 105, 103, 105, 105, 105, 105, 105, 103], 99) := by decide +kernel
theorem dX4_numbersOf_100 : decode cX4_numbersOf 100 = .ok (.iconst 0, 1) := by decide +kernel
theorem dX4_numbersOf_101 : decode cX4_numbersOf 101 = .ok (.ireturn, 1) := by decide +kernel
theorem dX4_numbersOf_102 : decode cX4_numbersOf 102 = .ok (.iconst 1, 1) := by decide +kernel
theorem dX4_numbersOf_103 : decode cX4_numbersOf 103 = .ok (.ireturn, 1) := by decide +kernel
theorem dX4_numbersOf_104 : decode cX4_numbersOf 104 = .ok (.iconst 2, 1) := by decide +kernel
theorem dX4_numbersOf_105 : decode cX4_numbersOf 105 = .ok (.ireturn, 1) := by decide +kernel
theorem dX4_numbersOf_106 : decode cX4_numbersOf 106 = .ok (.iconst (-1), 1) := by decide +kernel
theorem dX4_numbersOf_107 : decode cX4_numbersOf 107 = .ok (.ireturn, 1) := by decide +kernel
theorem dX5_init_0 : decode cX5_init 0 = .ok (.aload_n 0, 1) := by decide +kernel
theorem dX5_init_1 : decode cX5_init 1 = .ok (.invokespecial 3, 3) := by decide +kernel
theorem dX5_init_4 : decode cX5_init 4 = .ok (.aload_n 0, 1) := by decide +kernel
theorem dX5_init_5 : decode cX5_init 5 = .ok (.new 9, 3) := by decide +kernel
theorem dX5_init_8 : decode cX5_init 8 = .ok (.dup, 1) := by decide +kernel
theorem dX5_init_9 : decode cX5_init 9 = .ok (.invokespecial 11, 3) := by decide +kernel
theorem dX5_init_12 : decode cX5_init 12 = .ok (.putfield 12, 3) := by decide +kernel
theorem dX5_init_15 : decode cX5_init 15 = .ok (.aload_n 0, 1) := by decide +kernel
theorem dX5_init_16 : decode cX5_init 16 = .ok (.new 16, 3) := by decide +kernel
theorem dX5_init_19 : decode cX5_init 19 = .ok (.dup, 1) := by decide +kernel
theorem dX5_init_20 : decode cX5_init 20 = .ok (.invokespecial 18, 3) := by decide +kernel
theorem dX5_init_23 : decode cX5_init 23 = .ok (.putfield 19, 3) := by decide +kernel
theorem dX5_init_26 : decode cX5_init 26 = .ok (.aload_n 0, 1) := by decide +kernel
theorem dX5_init_27 : decode cX5_init 27 = .ok (.new 23, 3) := by decide +kernel
theorem dX5_init_30 : decode cX5_init 30 = .ok (.dup, 1) := by decide +kernel
theorem dX5_init_31 : decode cX5_init 31 = .ok (.invokespecial 25, 3) := by decide +kernel
theorem dX5_init_34 : decode cX5_init 34 = .ok (.putfield 26, 3) := by decide +kernel
theorem dX5_init_37 : decode cX5_init 37 = .ok (.aload_n 0, 1) := by decide +kernel
theorem dX5_init_38 : decode cX5_init 38 = .ok (.new 30, 3) := by decide +kernel
theorem dX5_init_41 : decode cX5_init 41 = .ok (.dup, 1) := by decide +kernel
theorem dX5_init_42 : decode cX5_init 42 = .ok (.invokespecial 32, 3) := by decide +kernel
theorem dX5_init_45 : decode cX5_init 45 = .ok (.putfield 33, 3) := by decide +kernel
theorem dX5_init_48 : decode cX5_init 48 = .ok (.aload_n 0, 1) := by decide +kernel
theorem dX5_init_49 : decode cX5_init 49 = .ok (.iconst 3, 1) := by decide +kernel
theorem dX5_init_50 : decode cX5_init 50 = .ok (.newarray .int, 2) := by decide +kernel
theorem dX5_init_52 : decode cX5_init 52 = .ok (.putfield 37, 3) := by decide +kernel
theorem dX5_init_55 : decode cX5_init 55 = .ok (.aload_n 0, 1) := by decide +kernel
theorem dX5_init_56 : decode cX5_init 56 = .ok (.bipush 12, 2) := by decide +kernel
theorem dX5_init_58 : decode cX5_init 58 = .ok (.newarray .int, 2) := by decide +kernel
theorem dX5_init_60 : decode cX5_init 60 = .ok (.putfield 41, 3) := by decide +kernel
theorem dX5_init_63 : decode cX5_init 63 = .ok (.return_, 1) := by decide +kernel
theorem dX5_quarter_0 : decode cX5_quarter 0 = .ok (.aload_n 0, 1) := by decide +kernel
theorem dX5_quarter_1 : decode cX5_quarter 1 = .ok (.getfield 26, 3) := by decide +kernel
theorem dX5_quarter_4 : decode cX5_quarter 4 = .ok (.aload_n 0, 1) := by decide +kernel
theorem dX5_quarter_5 : decode cX5_quarter 5 = .ok (.getfield 12, 3) := by decide +kernel
theorem dX5_quarter_8 : decode cX5_quarter 8 = .ok (.invokevirtual 44, 3) := by decide +kernel
theorem dX5_quarter_11 : decode cX5_quarter 11 = .ok (.aload_n 0, 1) := by decide +kernel
theorem dX5_quarter_12 : decode cX5_quarter 12 = .ok (.aload_n 0, 1) := by decide +kernel
theorem dX5_quarter_13 : decode cX5_quarter 13 = .ok (.getfield 12, 3) := by decide +kernel
theorem dX5_quarter_16 : decode cX5_quarter 16 = .ok (.iload_n 1, 1) := by decide +kernel
theorem dX5_quarter_17 : decode cX5_quarter 17 = .ok (.invokevirtual 48, 3) := by decide +kernel
theorem dX5_quarter_20 : decode cX5_quarter 20 = .ok (.invokevirtual 52, 3) := by decide +kernel
theorem dX5_quarter_23 : decode cX5_quarter 23 = .ok (.ireturn, 1) := by decide +kernel
theorem dX5_indicates_0 : decode cX5_indicates 0 = .ok (.aload_n 0, 1) := by decide +kernel
theorem dX5_indicates_1 : decode cX5_indicates 1 = .ok (.getfield 26, 3) := by decide +kernel
theorem dX5_indicates_4 : decode cX5_indicates 4 = .ok (.aload_n 0, 1) := by decide +kernel
theorem dX5_indicates_5 : decode cX5_indicates 5 = .ok (.getfield 12, 3) := by decide +kernel
theorem dX5_indicates_8 : decode cX5_indicates 8 = .ok (.invokevirtual 44, 3) := by decide +kernel
theorem dX5_indicates_11 : decode cX5_indicates 11 = .ok (.aload_n 0, 1) := by decide +kernel
theorem dX5_indicates_12 : decode cX5_indicates 12 = .ok (.aload_n 0, 1) := by decide +kernel
theorem dX5_indicates_13 : decode cX5_indicates 13 = .ok (.getfield 12, 3) := by decide +kernel
theorem dX5_indicates_16 : decode cX5_indicates 16 = .ok (.iload_n 1, 1) := by decide +kernel
theorem dX5_indicates_17 : decode cX5_indicates 17 = .ok (.iload_n 2, 1) := by decide +kernel
theorem dX5_indicates_18 : decode cX5_indicates 18 = .ok (.invokevirtual 55, 3) := by decide +kernel
theorem dX5_indicates_21 : decode cX5_indicates 21 = .ok (.invokevirtual 52, 3) := by decide +kernel
theorem dX5_indicates_24 : decode cX5_indicates 24 = .ok (.ireturn, 1) := by decide +kernel
theorem dX5_total_0 : decode cX5_total 0 = .ok (.aload_n 0, 1) := by decide +kernel
theorem dX5_total_1 : decode cX5_total 1 = .ok (.getfield 26, 3) := by decide +kernel
theorem dX5_total_4 : decode cX5_total 4 = .ok (.aload_n 0, 1) := by decide +kernel
theorem dX5_total_5 : decode cX5_total 5 = .ok (.getfield 12, 3) := by decide +kernel
theorem dX5_total_8 : decode cX5_total 8 = .ok (.invokevirtual 44, 3) := by decide +kernel
theorem dX5_total_11 : decode cX5_total 11 = .ok (.aload_n 0, 1) := by decide +kernel
theorem dX5_total_12 : decode cX5_total 12 = .ok (.aload_n 0, 1) := by decide +kernel
theorem dX5_total_13 : decode cX5_total 13 = .ok (.getfield 12, 3) := by decide +kernel
theorem dX5_total_16 : decode cX5_total 16 = .ok (.iload_n 1, 1) := by decide +kernel
theorem dX5_total_17 : decode cX5_total 17 = .ok (.iload_n 2, 1) := by decide +kernel
theorem dX5_total_18 : decode cX5_total 18 = .ok (.invokevirtual 59, 3) := by decide +kernel
theorem dX5_total_21 : decode cX5_total 21 = .ok (.invokevirtual 52, 3) := by decide +kernel
theorem dX5_total_24 : decode cX5_total 24 = .ok (.ireturn, 1) := by decide +kernel
theorem dX5_untold_0 : decode cX5_untold 0 = .ok (.aload_n 0, 1) := by decide +kernel
theorem dX5_untold_1 : decode cX5_untold 1 = .ok (.getfield 26, 3) := by decide +kernel
theorem dX5_untold_4 : decode cX5_untold 4 = .ok (.aload_n 0, 1) := by decide +kernel
theorem dX5_untold_5 : decode cX5_untold 5 = .ok (.getfield 12, 3) := by decide +kernel
theorem dX5_untold_8 : decode cX5_untold 8 = .ok (.invokevirtual 44, 3) := by decide +kernel
theorem dX5_untold_11 : decode cX5_untold 11 = .ok (.aload_n 0, 1) := by decide +kernel
theorem dX5_untold_12 : decode cX5_untold 12 = .ok (.aload_n 0, 1) := by decide +kernel
theorem dX5_untold_13 : decode cX5_untold 13 = .ok (.getfield 12, 3) := by decide +kernel
theorem dX5_untold_16 : decode cX5_untold 16 = .ok (.iload_n 1, 1) := by decide +kernel
theorem dX5_untold_17 : decode cX5_untold 17 = .ok (.invokevirtual 62, 3) := by decide +kernel
theorem dX5_untold_20 : decode cX5_untold 20 = .ok (.invokevirtual 52, 3) := by decide +kernel
theorem dX5_untold_23 : decode cX5_untold 23 = .ok (.ireturn, 1) := by decide +kernel
theorem dX5_freezes_0 : decode cX5_freezes 0 = .ok (.aload_n 0, 1) := by decide +kernel
theorem dX5_freezes_1 : decode cX5_freezes 1 = .ok (.getfield 26, 3) := by decide +kernel
theorem dX5_freezes_4 : decode cX5_freezes 4 = .ok (.aload_n 0, 1) := by decide +kernel
theorem dX5_freezes_5 : decode cX5_freezes 5 = .ok (.getfield 12, 3) := by decide +kernel
theorem dX5_freezes_8 : decode cX5_freezes 8 = .ok (.invokevirtual 44, 3) := by decide +kernel
theorem dX5_freezes_11 : decode cX5_freezes 11 = .ok (.aload_n 0, 1) := by decide +kernel
theorem dX5_freezes_12 : decode cX5_freezes 12 = .ok (.aload_n 0, 1) := by decide +kernel
theorem dX5_freezes_13 : decode cX5_freezes 13 = .ok (.getfield 12, 3) := by decide +kernel
theorem dX5_freezes_16 : decode cX5_freezes 16 = .ok (.iload_n 1, 1) := by decide +kernel
theorem dX5_freezes_17 : decode cX5_freezes 17 = .ok (.iload_n 2, 1) := by decide +kernel
theorem dX5_freezes_18 : decode cX5_freezes 18 = .ok (.invokevirtual 65, 3) := by decide +kernel
theorem dX5_freezes_21 : decode cX5_freezes 21 = .ok (.invokevirtual 52, 3) := by decide +kernel
theorem dX5_freezes_24 : decode cX5_freezes 24 = .ok (.ireturn, 1) := by decide +kernel
theorem dX5_limits_0 : decode cX5_limits 0 = .ok (.aload_n 0, 1) := by decide +kernel
theorem dX5_limits_1 : decode cX5_limits 1 = .ok (.getfield 26, 3) := by decide +kernel
theorem dX5_limits_4 : decode cX5_limits 4 = .ok (.aload_n 0, 1) := by decide +kernel
theorem dX5_limits_5 : decode cX5_limits 5 = .ok (.getfield 12, 3) := by decide +kernel
theorem dX5_limits_8 : decode cX5_limits 8 = .ok (.invokevirtual 44, 3) := by decide +kernel
theorem dX5_limits_11 : decode cX5_limits 11 = .ok (.aload_n 0, 1) := by decide +kernel
theorem dX5_limits_12 : decode cX5_limits 12 = .ok (.aload_n 0, 1) := by decide +kernel
theorem dX5_limits_13 : decode cX5_limits 13 = .ok (.getfield 12, 3) := by decide +kernel
theorem dX5_limits_16 : decode cX5_limits 16 = .ok (.iload_n 1, 1) := by decide +kernel
theorem dX5_limits_17 : decode cX5_limits 17 = .ok (.invokevirtual 68, 3) := by decide +kernel
theorem dX5_limits_20 : decode cX5_limits 20 = .ok (.invokevirtual 52, 3) := by decide +kernel
theorem dX5_limits_23 : decode cX5_limits 23 = .ok (.ireturn, 1) := by decide +kernel
theorem dX5_form_0 : decode cX5_form 0 = .ok (.aload_n 0, 1) := by decide +kernel
theorem dX5_form_1 : decode cX5_form 1 = .ok (.getfield 26, 3) := by decide +kernel
theorem dX5_form_4 : decode cX5_form 4 = .ok (.aload_n 0, 1) := by decide +kernel
theorem dX5_form_5 : decode cX5_form 5 = .ok (.getfield 12, 3) := by decide +kernel
theorem dX5_form_8 : decode cX5_form 8 = .ok (.invokevirtual 44, 3) := by decide +kernel
theorem dX5_form_11 : decode cX5_form 11 = .ok (.aload_n 0, 1) := by decide +kernel
theorem dX5_form_12 : decode cX5_form 12 = .ok (.aload_n 0, 1) := by decide +kernel
theorem dX5_form_13 : decode cX5_form 13 = .ok (.getfield 12, 3) := by decide +kernel
theorem dX5_form_16 : decode cX5_form 16 = .ok (.iload_n 1, 1) := by decide +kernel
theorem dX5_form_17 : decode cX5_form 17 = .ok (.invokevirtual 71, 3) := by decide +kernel
theorem dX5_form_20 : decode cX5_form 20 = .ok (.invokevirtual 52, 3) := by decide +kernel
theorem dX5_form_23 : decode cX5_form 23 = .ok (.ireturn, 1) := by decide +kernel
theorem dX5_publishes_0 : decode cX5_publishes 0 = .ok (.aload_n 0, 1) := by decide +kernel
theorem dX5_publishes_1 : decode cX5_publishes 1 = .ok (.getfield 26, 3) := by decide +kernel
theorem dX5_publishes_4 : decode cX5_publishes 4 = .ok (.aload_n 0, 1) := by decide +kernel
theorem dX5_publishes_5 : decode cX5_publishes 5 = .ok (.getfield 12, 3) := by decide +kernel
theorem dX5_publishes_8 : decode cX5_publishes 8 = .ok (.invokevirtual 44, 3) := by decide +kernel
theorem dX5_publishes_11 : decode cX5_publishes 11 = .ok (.aload_n 0, 1) := by decide +kernel
theorem dX5_publishes_12 : decode cX5_publishes 12 = .ok (.aload_n 0, 1) := by decide +kernel
theorem dX5_publishes_13 : decode cX5_publishes 13 = .ok (.invokevirtual 74, 3) := by decide +kernel
theorem dX5_publishes_16 : decode cX5_publishes 16 = .ok (.invokevirtual 52, 3) := by decide +kernel
theorem dX5_publishes_19 : decode cX5_publishes 19 = .ok (.ireturn, 1) := by decide +kernel
theorem dX5_recalls_0 : decode cX5_recalls 0 = .ok (.aload_n 0, 1) := by decide +kernel
theorem dX5_recalls_1 : decode cX5_recalls 1 = .ok (.getfield 26, 3) := by decide +kernel
theorem dX5_recalls_4 : decode cX5_recalls 4 = .ok (.aload_n 0, 1) := by decide +kernel
theorem dX5_recalls_5 : decode cX5_recalls 5 = .ok (.getfield 12, 3) := by decide +kernel
theorem dX5_recalls_8 : decode cX5_recalls 8 = .ok (.invokevirtual 44, 3) := by decide +kernel
theorem dX5_recalls_11 : decode cX5_recalls 11 = .ok (.aload_n 0, 1) := by decide +kernel
theorem dX5_recalls_12 : decode cX5_recalls 12 = .ok (.aload_n 0, 1) := by decide +kernel
theorem dX5_recalls_13 : decode cX5_recalls 13 = .ok (.getfield 12, 3) := by decide +kernel
theorem dX5_recalls_16 : decode cX5_recalls 16 = .ok (.invokevirtual 78, 3) := by decide +kernel
theorem dX5_recalls_19 : decode cX5_recalls 19 = .ok (.invokevirtual 52, 3) := by decide +kernel
theorem dX5_recalls_22 : decode cX5_recalls 22 = .ok (.ireturn, 1) := by decide +kernel
theorem dX5_of_0 : decode cX5_of 0 = .ok (.aload_n 0, 1) := by decide +kernel
theorem dX5_of_1 : decode cX5_of 1 = .ok (.getfield 12, 3) := by decide +kernel
theorem dX5_of_4 : decode cX5_of 4 = .ok (.iload_n 1, 1) := by decide +kernel
theorem dX5_of_5 : decode cX5_of 5 = .ok (.invokevirtual 81, 3) := by decide +kernel
theorem dX5_of_8 : decode cX5_of 8 = .ok (.ifCond .eq 12, 3) := by decide +kernel
theorem dX5_of_11 : decode cX5_of 11 = .ok (.iload_n 2, 1) := by decide +kernel
theorem dX5_of_12 : decode cX5_of 12 = .ok (.iconst 0, 1) := by decide +kernel
theorem dX5_of_13 : decode cX5_of 13 = .ok (.iconst 3, 1) := by decide +kernel
theorem dX5_of_14 : decode cX5_of 14 = .ok (.invokestatic 85, 3) := by decide +kernel
theorem dX5_of_17 : decode cX5_of 17 = .ok (.ifCond .ne 10, 3) := by decide +kernel
theorem dX5_of_20 : decode cX5_of 20 = .ok (.aload_n 0, 1) := by decide +kernel
theorem dX5_of_21 : decode cX5_of 21 = .ok (.bipush (-2), 2) := by decide +kernel
theorem dX5_of_23 : decode cX5_of 23 = .ok (.invokevirtual 89, 3) := by decide +kernel
theorem dX5_of_26 : decode cX5_of 26 = .ok (.ireturn, 1) := by decide +kernel
theorem dX5_of_27 : decode cX5_of 27 = .ok (.aload_n 0, 1) := by decide +kernel
theorem dX5_of_28 : decode cX5_of 28 = .ok (.getfield 12, 3) := by decide +kernel
theorem dX5_of_31 : decode cX5_of 31 = .ok (.iload_n 1, 1) := by decide +kernel
theorem dX5_of_32 : decode cX5_of 32 = .ok (.iload_n 2, 1) := by decide +kernel
theorem dX5_of_33 : decode cX5_of 33 = .ok (.invokevirtual 92, 3) := by decide +kernel
theorem dX5_of_36 : decode cX5_of 36 = .ok (.ireturn, 1) := by decide +kernel
theorem dX5_year_0 : decode cX5_year 0 = .ok (.iload_n 1, 1) := by decide +kernel
theorem dX5_year_1 : decode cX5_year 1 = .ok (.invokestatic 95, 3) := by decide +kernel
theorem dX5_year_4 : decode cX5_year 4 = .ok (.ifCond .eq 12, 3) := by decide +kernel
theorem dX5_year_7 : decode cX5_year 7 = .ok (.iload_n 2, 1) := by decide +kernel
theorem dX5_year_8 : decode cX5_year 8 = .ok (.iconst 0, 1) := by decide +kernel
theorem dX5_year_9 : decode cX5_year 9 = .ok (.iconst 2, 1) := by decide +kernel
theorem dX5_year_10 : decode cX5_year 10 = .ok (.invokestatic 85, 3) := by decide +kernel
theorem dX5_year_13 : decode cX5_year 13 = .ok (.ifCond .ne 10, 3) := by decide +kernel
theorem dX5_year_16 : decode cX5_year 16 = .ok (.aload_n 0, 1) := by decide +kernel
theorem dX5_year_17 : decode cX5_year 17 = .ok (.bipush (-2), 2) := by decide +kernel
theorem dX5_year_19 : decode cX5_year 19 = .ok (.invokevirtual 89, 3) := by decide +kernel
theorem dX5_year_22 : decode cX5_year 22 = .ok (.ireturn, 1) := by decide +kernel
theorem dX5_year_23 : decode cX5_year 23 = .ok (.aload_n 0, 1) := by decide +kernel
theorem dX5_year_24 : decode cX5_year 24 = .ok (.getfield 12, 3) := by decide +kernel
theorem dX5_year_27 : decode cX5_year 27 = .ok (.iload_n 1, 1) := by decide +kernel
theorem dX5_year_28 : decode cX5_year 28 = .ok (.iload_n 2, 1) := by decide +kernel
theorem dX5_year_29 : decode cX5_year 29 = .ok (.invokevirtual 98, 3) := by decide +kernel
theorem dX5_year_32 : decode cX5_year 32 = .ok (.ireturn, 1) := by decide +kernel
theorem dX5_count_0 : decode cX5_count 0 = .ok (.iload_n 1, 1) := by decide +kernel
theorem dX5_count_1 : decode cX5_count 1 = .ok (.iconst 0, 1) := by decide +kernel
theorem dX5_count_2 : decode cX5_count 2 = .ok (.iconst 5, 1) := by decide +kernel
theorem dX5_count_3 : decode cX5_count 3 = .ok (.invokestatic 85, 3) := by decide +kernel
theorem dX5_count_6 : decode cX5_count 6 = .ok (.ifCond .ne 10, 3) := by decide +kernel
theorem dX5_count_9 : decode cX5_count 9 = .ok (.aload_n 0, 1) := by decide +kernel
theorem dX5_count_10 : decode cX5_count 10 = .ok (.bipush (-2), 2) := by decide +kernel
theorem dX5_count_12 : decode cX5_count 12 = .ok (.invokevirtual 89, 3) := by decide +kernel
theorem dX5_count_15 : decode cX5_count 15 = .ok (.ireturn, 1) := by decide +kernel
theorem dX5_count_16 : decode cX5_count 16 = .ok (.aload_n 0, 1) := by decide +kernel
theorem dX5_count_17 : decode cX5_count 17 = .ok (.getfield 12, 3) := by decide +kernel
theorem dX5_count_20 : decode cX5_count 20 = .ok (.iload_n 1, 1) := by decide +kernel
theorem dX5_count_21 : decode cX5_count 21 = .ok (.invokevirtual 101, 3) := by decide +kernel
theorem dX5_count_24 : decode cX5_count 24 = .ok (.ireturn, 1) := by decide +kernel
theorem dX5_bent_0 : decode cX5_bent 0 = .ok (.aload_n 0, 1) := by decide +kernel
theorem dX5_bent_1 : decode cX5_bent 1 = .ok (.getfield 12, 3) := by decide +kernel
theorem dX5_bent_4 : decode cX5_bent 4 = .ok (.iload_n 1, 1) := by decide +kernel
theorem dX5_bent_5 : decode cX5_bent 5 = .ok (.invokevirtual 81, 3) := by decide +kernel
theorem dX5_bent_8 : decode cX5_bent 8 = .ok (.ifCond .ne 10, 3) := by decide +kernel
theorem dX5_bent_11 : decode cX5_bent 11 = .ok (.aload_n 0, 1) := by decide +kernel
theorem dX5_bent_12 : decode cX5_bent 12 = .ok (.bipush (-2), 2) := by decide +kernel
theorem dX5_bent_14 : decode cX5_bent 14 = .ok (.invokevirtual 89, 3) := by decide +kernel
theorem dX5_bent_17 : decode cX5_bent 17 = .ok (.ireturn, 1) := by decide +kernel
theorem dX5_bent_18 : decode cX5_bent 18 = .ok (.aload_n 0, 1) := by decide +kernel
theorem dX5_bent_19 : decode cX5_bent 19 = .ok (.getfield 19, 3) := by decide +kernel
theorem dX5_bent_22 : decode cX5_bent 22 = .ok (.aload_n 0, 1) := by decide +kernel
theorem dX5_bent_23 : decode cX5_bent 23 = .ok (.getfield 12, 3) := by decide +kernel
theorem dX5_bent_26 : decode cX5_bent 26 = .ok (.invokevirtual 104, 3) := by decide +kernel
theorem dX5_bent_29 : decode cX5_bent 29 = .ok (.ifCond .ne 10, 3) := by decide +kernel
theorem dX5_bent_32 : decode cX5_bent 32 = .ok (.aload_n 0, 1) := by decide +kernel
theorem dX5_bent_33 : decode cX5_bent 33 = .ok (.bipush (-3), 2) := by decide +kernel
theorem dX5_bent_35 : decode cX5_bent 35 = .ok (.invokevirtual 89, 3) := by decide +kernel
theorem dX5_bent_38 : decode cX5_bent 38 = .ok (.ireturn, 1) := by decide +kernel
theorem dX5_bent_39 : decode cX5_bent 39 = .ok (.aload_n 0, 1) := by decide +kernel
theorem dX5_bent_40 : decode cX5_bent 40 = .ok (.getfield 19, 3) := by decide +kernel
theorem dX5_bent_43 : decode cX5_bent 43 = .ok (.getfield 108, 3) := by decide +kernel
theorem dX5_bent_46 : decode cX5_bent 46 = .ok (.iload_n 1, 1) := by decide +kernel
theorem dX5_bent_47 : decode cX5_bent 47 = .ok (.iaload, 1) := by decide +kernel
theorem dX5_bent_48 : decode cX5_bent 48 = .ok (.bipush 8, 2) := by decide +kernel
theorem dX5_bent_50 : decode cX5_bent 50 = .ok (.iadd, 1) := by decide +kernel
theorem dX5_bent_51 : decode cX5_bent 51 = .ok (.ireturn, 1) := by decide +kernel
theorem dX5_moved_0 : decode cX5_moved 0 = .ok (.iload_n 1, 1) := by decide +kernel
theorem dX5_moved_1 : decode cX5_moved 1 = .ok (.invokestatic 111, 3) := by decide +kernel
theorem dX5_moved_4 : decode cX5_moved 4 = .ok (.ifCond .ne 11, 3) := by decide +kernel
theorem dX5_moved_7 : decode cX5_moved 7 = .ok (.aload_n 0, 1) := by decide +kernel
theorem dX5_moved_8 : decode cX5_moved 8 = .ok (.bipush (-2), 2) := by decide +kernel
theorem dX5_moved_10 : decode cX5_moved 10 = .ok (.invokevirtual 89, 3) := by decide +kernel
theorem dX5_moved_13 : decode cX5_moved 13 = .ok (.i2l, 1) := by decide +kernel
theorem dX5_moved_14 : decode cX5_moved 14 = .ok (.lreturn, 1) := by decide +kernel
theorem dX5_moved_15 : decode cX5_moved 15 = .ok (.aload_n 0, 1) := by decide +kernel
theorem dX5_moved_16 : decode cX5_moved 16 = .ok (.getfield 19, 3) := by decide +kernel
theorem dX5_moved_19 : decode cX5_moved 19 = .ok (.aload_n 0, 1) := by decide +kernel
theorem dX5_moved_20 : decode cX5_moved 20 = .ok (.getfield 12, 3) := by decide +kernel
theorem dX5_moved_23 : decode cX5_moved 23 = .ok (.invokevirtual 104, 3) := by decide +kernel
theorem dX5_moved_26 : decode cX5_moved 26 = .ok (.ifCond .ne 11, 3) := by decide +kernel
theorem dX5_moved_29 : decode cX5_moved 29 = .ok (.aload_n 0, 1) := by decide +kernel
theorem dX5_moved_30 : decode cX5_moved 30 = .ok (.bipush (-3), 2) := by decide +kernel
theorem dX5_moved_32 : decode cX5_moved 32 = .ok (.invokevirtual 89, 3) := by decide +kernel
theorem dX5_moved_35 : decode cX5_moved 35 = .ok (.i2l, 1) := by decide +kernel
theorem dX5_moved_36 : decode cX5_moved 36 = .ok (.lreturn, 1) := by decide +kernel
theorem dX5_moved_37 : decode cX5_moved 37 = .ok (.aload_n 0, 1) := by decide +kernel
theorem dX5_moved_38 : decode cX5_moved 38 = .ok (.getfield 12, 3) := by decide +kernel
theorem dX5_moved_41 : decode cX5_moved 41 = .ok (.aload_n 0, 1) := by decide +kernel
theorem dX5_moved_42 : decode cX5_moved 42 = .ok (.getfield 19, 3) := by decide +kernel
theorem dX5_moved_45 : decode cX5_moved 45 = .ok (.getfield 108, 3) := by decide +kernel
theorem dX5_moved_48 : decode cX5_moved 48 = .ok (.iload_n 1, 1) := by decide +kernel
theorem dX5_moved_49 : decode cX5_moved 49 = .ok (.invokevirtual 114, 3) := by decide +kernel
theorem dX5_moved_52 : decode cX5_moved 52 = .ok (.lreturn, 1) := by decide +kernel
theorem dX5_revised_0 : decode cX5_revised 0 = .ok (.aload_n 0, 1) := by decide +kernel
theorem dX5_revised_1 : decode cX5_revised 1 = .ok (.getfield 12, 3) := by decide +kernel
theorem dX5_revised_4 : decode cX5_revised 4 = .ok (.iload_n 1, 1) := by decide +kernel
theorem dX5_revised_5 : decode cX5_revised 5 = .ok (.invokevirtual 81, 3) := by decide +kernel
theorem dX5_revised_8 : decode cX5_revised 8 = .ok (.ifCond .ne 10, 3) := by decide +kernel
theorem dX5_revised_11 : decode cX5_revised 11 = .ok (.aload_n 0, 1) := by decide +kernel
theorem dX5_revised_12 : decode cX5_revised 12 = .ok (.bipush (-2), 2) := by decide +kernel
theorem dX5_revised_14 : decode cX5_revised 14 = .ok (.invokevirtual 89, 3) := by decide +kernel
theorem dX5_revised_17 : decode cX5_revised 17 = .ok (.ireturn, 1) := by decide +kernel
theorem dX5_revised_18 : decode cX5_revised 18 = .ok (.aload_n 0, 1) := by decide +kernel
theorem dX5_revised_19 : decode cX5_revised 19 = .ok (.getfield 12, 3) := by decide +kernel
theorem dX5_revised_22 : decode cX5_revised 22 = .ok (.iload_n 1, 1) := by decide +kernel
theorem dX5_revised_23 : decode cX5_revised 23 = .ok (.invokevirtual 118, 3) := by decide +kernel
theorem dX5_revised_26 : decode cX5_revised 26 = .ok (.ifCond .eq 17, 3) := by decide +kernel
theorem dX5_revised_29 : decode cX5_revised 29 = .ok (.aload_n 0, 1) := by decide +kernel
theorem dX5_revised_30 : decode cX5_revised 30 = .ok (.getfield 19, 3) := by decide +kernel
theorem dX5_revised_33 : decode cX5_revised 33 = .ok (.aload_n 0, 1) := by decide +kernel
theorem dX5_revised_34 : decode cX5_revised 34 = .ok (.getfield 12, 3) := by decide +kernel
theorem dX5_revised_37 : decode cX5_revised 37 = .ok (.invokevirtual 104, 3) := by decide +kernel
theorem dX5_revised_40 : decode cX5_revised 40 = .ok (.ifCond .ne 10, 3) := by decide +kernel
theorem dX5_revised_43 : decode cX5_revised 43 = .ok (.aload_n 0, 1) := by decide +kernel
theorem dX5_revised_44 : decode cX5_revised 44 = .ok (.bipush (-3), 2) := by decide +kernel
theorem dX5_revised_46 : decode cX5_revised 46 = .ok (.invokevirtual 89, 3) := by decide +kernel
theorem dX5_revised_49 : decode cX5_revised 49 = .ok (.ireturn, 1) := by decide +kernel
theorem dX5_revised_50 : decode cX5_revised 50 = .ok (.aload_n 0, 1) := by decide +kernel
theorem dX5_revised_51 : decode cX5_revised 51 = .ok (.iload_n 1, 1) := by decide +kernel
theorem dX5_revised_52 : decode cX5_revised 52 = .ok (.invokevirtual 121, 3) := by decide +kernel
theorem dX5_revised_55 : decode cX5_revised 55 = .ok (.ireturn, 1) := by decide +kernel
theorem dX5_farthest_0 : decode cX5_farthest 0 = .ok (.aload_n 0, 1) := by decide +kernel
theorem dX5_farthest_1 : decode cX5_farthest 1 = .ok (.getfield 19, 3) := by decide +kernel
theorem dX5_farthest_4 : decode cX5_farthest 4 = .ok (.aload_n 0, 1) := by decide +kernel
theorem dX5_farthest_5 : decode cX5_farthest 5 = .ok (.getfield 12, 3) := by decide +kernel
theorem dX5_farthest_8 : decode cX5_farthest 8 = .ok (.invokevirtual 104, 3) := by decide +kernel
theorem dX5_farthest_11 : decode cX5_farthest 11 = .ok (.ifCond .ne 10, 3) := by decide +kernel
theorem dX5_farthest_14 : decode cX5_farthest 14 = .ok (.aload_n 0, 1) := by decide +kernel
theorem dX5_farthest_15 : decode cX5_farthest 15 = .ok (.bipush (-3), 2) := by decide +kernel
theorem dX5_farthest_17 : decode cX5_farthest 17 = .ok (.invokevirtual 89, 3) := by decide +kernel
theorem dX5_farthest_20 : decode cX5_farthest 20 = .ok (.ireturn, 1) := by decide +kernel
theorem dX5_farthest_21 : decode cX5_farthest 21 = .ok (.iconst (-1), 1) := by decide +kernel
theorem dX5_farthest_22 : decode cX5_farthest 22 = .ok (.istore_n 1, 1) := by decide +kernel
theorem dX5_farthest_23 : decode cX5_farthest 23 = .ok (.iconst (-1), 1) := by decide +kernel
theorem dX5_farthest_24 : decode cX5_farthest 24 = .ok (.istore_n 2, 1) := by decide +kernel
theorem dX5_farthest_25 : decode cX5_farthest 25 = .ok (.iconst 0, 1) := by decide +kernel
theorem dX5_farthest_26 : decode cX5_farthest 26 = .ok (.istore_n 3, 1) := by decide +kernel
theorem dX5_farthest_27 : decode cX5_farthest 27 = .ok (.iload_n 3, 1) := by decide +kernel
theorem dX5_farthest_28 : decode cX5_farthest 28 = .ok (.aload_n 0, 1) := by decide +kernel
theorem dX5_farthest_29 : decode cX5_farthest 29 = .ok (.getfield 12, 3) := by decide +kernel
theorem dX5_farthest_32 : decode cX5_farthest 32 = .ok (.getfield 124, 3) := by decide +kernel
theorem dX5_farthest_35 : decode cX5_farthest 35 = .ok (.if_icmp .ge 37, 3) := by decide +kernel
theorem dX5_farthest_38 : decode cX5_farthest 38 = .ok (.aload_n 0, 1) := by decide +kernel
theorem dX5_farthest_39 : decode cX5_farthest 39 = .ok (.getfield 12, 3) := by decide +kernel
theorem dX5_farthest_42 : decode cX5_farthest 42 = .ok (.iload_n 3, 1) := by decide +kernel
theorem dX5_farthest_43 : decode cX5_farthest 43 = .ok (.invokevirtual 118, 3) := by decide +kernel
theorem dX5_farthest_46 : decode cX5_farthest 46 = .ok (.ifCond .eq 20, 3) := by decide +kernel
theorem dX5_farthest_49 : decode cX5_farthest 49 = .ok (.aload_n 0, 1) := by decide +kernel
theorem dX5_farthest_50 : decode cX5_farthest 50 = .ok (.iload_n 3, 1) := by decide +kernel
theorem dX5_farthest_51 : decode cX5_farthest 51 = .ok (.invokevirtual 121, 3) := by decide +kernel
theorem dX5_farthest_54 : decode cX5_farthest 54 = .ok (.iload_n 2, 1) := by decide +kernel
theorem dX5_farthest_55 : decode cX5_farthest 55 = .ok (.if_icmp .le 11, 3) := by decide +kernel
theorem dX5_farthest_58 : decode cX5_farthest 58 = .ok (.iload_n 3, 1) := by decide +kernel
theorem dX5_farthest_59 : decode cX5_farthest 59 = .ok (.istore_n 1, 1) := by decide +kernel
theorem dX5_farthest_60 : decode cX5_farthest 60 = .ok (.aload_n 0, 1) := by decide +kernel
theorem dX5_farthest_61 : decode cX5_farthest 61 = .ok (.iload_n 3, 1) := by decide +kernel
theorem dX5_farthest_62 : decode cX5_farthest 62 = .ok (.invokevirtual 121, 3) := by decide +kernel
theorem dX5_farthest_65 : decode cX5_farthest 65 = .ok (.istore_n 2, 1) := by decide +kernel
theorem dX5_farthest_66 : decode cX5_farthest 66 = .ok (.iinc 3 1, 3) := by decide +kernel
theorem dX5_farthest_69 : decode cX5_farthest 69 = .ok (.goto (-42), 3) := by decide +kernel
theorem dX5_farthest_72 : decode cX5_farthest 72 = .ok (.iload_n 1, 1) := by decide +kernel
theorem dX5_farthest_73 : decode cX5_farthest 73 = .ok (.ireturn, 1) := by decide +kernel
theorem dX5_least_0 : decode cX5_least 0 = .ok (.iconst 0, 1) := by decide +kernel
theorem dX5_least_1 : decode cX5_least 1 = .ok (.istore_n 1, 1) := by decide +kernel
theorem dX5_least_2 : decode cX5_least 2 = .ok (.iload_n 1, 1) := by decide +kernel
theorem dX5_least_3 : decode cX5_least 3 = .ok (.bipush 24, 2) := by decide +kernel
theorem dX5_least_5 : decode cX5_least 5 = .ok (.if_icmp .gt 26, 3) := by decide +kernel
theorem dX5_least_8 : decode cX5_least 8 = .ok (.aload_n 0, 1) := by decide +kernel
theorem dX5_least_9 : decode cX5_least 9 = .ok (.getfield 19, 3) := by decide +kernel
theorem dX5_least_12 : decode cX5_least 12 = .ok (.aload_n 0, 1) := by decide +kernel
theorem dX5_least_13 : decode cX5_least 13 = .ok (.getfield 12, 3) := by decide +kernel
theorem dX5_least_16 : decode cX5_least 16 = .ok (.iload_n 1, 1) := by decide +kernel
theorem dX5_least_17 : decode cX5_least 17 = .ok (.invokevirtual 128, 3) := by decide +kernel
theorem dX5_least_20 : decode cX5_least 20 = .ok (.ifCond .eq 5, 3) := by decide +kernel
theorem dX5_least_23 : decode cX5_least 23 = .ok (.iload_n 1, 1) := by decide +kernel
theorem dX5_least_24 : decode cX5_least 24 = .ok (.ireturn, 1) := by decide +kernel
theorem dX5_least_25 : decode cX5_least 25 = .ok (.iinc 1 1, 3) := by decide +kernel
theorem dX5_least_28 : decode cX5_least 28 = .ok (.goto (-26), 3) := by decide +kernel
theorem dX5_least_31 : decode cX5_least 31 = .ok (.iconst (-1), 1) := by decide +kernel
theorem dX5_least_32 : decode cX5_least 32 = .ok (.ireturn, 1) := by decide +kernel
theorem dX5_price_0 : decode cX5_price 0 = .ok (.iload_n 1, 1) := by decide +kernel
theorem dX5_price_1 : decode cX5_price 1 = .ok (.invokestatic 95, 3) := by decide +kernel
theorem dX5_price_4 : decode cX5_price 4 = .ok (.ifCond .ne 11, 3) := by decide +kernel
theorem dX5_price_7 : decode cX5_price 7 = .ok (.aload_n 0, 1) := by decide +kernel
theorem dX5_price_8 : decode cX5_price 8 = .ok (.bipush (-2), 2) := by decide +kernel
theorem dX5_price_10 : decode cX5_price 10 = .ok (.invokevirtual 89, 3) := by decide +kernel
theorem dX5_price_13 : decode cX5_price 13 = .ok (.i2l, 1) := by decide +kernel
theorem dX5_price_14 : decode cX5_price 14 = .ok (.lreturn, 1) := by decide +kernel
theorem dX5_price_15 : decode cX5_price 15 = .ok (.aload_n 0, 1) := by decide +kernel
theorem dX5_price_16 : decode cX5_price 16 = .ok (.getfield 12, 3) := by decide +kernel
theorem dX5_price_19 : decode cX5_price 19 = .ok (.getfield 132, 3) := by decide +kernel
theorem dX5_price_22 : decode cX5_price 22 = .ok (.iload_n 1, 1) := by decide +kernel
theorem dX5_price_23 : decode cX5_price 23 = .ok (.iaload, 1) := by decide +kernel
theorem dX5_price_24 : decode cX5_price 24 = .ok (.iconst (-1), 1) := by decide +kernel
theorem dX5_price_25 : decode cX5_price 25 = .ok (.if_icmp .eq 17, 3) := by decide +kernel
theorem dX5_price_28 : decode cX5_price 28 = .ok (.aload_n 0, 1) := by decide +kernel
theorem dX5_price_29 : decode cX5_price 29 = .ok (.getfield 19, 3) := by decide +kernel
theorem dX5_price_32 : decode cX5_price 32 = .ok (.aload_n 0, 1) := by decide +kernel
theorem dX5_price_33 : decode cX5_price 33 = .ok (.getfield 12, 3) := by decide +kernel
theorem dX5_price_36 : decode cX5_price 36 = .ok (.invokevirtual 104, 3) := by decide +kernel
theorem dX5_price_39 : decode cX5_price 39 = .ok (.ifCond .ne 11, 3) := by decide +kernel
theorem dX5_price_42 : decode cX5_price 42 = .ok (.aload_n 0, 1) := by decide +kernel
theorem dX5_price_43 : decode cX5_price 43 = .ok (.bipush (-3), 2) := by decide +kernel
theorem dX5_price_45 : decode cX5_price 45 = .ok (.invokevirtual 89, 3) := by decide +kernel
theorem dX5_price_48 : decode cX5_price 48 = .ok (.i2l, 1) := by decide +kernel
theorem dX5_price_49 : decode cX5_price 49 = .ok (.lreturn, 1) := by decide +kernel
theorem dX5_price_50 : decode cX5_price 50 = .ok (.aload_n 0, 1) := by decide +kernel
theorem dX5_price_51 : decode cX5_price 51 = .ok (.getfield 12, 3) := by decide +kernel
theorem dX5_price_54 : decode cX5_price 54 = .ok (.aload_n 0, 1) := by decide +kernel
theorem dX5_price_55 : decode cX5_price 55 = .ok (.getfield 19, 3) := by decide +kernel
theorem dX5_price_58 : decode cX5_price 58 = .ok (.getfield 108, 3) := by decide +kernel
theorem dX5_price_61 : decode cX5_price 61 = .ok (.aload_n 0, 1) := by decide +kernel
theorem dX5_price_62 : decode cX5_price 62 = .ok (.getfield 12, 3) := by decide +kernel
theorem dX5_price_65 : decode cX5_price 65 = .ok (.getfield 135, 3) := by decide +kernel
theorem dX5_price_68 : decode cX5_price 68 = .ok (.invokevirtual 114, 3) := by decide +kernel
theorem dX5_price_71 : decode cX5_price 71 = .ok (.aload_n 0, 1) := by decide +kernel
theorem dX5_price_72 : decode cX5_price 72 = .ok (.getfield 19, 3) := by decide +kernel
theorem dX5_price_75 : decode cX5_price 75 = .ok (.aload_n 0, 1) := by decide +kernel
theorem dX5_price_76 : decode cX5_price 76 = .ok (.getfield 12, 3) := by decide +kernel
theorem dX5_price_79 : decode cX5_price 79 = .ok (.iload_n 1, 1) := by decide +kernel
theorem dX5_price_80 : decode cX5_price 80 = .ok (.invokevirtual 138, 3) := by decide +kernel
theorem dX5_price_83 : decode cX5_price 83 = .ok (.lsub, 1) := by decide +kernel
theorem dX5_price_84 : decode cX5_price 84 = .ok (.lreturn, 1) := by decide +kernel
theorem dX5_others_0 : decode cX5_others 0 = .ok (.aload_n 0, 1) := by decide +kernel
theorem dX5_others_1 : decode cX5_others 1 = .ok (.getfield 19, 3) := by decide +kernel
theorem dX5_others_4 : decode cX5_others 4 = .ok (.aload_n 0, 1) := by decide +kernel
theorem dX5_others_5 : decode cX5_others 5 = .ok (.getfield 12, 3) := by decide +kernel
theorem dX5_others_8 : decode cX5_others 8 = .ok (.invokevirtual 104, 3) := by decide +kernel
theorem dX5_others_11 : decode cX5_others 11 = .ok (.ifCond .eq 13, 3) := by decide +kernel
theorem dX5_others_14 : decode cX5_others 14 = .ok (.aload_n 0, 1) := by decide +kernel
theorem dX5_others_15 : decode cX5_others 15 = .ok (.getfield 19, 3) := by decide +kernel
theorem dX5_others_18 : decode cX5_others 18 = .ok (.getfield 142, 3) := by decide +kernel
theorem dX5_others_21 : decode cX5_others 21 = .ok (.goto 4, 3) := by decide +kernel
theorem dX5_others_24 : decode cX5_others 24 = .ok (.iconst 0, 1) := by decide +kernel
theorem dX5_others_25 : decode cX5_others 25 = .ok (.ireturn, 1) := by decide +kernel
theorem dX5_shared_0 : decode cX5_shared 0 = .ok (.aload_n 0, 1) := by decide +kernel
theorem dX5_shared_1 : decode cX5_shared 1 = .ok (.getfield 12, 3) := by decide +kernel
theorem dX5_shared_4 : decode cX5_shared 4 = .ok (.iload_n 1, 1) := by decide +kernel
theorem dX5_shared_5 : decode cX5_shared 5 = .ok (.invokevirtual 81, 3) := by decide +kernel
theorem dX5_shared_8 : decode cX5_shared 8 = .ok (.ifCond .ne 10, 3) := by decide +kernel
theorem dX5_shared_11 : decode cX5_shared 11 = .ok (.aload_n 0, 1) := by decide +kernel
theorem dX5_shared_12 : decode cX5_shared 12 = .ok (.bipush (-2), 2) := by decide +kernel
theorem dX5_shared_14 : decode cX5_shared 14 = .ok (.invokevirtual 89, 3) := by decide +kernel
theorem dX5_shared_17 : decode cX5_shared 17 = .ok (.ireturn, 1) := by decide +kernel
theorem dX5_shared_18 : decode cX5_shared 18 = .ok (.aload_n 0, 1) := by decide +kernel
theorem dX5_shared_19 : decode cX5_shared 19 = .ok (.getfield 12, 3) := by decide +kernel
theorem dX5_shared_22 : decode cX5_shared 22 = .ok (.iload_n 1, 1) := by decide +kernel
theorem dX5_shared_23 : decode cX5_shared 23 = .ok (.invokevirtual 145, 3) := by decide +kernel
theorem dX5_shared_26 : decode cX5_shared 26 = .ok (.ireturn, 1) := by decide +kernel
theorem dX5_stepped_0 : decode cX5_stepped 0 = .ok (.iload_n 1, 1) := by decide +kernel
theorem dX5_stepped_1 : decode cX5_stepped 1 = .ok (.invokestatic 111, 3) := by decide +kernel
theorem dX5_stepped_4 : decode cX5_stepped 4 = .ok (.ifCond .ne 11, 3) := by decide +kernel
theorem dX5_stepped_7 : decode cX5_stepped 7 = .ok (.aload_n 0, 1) := by decide +kernel
theorem dX5_stepped_8 : decode cX5_stepped 8 = .ok (.bipush (-2), 2) := by decide +kernel
theorem dX5_stepped_10 : decode cX5_stepped 10 = .ok (.invokevirtual 89, 3) := by decide +kernel
theorem dX5_stepped_13 : decode cX5_stepped 13 = .ok (.i2l, 1) := by decide +kernel
theorem dX5_stepped_14 : decode cX5_stepped 14 = .ok (.lreturn, 1) := by decide +kernel
theorem dX5_stepped_15 : decode cX5_stepped 15 = .ok (.aload_n 0, 1) := by decide +kernel
theorem dX5_stepped_16 : decode cX5_stepped 16 = .ok (.iload_n 1, 1) := by decide +kernel
theorem dX5_stepped_17 : decode cX5_stepped 17 = .ok (.invokevirtual 148, 3) := by decide +kernel
theorem dX5_stepped_20 : decode cX5_stepped 20 = .ok (.lreturn, 1) := by decide +kernel
theorem dX5_type_0 : decode cX5_type 0 = .ok (.iload_n 1, 1) := by decide +kernel
theorem dX5_type_1 : decode cX5_type 1 = .ok (.iconst 0, 1) := by decide +kernel
theorem dX5_type_2 : decode cX5_type 2 = .ok (.bipush 127, 2) := by decide +kernel
theorem dX5_type_4 : decode cX5_type 4 = .ok (.invokestatic 85, 3) := by decide +kernel
theorem dX5_type_7 : decode cX5_type 7 = .ok (.ifCond .ne 10, 3) := by decide +kernel
theorem dX5_type_10 : decode cX5_type 10 = .ok (.aload_n 0, 1) := by decide +kernel
theorem dX5_type_11 : decode cX5_type 11 = .ok (.bipush (-2), 2) := by decide +kernel
theorem dX5_type_13 : decode cX5_type 13 = .ok (.invokevirtual 89, 3) := by decide +kernel
theorem dX5_type_16 : decode cX5_type 16 = .ok (.ireturn, 1) := by decide +kernel
theorem dX5_type_17 : decode cX5_type 17 = .ok (.aload_n 0, 1) := by decide +kernel
theorem dX5_type_18 : decode cX5_type 18 = .ok (.getfield 33, 3) := by decide +kernel
theorem dX5_type_21 : decode cX5_type 21 = .ok (.getfield 152, 3) := by decide +kernel
theorem dX5_type_24 : decode cX5_type 24 = .ok (.bipush 120, 2) := by decide +kernel
theorem dX5_type_26 : decode cX5_type 26 = .ok (.if_icmp .lt 10, 3) := by decide +kernel
theorem dX5_type_29 : decode cX5_type 29 = .ok (.aload_n 0, 1) := by decide +kernel
theorem dX5_type_30 : decode cX5_type 30 = .ok (.bipush (-4), 2) := by decide +kernel
theorem dX5_type_32 : decode cX5_type 32 = .ok (.invokevirtual 89, 3) := by decide +kernel
theorem dX5_type_35 : decode cX5_type 35 = .ok (.ireturn, 1) := by decide +kernel
theorem dX5_type_36 : decode cX5_type 36 = .ok (.aload_n 0, 1) := by decide +kernel
theorem dX5_type_37 : decode cX5_type 37 = .ok (.getfield 33, 3) := by decide +kernel
theorem dX5_type_40 : decode cX5_type 40 = .ok (.iload_n 1, 1) := by decide +kernel
theorem dX5_type_41 : decode cX5_type 41 = .ok (.invokevirtual 155, 3) := by decide +kernel
theorem dX5_type_44 : decode cX5_type 44 = .ok (.ireturn, 1) := by decide +kernel
theorem dX5_clear_0 : decode cX5_clear 0 = .ok (.aload_n 0, 1) := by decide +kernel
theorem dX5_clear_1 : decode cX5_clear 1 = .ok (.getfield 33, 3) := by decide +kernel
theorem dX5_clear_4 : decode cX5_clear 4 = .ok (.getfield 152, 3) := by decide +kernel
theorem dX5_clear_7 : decode cX5_clear 7 = .ok (.istore_n 1, 1) := by decide +kernel
theorem dX5_clear_8 : decode cX5_clear 8 = .ok (.aload_n 0, 1) := by decide +kernel
theorem dX5_clear_9 : decode cX5_clear 9 = .ok (.getfield 33, 3) := by decide +kernel
theorem dX5_clear_12 : decode cX5_clear 12 = .ok (.iconst 0, 1) := by decide +kernel
theorem dX5_clear_13 : decode cX5_clear 13 = .ok (.putfield 152, 3) := by decide +kernel
theorem dX5_clear_16 : decode cX5_clear 16 = .ok (.iload_n 1, 1) := by decide +kernel
theorem dX5_clear_17 : decode cX5_clear 17 = .ok (.ireturn, 1) := by decide +kernel
theorem dX5_does_0 : decode cX5_does 0 = .ok (.aload_n 0, 1) := by decide +kernel
theorem dX5_does_1 : decode cX5_does 1 = .ok (.getfield 33, 3) := by decide +kernel
theorem dX5_does_4 : decode cX5_does 4 = .ok (.invokevirtual 158, 3) := by decide +kernel
theorem dX5_does_7 : decode cX5_does 7 = .ok (.istore_n 1, 1) := by decide +kernel
theorem dX5_does_8 : decode cX5_does 8 = .ok (.iload_n 1, 1) := by decide +kernel
theorem dX5_does_9 : decode cX5_does 9 = .ok (.iconst (-1), 1) := by decide +kernel
theorem dX5_does_10 : decode cX5_does 10 = .ok (.if_icmp .eq 8, 3) := by decide +kernel
theorem dX5_does_13 : decode cX5_does 13 = .ok (.bipush (-10), 2) := by decide +kernel
theorem dX5_does_15 : decode cX5_does 15 = .ok (.iload_n 1, 1) := by decide +kernel
theorem dX5_does_16 : decode cX5_does 16 = .ok (.isub, 1) := by decide +kernel
theorem dX5_does_17 : decode cX5_does 17 = .ok (.ireturn, 1) := by decide +kernel
theorem dX5_does_18 : decode cX5_does 18 = .ok (.aload_n 0, 1) := by decide +kernel
theorem dX5_does_19 : decode cX5_does 19 = .ok (.getfield 26, 3) := by decide +kernel
theorem dX5_does_22 : decode cX5_does 22 = .ok (.aload_n 0, 1) := by decide +kernel
theorem dX5_does_23 : decode cX5_does 23 = .ok (.getfield 12, 3) := by decide +kernel
theorem dX5_does_26 : decode cX5_does 26 = .ok (.invokevirtual 44, 3) := by decide +kernel
theorem dX5_does_29 : decode cX5_does 29 = .ok (.iconst 0, 1) := by decide +kernel
theorem dX5_does_30 : decode cX5_does 30 = .ok (.istore_n 2, 1) := by decide +kernel
theorem dX5_does_31 : decode cX5_does 31 = .ok (.iload_n 2, 1) := by decide +kernel
theorem dX5_does_32 : decode cX5_does 32 = .ok (.aload_n 0, 1) := by decide +kernel
theorem dX5_does_33 : decode cX5_does 33 = .ok (.getfield 33, 3) := by decide +kernel
theorem dX5_does_36 : decode cX5_does 36 = .ok (.getfield 161, 3) := by decide +kernel
theorem dX5_does_39 : decode cX5_does 39 = .ok (.if_icmp .ge 72, 3) := by decide +kernel
theorem dX5_does_42 : decode cX5_does 42 = .ok (.aload_n 0, 1) := by decide +kernel
theorem dX5_does_43 : decode cX5_does 43 = .ok (.aload_n 0, 1) := by decide +kernel
theorem dX5_does_44 : decode cX5_does 44 = .ok (.getfield 33, 3) := by decide +kernel
theorem dX5_does_47 : decode cX5_does 47 = .ok (.getfield 164, 3) := by decide +kernel
theorem dX5_does_50 : decode cX5_does 50 = .ok (.iload_n 2, 1) := by decide +kernel
theorem dX5_does_51 : decode cX5_does 51 = .ok (.iaload, 1) := by decide +kernel
theorem dX5_does_52 : decode cX5_does 52 = .ok (.aload_n 0, 1) := by decide +kernel
theorem dX5_does_53 : decode cX5_does 53 = .ok (.getfield 33, 3) := by decide +kernel
theorem dX5_does_56 : decode cX5_does 56 = .ok (.getfield 167, 3) := by decide +kernel
theorem dX5_does_59 : decode cX5_does 59 = .ok (.iload_n 2, 1) := by decide +kernel
theorem dX5_does_60 : decode cX5_does 60 = .ok (.iaload, 1) := by decide +kernel
theorem dX5_does_61 : decode cX5_does 61 = .ok (.aload_n 0, 1) := by decide +kernel
theorem dX5_does_62 : decode cX5_does 62 = .ok (.getfield 33, 3) := by decide +kernel
theorem dX5_does_65 : decode cX5_does 65 = .ok (.getfield 170, 3) := by decide +kernel
theorem dX5_does_68 : decode cX5_does 68 = .ok (.iload_n 2, 1) := by decide +kernel
theorem dX5_does_69 : decode cX5_does 69 = .ok (.iaload, 1) := by decide +kernel
theorem dX5_does_70 : decode cX5_does 70 = .ok (.invokevirtual 173, 3) := by decide +kernel
theorem dX5_does_73 : decode cX5_does 73 = .ok (.invokestatic 177, 3) := by decide +kernel
theorem dX5_does_76 : decode cX5_does 76 = .ok (.istore_n 3, 1) := by decide +kernel
theorem dX5_does_77 : decode cX5_does 77 = .ok (.aload_n 0, 1) := by decide +kernel
theorem dX5_does_78 : decode cX5_does 78 = .ok (.getfield 19, 3) := by decide +kernel
theorem dX5_does_81 : decode cX5_does 81 = .ok (.invokevirtual 180, 3) := by decide +kernel
theorem dX5_does_84 : decode cX5_does 84 = .ok (.iload_n 3, 1) := by decide +kernel
theorem dX5_does_85 : decode cX5_does 85 = .ok (.ifCond .eq 20, 3) := by decide +kernel
theorem dX5_does_88 : decode cX5_does 88 = .ok (.aload_n 0, 1) := by decide +kernel
theorem dX5_does_89 : decode cX5_does 89 = .ok (.getfield 26, 3) := by decide +kernel
theorem dX5_does_92 : decode cX5_does 92 = .ok (.aload_n 0, 1) := by decide +kernel
theorem dX5_does_93 : decode cX5_does 93 = .ok (.getfield 12, 3) := by decide +kernel
theorem dX5_does_96 : decode cX5_does 96 = .ok (.invokevirtual 183, 3) := by decide +kernel
theorem dX5_does_99 : decode cX5_does 99 = .ok (.sipush (-1000), 3) := by decide +kernel
theorem dX5_does_102 : decode cX5_does 102 = .ok (.iload_n 2, 1) := by decide +kernel
theorem dX5_does_103 : decode cX5_does 103 = .ok (.isub, 1) := by decide +kernel
theorem dX5_does_104 : decode cX5_does 104 = .ok (.ireturn, 1) := by decide +kernel
theorem dX5_does_105 : decode cX5_does 105 = .ok (.iinc 2 1, 3) := by decide +kernel
theorem dX5_does_108 : decode cX5_does 108 = .ok (.goto (-77), 3) := by decide +kernel
theorem dX5_does_111 : decode cX5_does 111 = .ok (.aload_n 0, 1) := by decide +kernel
theorem dX5_does_112 : decode cX5_does 112 = .ok (.getfield 26, 3) := by decide +kernel
theorem dX5_does_115 : decode cX5_does 115 = .ok (.invokevirtual 186, 3) := by decide +kernel
theorem dX5_does_118 : decode cX5_does 118 = .ok (.aload_n 0, 1) := by decide +kernel
theorem dX5_does_119 : decode cX5_does 119 = .ok (.getfield 33, 3) := by decide +kernel
theorem dX5_does_122 : decode cX5_does 122 = .ok (.getfield 161, 3) := by decide +kernel
theorem dX5_does_125 : decode cX5_does 125 = .ok (.ireturn, 1) := by decide +kernel
theorem dX5_back_0 : decode cX5_back 0 = .ok (.aload_n 0, 1) := by decide +kernel
theorem dX5_back_1 : decode cX5_back 1 = .ok (.getfield 26, 3) := by decide +kernel
theorem dX5_back_4 : decode cX5_back 4 = .ok (.getfield 189, 3) := by decide +kernel
theorem dX5_back_7 : decode cX5_back 7 = .ok (.ifCond .ne 10, 3) := by decide +kernel
theorem dX5_back_10 : decode cX5_back 10 = .ok (.aload_n 0, 1) := by decide +kernel
theorem dX5_back_11 : decode cX5_back 11 = .ok (.bipush (-3), 2) := by decide +kernel
theorem dX5_back_13 : decode cX5_back 13 = .ok (.invokevirtual 89, 3) := by decide +kernel
theorem dX5_back_16 : decode cX5_back 16 = .ok (.ireturn, 1) := by decide +kernel
theorem dX5_back_17 : decode cX5_back 17 = .ok (.aload_n 0, 1) := by decide +kernel
theorem dX5_back_18 : decode cX5_back 18 = .ok (.getfield 26, 3) := by decide +kernel
theorem dX5_back_21 : decode cX5_back 21 = .ok (.aload_n 0, 1) := by decide +kernel
theorem dX5_back_22 : decode cX5_back 22 = .ok (.getfield 12, 3) := by decide +kernel
theorem dX5_back_25 : decode cX5_back 25 = .ok (.invokevirtual 192, 3) := by decide +kernel
theorem dX5_back_28 : decode cX5_back 28 = .ok (.aload_n 0, 1) := by decide +kernel
theorem dX5_back_29 : decode cX5_back 29 = .ok (.getfield 19, 3) := by decide +kernel
theorem dX5_back_32 : decode cX5_back 32 = .ok (.invokevirtual 180, 3) := by decide +kernel
theorem dX5_back_35 : decode cX5_back 35 = .ok (.aload_n 0, 1) := by decide +kernel
theorem dX5_back_36 : decode cX5_back 36 = .ok (.getfield 26, 3) := by decide +kernel
theorem dX5_back_39 : decode cX5_back 39 = .ok (.getfield 189, 3) := by decide +kernel
theorem dX5_back_42 : decode cX5_back 42 = .ok (.ireturn, 1) := by decide +kernel
theorem dX5_told_0 : decode cX5_told 0 = .ok (.iload_n 1, 1) := by decide +kernel
theorem dX5_told_1 : decode cX5_told 1 = .ok (.iconst 0, 1) := by decide +kernel
theorem dX5_told_2 : decode cX5_told 2 = .ok (.iconst 4, 1) := by decide +kernel
theorem dX5_told_3 : decode cX5_told 3 = .ok (.invokestatic 85, 3) := by decide +kernel
theorem dX5_told_6 : decode cX5_told 6 = .ok (.ifCond .ne 10, 3) := by decide +kernel
theorem dX5_told_9 : decode cX5_told 9 = .ok (.aload_n 0, 1) := by decide +kernel
theorem dX5_told_10 : decode cX5_told 10 = .ok (.bipush (-2), 2) := by decide +kernel
theorem dX5_told_12 : decode cX5_told 12 = .ok (.invokevirtual 89, 3) := by decide +kernel
theorem dX5_told_15 : decode cX5_told 15 = .ok (.ireturn, 1) := by decide +kernel
theorem dX5_told_16 : decode cX5_told 16 = .ok (.iload_n 1, 1) := by decide +kernel
theorem dX5_told_17 : decode cX5_told 17 = .ok (.iconst 3, 1) := by decide +kernel
theorem dX5_told_18 : decode cX5_told 18 = .ok (.if_icmp .ne 11, 3) := by decide +kernel
theorem dX5_told_21 : decode cX5_told 21 = .ok (.aload_n 0, 1) := by decide +kernel
theorem dX5_told_22 : decode cX5_told 22 = .ok (.getfield 33, 3) := by decide +kernel
theorem dX5_told_25 : decode cX5_told 25 = .ok (.getfield 152, 3) := by decide +kernel
theorem dX5_told_28 : decode cX5_told 28 = .ok (.ireturn, 1) := by decide +kernel
theorem dX5_told_29 : decode cX5_told 29 = .ok (.iload_n 1, 1) := by decide +kernel
theorem dX5_told_30 : decode cX5_told 30 = .ok (.iconst 4, 1) := by decide +kernel
theorem dX5_told_31 : decode cX5_told 31 = .ok (.if_icmp .ne 13, 3) := by decide +kernel
theorem dX5_told_34 : decode cX5_told 34 = .ok (.aload_n 0, 1) := by decide +kernel
theorem dX5_told_35 : decode cX5_told 35 = .ok (.getfield 26, 3) := by decide +kernel
theorem dX5_told_38 : decode cX5_told 38 = .ok (.getfield 189, 3) := by decide +kernel
theorem dX5_told_41 : decode cX5_told 41 = .ok (.goto 9, 3) := by decide +kernel
theorem dX5_told_44 : decode cX5_told 44 = .ok (.aload_n 0, 1) := by decide +kernel
theorem dX5_told_45 : decode cX5_told 45 = .ok (.getfield 37, 3) := by decide +kernel
theorem dX5_told_48 : decode cX5_told 48 = .ok (.iload_n 1, 1) := by decide +kernel
theorem dX5_told_49 : decode cX5_told 49 = .ok (.iaload, 1) := by decide +kernel
theorem dX5_told_50 : decode cX5_told 50 = .ok (.ireturn, 1) := by decide +kernel
theorem dX5_digest_0 : decode cX5_digest 0 = .ok (.ldc2_w 195, 3) := by decide +kernel
theorem dX5_digest_3 : decode cX5_digest 3 = .ok (.lstore_n 1, 1) := by decide +kernel
theorem dX5_digest_4 : decode cX5_digest 4 = .ok (.iconst 0, 1) := by decide +kernel
theorem dX5_digest_5 : decode cX5_digest 5 = .ok (.istore_n 3, 1) := by decide +kernel
theorem dX5_digest_6 : decode cX5_digest 6 = .ok (.iload_n 3, 1) := by decide +kernel
theorem dX5_digest_7 : decode cX5_digest 7 = .ok (.iconst 4, 1) := by decide +kernel
theorem dX5_digest_8 : decode cX5_digest 8 = .ok (.if_icmp .gt 22, 3) := by decide +kernel
theorem dX5_digest_11 : decode cX5_digest 11 = .ok (.ldc2_w 197, 3) := by decide +kernel
theorem dX5_digest_14 : decode cX5_digest 14 = .ok (.lload_n 1, 1) := by decide +kernel
theorem dX5_digest_15 : decode cX5_digest 15 = .ok (.lmul, 1) := by decide +kernel
theorem dX5_digest_16 : decode cX5_digest 16 = .ok (.aload_n 0, 1) := by decide +kernel
theorem dX5_digest_17 : decode cX5_digest 17 = .ok (.iload_n 3, 1) := by decide +kernel
theorem dX5_digest_18 : decode cX5_digest 18 = .ok (.invokevirtual 199, 3) := by decide +kernel
theorem dX5_digest_21 : decode cX5_digest 21 = .ok (.i2l, 1) := by decide +kernel
theorem dX5_digest_22 : decode cX5_digest 22 = .ok (.ladd, 1) := by decide +kernel
theorem dX5_digest_23 : decode cX5_digest 23 = .ok (.lstore_n 1, 1) := by decide +kernel
theorem dX5_digest_24 : decode cX5_digest 24 = .ok (.iinc 3 1, 3) := by decide +kernel
theorem dX5_digest_27 : decode cX5_digest 27 = .ok (.goto (-21), 3) := by decide +kernel
theorem dX5_digest_30 : decode cX5_digest 30 = .ok (.iconst 0, 1) := by decide +kernel
theorem dX5_digest_31 : decode cX5_digest 31 = .ok (.istore_n 3, 1) := by decide +kernel
theorem dX5_digest_32 : decode cX5_digest 32 = .ok (.iload_n 3, 1) := by decide +kernel
theorem dX5_digest_33 : decode cX5_digest 33 = .ok (.iconst 5, 1) := by decide +kernel
theorem dX5_digest_34 : decode cX5_digest 34 = .ok (.if_icmp .gt 25, 3) := by decide +kernel
theorem dX5_digest_37 : decode cX5_digest 37 = .ok (.ldc2_w 197, 3) := by decide +kernel
theorem dX5_digest_40 : decode cX5_digest 40 = .ok (.lload_n 1, 1) := by decide +kernel
theorem dX5_digest_41 : decode cX5_digest 41 = .ok (.lmul, 1) := by decide +kernel
theorem dX5_digest_42 : decode cX5_digest 42 = .ok (.aload_n 0, 1) := by decide +kernel
theorem dX5_digest_43 : decode cX5_digest 43 = .ok (.getfield 12, 3) := by decide +kernel
theorem dX5_digest_46 : decode cX5_digest 46 = .ok (.iload_n 3, 1) := by decide +kernel
theorem dX5_digest_47 : decode cX5_digest 47 = .ok (.invokevirtual 101, 3) := by decide +kernel
theorem dX5_digest_50 : decode cX5_digest 50 = .ok (.i2l, 1) := by decide +kernel
theorem dX5_digest_51 : decode cX5_digest 51 = .ok (.ladd, 1) := by decide +kernel
theorem dX5_digest_52 : decode cX5_digest 52 = .ok (.lstore_n 1, 1) := by decide +kernel
theorem dX5_digest_53 : decode cX5_digest 53 = .ok (.iinc 3 1, 3) := by decide +kernel
theorem dX5_digest_56 : decode cX5_digest 56 = .ok (.goto (-24), 3) := by decide +kernel
theorem dX5_digest_59 : decode cX5_digest 59 = .ok (.aload_n 0, 1) := by decide +kernel
theorem dX5_digest_60 : decode cX5_digest 60 = .ok (.lload_n 1, 1) := by decide +kernel
theorem dX5_digest_61 : decode cX5_digest 61 = .ok (.invokevirtual 202, 3) := by decide +kernel
theorem dX5_digest_64 : decode cX5_digest 64 = .ok (.lstore_n 1, 1) := by decide +kernel
theorem dX5_digest_65 : decode cX5_digest 65 = .ok (.aload_n 0, 1) := by decide +kernel
theorem dX5_digest_66 : decode cX5_digest 66 = .ok (.lload_n 1, 1) := by decide +kernel
theorem dX5_digest_67 : decode cX5_digest 67 = .ok (.invokevirtual 206, 3) := by decide +kernel
theorem dX5_digest_70 : decode cX5_digest 70 = .ok (.lstore_n 1, 1) := by decide +kernel
theorem dX5_digest_71 : decode cX5_digest 71 = .ok (.iconst 0, 1) := by decide +kernel
theorem dX5_digest_72 : decode cX5_digest 72 = .ok (.istore_n 3, 1) := by decide +kernel
theorem dX5_digest_73 : decode cX5_digest 73 = .ok (.iload_n 3, 1) := by decide +kernel
theorem dX5_digest_74 : decode cX5_digest 74 = .ok (.iconst 2, 1) := by decide +kernel
theorem dX5_digest_75 : decode cX5_digest 75 = .ok (.if_icmp .ge 21, 3) := by decide +kernel
theorem dX5_digest_78 : decode cX5_digest 78 = .ok (.ldc2_w 197, 3) := by decide +kernel
theorem dX5_digest_81 : decode cX5_digest 81 = .ok (.lload_n 1, 1) := by decide +kernel
theorem dX5_digest_82 : decode cX5_digest 82 = .ok (.lmul, 1) := by decide +kernel
theorem dX5_digest_83 : decode cX5_digest 83 = .ok (.aload_n 0, 1) := by decide +kernel
theorem dX5_digest_84 : decode cX5_digest 84 = .ok (.iload_n 3, 1) := by decide +kernel
theorem dX5_digest_85 : decode cX5_digest 85 = .ok (.invokevirtual 148, 3) := by decide +kernel
theorem dX5_digest_88 : decode cX5_digest 88 = .ok (.ladd, 1) := by decide +kernel
theorem dX5_digest_89 : decode cX5_digest 89 = .ok (.lstore_n 1, 1) := by decide +kernel
theorem dX5_digest_90 : decode cX5_digest 90 = .ok (.iinc 3 1, 3) := by decide +kernel
theorem dX5_digest_93 : decode cX5_digest 93 = .ok (.goto (-20), 3) := by decide +kernel
theorem dX5_digest_96 : decode cX5_digest 96 = .ok (.lload_n 1, 1) := by decide +kernel
theorem dX5_digest_97 : decode cX5_digest 97 = .ok (.lreturn, 1) := by decide +kernel
theorem dX5_digestsFigures_0 : decode cX5_digestsFigures 0 = .ok (.lload_n 1, 1) := by decide +kernel
theorem dX5_digestsFigures_1 : decode cX5_digestsFigures 1 = .ok (.lstore_n 3, 1) := by decide +kernel
theorem dX5_digestsFigures_2 : decode cX5_digestsFigures 2 = .ok (.iconst 0, 1) := by decide +kernel
theorem dX5_digestsFigures_3 : decode cX5_digestsFigures 3 = .ok (.istore 5, 2) := by decide +kernel
theorem dX5_digestsFigures_5 : decode cX5_digestsFigures 5 = .ok (.iload 5, 2) := by decide +kernel
theorem dX5_digestsFigures_7 : decode cX5_digestsFigures 7 = .ok (.aload_n 0, 1) := by decide +kernel
theorem dX5_digestsFigures_8 : decode cX5_digestsFigures 8 = .ok (.getfield 12, 3) := by decide +kernel
theorem dX5_digestsFigures_11 : decode cX5_digestsFigures 11 = .ok (.getfield 124, 3) := by decide +kernel
theorem dX5_digestsFigures_14 : decode cX5_digestsFigures 14 = .ok (.if_icmp .ge 60, 3) := by decide +kernel
theorem dX5_digestsFigures_17 : decode cX5_digestsFigures 17 = .ok (.iconst 0, 1) := by decide +kernel
theorem dX5_digestsFigures_18 : decode cX5_digestsFigures 18 = .ok (.istore 6, 2) := by decide +kernel
theorem dX5_digestsFigures_20 : decode cX5_digestsFigures 20 = .ok (.iload 6, 2) := by decide +kernel
theorem dX5_digestsFigures_22 : decode cX5_digestsFigures 22 = .ok (.iconst 3, 1) := by decide +kernel
theorem dX5_digestsFigures_23 : decode cX5_digestsFigures 23 = .ok (.if_icmp .gt 28, 3) := by decide +kernel
theorem dX5_digestsFigures_26 : decode cX5_digestsFigures 26 = .ok (.ldc2_w 197, 3) := by decide +kernel
theorem dX5_digestsFigures_29 : decode cX5_digestsFigures 29 = .ok (.lload_n 3, 1) := by decide +kernel
theorem dX5_digestsFigures_30 : decode cX5_digestsFigures 30 = .ok (.lmul, 1) := by decide +kernel
theorem dX5_digestsFigures_31 : decode cX5_digestsFigures 31 = .ok (.aload_n 0, 1) := by decide +kernel
theorem dX5_digestsFigures_32 : decode cX5_digestsFigures 32 = .ok (.getfield 12, 3) := by decide +kernel
theorem dX5_digestsFigures_35 : decode cX5_digestsFigures 35 = .ok (.iload 5, 2) := by decide +kernel
theorem dX5_digestsFigures_37 : decode cX5_digestsFigures 37 = .ok (.iload 6, 2) := by decide +kernel
theorem dX5_digestsFigures_39 : decode cX5_digestsFigures 39 = .ok (.invokevirtual 92, 3) := by decide +kernel
theorem dX5_digestsFigures_42 : decode cX5_digestsFigures 42 = .ok (.i2l, 1) := by decide +kernel
theorem dX5_digestsFigures_43 : decode cX5_digestsFigures 43 = .ok (.ladd, 1) := by decide +kernel
theorem dX5_digestsFigures_44 : decode cX5_digestsFigures 44 = .ok (.lstore_n 3, 1) := by decide +kernel
theorem dX5_digestsFigures_45 : decode cX5_digestsFigures 45 = .ok (.iinc 6 1, 3) := by decide +kernel
theorem dX5_digestsFigures_48 : decode cX5_digestsFigures 48 = .ok (.goto (-28), 3) := by decide +kernel
theorem dX5_digestsFigures_51 : decode cX5_digestsFigures 51 = .ok (.ldc2_w 197, 3) := by decide +kernel
theorem dX5_digestsFigures_54 : decode cX5_digestsFigures 54 = .ok (.lload_n 3, 1) := by decide +kernel
theorem dX5_digestsFigures_55 : decode cX5_digestsFigures 55 = .ok (.lmul, 1) := by decide +kernel
theorem dX5_digestsFigures_56 : decode cX5_digestsFigures 56 = .ok (.aload_n 0, 1) := by decide +kernel
theorem dX5_digestsFigures_57 : decode cX5_digestsFigures 57 = .ok (.getfield 12, 3) := by decide +kernel
theorem dX5_digestsFigures_60 : decode cX5_digestsFigures 60 = .ok (.iload 5, 2) := by decide +kernel
theorem dX5_digestsFigures_62 : decode cX5_digestsFigures 62 = .ok (.invokevirtual 145, 3) := by decide +kernel
theorem dX5_digestsFigures_65 : decode cX5_digestsFigures 65 = .ok (.i2l, 1) := by decide +kernel
theorem dX5_digestsFigures_66 : decode cX5_digestsFigures 66 = .ok (.ladd, 1) := by decide +kernel
theorem dX5_digestsFigures_67 : decode cX5_digestsFigures 67 = .ok (.lstore_n 3, 1) := by decide +kernel
theorem dX5_digestsFigures_68 : decode cX5_digestsFigures 68 = .ok (.iinc 5 1, 3) := by decide +kernel
theorem dX5_digestsFigures_71 : decode cX5_digestsFigures 71 = .ok (.goto (-66), 3) := by decide +kernel
theorem dX5_digestsFigures_74 : decode cX5_digestsFigures 74 = .ok (.iconst 0, 1) := by decide +kernel
theorem dX5_digestsFigures_75 : decode cX5_digestsFigures 75 = .ok (.istore 5, 2) := by decide +kernel
theorem dX5_digestsFigures_77 : decode cX5_digestsFigures 77 = .ok (.iload 5, 2) := by decide +kernel
theorem dX5_digestsFigures_79 : decode cX5_digestsFigures 79 = .ok (.iconst 3, 1) := by decide +kernel
theorem dX5_digestsFigures_80 : decode cX5_digestsFigures 80 = .ok (.if_icmp .ge 43, 3) := by decide +kernel
theorem dX5_digestsFigures_83 : decode cX5_digestsFigures 83 = .ok (.iconst 0, 1) := by decide +kernel
theorem dX5_digestsFigures_84 : decode cX5_digestsFigures 84 = .ok (.istore 6, 2) := by decide +kernel
theorem dX5_digestsFigures_86 : decode cX5_digestsFigures 86 = .ok (.iload 6, 2) := by decide +kernel
theorem dX5_digestsFigures_88 : decode cX5_digestsFigures 88 = .ok (.iconst 2, 1) := by decide +kernel
theorem dX5_digestsFigures_89 : decode cX5_digestsFigures 89 = .ok (.if_icmp .gt 28, 3) := by decide +kernel
theorem dX5_digestsFigures_92 : decode cX5_digestsFigures 92 = .ok (.ldc2_w 197, 3) := by decide +kernel
theorem dX5_digestsFigures_95 : decode cX5_digestsFigures 95 = .ok (.lload_n 3, 1) := by decide +kernel
theorem dX5_digestsFigures_96 : decode cX5_digestsFigures 96 = .ok (.lmul, 1) := by decide +kernel
theorem dX5_digestsFigures_97 : decode cX5_digestsFigures 97 = .ok (.aload_n 0, 1) := by decide +kernel
theorem dX5_digestsFigures_98 : decode cX5_digestsFigures 98 = .ok (.getfield 12, 3) := by decide +kernel
theorem dX5_digestsFigures_101 : decode cX5_digestsFigures 101 = .ok (.iload 5, 2) := by decide +kernel
theorem dX5_digestsFigures_103 : decode cX5_digestsFigures 103 = .ok (.iload 6, 2) := by decide +kernel
theorem dX5_digestsFigures_105 : decode cX5_digestsFigures 105 = .ok (.invokevirtual 98, 3) := by decide +kernel
theorem dX5_digestsFigures_108 : decode cX5_digestsFigures 108 = .ok (.i2l, 1) := by decide +kernel
theorem dX5_digestsFigures_109 : decode cX5_digestsFigures 109 = .ok (.ladd, 1) := by decide +kernel
theorem dX5_digestsFigures_110 : decode cX5_digestsFigures 110 = .ok (.lstore_n 3, 1) := by decide +kernel
theorem dX5_digestsFigures_111 : decode cX5_digestsFigures 111 = .ok (.iinc 6 1, 3) := by decide +kernel
theorem dX5_digestsFigures_114 : decode cX5_digestsFigures 114 = .ok (.goto (-28), 3) := by decide +kernel
theorem dX5_digestsFigures_117 : decode cX5_digestsFigures 117 = .ok (.iinc 5 1, 3) := by decide +kernel
theorem dX5_digestsFigures_120 : decode cX5_digestsFigures 120 = .ok (.goto (-43), 3) := by decide +kernel
theorem dX5_digestsFigures_123 : decode cX5_digestsFigures 123 = .ok (.lload_n 3, 1) := by decide +kernel
theorem dX5_digestsFigures_124 : decode cX5_digestsFigures 124 = .ok (.lreturn, 1) := by decide +kernel
theorem dX5_digestsBent_0 : decode cX5_digestsBent 0 = .ok (.aload_n 0, 1) := by decide +kernel
theorem dX5_digestsBent_1 : decode cX5_digestsBent 1 = .ok (.getfield 19, 3) := by decide +kernel
theorem dX5_digestsBent_4 : decode cX5_digestsBent 4 = .ok (.aload_n 0, 1) := by decide +kernel
theorem dX5_digestsBent_5 : decode cX5_digestsBent 5 = .ok (.getfield 12, 3) := by decide +kernel
theorem dX5_digestsBent_8 : decode cX5_digestsBent 8 = .ok (.invokevirtual 104, 3) := by decide +kernel
theorem dX5_digestsBent_11 : decode cX5_digestsBent 11 = .ok (.ifCond .ne 9, 3) := by decide +kernel
theorem dX5_digestsBent_14 : decode cX5_digestsBent 14 = .ok (.ldc2_w 197, 3) := by decide +kernel
theorem dX5_digestsBent_17 : decode cX5_digestsBent 17 = .ok (.lload_n 1, 1) := by decide +kernel
theorem dX5_digestsBent_18 : decode cX5_digestsBent 18 = .ok (.lmul, 1) := by decide +kernel
theorem dX5_digestsBent_19 : decode cX5_digestsBent 19 = .ok (.lreturn, 1) := by decide +kernel
theorem dX5_digestsBent_20 : decode cX5_digestsBent 20 = .ok (.ldc2_w 197, 3) := by decide +kernel
theorem dX5_digestsBent_23 : decode cX5_digestsBent 23 = .ok (.lload_n 1, 1) := by decide +kernel
theorem dX5_digestsBent_24 : decode cX5_digestsBent 24 = .ok (.lmul, 1) := by decide +kernel
theorem dX5_digestsBent_25 : decode cX5_digestsBent 25 = .ok (.lconst 1, 1) := by decide +kernel
theorem dX5_digestsBent_26 : decode cX5_digestsBent 26 = .ok (.ladd, 1) := by decide +kernel
theorem dX5_digestsBent_27 : decode cX5_digestsBent 27 = .ok (.lstore_n 3, 1) := by decide +kernel
theorem dX5_digestsBent_28 : decode cX5_digestsBent 28 = .ok (.iconst 0, 1) := by decide +kernel
theorem dX5_digestsBent_29 : decode cX5_digestsBent 29 = .ok (.istore 5, 2) := by decide +kernel
theorem dX5_digestsBent_31 : decode cX5_digestsBent 31 = .ok (.iload 5, 2) := by decide +kernel
theorem dX5_digestsBent_33 : decode cX5_digestsBent 33 = .ok (.aload_n 0, 1) := by decide +kernel
theorem dX5_digestsBent_34 : decode cX5_digestsBent 34 = .ok (.getfield 12, 3) := by decide +kernel
theorem dX5_digestsBent_37 : decode cX5_digestsBent 37 = .ok (.getfield 124, 3) := by decide +kernel
theorem dX5_digestsBent_40 : decode cX5_digestsBent 40 = .ok (.if_icmp .ge 31, 3) := by decide +kernel
theorem dX5_digestsBent_43 : decode cX5_digestsBent 43 = .ok (.ldc2_w 197, 3) := by decide +kernel
theorem dX5_digestsBent_46 : decode cX5_digestsBent 46 = .ok (.lload_n 3, 1) := by decide +kernel
theorem dX5_digestsBent_47 : decode cX5_digestsBent 47 = .ok (.lmul, 1) := by decide +kernel
theorem dX5_digestsBent_48 : decode cX5_digestsBent 48 = .ok (.aload_n 0, 1) := by decide +kernel
theorem dX5_digestsBent_49 : decode cX5_digestsBent 49 = .ok (.getfield 19, 3) := by decide +kernel
theorem dX5_digestsBent_52 : decode cX5_digestsBent 52 = .ok (.getfield 108, 3) := by decide +kernel
theorem dX5_digestsBent_55 : decode cX5_digestsBent 55 = .ok (.iload 5, 2) := by decide +kernel
theorem dX5_digestsBent_57 : decode cX5_digestsBent 57 = .ok (.iaload, 1) := by decide +kernel
theorem dX5_digestsBent_58 : decode cX5_digestsBent 58 = .ok (.i2l, 1) := by decide +kernel
theorem dX5_digestsBent_59 : decode cX5_digestsBent 59 = .ok (.ladd, 1) := by decide +kernel
theorem dX5_digestsBent_60 : decode cX5_digestsBent 60 = .ok (.ldc2_w 209, 3) := by decide +kernel
theorem dX5_digestsBent_63 : decode cX5_digestsBent 63 = .ok (.ladd, 1) := by decide +kernel
theorem dX5_digestsBent_64 : decode cX5_digestsBent 64 = .ok (.lstore_n 3, 1) := by decide +kernel
theorem dX5_digestsBent_65 : decode cX5_digestsBent 65 = .ok (.iinc 5 1, 3) := by decide +kernel
theorem dX5_digestsBent_68 : decode cX5_digestsBent 68 = .ok (.goto (-37), 3) := by decide +kernel
theorem dX5_digestsBent_71 : decode cX5_digestsBent 71 = .ok (.iconst 0, 1) := by decide +kernel
theorem dX5_digestsBent_72 : decode cX5_digestsBent 72 = .ok (.istore 5, 2) := by decide +kernel
theorem dX5_digestsBent_74 : decode cX5_digestsBent 74 = .ok (.iload 5, 2) := by decide +kernel
theorem dX5_digestsBent_76 : decode cX5_digestsBent 76 = .ok (.iconst 2, 1) := by decide +kernel
theorem dX5_digestsBent_77 : decode cX5_digestsBent 77 = .ok (.if_icmp .ge 32, 3) := by decide +kernel
theorem dX5_digestsBent_80 : decode cX5_digestsBent 80 = .ok (.ldc2_w 197, 3) := by decide +kernel
theorem dX5_digestsBent_83 : decode cX5_digestsBent 83 = .ok (.lload_n 3, 1) := by decide +kernel
theorem dX5_digestsBent_84 : decode cX5_digestsBent 84 = .ok (.lmul, 1) := by decide +kernel
theorem dX5_digestsBent_85 : decode cX5_digestsBent 85 = .ok (.aload_n 0, 1) := by decide +kernel
theorem dX5_digestsBent_86 : decode cX5_digestsBent 86 = .ok (.getfield 12, 3) := by decide +kernel
theorem dX5_digestsBent_89 : decode cX5_digestsBent 89 = .ok (.aload_n 0, 1) := by decide +kernel
theorem dX5_digestsBent_90 : decode cX5_digestsBent 90 = .ok (.getfield 19, 3) := by decide +kernel
theorem dX5_digestsBent_93 : decode cX5_digestsBent 93 = .ok (.getfield 108, 3) := by decide +kernel
theorem dX5_digestsBent_96 : decode cX5_digestsBent 96 = .ok (.iload 5, 2) := by decide +kernel
theorem dX5_digestsBent_98 : decode cX5_digestsBent 98 = .ok (.invokevirtual 114, 3) := by decide +kernel
theorem dX5_digestsBent_101 : decode cX5_digestsBent 101 = .ok (.ladd, 1) := by decide +kernel
theorem dX5_digestsBent_102 : decode cX5_digestsBent 102 = .ok (.lstore_n 3, 1) := by decide +kernel
theorem dX5_digestsBent_103 : decode cX5_digestsBent 103 = .ok (.iinc 5 1, 3) := by decide +kernel
theorem dX5_digestsBent_106 : decode cX5_digestsBent 106 = .ok (.goto (-32), 3) := by decide +kernel
theorem dX5_digestsBent_109 : decode cX5_digestsBent 109 = .ok (.lload_n 3, 1) := by decide +kernel
theorem dX5_digestsBent_110 : decode cX5_digestsBent 110 = .ok (.lreturn, 1) := by decide +kernel
theorem dX5_prints_0 : decode cX5_prints 0 = .ok (.aload_n 0, 1) := by decide +kernel
theorem dX5_prints_1 : decode cX5_prints 1 = .ok (.getfield 19, 3) := by decide +kernel
theorem dX5_prints_4 : decode cX5_prints 4 = .ok (.aload_n 0, 1) := by decide +kernel
theorem dX5_prints_5 : decode cX5_prints 5 = .ok (.getfield 12, 3) := by decide +kernel
theorem dX5_prints_8 : decode cX5_prints 8 = .ok (.invokevirtual 104, 3) := by decide +kernel
theorem dX5_prints_11 : decode cX5_prints 11 = .ok (.ifCond .ne 6, 3) := by decide +kernel
theorem dX5_prints_14 : decode cX5_prints 14 = .ok (.bipush (-3), 2) := by decide +kernel
theorem dX5_prints_16 : decode cX5_prints 16 = .ok (.ireturn, 1) := by decide +kernel
theorem dX5_prints_17 : decode cX5_prints 17 = .ok (.iconst 0, 1) := by decide +kernel
theorem dX5_prints_18 : decode cX5_prints 18 = .ok (.istore_n 1, 1) := by decide +kernel
theorem dX5_prints_19 : decode cX5_prints 19 = .ok (.iload_n 1, 1) := by decide +kernel
theorem dX5_prints_20 : decode cX5_prints 20 = .ok (.aload_n 0, 1) := by decide +kernel
theorem dX5_prints_21 : decode cX5_prints 21 = .ok (.getfield 12, 3) := by decide +kernel
theorem dX5_prints_24 : decode cX5_prints 24 = .ok (.getfield 124, 3) := by decide +kernel
theorem dX5_prints_27 : decode cX5_prints 27 = .ok (.if_icmp .ge 30, 3) := by decide +kernel
theorem dX5_prints_30 : decode cX5_prints 30 = .ok (.aload_n 0, 1) := by decide +kernel
theorem dX5_prints_31 : decode cX5_prints 31 = .ok (.getfield 12, 3) := by decide +kernel
theorem dX5_prints_34 : decode cX5_prints 34 = .ok (.getfield 211, 3) := by decide +kernel
theorem dX5_prints_37 : decode cX5_prints 37 = .ok (.iload_n 1, 1) := by decide +kernel
theorem dX5_prints_38 : decode cX5_prints 38 = .ok (.aload_n 0, 1) := by decide +kernel
theorem dX5_prints_39 : decode cX5_prints 39 = .ok (.getfield 19, 3) := by decide +kernel
theorem dX5_prints_42 : decode cX5_prints 42 = .ok (.getfield 108, 3) := by decide +kernel
theorem dX5_prints_45 : decode cX5_prints 45 = .ok (.iload_n 1, 1) := by decide +kernel
theorem dX5_prints_46 : decode cX5_prints 46 = .ok (.iaload, 1) := by decide +kernel
theorem dX5_prints_47 : decode cX5_prints 47 = .ok (.bipush 8, 2) := by decide +kernel
theorem dX5_prints_49 : decode cX5_prints 49 = .ok (.iadd, 1) := by decide +kernel
theorem dX5_prints_50 : decode cX5_prints 50 = .ok (.iastore, 1) := by decide +kernel
theorem dX5_prints_51 : decode cX5_prints 51 = .ok (.iinc 1 1, 3) := by decide +kernel
theorem dX5_prints_54 : decode cX5_prints 54 = .ok (.goto (-35), 3) := by decide +kernel
theorem dX5_prints_57 : decode cX5_prints 57 = .ok (.aload_n 0, 1) := by decide +kernel
theorem dX5_prints_58 : decode cX5_prints 58 = .ok (.getfield 12, 3) := by decide +kernel
theorem dX5_prints_61 : decode cX5_prints 61 = .ok (.getfield 124, 3) := by decide +kernel
theorem dX5_prints_64 : decode cX5_prints 64 = .ok (.ireturn, 1) := by decide +kernel
theorem dX5_revision_0 : decode cX5_revision 0 = .ok (.aload_n 0, 1) := by decide +kernel
theorem dX5_revision_1 : decode cX5_revision 1 = .ok (.getfield 19, 3) := by decide +kernel
theorem dX5_revision_4 : decode cX5_revision 4 = .ok (.getfield 108, 3) := by decide +kernel
theorem dX5_revision_7 : decode cX5_revision 7 = .ok (.iload_n 1, 1) := by decide +kernel
theorem dX5_revision_8 : decode cX5_revision 8 = .ok (.iaload, 1) := by decide +kernel
theorem dX5_revision_9 : decode cX5_revision 9 = .ok (.bipush 8, 2) := by decide +kernel
theorem dX5_revision_11 : decode cX5_revision 11 = .ok (.iadd, 1) := by decide +kernel
theorem dX5_revision_12 : decode cX5_revision 12 = .ok (.aload_n 0, 1) := by decide +kernel
theorem dX5_revision_13 : decode cX5_revision 13 = .ok (.getfield 12, 3) := by decide +kernel
theorem dX5_revision_16 : decode cX5_revision 16 = .ok (.getfield 211, 3) := by decide +kernel
theorem dX5_revision_19 : decode cX5_revision 19 = .ok (.iload_n 1, 1) := by decide +kernel
theorem dX5_revision_20 : decode cX5_revision 20 = .ok (.iaload, 1) := by decide +kernel
theorem dX5_revision_21 : decode cX5_revision 21 = .ok (.isub, 1) := by decide +kernel
theorem dX5_revision_22 : decode cX5_revision 22 = .ok (.invokestatic 214, 3) := by decide +kernel
theorem dX5_revision_25 : decode cX5_revision 25 = .ok (.ireturn, 1) := by decide +kernel
theorem dX5_shareMovement_0 : decode cX5_shareMovement 0 = .ok (.iconst 0, 1) := by decide +kernel
theorem dX5_shareMovement_1 : decode cX5_shareMovement 1 = .ok (.istore_n 2, 1) := by decide +kernel
theorem dX5_shareMovement_2 : decode cX5_shareMovement 2 = .ok (.iload_n 2, 1) := by decide +kernel
theorem dX5_shareMovement_3 : decode cX5_shareMovement 3 = .ok (.aload_n 0, 1) := by decide +kernel
theorem dX5_shareMovement_4 : decode cX5_shareMovement 4 = .ok (.getfield 12, 3) := by decide +kernel
theorem dX5_shareMovement_7 : decode cX5_shareMovement 7 = .ok (.getfield 124, 3) := by decide +kernel
theorem dX5_shareMovement_10 : decode cX5_shareMovement 10 = .ok (.if_icmp .ge 23, 3) := by decide +kernel
theorem dX5_shareMovement_13 : decode cX5_shareMovement 13 = .ok (.aload_n 0, 1) := by decide +kernel
theorem dX5_shareMovement_14 : decode cX5_shareMovement 14 = .ok (.getfield 41, 3) := by decide +kernel
theorem dX5_shareMovement_17 : decode cX5_shareMovement 17 = .ok (.iload_n 2, 1) := by decide +kernel
theorem dX5_shareMovement_18 : decode cX5_shareMovement 18 = .ok (.aload_n 0, 1) := by decide +kernel
theorem dX5_shareMovement_19 : decode cX5_shareMovement 19 = .ok (.getfield 12, 3) := by decide +kernel
theorem dX5_shareMovement_22 : decode cX5_shareMovement 22 = .ok (.iload_n 2, 1) := by decide +kernel
theorem dX5_shareMovement_23 : decode cX5_shareMovement 23 = .ok (.invokevirtual 145, 3) := by decide +kernel
theorem dX5_shareMovement_26 : decode cX5_shareMovement 26 = .ok (.iastore, 1) := by decide +kernel
theorem dX5_shareMovement_27 : decode cX5_shareMovement 27 = .ok (.iinc 2 1, 3) := by decide +kernel
theorem dX5_shareMovement_30 : decode cX5_shareMovement 30 = .ok (.goto (-28), 3) := by decide +kernel
theorem dX5_shareMovement_33 : decode cX5_shareMovement 33 = .ok (.aload_n 0, 1) := by decide +kernel
theorem dX5_shareMovement_34 : decode cX5_shareMovement 34 = .ok (.getfield 12, 3) := by decide +kernel
theorem dX5_shareMovement_37 : decode cX5_shareMovement 37 = .ok (.aload_n 0, 1) := by decide +kernel
theorem dX5_shareMovement_38 : decode cX5_shareMovement 38 = .ok (.getfield 41, 3) := by decide +kernel
theorem dX5_shareMovement_41 : decode cX5_shareMovement 41 = .ok (.iload_n 1, 1) := by decide +kernel
theorem dX5_shareMovement_42 : decode cX5_shareMovement 42 = .ok (.invokevirtual 114, 3) := by decide +kernel
theorem dX5_shareMovement_45 : decode cX5_shareMovement 45 = .ok (.lreturn, 1) := by decide +kernel
theorem dX5_obeys_0 : decode cX5_obeys 0 = .ok (.iload_n 1, 1) := by decide +kernel
theorem dX5_obeys_1 : decode cX5_obeys 1 = .ok (.tableswitch 169 102 122 #[155, 169, 169, 169, 169, 169, 137, 169, 118, 146, 164, 99, 169, 169, 108, 169, 169, 169, 169, 169, 127], 99) := by decide +kernel
theorem dX5_obeys_100 : decode cX5_obeys 100 = .ok (.aload_n 0, 1) := by decide +kernel
theorem dX5_obeys_101 : decode cX5_obeys 101 = .ok (.getfield 12, 3) := by decide +kernel
theorem dX5_obeys_104 : decode cX5_obeys 104 = .ok (.iload_n 2, 1) := by decide +kernel
theorem dX5_obeys_105 : decode cX5_obeys 105 = .ok (.invokevirtual 48, 3) := by decide +kernel
theorem dX5_obeys_108 : decode cX5_obeys 108 = .ok (.ireturn, 1) := by decide +kernel
theorem dX5_obeys_109 : decode cX5_obeys 109 = .ok (.aload_n 0, 1) := by decide +kernel
theorem dX5_obeys_110 : decode cX5_obeys 110 = .ok (.getfield 12, 3) := by decide +kernel
theorem dX5_obeys_113 : decode cX5_obeys 113 = .ok (.iload_n 2, 1) := by decide +kernel
theorem dX5_obeys_114 : decode cX5_obeys 114 = .ok (.iload_n 3, 1) := by decide +kernel
theorem dX5_obeys_115 : decode cX5_obeys 115 = .ok (.invokevirtual 59, 3) := by decide +kernel
theorem dX5_obeys_118 : decode cX5_obeys 118 = .ok (.ireturn, 1) := by decide +kernel
theorem dX5_obeys_119 : decode cX5_obeys 119 = .ok (.aload_n 0, 1) := by decide +kernel
theorem dX5_obeys_120 : decode cX5_obeys 120 = .ok (.getfield 12, 3) := by decide +kernel
theorem dX5_obeys_123 : decode cX5_obeys 123 = .ok (.iload_n 2, 1) := by decide +kernel
theorem dX5_obeys_124 : decode cX5_obeys 124 = .ok (.invokevirtual 62, 3) := by decide +kernel
theorem dX5_obeys_127 : decode cX5_obeys 127 = .ok (.ireturn, 1) := by decide +kernel
theorem dX5_obeys_128 : decode cX5_obeys 128 = .ok (.aload_n 0, 1) := by decide +kernel
theorem dX5_obeys_129 : decode cX5_obeys 129 = .ok (.getfield 12, 3) := by decide +kernel
theorem dX5_obeys_132 : decode cX5_obeys 132 = .ok (.iload_n 2, 1) := by decide +kernel
theorem dX5_obeys_133 : decode cX5_obeys 133 = .ok (.iload_n 3, 1) := by decide +kernel
theorem dX5_obeys_134 : decode cX5_obeys 134 = .ok (.invokevirtual 65, 3) := by decide +kernel
theorem dX5_obeys_137 : decode cX5_obeys 137 = .ok (.ireturn, 1) := by decide +kernel
theorem dX5_obeys_138 : decode cX5_obeys 138 = .ok (.aload_n 0, 1) := by decide +kernel
theorem dX5_obeys_139 : decode cX5_obeys 139 = .ok (.getfield 12, 3) := by decide +kernel
theorem dX5_obeys_142 : decode cX5_obeys 142 = .ok (.iload_n 2, 1) := by decide +kernel
theorem dX5_obeys_143 : decode cX5_obeys 143 = .ok (.invokevirtual 68, 3) := by decide +kernel
theorem dX5_obeys_146 : decode cX5_obeys 146 = .ok (.ireturn, 1) := by decide +kernel
theorem dX5_obeys_147 : decode cX5_obeys 147 = .ok (.aload_n 0, 1) := by decide +kernel
theorem dX5_obeys_148 : decode cX5_obeys 148 = .ok (.getfield 12, 3) := by decide +kernel
theorem dX5_obeys_151 : decode cX5_obeys 151 = .ok (.iconst (-1), 1) := by decide +kernel
theorem dX5_obeys_152 : decode cX5_obeys 152 = .ok (.invokevirtual 68, 3) := by decide +kernel
theorem dX5_obeys_155 : decode cX5_obeys 155 = .ok (.ireturn, 1) := by decide +kernel
theorem dX5_obeys_156 : decode cX5_obeys 156 = .ok (.aload_n 0, 1) := by decide +kernel
theorem dX5_obeys_157 : decode cX5_obeys 157 = .ok (.getfield 12, 3) := by decide +kernel
theorem dX5_obeys_160 : decode cX5_obeys 160 = .ok (.iload_n 2, 1) := by decide +kernel
theorem dX5_obeys_161 : decode cX5_obeys 161 = .ok (.invokevirtual 71, 3) := by decide +kernel
theorem dX5_obeys_164 : decode cX5_obeys 164 = .ok (.ireturn, 1) := by decide +kernel
theorem dX5_obeys_165 : decode cX5_obeys 165 = .ok (.aload_n 0, 1) := by decide +kernel
theorem dX5_obeys_166 : decode cX5_obeys 166 = .ok (.invokevirtual 74, 3) := by decide +kernel
theorem dX5_obeys_169 : decode cX5_obeys 169 = .ok (.ireturn, 1) := by decide +kernel
theorem dX5_obeys_170 : decode cX5_obeys 170 = .ok (.bipush (-2), 2) := by decide +kernel
theorem dX5_obeys_172 : decode cX5_obeys 172 = .ok (.ireturn, 1) := by decide +kernel
theorem dX5_settles_0 : decode cX5_settles 0 = .ok (.iload_n 1, 1) := by decide +kernel
theorem dX5_settles_1 : decode cX5_settles 1 = .ok (.invokestatic 177, 3) := by decide +kernel
theorem dX5_settles_4 : decode cX5_settles 4 = .ok (.ifCond .eq 9, 3) := by decide +kernel
theorem dX5_settles_7 : decode cX5_settles 7 = .ok (.aload_n 0, 1) := by decide +kernel
theorem dX5_settles_8 : decode cX5_settles 8 = .ok (.iload_n 1, 1) := by decide +kernel
theorem dX5_settles_9 : decode cX5_settles 9 = .ok (.invokevirtual 89, 3) := by decide +kernel
theorem dX5_settles_12 : decode cX5_settles 12 = .ok (.ireturn, 1) := by decide +kernel
theorem dX5_settles_13 : decode cX5_settles 13 = .ok (.aload_n 0, 1) := by decide +kernel
theorem dX5_settles_14 : decode cX5_settles 14 = .ok (.getfield 26, 3) := by decide +kernel
theorem dX5_settles_17 : decode cX5_settles 17 = .ok (.invokevirtual 186, 3) := by decide +kernel
theorem dX5_settles_20 : decode cX5_settles 20 = .ok (.aload_n 0, 1) := by decide +kernel
theorem dX5_settles_21 : decode cX5_settles 21 = .ok (.getfield 19, 3) := by decide +kernel
theorem dX5_settles_24 : decode cX5_settles 24 = .ok (.invokevirtual 180, 3) := by decide +kernel
theorem dX5_settles_27 : decode cX5_settles 27 = .ok (.iload_n 1, 1) := by decide +kernel
theorem dX5_settles_28 : decode cX5_settles 28 = .ok (.ireturn, 1) := by decide +kernel
theorem dX5_refuses_0 : decode cX5_refuses 0 = .ok (.bipush (-2), 2) := by decide +kernel
theorem dX5_refuses_2 : decode cX5_refuses 2 = .ok (.iload_n 1, 1) := by decide +kernel
theorem dX5_refuses_3 : decode cX5_refuses 3 = .ok (.isub, 1) := by decide +kernel
theorem dX5_refuses_4 : decode cX5_refuses 4 = .ok (.istore_n 2, 1) := by decide +kernel
theorem dX5_refuses_5 : decode cX5_refuses 5 = .ok (.iload_n 2, 1) := by decide +kernel
theorem dX5_refuses_6 : decode cX5_refuses 6 = .ok (.iconst 0, 1) := by decide +kernel
theorem dX5_refuses_7 : decode cX5_refuses 7 = .ok (.aload_n 0, 1) := by decide +kernel
theorem dX5_refuses_8 : decode cX5_refuses 8 = .ok (.getfield 37, 3) := by decide +kernel
theorem dX5_refuses_11 : decode cX5_refuses 11 = .ok (.arraylength, 1) := by decide +kernel
theorem dX5_refuses_12 : decode cX5_refuses 12 = .ok (.iconst 1, 1) := by decide +kernel
theorem dX5_refuses_13 : decode cX5_refuses 13 = .ok (.isub, 1) := by decide +kernel
theorem dX5_refuses_14 : decode cX5_refuses 14 = .ok (.invokestatic 85, 3) := by decide +kernel
theorem dX5_refuses_17 : decode cX5_refuses 17 = .ok (.ifCond .eq 13, 3) := by decide +kernel
theorem dX5_refuses_20 : decode cX5_refuses 20 = .ok (.aload_n 0, 1) := by decide +kernel
theorem dX5_refuses_21 : decode cX5_refuses 21 = .ok (.getfield 37, 3) := by decide +kernel
theorem dX5_refuses_24 : decode cX5_refuses 24 = .ok (.iload_n 2, 1) := by decide +kernel
theorem dX5_refuses_25 : decode cX5_refuses 25 = .ok (.dup2, 1) := by decide +kernel
theorem dX5_refuses_26 : decode cX5_refuses 26 = .ok (.iaload, 1) := by decide +kernel
theorem dX5_refuses_27 : decode cX5_refuses 27 = .ok (.iconst 1, 1) := by decide +kernel
theorem dX5_refuses_28 : decode cX5_refuses 28 = .ok (.iadd, 1) := by decide +kernel
theorem dX5_refuses_29 : decode cX5_refuses 29 = .ok (.iastore, 1) := by decide +kernel
theorem dX5_refuses_30 : decode cX5_refuses 30 = .ok (.iload_n 1, 1) := by decide +kernel
theorem dX5_refuses_31 : decode cX5_refuses 31 = .ok (.ireturn, 1) := by decide +kernel
theorem dX5_isRefusal_0 : decode cX5_isRefusal 0 = .ok (.iload_n 0, 1) := by decide +kernel
theorem dX5_isRefusal_1 : decode cX5_isRefusal 1 = .ok (.iconst (-1), 1) := by decide +kernel
theorem dX5_isRefusal_2 : decode cX5_isRefusal 2 = .ok (.if_icmp .ge 7, 3) := by decide +kernel
theorem dX5_isRefusal_5 : decode cX5_isRefusal 5 = .ok (.iconst 1, 1) := by decide +kernel
theorem dX5_isRefusal_6 : decode cX5_isRefusal 6 = .ok (.goto 4, 3) := by decide +kernel
theorem dX5_isRefusal_9 : decode cX5_isRefusal 9 = .ok (.iconst 0, 1) := by decide +kernel
theorem dX5_isRefusal_10 : decode cX5_isRefusal 10 = .ok (.ireturn, 1) := by decide +kernel
theorem dX5_within_0 : decode cX5_within 0 = .ok (.iload_n 0, 1) := by decide +kernel
theorem dX5_within_1 : decode cX5_within 1 = .ok (.iload_n 1, 1) := by decide +kernel
theorem dX5_within_2 : decode cX5_within 2 = .ok (.if_icmp .lt 12, 3) := by decide +kernel
theorem dX5_within_5 : decode cX5_within 5 = .ok (.iload_n 0, 1) := by decide +kernel
theorem dX5_within_6 : decode cX5_within 6 = .ok (.iload_n 2, 1) := by decide +kernel
theorem dX5_within_7 : decode cX5_within 7 = .ok (.if_icmp .gt 7, 3) := by decide +kernel
theorem dX5_within_10 : decode cX5_within 10 = .ok (.iconst 1, 1) := by decide +kernel
theorem dX5_within_11 : decode cX5_within 11 = .ok (.goto 4, 3) := by decide +kernel
theorem dX5_within_14 : decode cX5_within 14 = .ok (.iconst 0, 1) := by decide +kernel
theorem dX5_within_15 : decode cX5_within 15 = .ok (.ireturn, 1) := by decide +kernel
theorem dX5_isYear_0 : decode cX5_isYear 0 = .ok (.iload_n 0, 1) := by decide +kernel
theorem dX5_isYear_1 : decode cX5_isYear 1 = .ok (.iconst 0, 1) := by decide +kernel
theorem dX5_isYear_2 : decode cX5_isYear 2 = .ok (.iconst 2, 1) := by decide +kernel
theorem dX5_isYear_3 : decode cX5_isYear 3 = .ok (.invokestatic 85, 3) := by decide +kernel
theorem dX5_isYear_6 : decode cX5_isYear 6 = .ok (.ireturn, 1) := by decide +kernel
theorem dX5_isForm_0 : decode cX5_isForm 0 = .ok (.iload_n 0, 1) := by decide +kernel
theorem dX5_isForm_1 : decode cX5_isForm 1 = .ok (.iconst 0, 1) := by decide +kernel
theorem dX5_isForm_2 : decode cX5_isForm 2 = .ok (.iconst 1, 1) := by decide +kernel
theorem dX5_isForm_3 : decode cX5_isForm 3 = .ok (.invokestatic 85, 3) := by decide +kernel
theorem dX5_isForm_6 : decode cX5_isForm 6 = .ok (.ireturn, 1) := by decide +kernel
theorem dJ6_bitCount_0f7a4_0 : decode cJ6_bitCount_0f7a4 0 = .ok (.iload_n 0, 1) := by decide +kernel
theorem dJ6_bitCount_0f7a4_1 : decode cJ6_bitCount_0f7a4 1 = .ok (.iload_n 0, 1) := by decide +kernel
theorem dJ6_bitCount_0f7a4_2 : decode cJ6_bitCount_0f7a4 2 = .ok (.iconst 1, 1) := by decide +kernel
theorem dJ6_bitCount_0f7a4_3 : decode cJ6_bitCount_0f7a4 3 = .ok (.iushr, 1) := by decide +kernel
theorem dJ6_bitCount_0f7a4_4 : decode cJ6_bitCount_0f7a4 4 = .ok (.ldc_w 265, 3) := by decide +kernel
theorem dJ6_bitCount_0f7a4_7 : decode cJ6_bitCount_0f7a4 7 = .ok (.iand, 1) := by decide +kernel
theorem dJ6_bitCount_0f7a4_8 : decode cJ6_bitCount_0f7a4 8 = .ok (.isub, 1) := by decide +kernel
theorem dJ6_bitCount_0f7a4_9 : decode cJ6_bitCount_0f7a4 9 = .ok (.istore_n 0, 1) := by decide +kernel
theorem dJ6_bitCount_0f7a4_10 : decode cJ6_bitCount_0f7a4 10 = .ok (.iload_n 0, 1) := by decide +kernel
theorem dJ6_bitCount_0f7a4_11 : decode cJ6_bitCount_0f7a4 11 = .ok (.ldc_w 266, 3) := by decide +kernel
theorem dJ6_bitCount_0f7a4_14 : decode cJ6_bitCount_0f7a4 14 = .ok (.iand, 1) := by decide +kernel
theorem dJ6_bitCount_0f7a4_15 : decode cJ6_bitCount_0f7a4 15 = .ok (.iload_n 0, 1) := by decide +kernel
theorem dJ6_bitCount_0f7a4_16 : decode cJ6_bitCount_0f7a4 16 = .ok (.iconst 2, 1) := by decide +kernel
theorem dJ6_bitCount_0f7a4_17 : decode cJ6_bitCount_0f7a4 17 = .ok (.iushr, 1) := by decide +kernel
theorem dJ6_bitCount_0f7a4_18 : decode cJ6_bitCount_0f7a4 18 = .ok (.ldc_w 266, 3) := by decide +kernel
theorem dJ6_bitCount_0f7a4_21 : decode cJ6_bitCount_0f7a4 21 = .ok (.iand, 1) := by decide +kernel
theorem dJ6_bitCount_0f7a4_22 : decode cJ6_bitCount_0f7a4 22 = .ok (.iadd, 1) := by decide +kernel
theorem dJ6_bitCount_0f7a4_23 : decode cJ6_bitCount_0f7a4 23 = .ok (.istore_n 0, 1) := by decide +kernel
theorem dJ6_bitCount_0f7a4_24 : decode cJ6_bitCount_0f7a4 24 = .ok (.iload_n 0, 1) := by decide +kernel
theorem dJ6_bitCount_0f7a4_25 : decode cJ6_bitCount_0f7a4 25 = .ok (.iload_n 0, 1) := by decide +kernel
theorem dJ6_bitCount_0f7a4_26 : decode cJ6_bitCount_0f7a4 26 = .ok (.iconst 4, 1) := by decide +kernel
theorem dJ6_bitCount_0f7a4_27 : decode cJ6_bitCount_0f7a4 27 = .ok (.iushr, 1) := by decide +kernel
theorem dJ6_bitCount_0f7a4_28 : decode cJ6_bitCount_0f7a4 28 = .ok (.iadd, 1) := by decide +kernel
theorem dJ6_bitCount_0f7a4_29 : decode cJ6_bitCount_0f7a4 29 = .ok (.ldc_w 267, 3) := by decide +kernel
theorem dJ6_bitCount_0f7a4_32 : decode cJ6_bitCount_0f7a4 32 = .ok (.iand, 1) := by decide +kernel
theorem dJ6_bitCount_0f7a4_33 : decode cJ6_bitCount_0f7a4 33 = .ok (.istore_n 0, 1) := by decide +kernel
theorem dJ6_bitCount_0f7a4_34 : decode cJ6_bitCount_0f7a4 34 = .ok (.iload_n 0, 1) := by decide +kernel
theorem dJ6_bitCount_0f7a4_35 : decode cJ6_bitCount_0f7a4 35 = .ok (.iload_n 0, 1) := by decide +kernel
theorem dJ6_bitCount_0f7a4_36 : decode cJ6_bitCount_0f7a4 36 = .ok (.bipush 8, 2) := by decide +kernel
theorem dJ6_bitCount_0f7a4_38 : decode cJ6_bitCount_0f7a4 38 = .ok (.iushr, 1) := by decide +kernel
theorem dJ6_bitCount_0f7a4_39 : decode cJ6_bitCount_0f7a4 39 = .ok (.iadd, 1) := by decide +kernel
theorem dJ6_bitCount_0f7a4_40 : decode cJ6_bitCount_0f7a4 40 = .ok (.istore_n 0, 1) := by decide +kernel
theorem dJ6_bitCount_0f7a4_41 : decode cJ6_bitCount_0f7a4 41 = .ok (.iload_n 0, 1) := by decide +kernel
theorem dJ6_bitCount_0f7a4_42 : decode cJ6_bitCount_0f7a4 42 = .ok (.iload_n 0, 1) := by decide +kernel
theorem dJ6_bitCount_0f7a4_43 : decode cJ6_bitCount_0f7a4 43 = .ok (.bipush 16, 2) := by decide +kernel
theorem dJ6_bitCount_0f7a4_45 : decode cJ6_bitCount_0f7a4 45 = .ok (.iushr, 1) := by decide +kernel
theorem dJ6_bitCount_0f7a4_46 : decode cJ6_bitCount_0f7a4 46 = .ok (.iadd, 1) := by decide +kernel
theorem dJ6_bitCount_0f7a4_47 : decode cJ6_bitCount_0f7a4 47 = .ok (.istore_n 0, 1) := by decide +kernel
theorem dJ6_bitCount_0f7a4_48 : decode cJ6_bitCount_0f7a4 48 = .ok (.iload_n 0, 1) := by decide +kernel
theorem dJ6_bitCount_0f7a4_49 : decode cJ6_bitCount_0f7a4 49 = .ok (.bipush 63, 2) := by decide +kernel
theorem dJ6_bitCount_0f7a4_51 : decode cJ6_bitCount_0f7a4 51 = .ok (.iand, 1) := by decide +kernel
theorem dJ6_bitCount_0f7a4_52 : decode cJ6_bitCount_0f7a4 52 = .ok (.ireturn, 1) := by decide +kernel
theorem dJ9_abs_0f7a4_0 : decode cJ9_abs_0f7a4 0 = .ok (.iload_n 0, 1) := by decide +kernel
theorem dJ9_abs_0f7a4_1 : decode cJ9_abs_0f7a4 1 = .ok (.ifCond .ge 8, 3) := by decide +kernel
theorem dJ9_abs_0f7a4_4 : decode cJ9_abs_0f7a4 4 = .ok (.iload_n 0, 1) := by decide +kernel
theorem dJ9_abs_0f7a4_5 : decode cJ9_abs_0f7a4 5 = .ok (.ineg, 1) := by decide +kernel
theorem dJ9_abs_0f7a4_6 : decode cJ9_abs_0f7a4 6 = .ok (.goto 4, 3) := by decide +kernel
theorem dJ9_abs_0f7a4_9 : decode cJ9_abs_0f7a4 9 = .ok (.iload_n 0, 1) := by decide +kernel
theorem dJ9_abs_0f7a4_10 : decode cJ9_abs_0f7a4 10 = .ok (.ireturn, 1) := by decide +kernel
theorem dJ9_max_7cf53_0 : decode cJ9_max_7cf53 0 = .ok (.iload_n 0, 1) := by decide +kernel
theorem dJ9_max_7cf53_1 : decode cJ9_max_7cf53 1 = .ok (.iload_n 1, 1) := by decide +kernel
theorem dJ9_max_7cf53_2 : decode cJ9_max_7cf53 2 = .ok (.if_icmp .lt 7, 3) := by decide +kernel
theorem dJ9_max_7cf53_5 : decode cJ9_max_7cf53 5 = .ok (.iload_n 0, 1) := by decide +kernel
theorem dJ9_max_7cf53_6 : decode cJ9_max_7cf53 6 = .ok (.goto 4, 3) := by decide +kernel
theorem dJ9_max_7cf53_9 : decode cJ9_max_7cf53 9 = .ok (.iload_n 1, 1) := by decide +kernel
theorem dJ9_max_7cf53_10 : decode cJ9_max_7cf53 10 = .ok (.ireturn, 1) := by decide +kernel
theorem dJ9_min_7cf53_0 : decode cJ9_min_7cf53 0 = .ok (.iload_n 0, 1) := by decide +kernel
theorem dJ9_min_7cf53_1 : decode cJ9_min_7cf53 1 = .ok (.iload_n 1, 1) := by decide +kernel
theorem dJ9_min_7cf53_2 : decode cJ9_min_7cf53 2 = .ok (.if_icmp .gt 7, 3) := by decide +kernel
theorem dJ9_min_7cf53_5 : decode cJ9_min_7cf53 5 = .ok (.iload_n 0, 1) := by decide +kernel
theorem dJ9_min_7cf53_6 : decode cJ9_min_7cf53 6 = .ok (.goto 4, 3) := by decide +kernel
theorem dJ9_min_7cf53_9 : decode cJ9_min_7cf53 9 = .ok (.iload_n 1, 1) := by decide +kernel
theorem dJ9_min_7cf53_10 : decode cJ9_min_7cf53 10 = .ok (.ireturn, 1) := by decide +kernel
end
section
theorem dL_law_0 : decode cL_law 0 = .ok (.new 7, 3) := by decide +kernel
theorem dL_law_3 : decode cL_law 3 = .ok (.dup, 1) := by decide +kernel
theorem dL_law_4 : decode cL_law 4 = .ok (.invokespecial 9, 3) := by decide +kernel
theorem dL_law_7 : decode cL_law 7 = .ok (.astore_n 1, 1) := by decide +kernel
theorem dL_law_8 : decode cL_law 8 = .ok (.new 10, 3) := by decide +kernel
theorem dL_law_11 : decode cL_law 11 = .ok (.dup, 1) := by decide +kernel
theorem dL_law_12 : decode cL_law 12 = .ok (.invokespecial 12, 3) := by decide +kernel
theorem dL_law_15 : decode cL_law 15 = .ok (.astore_n 2, 1) := by decide +kernel
theorem dL_law_16 : decode cL_law 16 = .ok (.iconst 0, 1) := by decide +kernel
theorem dL_law_17 : decode cL_law 17 = .ok (.istore_n 3, 1) := by decide +kernel
theorem dL_law_18 : decode cL_law 18 = .ok (.iload_n 3, 1) := by decide +kernel
theorem dL_law_19 : decode cL_law 19 = .ok (.aload_n 0, 1) := by decide +kernel
theorem dL_law_20 : decode cL_law 20 = .ok (.arraylength, 1) := by decide +kernel
theorem dL_law_21 : decode cL_law 21 = .ok (.iconst 3, 1) := by decide +kernel
theorem dL_law_22 : decode cL_law 22 = .ok (.isub, 1) := by decide +kernel
theorem dL_law_23 : decode cL_law 23 = .ok (.if_icmp .gt 724, 3) := by decide +kernel
theorem dL_law_26 : decode cL_law 26 = .ok (.aload_n 0, 1) := by decide +kernel
theorem dL_law_27 : decode cL_law 27 = .ok (.iload_n 3, 1) := by decide +kernel
theorem dL_law_28 : decode cL_law 28 = .ok (.iaload, 1) := by decide +kernel
theorem dL_law_29 : decode cL_law 29 = .ok (.bipush 31, 2) := by decide +kernel
theorem dL_law_31 : decode cL_law 31 = .ok (.iand, 1) := by decide +kernel
theorem dL_law_32 : decode cL_law 32 = .ok (.tableswitch 709 0 26 #[124, 147, 180, 213, 236, 269, 292, 315, 328, 341, 374, 407, 430, 453, 477, 500, 513, 526, 550, 563, 586, 610, 633, 646, 659, 672, 695], 124) := by decide +kernel
theorem dL_law_156 : decode cL_law 156 = .ok (.aload_n 1, 1) := by decide +kernel
theorem dL_law_157 : decode cL_law 157 = .ok (.aload_n 0, 1) := by decide +kernel
theorem dL_law_158 : decode cL_law 158 = .ok (.iload_n 3, 1) := by decide +kernel
theorem dL_law_159 : decode cL_law 159 = .ok (.iconst 1, 1) := by decide +kernel
theorem dL_law_160 : decode cL_law 160 = .ok (.iadd, 1) := by decide +kernel
theorem dL_law_161 : decode cL_law 161 = .ok (.iaload, 1) := by decide +kernel
theorem dL_law_162 : decode cL_law 162 = .ok (.invokevirtual 13, 3) := by decide +kernel
theorem dL_law_165 : decode cL_law 165 = .ok (.aload_n 2, 1) := by decide +kernel
theorem dL_law_166 : decode cL_law 166 = .ok (.aload_n 0, 1) := by decide +kernel
theorem dL_law_167 : decode cL_law 167 = .ok (.iload_n 3, 1) := by decide +kernel
theorem dL_law_168 : decode cL_law 168 = .ok (.iconst 1, 1) := by decide +kernel
theorem dL_law_169 : decode cL_law 169 = .ok (.iadd, 1) := by decide +kernel
theorem dL_law_170 : decode cL_law 170 = .ok (.iaload, 1) := by decide +kernel
theorem dL_law_171 : decode cL_law 171 = .ok (.invokevirtual 17, 3) := by decide +kernel
theorem dL_law_174 : decode cL_law 174 = .ok (.if_icmp .eq 567, 3) := by decide +kernel
theorem dL_law_177 : decode cL_law 177 = .ok (.iconst 0, 1) := by decide +kernel
theorem dL_law_178 : decode cL_law 178 = .ok (.ireturn, 1) := by decide +kernel
theorem dL_law_179 : decode cL_law 179 = .ok (.aload_n 1, 1) := by decide +kernel
theorem dL_law_180 : decode cL_law 180 = .ok (.aload_n 0, 1) := by decide +kernel
theorem dL_law_181 : decode cL_law 181 = .ok (.iload_n 3, 1) := by decide +kernel
theorem dL_law_182 : decode cL_law 182 = .ok (.iconst 1, 1) := by decide +kernel
theorem dL_law_183 : decode cL_law 183 = .ok (.iadd, 1) := by decide +kernel
theorem dL_law_184 : decode cL_law 184 = .ok (.iaload, 1) := by decide +kernel
theorem dL_law_185 : decode cL_law 185 = .ok (.aload_n 0, 1) := by decide +kernel
theorem dL_law_186 : decode cL_law 186 = .ok (.iload_n 3, 1) := by decide +kernel
theorem dL_law_187 : decode cL_law 187 = .ok (.iconst 2, 1) := by decide +kernel
theorem dL_law_188 : decode cL_law 188 = .ok (.iadd, 1) := by decide +kernel
theorem dL_law_189 : decode cL_law 189 = .ok (.iaload, 1) := by decide +kernel
theorem dL_law_190 : decode cL_law 190 = .ok (.invokevirtual 18, 3) := by decide +kernel
theorem dL_law_193 : decode cL_law 193 = .ok (.aload_n 2, 1) := by decide +kernel
theorem dL_law_194 : decode cL_law 194 = .ok (.aload_n 0, 1) := by decide +kernel
theorem dL_law_195 : decode cL_law 195 = .ok (.iload_n 3, 1) := by decide +kernel
theorem dL_law_196 : decode cL_law 196 = .ok (.iconst 1, 1) := by decide +kernel
theorem dL_law_197 : decode cL_law 197 = .ok (.iadd, 1) := by decide +kernel
theorem dL_law_198 : decode cL_law 198 = .ok (.iaload, 1) := by decide +kernel
theorem dL_law_199 : decode cL_law 199 = .ok (.aload_n 0, 1) := by decide +kernel
theorem dL_law_200 : decode cL_law 200 = .ok (.iload_n 3, 1) := by decide +kernel
theorem dL_law_201 : decode cL_law 201 = .ok (.iconst 2, 1) := by decide +kernel
theorem dL_law_202 : decode cL_law 202 = .ok (.iadd, 1) := by decide +kernel
theorem dL_law_203 : decode cL_law 203 = .ok (.iaload, 1) := by decide +kernel
theorem dL_law_204 : decode cL_law 204 = .ok (.invokevirtual 22, 3) := by decide +kernel
theorem dL_law_207 : decode cL_law 207 = .ok (.if_icmp .eq 534, 3) := by decide +kernel
theorem dL_law_210 : decode cL_law 210 = .ok (.iconst 0, 1) := by decide +kernel
theorem dL_law_211 : decode cL_law 211 = .ok (.ireturn, 1) := by decide +kernel
theorem dL_law_212 : decode cL_law 212 = .ok (.aload_n 1, 1) := by decide +kernel
theorem dL_law_213 : decode cL_law 213 = .ok (.aload_n 0, 1) := by decide +kernel
theorem dL_law_214 : decode cL_law 214 = .ok (.iload_n 3, 1) := by decide +kernel
theorem dL_law_215 : decode cL_law 215 = .ok (.iconst 1, 1) := by decide +kernel
theorem dL_law_216 : decode cL_law 216 = .ok (.iadd, 1) := by decide +kernel
theorem dL_law_217 : decode cL_law 217 = .ok (.iaload, 1) := by decide +kernel
theorem dL_law_218 : decode cL_law 218 = .ok (.aload_n 0, 1) := by decide +kernel
theorem dL_law_219 : decode cL_law 219 = .ok (.iload_n 3, 1) := by decide +kernel
theorem dL_law_220 : decode cL_law 220 = .ok (.iconst 2, 1) := by decide +kernel
theorem dL_law_221 : decode cL_law 221 = .ok (.iadd, 1) := by decide +kernel
theorem dL_law_222 : decode cL_law 222 = .ok (.iaload, 1) := by decide +kernel
theorem dL_law_223 : decode cL_law 223 = .ok (.invokevirtual 23, 3) := by decide +kernel
theorem dL_law_226 : decode cL_law 226 = .ok (.aload_n 2, 1) := by decide +kernel
theorem dL_law_227 : decode cL_law 227 = .ok (.aload_n 0, 1) := by decide +kernel
theorem dL_law_228 : decode cL_law 228 = .ok (.iload_n 3, 1) := by decide +kernel
theorem dL_law_229 : decode cL_law 229 = .ok (.iconst 1, 1) := by decide +kernel
theorem dL_law_230 : decode cL_law 230 = .ok (.iadd, 1) := by decide +kernel
theorem dL_law_231 : decode cL_law 231 = .ok (.iaload, 1) := by decide +kernel
theorem dL_law_232 : decode cL_law 232 = .ok (.aload_n 0, 1) := by decide +kernel
theorem dL_law_233 : decode cL_law 233 = .ok (.iload_n 3, 1) := by decide +kernel
theorem dL_law_234 : decode cL_law 234 = .ok (.iconst 2, 1) := by decide +kernel
theorem dL_law_235 : decode cL_law 235 = .ok (.iadd, 1) := by decide +kernel
theorem dL_law_236 : decode cL_law 236 = .ok (.iaload, 1) := by decide +kernel
theorem dL_law_237 : decode cL_law 237 = .ok (.invokevirtual 26, 3) := by decide +kernel
theorem dL_law_240 : decode cL_law 240 = .ok (.if_icmp .eq 501, 3) := by decide +kernel
theorem dL_law_243 : decode cL_law 243 = .ok (.iconst 0, 1) := by decide +kernel
theorem dL_law_244 : decode cL_law 244 = .ok (.ireturn, 1) := by decide +kernel
theorem dL_law_245 : decode cL_law 245 = .ok (.aload_n 1, 1) := by decide +kernel
theorem dL_law_246 : decode cL_law 246 = .ok (.aload_n 0, 1) := by decide +kernel
theorem dL_law_247 : decode cL_law 247 = .ok (.iload_n 3, 1) := by decide +kernel
theorem dL_law_248 : decode cL_law 248 = .ok (.iconst 1, 1) := by decide +kernel
theorem dL_law_249 : decode cL_law 249 = .ok (.iadd, 1) := by decide +kernel
theorem dL_law_250 : decode cL_law 250 = .ok (.iaload, 1) := by decide +kernel
theorem dL_law_251 : decode cL_law 251 = .ok (.invokevirtual 27, 3) := by decide +kernel
theorem dL_law_254 : decode cL_law 254 = .ok (.aload_n 2, 1) := by decide +kernel
theorem dL_law_255 : decode cL_law 255 = .ok (.aload_n 0, 1) := by decide +kernel
theorem dL_law_256 : decode cL_law 256 = .ok (.iload_n 3, 1) := by decide +kernel
theorem dL_law_257 : decode cL_law 257 = .ok (.iconst 1, 1) := by decide +kernel
theorem dL_law_258 : decode cL_law 258 = .ok (.iadd, 1) := by decide +kernel
theorem dL_law_259 : decode cL_law 259 = .ok (.iaload, 1) := by decide +kernel
theorem dL_law_260 : decode cL_law 260 = .ok (.invokevirtual 30, 3) := by decide +kernel
theorem dL_law_263 : decode cL_law 263 = .ok (.if_icmp .eq 478, 3) := by decide +kernel
theorem dL_law_266 : decode cL_law 266 = .ok (.iconst 0, 1) := by decide +kernel
theorem dL_law_267 : decode cL_law 267 = .ok (.ireturn, 1) := by decide +kernel
theorem dL_law_268 : decode cL_law 268 = .ok (.aload_n 1, 1) := by decide +kernel
theorem dL_law_269 : decode cL_law 269 = .ok (.aload_n 0, 1) := by decide +kernel
theorem dL_law_270 : decode cL_law 270 = .ok (.iload_n 3, 1) := by decide +kernel
theorem dL_law_271 : decode cL_law 271 = .ok (.iconst 1, 1) := by decide +kernel
theorem dL_law_272 : decode cL_law 272 = .ok (.iadd, 1) := by decide +kernel
theorem dL_law_273 : decode cL_law 273 = .ok (.iaload, 1) := by decide +kernel
theorem dL_law_274 : decode cL_law 274 = .ok (.aload_n 0, 1) := by decide +kernel
theorem dL_law_275 : decode cL_law 275 = .ok (.iload_n 3, 1) := by decide +kernel
theorem dL_law_276 : decode cL_law 276 = .ok (.iconst 2, 1) := by decide +kernel
theorem dL_law_277 : decode cL_law 277 = .ok (.iadd, 1) := by decide +kernel
theorem dL_law_278 : decode cL_law 278 = .ok (.iaload, 1) := by decide +kernel
theorem dL_law_279 : decode cL_law 279 = .ok (.invokevirtual 31, 3) := by decide +kernel
theorem dL_law_282 : decode cL_law 282 = .ok (.aload_n 2, 1) := by decide +kernel
theorem dL_law_283 : decode cL_law 283 = .ok (.aload_n 0, 1) := by decide +kernel
theorem dL_law_284 : decode cL_law 284 = .ok (.iload_n 3, 1) := by decide +kernel
theorem dL_law_285 : decode cL_law 285 = .ok (.iconst 1, 1) := by decide +kernel
theorem dL_law_286 : decode cL_law 286 = .ok (.iadd, 1) := by decide +kernel
theorem dL_law_287 : decode cL_law 287 = .ok (.iaload, 1) := by decide +kernel
theorem dL_law_288 : decode cL_law 288 = .ok (.aload_n 0, 1) := by decide +kernel
theorem dL_law_289 : decode cL_law 289 = .ok (.iload_n 3, 1) := by decide +kernel
theorem dL_law_290 : decode cL_law 290 = .ok (.iconst 2, 1) := by decide +kernel
theorem dL_law_291 : decode cL_law 291 = .ok (.iadd, 1) := by decide +kernel
theorem dL_law_292 : decode cL_law 292 = .ok (.iaload, 1) := by decide +kernel
theorem dL_law_293 : decode cL_law 293 = .ok (.invokevirtual 34, 3) := by decide +kernel
theorem dL_law_296 : decode cL_law 296 = .ok (.if_icmp .eq 445, 3) := by decide +kernel
theorem dL_law_299 : decode cL_law 299 = .ok (.iconst 0, 1) := by decide +kernel
theorem dL_law_300 : decode cL_law 300 = .ok (.ireturn, 1) := by decide +kernel
theorem dL_law_301 : decode cL_law 301 = .ok (.aload_n 1, 1) := by decide +kernel
theorem dL_law_302 : decode cL_law 302 = .ok (.aload_n 0, 1) := by decide +kernel
theorem dL_law_303 : decode cL_law 303 = .ok (.iload_n 3, 1) := by decide +kernel
theorem dL_law_304 : decode cL_law 304 = .ok (.iconst 1, 1) := by decide +kernel
theorem dL_law_305 : decode cL_law 305 = .ok (.iadd, 1) := by decide +kernel
theorem dL_law_306 : decode cL_law 306 = .ok (.iaload, 1) := by decide +kernel
theorem dL_law_307 : decode cL_law 307 = .ok (.invokevirtual 35, 3) := by decide +kernel
theorem dL_law_310 : decode cL_law 310 = .ok (.aload_n 2, 1) := by decide +kernel
theorem dL_law_311 : decode cL_law 311 = .ok (.aload_n 0, 1) := by decide +kernel
theorem dL_law_312 : decode cL_law 312 = .ok (.iload_n 3, 1) := by decide +kernel
theorem dL_law_313 : decode cL_law 313 = .ok (.iconst 1, 1) := by decide +kernel
theorem dL_law_314 : decode cL_law 314 = .ok (.iadd, 1) := by decide +kernel
theorem dL_law_315 : decode cL_law 315 = .ok (.iaload, 1) := by decide +kernel
theorem dL_law_316 : decode cL_law 316 = .ok (.invokevirtual 38, 3) := by decide +kernel
theorem dL_law_319 : decode cL_law 319 = .ok (.if_icmp .eq 422, 3) := by decide +kernel
theorem dL_law_322 : decode cL_law 322 = .ok (.iconst 0, 1) := by decide +kernel
theorem dL_law_323 : decode cL_law 323 = .ok (.ireturn, 1) := by decide +kernel
theorem dL_law_324 : decode cL_law 324 = .ok (.aload_n 1, 1) := by decide +kernel
theorem dL_law_325 : decode cL_law 325 = .ok (.aload_n 0, 1) := by decide +kernel
theorem dL_law_326 : decode cL_law 326 = .ok (.iload_n 3, 1) := by decide +kernel
theorem dL_law_327 : decode cL_law 327 = .ok (.iconst 1, 1) := by decide +kernel
theorem dL_law_328 : decode cL_law 328 = .ok (.iadd, 1) := by decide +kernel
theorem dL_law_329 : decode cL_law 329 = .ok (.iaload, 1) := by decide +kernel
theorem dL_law_330 : decode cL_law 330 = .ok (.invokevirtual 39, 3) := by decide +kernel
theorem dL_law_333 : decode cL_law 333 = .ok (.aload_n 2, 1) := by decide +kernel
theorem dL_law_334 : decode cL_law 334 = .ok (.aload_n 0, 1) := by decide +kernel
theorem dL_law_335 : decode cL_law 335 = .ok (.iload_n 3, 1) := by decide +kernel
theorem dL_law_336 : decode cL_law 336 = .ok (.iconst 1, 1) := by decide +kernel
theorem dL_law_337 : decode cL_law 337 = .ok (.iadd, 1) := by decide +kernel
theorem dL_law_338 : decode cL_law 338 = .ok (.iaload, 1) := by decide +kernel
theorem dL_law_339 : decode cL_law 339 = .ok (.invokevirtual 42, 3) := by decide +kernel
theorem dL_law_342 : decode cL_law 342 = .ok (.if_icmp .eq 399, 3) := by decide +kernel
theorem dL_law_345 : decode cL_law 345 = .ok (.iconst 0, 1) := by decide +kernel
theorem dL_law_346 : decode cL_law 346 = .ok (.ireturn, 1) := by decide +kernel
theorem dL_law_347 : decode cL_law 347 = .ok (.aload_n 1, 1) := by decide +kernel
theorem dL_law_348 : decode cL_law 348 = .ok (.invokevirtual 43, 3) := by decide +kernel
theorem dL_law_351 : decode cL_law 351 = .ok (.aload_n 2, 1) := by decide +kernel
theorem dL_law_352 : decode cL_law 352 = .ok (.invokevirtual 47, 3) := by decide +kernel
theorem dL_law_355 : decode cL_law 355 = .ok (.if_icmp .eq 386, 3) := by decide +kernel
theorem dL_law_358 : decode cL_law 358 = .ok (.iconst 0, 1) := by decide +kernel
theorem dL_law_359 : decode cL_law 359 = .ok (.ireturn, 1) := by decide +kernel
theorem dL_law_360 : decode cL_law 360 = .ok (.aload_n 1, 1) := by decide +kernel
theorem dL_law_361 : decode cL_law 361 = .ok (.invokevirtual 48, 3) := by decide +kernel
theorem dL_law_364 : decode cL_law 364 = .ok (.aload_n 2, 1) := by decide +kernel
theorem dL_law_365 : decode cL_law 365 = .ok (.invokevirtual 51, 3) := by decide +kernel
theorem dL_law_368 : decode cL_law 368 = .ok (.if_icmp .eq 373, 3) := by decide +kernel
theorem dL_law_371 : decode cL_law 371 = .ok (.iconst 0, 1) := by decide +kernel
theorem dL_law_372 : decode cL_law 372 = .ok (.ireturn, 1) := by decide +kernel
theorem dL_law_373 : decode cL_law 373 = .ok (.aload_n 1, 1) := by decide +kernel
theorem dL_law_374 : decode cL_law 374 = .ok (.aload_n 0, 1) := by decide +kernel
theorem dL_law_375 : decode cL_law 375 = .ok (.iload_n 3, 1) := by decide +kernel
theorem dL_law_376 : decode cL_law 376 = .ok (.iconst 1, 1) := by decide +kernel
theorem dL_law_377 : decode cL_law 377 = .ok (.iadd, 1) := by decide +kernel
theorem dL_law_378 : decode cL_law 378 = .ok (.iaload, 1) := by decide +kernel
theorem dL_law_379 : decode cL_law 379 = .ok (.aload_n 0, 1) := by decide +kernel
theorem dL_law_380 : decode cL_law 380 = .ok (.iload_n 3, 1) := by decide +kernel
theorem dL_law_381 : decode cL_law 381 = .ok (.iconst 2, 1) := by decide +kernel
theorem dL_law_382 : decode cL_law 382 = .ok (.iadd, 1) := by decide +kernel
theorem dL_law_383 : decode cL_law 383 = .ok (.iaload, 1) := by decide +kernel
theorem dL_law_384 : decode cL_law 384 = .ok (.invokevirtual 52, 3) := by decide +kernel
theorem dL_law_387 : decode cL_law 387 = .ok (.aload_n 2, 1) := by decide +kernel
theorem dL_law_388 : decode cL_law 388 = .ok (.aload_n 0, 1) := by decide +kernel
theorem dL_law_389 : decode cL_law 389 = .ok (.iload_n 3, 1) := by decide +kernel
theorem dL_law_390 : decode cL_law 390 = .ok (.iconst 1, 1) := by decide +kernel
theorem dL_law_391 : decode cL_law 391 = .ok (.iadd, 1) := by decide +kernel
theorem dL_law_392 : decode cL_law 392 = .ok (.iaload, 1) := by decide +kernel
theorem dL_law_393 : decode cL_law 393 = .ok (.aload_n 0, 1) := by decide +kernel
theorem dL_law_394 : decode cL_law 394 = .ok (.iload_n 3, 1) := by decide +kernel
theorem dL_law_395 : decode cL_law 395 = .ok (.iconst 2, 1) := by decide +kernel
theorem dL_law_396 : decode cL_law 396 = .ok (.iadd, 1) := by decide +kernel
theorem dL_law_397 : decode cL_law 397 = .ok (.iaload, 1) := by decide +kernel
theorem dL_law_398 : decode cL_law 398 = .ok (.invokevirtual 55, 3) := by decide +kernel
theorem dL_law_401 : decode cL_law 401 = .ok (.if_icmp .eq 340, 3) := by decide +kernel
theorem dL_law_404 : decode cL_law 404 = .ok (.iconst 0, 1) := by decide +kernel
theorem dL_law_405 : decode cL_law 405 = .ok (.ireturn, 1) := by decide +kernel
theorem dL_law_406 : decode cL_law 406 = .ok (.aload_n 1, 1) := by decide +kernel
theorem dL_law_407 : decode cL_law 407 = .ok (.aload_n 0, 1) := by decide +kernel
theorem dL_law_408 : decode cL_law 408 = .ok (.iload_n 3, 1) := by decide +kernel
theorem dL_law_409 : decode cL_law 409 = .ok (.iconst 1, 1) := by decide +kernel
theorem dL_law_410 : decode cL_law 410 = .ok (.iadd, 1) := by decide +kernel
theorem dL_law_411 : decode cL_law 411 = .ok (.iaload, 1) := by decide +kernel
theorem dL_law_412 : decode cL_law 412 = .ok (.aload_n 0, 1) := by decide +kernel
theorem dL_law_413 : decode cL_law 413 = .ok (.iload_n 3, 1) := by decide +kernel
theorem dL_law_414 : decode cL_law 414 = .ok (.iconst 2, 1) := by decide +kernel
theorem dL_law_415 : decode cL_law 415 = .ok (.iadd, 1) := by decide +kernel
theorem dL_law_416 : decode cL_law 416 = .ok (.iaload, 1) := by decide +kernel
theorem dL_law_417 : decode cL_law 417 = .ok (.invokevirtual 56, 3) := by decide +kernel
theorem dL_law_420 : decode cL_law 420 = .ok (.aload_n 2, 1) := by decide +kernel
theorem dL_law_421 : decode cL_law 421 = .ok (.aload_n 0, 1) := by decide +kernel
theorem dL_law_422 : decode cL_law 422 = .ok (.iload_n 3, 1) := by decide +kernel
theorem dL_law_423 : decode cL_law 423 = .ok (.iconst 1, 1) := by decide +kernel
theorem dL_law_424 : decode cL_law 424 = .ok (.iadd, 1) := by decide +kernel
theorem dL_law_425 : decode cL_law 425 = .ok (.iaload, 1) := by decide +kernel
theorem dL_law_426 : decode cL_law 426 = .ok (.aload_n 0, 1) := by decide +kernel
theorem dL_law_427 : decode cL_law 427 = .ok (.iload_n 3, 1) := by decide +kernel
theorem dL_law_428 : decode cL_law 428 = .ok (.iconst 2, 1) := by decide +kernel
theorem dL_law_429 : decode cL_law 429 = .ok (.iadd, 1) := by decide +kernel
theorem dL_law_430 : decode cL_law 430 = .ok (.iaload, 1) := by decide +kernel
theorem dL_law_431 : decode cL_law 431 = .ok (.invokevirtual 59, 3) := by decide +kernel
theorem dL_law_434 : decode cL_law 434 = .ok (.if_icmp .eq 307, 3) := by decide +kernel
theorem dL_law_437 : decode cL_law 437 = .ok (.iconst 0, 1) := by decide +kernel
theorem dL_law_438 : decode cL_law 438 = .ok (.ireturn, 1) := by decide +kernel
theorem dL_law_439 : decode cL_law 439 = .ok (.aload_n 1, 1) := by decide +kernel
theorem dL_law_440 : decode cL_law 440 = .ok (.aload_n 0, 1) := by decide +kernel
theorem dL_law_441 : decode cL_law 441 = .ok (.iload_n 3, 1) := by decide +kernel
theorem dL_law_442 : decode cL_law 442 = .ok (.iconst 1, 1) := by decide +kernel
theorem dL_law_443 : decode cL_law 443 = .ok (.iadd, 1) := by decide +kernel
theorem dL_law_444 : decode cL_law 444 = .ok (.iaload, 1) := by decide +kernel
theorem dL_law_445 : decode cL_law 445 = .ok (.invokevirtual 60, 3) := by decide +kernel
theorem dL_law_448 : decode cL_law 448 = .ok (.aload_n 2, 1) := by decide +kernel
theorem dL_law_449 : decode cL_law 449 = .ok (.aload_n 0, 1) := by decide +kernel
theorem dL_law_450 : decode cL_law 450 = .ok (.iload_n 3, 1) := by decide +kernel
theorem dL_law_451 : decode cL_law 451 = .ok (.iconst 1, 1) := by decide +kernel
theorem dL_law_452 : decode cL_law 452 = .ok (.iadd, 1) := by decide +kernel
theorem dL_law_453 : decode cL_law 453 = .ok (.iaload, 1) := by decide +kernel
theorem dL_law_454 : decode cL_law 454 = .ok (.invokevirtual 63, 3) := by decide +kernel
theorem dL_law_457 : decode cL_law 457 = .ok (.if_icmp .eq 284, 3) := by decide +kernel
theorem dL_law_460 : decode cL_law 460 = .ok (.iconst 0, 1) := by decide +kernel
theorem dL_law_461 : decode cL_law 461 = .ok (.ireturn, 1) := by decide +kernel
theorem dL_law_462 : decode cL_law 462 = .ok (.aload_n 1, 1) := by decide +kernel
theorem dL_law_463 : decode cL_law 463 = .ok (.aload_n 0, 1) := by decide +kernel
theorem dL_law_464 : decode cL_law 464 = .ok (.iload_n 3, 1) := by decide +kernel
theorem dL_law_465 : decode cL_law 465 = .ok (.iconst 1, 1) := by decide +kernel
theorem dL_law_466 : decode cL_law 466 = .ok (.iadd, 1) := by decide +kernel
theorem dL_law_467 : decode cL_law 467 = .ok (.iaload, 1) := by decide +kernel
theorem dL_law_468 : decode cL_law 468 = .ok (.invokevirtual 64, 3) := by decide +kernel
theorem dL_law_471 : decode cL_law 471 = .ok (.aload_n 2, 1) := by decide +kernel
theorem dL_law_472 : decode cL_law 472 = .ok (.aload_n 0, 1) := by decide +kernel
theorem dL_law_473 : decode cL_law 473 = .ok (.iload_n 3, 1) := by decide +kernel
theorem dL_law_474 : decode cL_law 474 = .ok (.iconst 1, 1) := by decide +kernel
theorem dL_law_475 : decode cL_law 475 = .ok (.iadd, 1) := by decide +kernel
theorem dL_law_476 : decode cL_law 476 = .ok (.iaload, 1) := by decide +kernel
theorem dL_law_477 : decode cL_law 477 = .ok (.invokevirtual 67, 3) := by decide +kernel
theorem dL_law_480 : decode cL_law 480 = .ok (.if_icmp .eq 261, 3) := by decide +kernel
theorem dL_law_483 : decode cL_law 483 = .ok (.iconst 0, 1) := by decide +kernel
theorem dL_law_484 : decode cL_law 484 = .ok (.ireturn, 1) := by decide +kernel
theorem dL_law_485 : decode cL_law 485 = .ok (.aload_n 1, 1) := by decide +kernel
theorem dL_law_486 : decode cL_law 486 = .ok (.aload_n 0, 1) := by decide +kernel
theorem dL_law_487 : decode cL_law 487 = .ok (.iload_n 3, 1) := by decide +kernel
theorem dL_law_488 : decode cL_law 488 = .ok (.iconst 1, 1) := by decide +kernel
theorem dL_law_489 : decode cL_law 489 = .ok (.iadd, 1) := by decide +kernel
theorem dL_law_490 : decode cL_law 490 = .ok (.iaload, 1) := by decide +kernel
theorem dL_law_491 : decode cL_law 491 = .ok (.invokevirtual 68, 3) := by decide +kernel
theorem dL_law_494 : decode cL_law 494 = .ok (.aload_n 2, 1) := by decide +kernel
theorem dL_law_495 : decode cL_law 495 = .ok (.aload_n 0, 1) := by decide +kernel
theorem dL_law_496 : decode cL_law 496 = .ok (.iload_n 3, 1) := by decide +kernel
theorem dL_law_497 : decode cL_law 497 = .ok (.iconst 1, 1) := by decide +kernel
theorem dL_law_498 : decode cL_law 498 = .ok (.iadd, 1) := by decide +kernel
theorem dL_law_499 : decode cL_law 499 = .ok (.iaload, 1) := by decide +kernel
theorem dL_law_500 : decode cL_law 500 = .ok (.invokevirtual 72, 3) := by decide +kernel
theorem dL_law_503 : decode cL_law 503 = .ok (.lcmp, 1) := by decide +kernel
theorem dL_law_504 : decode cL_law 504 = .ok (.ifCond .eq 237, 3) := by decide +kernel
theorem dL_law_507 : decode cL_law 507 = .ok (.iconst 0, 1) := by decide +kernel
theorem dL_law_508 : decode cL_law 508 = .ok (.ireturn, 1) := by decide +kernel
theorem dL_law_509 : decode cL_law 509 = .ok (.aload_n 1, 1) := by decide +kernel
theorem dL_law_510 : decode cL_law 510 = .ok (.aload_n 0, 1) := by decide +kernel
theorem dL_law_511 : decode cL_law 511 = .ok (.iload_n 3, 1) := by decide +kernel
theorem dL_law_512 : decode cL_law 512 = .ok (.iconst 1, 1) := by decide +kernel
theorem dL_law_513 : decode cL_law 513 = .ok (.iadd, 1) := by decide +kernel
theorem dL_law_514 : decode cL_law 514 = .ok (.iaload, 1) := by decide +kernel
theorem dL_law_515 : decode cL_law 515 = .ok (.invokevirtual 73, 3) := by decide +kernel
theorem dL_law_518 : decode cL_law 518 = .ok (.aload_n 2, 1) := by decide +kernel
theorem dL_law_519 : decode cL_law 519 = .ok (.aload_n 0, 1) := by decide +kernel
theorem dL_law_520 : decode cL_law 520 = .ok (.iload_n 3, 1) := by decide +kernel
theorem dL_law_521 : decode cL_law 521 = .ok (.iconst 1, 1) := by decide +kernel
theorem dL_law_522 : decode cL_law 522 = .ok (.iadd, 1) := by decide +kernel
theorem dL_law_523 : decode cL_law 523 = .ok (.iaload, 1) := by decide +kernel
theorem dL_law_524 : decode cL_law 524 = .ok (.invokevirtual 76, 3) := by decide +kernel
theorem dL_law_527 : decode cL_law 527 = .ok (.if_icmp .eq 214, 3) := by decide +kernel
theorem dL_law_530 : decode cL_law 530 = .ok (.iconst 0, 1) := by decide +kernel
theorem dL_law_531 : decode cL_law 531 = .ok (.ireturn, 1) := by decide +kernel
theorem dL_law_532 : decode cL_law 532 = .ok (.aload_n 1, 1) := by decide +kernel
theorem dL_law_533 : decode cL_law 533 = .ok (.invokevirtual 77, 3) := by decide +kernel
theorem dL_law_536 : decode cL_law 536 = .ok (.aload_n 2, 1) := by decide +kernel
theorem dL_law_537 : decode cL_law 537 = .ok (.invokevirtual 80, 3) := by decide +kernel
theorem dL_law_540 : decode cL_law 540 = .ok (.if_icmp .eq 201, 3) := by decide +kernel
theorem dL_law_543 : decode cL_law 543 = .ok (.iconst 0, 1) := by decide +kernel
theorem dL_law_544 : decode cL_law 544 = .ok (.ireturn, 1) := by decide +kernel
theorem dL_law_545 : decode cL_law 545 = .ok (.aload_n 1, 1) := by decide +kernel
theorem dL_law_546 : decode cL_law 546 = .ok (.invokevirtual 81, 3) := by decide +kernel
theorem dL_law_549 : decode cL_law 549 = .ok (.aload_n 2, 1) := by decide +kernel
theorem dL_law_550 : decode cL_law 550 = .ok (.invokevirtual 84, 3) := by decide +kernel
theorem dL_law_553 : decode cL_law 553 = .ok (.if_icmp .eq 188, 3) := by decide +kernel
theorem dL_law_556 : decode cL_law 556 = .ok (.iconst 0, 1) := by decide +kernel
theorem dL_law_557 : decode cL_law 557 = .ok (.ireturn, 1) := by decide +kernel
theorem dL_law_558 : decode cL_law 558 = .ok (.aload_n 1, 1) := by decide +kernel
theorem dL_law_559 : decode cL_law 559 = .ok (.aload_n 0, 1) := by decide +kernel
theorem dL_law_560 : decode cL_law 560 = .ok (.iload_n 3, 1) := by decide +kernel
theorem dL_law_561 : decode cL_law 561 = .ok (.iconst 1, 1) := by decide +kernel
theorem dL_law_562 : decode cL_law 562 = .ok (.iadd, 1) := by decide +kernel
theorem dL_law_563 : decode cL_law 563 = .ok (.iaload, 1) := by decide +kernel
theorem dL_law_564 : decode cL_law 564 = .ok (.invokevirtual 85, 3) := by decide +kernel
theorem dL_law_567 : decode cL_law 567 = .ok (.aload_n 2, 1) := by decide +kernel
theorem dL_law_568 : decode cL_law 568 = .ok (.aload_n 0, 1) := by decide +kernel
theorem dL_law_569 : decode cL_law 569 = .ok (.iload_n 3, 1) := by decide +kernel
theorem dL_law_570 : decode cL_law 570 = .ok (.iconst 1, 1) := by decide +kernel
theorem dL_law_571 : decode cL_law 571 = .ok (.iadd, 1) := by decide +kernel
theorem dL_law_572 : decode cL_law 572 = .ok (.iaload, 1) := by decide +kernel
theorem dL_law_573 : decode cL_law 573 = .ok (.invokevirtual 88, 3) := by decide +kernel
theorem dL_law_576 : decode cL_law 576 = .ok (.lcmp, 1) := by decide +kernel
theorem dL_law_577 : decode cL_law 577 = .ok (.ifCond .eq 164, 3) := by decide +kernel
theorem dL_law_580 : decode cL_law 580 = .ok (.iconst 0, 1) := by decide +kernel
theorem dL_law_581 : decode cL_law 581 = .ok (.ireturn, 1) := by decide +kernel
theorem dL_law_582 : decode cL_law 582 = .ok (.aload_n 1, 1) := by decide +kernel
theorem dL_law_583 : decode cL_law 583 = .ok (.invokevirtual 89, 3) := by decide +kernel
theorem dL_law_586 : decode cL_law 586 = .ok (.aload_n 2, 1) := by decide +kernel
theorem dL_law_587 : decode cL_law 587 = .ok (.invokevirtual 92, 3) := by decide +kernel
theorem dL_law_590 : decode cL_law 590 = .ok (.if_icmp .eq 151, 3) := by decide +kernel
theorem dL_law_593 : decode cL_law 593 = .ok (.iconst 0, 1) := by decide +kernel
theorem dL_law_594 : decode cL_law 594 = .ok (.ireturn, 1) := by decide +kernel
theorem dL_law_595 : decode cL_law 595 = .ok (.aload_n 1, 1) := by decide +kernel
theorem dL_law_596 : decode cL_law 596 = .ok (.aload_n 0, 1) := by decide +kernel
theorem dL_law_597 : decode cL_law 597 = .ok (.iload_n 3, 1) := by decide +kernel
theorem dL_law_598 : decode cL_law 598 = .ok (.iconst 1, 1) := by decide +kernel
theorem dL_law_599 : decode cL_law 599 = .ok (.iadd, 1) := by decide +kernel
theorem dL_law_600 : decode cL_law 600 = .ok (.iaload, 1) := by decide +kernel
theorem dL_law_601 : decode cL_law 601 = .ok (.invokevirtual 93, 3) := by decide +kernel
theorem dL_law_604 : decode cL_law 604 = .ok (.aload_n 2, 1) := by decide +kernel
theorem dL_law_605 : decode cL_law 605 = .ok (.aload_n 0, 1) := by decide +kernel
theorem dL_law_606 : decode cL_law 606 = .ok (.iload_n 3, 1) := by decide +kernel
theorem dL_law_607 : decode cL_law 607 = .ok (.iconst 1, 1) := by decide +kernel
theorem dL_law_608 : decode cL_law 608 = .ok (.iadd, 1) := by decide +kernel
theorem dL_law_609 : decode cL_law 609 = .ok (.iaload, 1) := by decide +kernel
theorem dL_law_610 : decode cL_law 610 = .ok (.invokevirtual 96, 3) := by decide +kernel
theorem dL_law_613 : decode cL_law 613 = .ok (.if_icmp .eq 128, 3) := by decide +kernel
theorem dL_law_616 : decode cL_law 616 = .ok (.iconst 0, 1) := by decide +kernel
theorem dL_law_617 : decode cL_law 617 = .ok (.ireturn, 1) := by decide +kernel
theorem dL_law_618 : decode cL_law 618 = .ok (.aload_n 1, 1) := by decide +kernel
theorem dL_law_619 : decode cL_law 619 = .ok (.aload_n 0, 1) := by decide +kernel
theorem dL_law_620 : decode cL_law 620 = .ok (.iload_n 3, 1) := by decide +kernel
theorem dL_law_621 : decode cL_law 621 = .ok (.iconst 1, 1) := by decide +kernel
theorem dL_law_622 : decode cL_law 622 = .ok (.iadd, 1) := by decide +kernel
theorem dL_law_623 : decode cL_law 623 = .ok (.iaload, 1) := by decide +kernel
theorem dL_law_624 : decode cL_law 624 = .ok (.invokevirtual 97, 3) := by decide +kernel
theorem dL_law_627 : decode cL_law 627 = .ok (.aload_n 2, 1) := by decide +kernel
theorem dL_law_628 : decode cL_law 628 = .ok (.aload_n 0, 1) := by decide +kernel
theorem dL_law_629 : decode cL_law 629 = .ok (.iload_n 3, 1) := by decide +kernel
theorem dL_law_630 : decode cL_law 630 = .ok (.iconst 1, 1) := by decide +kernel
theorem dL_law_631 : decode cL_law 631 = .ok (.iadd, 1) := by decide +kernel
theorem dL_law_632 : decode cL_law 632 = .ok (.iaload, 1) := by decide +kernel
theorem dL_law_633 : decode cL_law 633 = .ok (.invokevirtual 100, 3) := by decide +kernel
theorem dL_law_636 : decode cL_law 636 = .ok (.lcmp, 1) := by decide +kernel
theorem dL_law_637 : decode cL_law 637 = .ok (.ifCond .eq 104, 3) := by decide +kernel
theorem dL_law_640 : decode cL_law 640 = .ok (.iconst 0, 1) := by decide +kernel
theorem dL_law_641 : decode cL_law 641 = .ok (.ireturn, 1) := by decide +kernel
theorem dL_law_642 : decode cL_law 642 = .ok (.aload_n 1, 1) := by decide +kernel
theorem dL_law_643 : decode cL_law 643 = .ok (.aload_n 0, 1) := by decide +kernel
theorem dL_law_644 : decode cL_law 644 = .ok (.iload_n 3, 1) := by decide +kernel
theorem dL_law_645 : decode cL_law 645 = .ok (.iconst 1, 1) := by decide +kernel
theorem dL_law_646 : decode cL_law 646 = .ok (.iadd, 1) := by decide +kernel
theorem dL_law_647 : decode cL_law 647 = .ok (.iaload, 1) := by decide +kernel
theorem dL_law_648 : decode cL_law 648 = .ok (.invokevirtual 101, 3) := by decide +kernel
theorem dL_law_651 : decode cL_law 651 = .ok (.aload_n 2, 1) := by decide +kernel
theorem dL_law_652 : decode cL_law 652 = .ok (.aload_n 0, 1) := by decide +kernel
theorem dL_law_653 : decode cL_law 653 = .ok (.iload_n 3, 1) := by decide +kernel
theorem dL_law_654 : decode cL_law 654 = .ok (.iconst 1, 1) := by decide +kernel
theorem dL_law_655 : decode cL_law 655 = .ok (.iadd, 1) := by decide +kernel
theorem dL_law_656 : decode cL_law 656 = .ok (.iaload, 1) := by decide +kernel
theorem dL_law_657 : decode cL_law 657 = .ok (.invokevirtual 104, 3) := by decide +kernel
theorem dL_law_660 : decode cL_law 660 = .ok (.if_icmp .eq 81, 3) := by decide +kernel
theorem dL_law_663 : decode cL_law 663 = .ok (.iconst 0, 1) := by decide +kernel
theorem dL_law_664 : decode cL_law 664 = .ok (.ireturn, 1) := by decide +kernel
theorem dL_law_665 : decode cL_law 665 = .ok (.aload_n 1, 1) := by decide +kernel
theorem dL_law_666 : decode cL_law 666 = .ok (.invokevirtual 105, 3) := by decide +kernel
theorem dL_law_669 : decode cL_law 669 = .ok (.aload_n 2, 1) := by decide +kernel
theorem dL_law_670 : decode cL_law 670 = .ok (.invokevirtual 108, 3) := by decide +kernel
theorem dL_law_673 : decode cL_law 673 = .ok (.if_icmp .eq 68, 3) := by decide +kernel
theorem dL_law_676 : decode cL_law 676 = .ok (.iconst 0, 1) := by decide +kernel
theorem dL_law_677 : decode cL_law 677 = .ok (.ireturn, 1) := by decide +kernel
theorem dL_law_678 : decode cL_law 678 = .ok (.aload_n 1, 1) := by decide +kernel
theorem dL_law_679 : decode cL_law 679 = .ok (.invokevirtual 109, 3) := by decide +kernel
theorem dL_law_682 : decode cL_law 682 = .ok (.aload_n 2, 1) := by decide +kernel
theorem dL_law_683 : decode cL_law 683 = .ok (.invokevirtual 112, 3) := by decide +kernel
theorem dL_law_686 : decode cL_law 686 = .ok (.if_icmp .eq 55, 3) := by decide +kernel
theorem dL_law_689 : decode cL_law 689 = .ok (.iconst 0, 1) := by decide +kernel
theorem dL_law_690 : decode cL_law 690 = .ok (.ireturn, 1) := by decide +kernel
theorem dL_law_691 : decode cL_law 691 = .ok (.aload_n 1, 1) := by decide +kernel
theorem dL_law_692 : decode cL_law 692 = .ok (.invokevirtual 113, 3) := by decide +kernel
theorem dL_law_695 : decode cL_law 695 = .ok (.aload_n 2, 1) := by decide +kernel
theorem dL_law_696 : decode cL_law 696 = .ok (.invokevirtual 116, 3) := by decide +kernel
theorem dL_law_699 : decode cL_law 699 = .ok (.if_icmp .eq 42, 3) := by decide +kernel
theorem dL_law_702 : decode cL_law 702 = .ok (.iconst 0, 1) := by decide +kernel
theorem dL_law_703 : decode cL_law 703 = .ok (.ireturn, 1) := by decide +kernel
theorem dL_law_704 : decode cL_law 704 = .ok (.aload_n 1, 1) := by decide +kernel
theorem dL_law_705 : decode cL_law 705 = .ok (.aload_n 0, 1) := by decide +kernel
theorem dL_law_706 : decode cL_law 706 = .ok (.iload_n 3, 1) := by decide +kernel
theorem dL_law_707 : decode cL_law 707 = .ok (.iconst 1, 1) := by decide +kernel
theorem dL_law_708 : decode cL_law 708 = .ok (.iadd, 1) := by decide +kernel
theorem dL_law_709 : decode cL_law 709 = .ok (.iaload, 1) := by decide +kernel
theorem dL_law_710 : decode cL_law 710 = .ok (.invokevirtual 117, 3) := by decide +kernel
theorem dL_law_713 : decode cL_law 713 = .ok (.aload_n 2, 1) := by decide +kernel
theorem dL_law_714 : decode cL_law 714 = .ok (.aload_n 0, 1) := by decide +kernel
theorem dL_law_715 : decode cL_law 715 = .ok (.iload_n 3, 1) := by decide +kernel
theorem dL_law_716 : decode cL_law 716 = .ok (.iconst 1, 1) := by decide +kernel
theorem dL_law_717 : decode cL_law 717 = .ok (.iadd, 1) := by decide +kernel
theorem dL_law_718 : decode cL_law 718 = .ok (.iaload, 1) := by decide +kernel
theorem dL_law_719 : decode cL_law 719 = .ok (.invokevirtual 120, 3) := by decide +kernel
theorem dL_law_722 : decode cL_law 722 = .ok (.if_icmp .eq 19, 3) := by decide +kernel
theorem dL_law_725 : decode cL_law 725 = .ok (.iconst 0, 1) := by decide +kernel
theorem dL_law_726 : decode cL_law 726 = .ok (.ireturn, 1) := by decide +kernel
theorem dL_law_727 : decode cL_law 727 = .ok (.aload_n 1, 1) := by decide +kernel
theorem dL_law_728 : decode cL_law 728 = .ok (.invokevirtual 121, 3) := by decide +kernel
theorem dL_law_731 : decode cL_law 731 = .ok (.aload_n 2, 1) := by decide +kernel
theorem dL_law_732 : decode cL_law 732 = .ok (.invokevirtual 125, 3) := by decide +kernel
theorem dL_law_735 : decode cL_law 735 = .ok (.lcmp, 1) := by decide +kernel
theorem dL_law_736 : decode cL_law 736 = .ok (.ifCond .eq 5, 3) := by decide +kernel
theorem dL_law_739 : decode cL_law 739 = .ok (.iconst 0, 1) := by decide +kernel
theorem dL_law_740 : decode cL_law 740 = .ok (.ireturn, 1) := by decide +kernel
theorem dL_law_741 : decode cL_law 741 = .ok (.iinc 3 3, 3) := by decide +kernel
theorem dL_law_744 : decode cL_law 744 = .ok (.goto (-726), 3) := by decide +kernel
theorem dL_law_747 : decode cL_law 747 = .ok (.iconst 1, 1) := by decide +kernel
theorem dL_law_748 : decode cL_law 748 = .ok (.ireturn, 1) := by decide +kernel
end
section
/-! the words of the tables, each by its place; TW: those that a callee may have -/
def TW : List Cond := lw_tbl.filter goodWord
theorem tw_mem (i : Nat) {w : Cond} (h : lw_tbl[i]? = some w) (hg : goodWord w = true) : w ∈ TW := List.mem_filter.mpr ⟨List.mem_of_getElem? h, hg⟩
theorem lw_mem (i : Nat) {w : Cond} (h : lw_tbl[i]? = some w) : w ∈ lw_tbl := List.mem_of_getElem? h
theorem se_X5_settles : Cond.selects RX5 yX5_settles yX5_settles ∈ TW := tw_mem 0 (by decide +kernel) (by decide +kernel)
theorem se_X5_refuses : Cond.selects RX5 yX5_refuses yX5_refuses ∈ TW := tw_mem 1 (by decide +kernel) (by decide +kernel)
theorem se_X5_prints : Cond.selects RX5 yX5_prints yX5_prints ∈ TW := tw_mem 2 (by decide +kernel) (by decide +kernel)
theorem se_X1_laysQuarter : Cond.selects RX1 yX1_laysQuarter yX1_laysQuarter ∈ TW := tw_mem 3 (by decide +kernel) (by decide +kernel)
theorem se_X1_laysYear : Cond.selects RX1 yX1_laysYear yX1_laysYear ∈ TW := tw_mem 4 (by decide +kernel) (by decide +kernel)
theorem se_X0_fills : Cond.selects RX0 yX0_fills yX0_fills ∈ TW := tw_mem 5 (by decide +kernel) (by decide +kernel)
theorem se_X0_weighsSteps : Cond.selects RX0 yX0_weighsSteps yX0_weighsSteps ∈ TW := tw_mem 6 (by decide +kernel) (by decide +kernel)
theorem se_X0_choosesStep : Cond.selects RX0 yX0_choosesStep yX0_choosesStep ∈ TW := tw_mem 7 (by decide +kernel) (by decide +kernel)
theorem se_X0_spot : Cond.selects RX0 yX0_spot yX0_spot ∈ TW := tw_mem 8 (by decide +kernel) (by decide +kernel)
theorem se_X0_isSpot : Cond.selects RX0 yX0_isSpot yX0_isSpot ∈ TW := tw_mem 9 (by decide +kernel) (by decide +kernel)
theorem se_X0_keepsBest : Cond.selects RX0 yX0_keepsBest yX0_keepsBest ∈ TW := tw_mem 10 (by decide +kernel) (by decide +kernel)
theorem se_X0_traces : Cond.selects RX0 yX0_traces yX0_traces ∈ TW := tw_mem 11 (by decide +kernel) (by decide +kernel)
theorem se_X5_revision : Cond.selects RX5 yX5_revision yX5_revision ∈ TW := tw_mem 12 (by decide +kernel) (by decide +kernel)
theorem se_X5_shareMovement : Cond.selects RX5 yX5_shareMovement yX5_shareMovement ∈ TW := tw_mem 13 (by decide +kernel) (by decide +kernel)
theorem se_X4_readsByte : Cond.selects RX4 yX4_readsByte yX4_readsByte ∈ TW := tw_mem 14 (by decide +kernel) (by decide +kernel)
theorem se_X4_opens : Cond.selects RX4 yX4_opens yX4_opens ∈ TW := tw_mem 15 (by decide +kernel) (by decide +kernel)
theorem se_X4_closes : Cond.selects RX4 yX4_closes yX4_closes ∈ TW := tw_mem 16 (by decide +kernel) (by decide +kernel)
theorem se_X4_readsFigure : Cond.selects RX4 yX4_readsFigure yX4_readsFigure ∈ TW := tw_mem 17 (by decide +kernel) (by decide +kernel)
theorem se_X5_obeys : Cond.selects RX5 yX5_obeys yX5_obeys ∈ TW := tw_mem 18 (by decide +kernel) (by decide +kernel)
theorem se_X5_digestsFigures : Cond.selects RX5 yX5_digestsFigures yX5_digestsFigures ∈ TW := tw_mem 19 (by decide +kernel) (by decide +kernel)
theorem se_X5_digestsBent : Cond.selects RX5 yX5_digestsBent yX5_digestsBent ∈ TW := tw_mem 20 (by decide +kernel) (by decide +kernel)
theorem se_X6_save : Cond.selects RX6 yX6_save yX6_save ∈ TW := tw_mem 21 (by decide +kernel) (by decide +kernel)
theorem se_X6_putQuarter : Cond.selects RX6 yX6_putQuarter yX6_putQuarter ∈ TW := tw_mem 22 (by decide +kernel) (by decide +kernel)
theorem se_X6_finish : Cond.selects RX6 yX6_finish yX6_finish ∈ TW := tw_mem 23 (by decide +kernel) (by decide +kernel)
theorem se_X6_refuse : Cond.selects RX6 yX6_refuse yX6_refuse ∈ TW := tw_mem 24 (by decide +kernel) (by decide +kernel)
theorem se_X6_putIndicator : Cond.selects RX6 yX6_putIndicator yX6_putIndicator ∈ TW := tw_mem 25 (by decide +kernel) (by decide +kernel)
theorem se_X6_isQuarter : Cond.selects RX6 yX6_isQuarter yX6_isQuarter ∈ TW := tw_mem 26 (by decide +kernel) (by decide +kernel)
theorem se_X6_putTotal : Cond.selects RX6 yX6_putTotal yX6_putTotal ∈ TW := tw_mem 27 (by decide +kernel) (by decide +kernel)
theorem se_X6_dropTotal : Cond.selects RX6 yX6_dropTotal yX6_dropTotal ∈ TW := tw_mem 28 (by decide +kernel) (by decide +kernel)
theorem se_X6_putFrozen : Cond.selects RX6 yX6_putFrozen yX6_putFrozen ∈ TW := tw_mem 29 (by decide +kernel) (by decide +kernel)
theorem se_X6_putLimit : Cond.selects RX6 yX6_putLimit yX6_putLimit ∈ TW := tw_mem 30 (by decide +kernel) (by decide +kernel)
theorem se_X6_putForm : Cond.selects RX6 yX6_putForm yX6_putForm ∈ TW := tw_mem 31 (by decide +kernel) (by decide +kernel)
theorem se_X6_publishAll : Cond.selects RX6 yX6_publishAll yX6_publishAll ∈ TW := tw_mem 32 (by decide +kernel) (by decide +kernel)
theorem se_X6_bend : Cond.selects RX6 yX6_bend yX6_bend ∈ TW := tw_mem 33 (by decide +kernel) (by decide +kernel)
theorem se_X6_find : Cond.selects RX6 yX6_find yX6_find ∈ TW := tw_mem 34 (by decide +kernel) (by decide +kernel)
theorem se_X6_isBound : Cond.selects RX6 yX6_isBound yX6_isBound ∈ TW := tw_mem 35 (by decide +kernel) (by decide +kernel)
theorem se_X6_lay : Cond.selects RX6 yX6_lay yX6_lay ∈ TW := tw_mem 36 (by decide +kernel) (by decide +kernel)
theorem se_X6_may : Cond.selects RX6 yX6_may yX6_may ∈ TW := tw_mem 37 (by decide +kernel) (by decide +kernel)
theorem se_X6_together : Cond.selects RX6 yX6_together yX6_together ∈ TW := tw_mem 38 (by decide +kernel) (by decide +kernel)
theorem se_X6_nextSum : Cond.selects RX6 yX6_nextSum yX6_nextSum ∈ TW := tw_mem 39 (by decide +kernel) (by decide +kernel)
theorem se_X6_step : Cond.selects RX6 yX6_step yX6_step ∈ TW := tw_mem 40 (by decide +kernel) (by decide +kernel)
theorem se_X6_nextBest : Cond.selects RX6 yX6_nextBest yX6_nextBest ∈ TW := tw_mem 41 (by decide +kernel) (by decide +kernel)
theorem se_X6_publishedMany : Cond.selects RX6 yX6_publishedMany yX6_publishedMany ∈ TW := tw_mem 42 (by decide +kernel) (by decide +kernel)
theorem se_X6_ofQuarter : Cond.selects RX6 yX6_ofQuarter yX6_ofQuarter ∈ TW := tw_mem 43 (by decide +kernel) (by decide +kernel)
theorem se_X6_ofYear : Cond.selects RX6 yX6_ofYear yX6_ofYear ∈ TW := tw_mem 44 (by decide +kernel) (by decide +kernel)
theorem se_X6_countOf : Cond.selects RX6 yX6_countOf yX6_countOf ∈ TW := tw_mem 45 (by decide +kernel) (by decide +kernel)
theorem se_X6_movedBy : Cond.selects RX6 yX6_movedBy yX6_movedBy ∈ TW := tw_mem 46 (by decide +kernel) (by decide +kernel)
theorem se_X6_revisedOf : Cond.selects RX6 yX6_revisedOf yX6_revisedOf ∈ TW := tw_mem 47 (by decide +kernel) (by decide +kernel)
theorem se_X6_shareOut : Cond.selects RX6 yX6_shareOut yX6_shareOut ∈ TW := tw_mem 48 (by decide +kernel) (by decide +kernel)
theorem se_X6_shareYear : Cond.selects RX6 yX6_shareYear yX6_shareYear ∈ TW := tw_mem 49 (by decide +kernel) (by decide +kernel)
theorem se_X6_readText : Cond.selects RX6 yX6_readText yX6_readText ∈ TW := tw_mem 50 (by decide +kernel) (by decide +kernel)
theorem se_X6_readByte : Cond.selects RX6 yX6_readByte yX6_readByte ∈ TW := tw_mem 51 (by decide +kernel) (by decide +kernel)
theorem se_X6_doOrder : Cond.selects RX6 yX6_doOrder yX6_doOrder ∈ TW := tw_mem 52 (by decide +kernel) (by decide +kernel)
theorem se_X6_toldOf : Cond.selects RX6 yX6_toldOf yX6_toldOf ∈ TW := tw_mem 53 (by decide +kernel) (by decide +kernel)
theorem in_L : Cond.initialized RL ∈ TW := tw_mem 54 (by decide +kernel) (by decide +kernel)
theorem in_X5 : Cond.initialized RX5 ∈ TW := tw_mem 55 (by decide +kernel) (by decide +kernel)
theorem in_X2 : Cond.initialized RX2 ∈ TW := tw_mem 56 (by decide +kernel) (by decide +kernel)
theorem in_X0 : Cond.initialized RX0 ∈ TW := tw_mem 57 (by decide +kernel) (by decide +kernel)
theorem in_X1 : Cond.initialized RX1 ∈ TW := tw_mem 58 (by decide +kernel) (by decide +kernel)
theorem in_X3 : Cond.initialized RX3 ∈ TW := tw_mem 59 (by decide +kernel) (by decide +kernel)
theorem in_X4 : Cond.initialized RX4 ∈ TW := tw_mem 60 (by decide +kernel) (by decide +kernel)
theorem in_X6 : Cond.initialized RX6 ∈ TW := tw_mem 61 (by decide +kernel) (by decide +kernel)
theorem in_J10 : Cond.initialized RJ10 ∈ TW := tw_mem 62 (by decide +kernel) (by decide +kernel)
theorem in_J9 : Cond.initialized RJ9 ∈ TW := tw_mem 63 (by decide +kernel) (by decide +kernel)
theorem in_J6 : Cond.initialized RJ6 ∈ TW := tw_mem 64 (by decide +kernel) (by decide +kernel)
theorem cl_L_7 : Cond.classLink RL 7 RX5 ∈ TW := tw_mem 65 (by decide +kernel) (by decide +kernel)
theorem it_X5 : Cond.instantiable RX5 6 ∈ TW := tw_mem 66 (by decide +kernel) (by decide +kernel)
theorem ml_L_9 : Cond.methodLink RL 9 yX5_init ∈ TW := tw_mem 67 (by decide +kernel) (by decide +kernel)
theorem im_X5_init : Cond.instanceMethod yX5_init ∈ TW := tw_mem 68 (by decide +kernel) (by decide +kernel)
set_option maxRecDepth 100000 in
theorem co_X5_init : Cond.code yX5_init cX5_init 1 none ∈ TW := tw_mem 69 rfl rfl
theorem ml_X5_3 : Cond.methodLink RX5 3 objectInit ∈ TW := tw_mem 70 (by decide +kernel) (by decide +kernel)
theorem im_OI : Cond.instanceMethod objectInit ∈ TW := tw_mem 71 (by decide +kernel) (by decide +kernel)
set_option maxRecDepth 100000 in
theorem co_OI : Cond.code objectInit ⟨#[0xb1]⟩ 1 none ∈ TW := tw_mem 72 rfl rfl
theorem cl_X5_9 : Cond.classLink RX5 9 RX2 ∈ TW := tw_mem 73 (by decide +kernel) (by decide +kernel)
theorem it_X2 : Cond.instantiable RX2 7 ∈ TW := tw_mem 74 (by decide +kernel) (by decide +kernel)
theorem ml_X5_11 : Cond.methodLink RX5 11 yX2_init ∈ TW := tw_mem 75 (by decide +kernel) (by decide +kernel)
theorem im_X2_init : Cond.instanceMethod yX2_init ∈ TW := tw_mem 76 (by decide +kernel) (by decide +kernel)
set_option maxRecDepth 100000 in
theorem co_X2_init : Cond.code yX2_init cX2_init 2 none ∈ TW := tw_mem 77 rfl rfl
theorem ml_X2_3 : Cond.methodLink RX2 3 objectInit ∈ TW := tw_mem 78 (by decide +kernel) (by decide +kernel)
theorem fl_X2_9 : Cond.fieldLink RX2 9 "BentQuarters$Figures" "indicators" "[I" ∈ TW := tw_mem 79 (by decide +kernel) (by decide +kernel)
theorem fl_X1_62 : Cond.fieldLink RX1 62 "BentQuarters$Figures" "indicators" "[I" ∈ TW := tw_mem 80 (by decide +kernel) (by decide +kernel)
theorem fl_X0_111 : Cond.fieldLink RX0 111 "BentQuarters$Figures" "indicators" "[I" ∈ TW := tw_mem 81 (by decide +kernel) (by decide +kernel)
theorem fl_X2_15 : Cond.fieldLink RX2 15 "BentQuarters$Figures" "totals" "[I" ∈ TW := tw_mem 82 (by decide +kernel) (by decide +kernel)
theorem fl_X1_42 : Cond.fieldLink RX1 42 "BentQuarters$Figures" "totals" "[I" ∈ TW := tw_mem 83 (by decide +kernel) (by decide +kernel)
theorem fl_X5_132 : Cond.fieldLink RX5 132 "BentQuarters$Figures" "totals" "[I" ∈ TW := tw_mem 84 (by decide +kernel) (by decide +kernel)
theorem fl_X2_18 : Cond.fieldLink RX2 18 "BentQuarters$Figures" "printed" "[I" ∈ TW := tw_mem 85 (by decide +kernel) (by decide +kernel)
theorem fl_X1_59 : Cond.fieldLink RX1 59 "BentQuarters$Figures" "printed" "[I" ∈ TW := tw_mem 86 (by decide +kernel) (by decide +kernel)
theorem fl_X5_211 : Cond.fieldLink RX5 211 "BentQuarters$Figures" "printed" "[I" ∈ TW := tw_mem 87 (by decide +kernel) (by decide +kernel)
theorem fl_X2_21 : Cond.fieldLink RX2 21 "BentQuarters$Figures" "quarters" "I" ∈ TW := tw_mem 88 (by decide +kernel) (by decide +kernel)
theorem fl_X1_35 : Cond.fieldLink RX1 35 "BentQuarters$Figures" "quarters" "I" ∈ TW := tw_mem 89 (by decide +kernel) (by decide +kernel)
theorem fl_X0_69 : Cond.fieldLink RX0 69 "BentQuarters$Figures" "quarters" "I" ∈ TW := tw_mem 90 (by decide +kernel) (by decide +kernel)
theorem fl_X5_124 : Cond.fieldLink RX5 124 "BentQuarters$Figures" "quarters" "I" ∈ TW := tw_mem 91 (by decide +kernel) (by decide +kernel)
theorem fl_X2_25 : Cond.fieldLink RX2 25 "BentQuarters$Figures" "frozen" "I" ∈ TW := tw_mem 92 (by decide +kernel) (by decide +kernel)
theorem fl_X2_28 : Cond.fieldLink RX2 28 "BentQuarters$Figures" "limit" "I" ∈ TW := tw_mem 93 (by decide +kernel) (by decide +kernel)
theorem fl_X0_57 : Cond.fieldLink RX0 57 "BentQuarters$Figures" "limit" "I" ∈ TW := tw_mem 94 (by decide +kernel) (by decide +kernel)
theorem fl_X2_31 : Cond.fieldLink RX2 31 "BentQuarters$Figures" "shape" "I" ∈ TW := tw_mem 95 (by decide +kernel) (by decide +kernel)
theorem fl_X0_114 : Cond.fieldLink RX0 114 "BentQuarters$Figures" "shape" "I" ∈ TW := tw_mem 96 (by decide +kernel) (by decide +kernel)
theorem fl_X5_135 : Cond.fieldLink RX5 135 "BentQuarters$Figures" "shape" "I" ∈ TW := tw_mem 97 (by decide +kernel) (by decide +kernel)
theorem ac_int : Cond.arrayClass .int ∈ TW := tw_mem 113 (by decide +kernel) (by decide +kernel)
theorem cl_X5_16 : Cond.classLink RX5 16 RX0 ∈ TW := tw_mem 114 (by decide +kernel) (by decide +kernel)
theorem it_X0 : Cond.instantiable RX0 11 ∈ TW := tw_mem 115 (by decide +kernel) (by decide +kernel)
theorem mn_X5_18 : Cond.methodLinkNest RX5 18 yX0_init RX5 ∈ lw_tbl := lw_mem 116 (by decide +kernel)
theorem im_X0_init : Cond.instanceMethod yX0_init ∈ TW := tw_mem 117 (by decide +kernel) (by decide +kernel)
set_option maxRecDepth 100000 in
theorem co_X0_init : Cond.code yX0_init cX0_init 1 none ∈ TW := tw_mem 118 rfl rfl
theorem ml_X0_3 : Cond.methodLink RX0 3 objectInit ∈ TW := tw_mem 119 (by decide +kernel) (by decide +kernel)
theorem cl_X0_9 : Cond.classLink RX0 9 RX1 ∈ TW := tw_mem 120 (by decide +kernel) (by decide +kernel)
theorem it_X1 : Cond.instantiable RX1 7 ∈ TW := tw_mem 121 (by decide +kernel) (by decide +kernel)
theorem mn_X0_11 : Cond.methodLinkNest RX0 11 yX1_init RX5 ∈ lw_tbl := lw_mem 122 (by decide +kernel)
theorem im_X1_init : Cond.instanceMethod yX1_init ∈ TW := tw_mem 123 (by decide +kernel) (by decide +kernel)
set_option maxRecDepth 100000 in
theorem co_X1_init : Cond.code yX1_init cX1_init 1 none ∈ TW := tw_mem 124 rfl rfl
theorem ml_X1_3 : Cond.methodLink RX1 3 objectInit ∈ TW := tw_mem 125 (by decide +kernel) (by decide +kernel)
theorem fl_X1_9 : Cond.fieldLink RX1 9 "BentQuarters$Bounds" "low" "[I" ∈ TW := tw_mem 126 (by decide +kernel) (by decide +kernel)
theorem fl_X0_72 : Cond.fieldLink RX0 72 "BentQuarters$Bounds" "low" "[I" ∈ TW := tw_mem 127 (by decide +kernel) (by decide +kernel)
theorem fl_X1_15 : Cond.fieldLink RX1 15 "BentQuarters$Bounds" "high" "[I" ∈ TW := tw_mem 128 (by decide +kernel) (by decide +kernel)
theorem fl_X0_75 : Cond.fieldLink RX0 75 "BentQuarters$Bounds" "high" "[I" ∈ TW := tw_mem 129 (by decide +kernel) (by decide +kernel)
theorem fl_X1_18 : Cond.fieldLink RX1 18 "BentQuarters$Bounds" "leftLow" "[I" ∈ TW := tw_mem 130 (by decide +kernel) (by decide +kernel)
theorem fl_X0_126 : Cond.fieldLink RX0 126 "BentQuarters$Bounds" "leftLow" "[I" ∈ TW := tw_mem 131 (by decide +kernel) (by decide +kernel)
theorem fl_X1_21 : Cond.fieldLink RX1 21 "BentQuarters$Bounds" "leftHigh" "[I" ∈ TW := tw_mem 132 (by decide +kernel) (by decide +kernel)
theorem fl_X0_118 : Cond.fieldLink RX0 118 "BentQuarters$Bounds" "leftHigh" "[I" ∈ TW := tw_mem 133 (by decide +kernel) (by decide +kernel)
theorem fl_X1_24 : Cond.fieldLink RX1 24 "BentQuarters$Bounds" "bound" "[Z" ∈ TW := tw_mem 134 (by decide +kernel) (by decide +kernel)
theorem fl_X1_28 : Cond.fieldLink RX1 28 "BentQuarters$Bounds" "gaps" "[I" ∈ TW := tw_mem 135 (by decide +kernel) (by decide +kernel)
theorem fl_X1_31 : Cond.fieldLink RX1 31 "BentQuarters$Bounds" "quarters" "I" ∈ TW := tw_mem 136 (by decide +kernel) (by decide +kernel)
theorem fl_X0_117 : Cond.fieldLink RX0 117 "BentQuarters$Bounds" "quarters" "I" ∈ TW := tw_mem 137 (by decide +kernel) (by decide +kernel)
theorem ac_boolean : Cond.arrayClass .boolean ∈ TW := tw_mem 153 (by decide +kernel) (by decide +kernel)
theorem fl_X0_12 : Cond.fieldLink RX0 12 "BentQuarters$Bender" "bounds" "LBentQuarters$Bounds;" ∈ TW := tw_mem 154 (by decide +kernel) (by decide +kernel)
theorem fl_X0_18 : Cond.fieldLink RX0 18 "BentQuarters$Bender" "costs" "[J" ∈ TW := tw_mem 155 (by decide +kernel) (by decide +kernel)
theorem fl_X0_22 : Cond.fieldLink RX0 22 "BentQuarters$Bender" "ways" "[I" ∈ TW := tw_mem 156 (by decide +kernel) (by decide +kernel)
theorem fl_X0_26 : Cond.fieldLink RX0 26 "BentQuarters$Bender" "stepCosts" "[J" ∈ TW := tw_mem 157 (by decide +kernel) (by decide +kernel)
theorem fl_X0_29 : Cond.fieldLink RX0 29 "BentQuarters$Bender" "bestCost" "J" ∈ TW := tw_mem 158 (by decide +kernel) (by decide +kernel)
theorem fl_X0_33 : Cond.fieldLink RX0 33 "BentQuarters$Bender" "bestWays" "I" ∈ TW := tw_mem 159 (by decide +kernel) (by decide +kernel)
theorem fl_X0_37 : Cond.fieldLink RX0 37 "BentQuarters$Bender" "bestStep" "I" ∈ TW := tw_mem 160 (by decide +kernel) (by decide +kernel)
theorem fl_X0_40 : Cond.fieldLink RX0 40 "BentQuarters$Bender" "known" "Z" ∈ TW := tw_mem 161 (by decide +kernel) (by decide +kernel)
theorem fl_X0_44 : Cond.fieldLink RX0 44 "BentQuarters$Bender" "there" "Z" ∈ TW := tw_mem 162 (by decide +kernel) (by decide +kernel)
theorem fl_X0_47 : Cond.fieldLink RX0 47 "BentQuarters$Bender" "row" "[I" ∈ TW := tw_mem 163 (by decide +kernel) (by decide +kernel)
theorem fl_X5_108 : Cond.fieldLink RX5 108 "BentQuarters$Bender" "row" "[I" ∈ TW := tw_mem 164 (by decide +kernel) (by decide +kernel)
theorem fl_X0_50 : Cond.fieldLink RX0 50 "BentQuarters$Bender" "rows" "I" ∈ TW := tw_mem 165 (by decide +kernel) (by decide +kernel)
theorem fl_X5_142 : Cond.fieldLink RX5 142 "BentQuarters$Bender" "rows" "I" ∈ TW := tw_mem 166 (by decide +kernel) (by decide +kernel)
theorem ac_long : Cond.arrayClass .long ∈ TW := tw_mem 190 (by decide +kernel) (by decide +kernel)
theorem cl_X5_23 : Cond.classLink RX5 23 RX3 ∈ TW := tw_mem 191 (by decide +kernel) (by decide +kernel)
theorem it_X3 : Cond.instantiable RX3 3 ∈ TW := tw_mem 192 (by decide +kernel) (by decide +kernel)
theorem ml_X5_25 : Cond.methodLink RX5 25 yX3_init ∈ TW := tw_mem 193 (by decide +kernel) (by decide +kernel)
theorem im_X3_init : Cond.instanceMethod yX3_init ∈ TW := tw_mem 194 (by decide +kernel) (by decide +kernel)
set_option maxRecDepth 100000 in
theorem co_X3_init : Cond.code yX3_init cX3_init 2 none ∈ TW := tw_mem 195 rfl rfl
theorem ml_X3_3 : Cond.methodLink RX3 3 objectInit ∈ TW := tw_mem 196 (by decide +kernel) (by decide +kernel)
theorem cl_X3_9 : Cond.classLink RX3 9 RX2 ∈ TW := tw_mem 197 (by decide +kernel) (by decide +kernel)
theorem ml_X3_24 : Cond.methodLink RX3 24 yX2_init ∈ TW := tw_mem 199 (by decide +kernel) (by decide +kernel)
theorem fl_X3_11 : Cond.fieldLink RX3 11 "BentQuarters$Past" "ring" "[LBentQuarters$Figures;" ∈ TW := tw_mem 200 (by decide +kernel) (by decide +kernel)
theorem fl_X3_17 : Cond.fieldLink RX3 17 "BentQuarters$Past" "top" "I" ∈ TW := tw_mem 201 (by decide +kernel) (by decide +kernel)
theorem fl_X3_21 : Cond.fieldLink RX3 21 "BentQuarters$Past" "states" "I" ∈ TW := tw_mem 202 (by decide +kernel) (by decide +kernel)
theorem fl_X5_189 : Cond.fieldLink RX5 189 "BentQuarters$Past" "states" "I" ∈ TW := tw_mem 203 (by decide +kernel) (by decide +kernel)
theorem cl_X5_30 : Cond.classLink RX5 30 RX4 ∈ TW := tw_mem 211 (by decide +kernel) (by decide +kernel)
theorem it_X4 : Cond.instantiable RX4 9 ∈ TW := tw_mem 212 (by decide +kernel) (by decide +kernel)
theorem mn_X5_32 : Cond.methodLinkNest RX5 32 yX4_init RX5 ∈ lw_tbl := lw_mem 213 (by decide +kernel)
theorem im_X4_init : Cond.instanceMethod yX4_init ∈ TW := tw_mem 214 (by decide +kernel) (by decide +kernel)
set_option maxRecDepth 100000 in
theorem co_X4_init : Cond.code yX4_init cX4_init 1 none ∈ TW := tw_mem 215 rfl rfl
theorem ml_X4_3 : Cond.methodLink RX4 3 objectInit ∈ TW := tw_mem 216 (by decide +kernel) (by decide +kernel)
theorem fl_X4_9 : Cond.fieldLink RX4 9 "BentQuarters$Text" "bytes" "[I" ∈ TW := tw_mem 217 (by decide +kernel) (by decide +kernel)
theorem fl_X4_15 : Cond.fieldLink RX4 15 "BentQuarters$Text" "length" "I" ∈ TW := tw_mem 218 (by decide +kernel) (by decide +kernel)
theorem fl_X5_152 : Cond.fieldLink RX5 152 "BentQuarters$Text" "length" "I" ∈ TW := tw_mem 219 (by decide +kernel) (by decide +kernel)
theorem fl_X4_19 : Cond.fieldLink RX4 19 "BentQuarters$Text" "letters" "[I" ∈ TW := tw_mem 220 (by decide +kernel) (by decide +kernel)
theorem fl_X5_164 : Cond.fieldLink RX5 164 "BentQuarters$Text" "letters" "[I" ∈ TW := tw_mem 221 (by decide +kernel) (by decide +kernel)
theorem fl_X4_22 : Cond.fieldLink RX4 22 "BentQuarters$Text" "firsts" "[I" ∈ TW := tw_mem 222 (by decide +kernel) (by decide +kernel)
theorem fl_X5_167 : Cond.fieldLink RX5 167 "BentQuarters$Text" "firsts" "[I" ∈ TW := tw_mem 223 (by decide +kernel) (by decide +kernel)
theorem fl_X4_25 : Cond.fieldLink RX4 25 "BentQuarters$Text" "seconds" "[I" ∈ TW := tw_mem 224 (by decide +kernel) (by decide +kernel)
theorem fl_X5_170 : Cond.fieldLink RX5 170 "BentQuarters$Text" "seconds" "[I" ∈ TW := tw_mem 225 (by decide +kernel) (by decide +kernel)
theorem fl_X4_28 : Cond.fieldLink RX4 28 "BentQuarters$Text" "orders" "I" ∈ TW := tw_mem 226 (by decide +kernel) (by decide +kernel)
theorem fl_X5_161 : Cond.fieldLink RX5 161 "BentQuarters$Text" "orders" "I" ∈ TW := tw_mem 227 (by decide +kernel) (by decide +kernel)
theorem fl_X4_31 : Cond.fieldLink RX4 31 "BentQuarters$Text" "open" "Z" ∈ TW := tw_mem 228 (by decide +kernel) (by decide +kernel)
theorem fl_X4_35 : Cond.fieldLink RX4 35 "BentQuarters$Text" "numbers" "I" ∈ TW := tw_mem 229 (by decide +kernel) (by decide +kernel)
theorem fl_X4_38 : Cond.fieldLink RX4 38 "BentQuarters$Text" "figuresInNumber" "I" ∈ TW := tw_mem 230 (by decide +kernel) (by decide +kernel)
theorem fl_X5_12 : Cond.fieldLink RX5 12 "BentQuarters" "figures" "LBentQuarters$Figures;" ∈ TW := tw_mem 250 (by decide +kernel) (by decide +kernel)
theorem fl_X5_19 : Cond.fieldLink RX5 19 "BentQuarters" "bender" "LBentQuarters$Bender;" ∈ TW := tw_mem 251 (by decide +kernel) (by decide +kernel)
theorem fl_X5_26 : Cond.fieldLink RX5 26 "BentQuarters" "past" "LBentQuarters$Past;" ∈ TW := tw_mem 252 (by decide +kernel) (by decide +kernel)
theorem fl_X5_33 : Cond.fieldLink RX5 33 "BentQuarters" "text" "LBentQuarters$Text;" ∈ TW := tw_mem 253 (by decide +kernel) (by decide +kernel)
theorem fl_X5_37 : Cond.fieldLink RX5 37 "BentQuarters" "refusals" "[I" ∈ TW := tw_mem 254 (by decide +kernel) (by decide +kernel)
theorem fl_X5_41 : Cond.fieldLink RX5 41 "BentQuarters" "shares" "[I" ∈ TW := tw_mem 255 (by decide +kernel) (by decide +kernel)
theorem ml_L_13 : Cond.methodLink RL 13 yX5_quarter ∈ TW := tw_mem 269 (by decide +kernel) (by decide +kernel)
theorem im_X5_quarter : Cond.instanceMethod yX5_quarter ∈ TW := tw_mem 270 (by decide +kernel) (by decide +kernel)
theorem se_X5_quarter : Cond.selects RX5 yX5_quarter yX5_quarter ∈ TW := tw_mem 271 (by decide +kernel) (by decide +kernel)
set_option maxRecDepth 100000 in
theorem co_X5_quarter : Cond.code yX5_quarter cX5_quarter 2 (some .int) ∈ TW := tw_mem 272 rfl rfl
theorem ml_X5_44 : Cond.methodLink RX5 44 yX3_holds ∈ TW := tw_mem 273 (by decide +kernel) (by decide +kernel)
theorem im_X3_holds : Cond.instanceMethod yX3_holds ∈ TW := tw_mem 274 (by decide +kernel) (by decide +kernel)
theorem se_X3_holds : Cond.selects RX3 yX3_holds yX3_holds ∈ TW := tw_mem 275 (by decide +kernel) (by decide +kernel)
set_option maxRecDepth 100000 in
theorem co_X3_holds : Cond.code yX3_holds cX3_holds 2 none ∈ TW := tw_mem 276 rfl rfl
theorem ml_X3_25 : Cond.methodLink RX3 25 yX2_becomes ∈ TW := tw_mem 277 (by decide +kernel) (by decide +kernel)
theorem im_X2_becomes : Cond.instanceMethod yX2_becomes ∈ TW := tw_mem 278 (by decide +kernel) (by decide +kernel)
theorem se_X2_becomes : Cond.selects RX2 yX2_becomes yX2_becomes ∈ TW := tw_mem 279 (by decide +kernel) (by decide +kernel)
set_option maxRecDepth 100000 in
theorem co_X2_becomes : Cond.code yX2_becomes cX2_becomes 2 none ∈ TW := tw_mem 280 rfl rfl
theorem ml_X2_34 : Cond.methodLink RX2 34 arraycopyName ∈ TW := tw_mem 281 (by decide +kernel) (by decide +kernel)
theorem st_ACP : Cond.static arraycopyName ∈ TW := tw_mem 282 (by decide +kernel) (by decide +kernel)
theorem na_ACP : Cond.native arraycopyName ∈ lw_tbl := lw_mem 283 (by decide +kernel)
theorem tna_ACP : Cond.native arraycopyName ∈ TW := tw_mem 283 (by decide +kernel) (by decide +kernel)
theorem ml_X5_48 : Cond.methodLink RX5 48 yX2_adds ∈ TW := tw_mem 284 (by decide +kernel) (by decide +kernel)
theorem im_X2_adds : Cond.instanceMethod yX2_adds ∈ TW := tw_mem 285 (by decide +kernel) (by decide +kernel)
theorem se_X2_adds : Cond.selects RX2 yX2_adds yX2_adds ∈ TW := tw_mem 286 (by decide +kernel) (by decide +kernel)
set_option maxRecDepth 100000 in
theorem co_X2_adds : Cond.code yX2_adds cX2_adds 2 (some .int) ∈ TW := tw_mem 287 rfl rfl
theorem mn_X2_40 : Cond.methodLinkNest RX2 40 yX5_within RX5 ∈ lw_tbl := lw_mem 288 (by decide +kernel)
theorem st_X5_within : Cond.static yX5_within ∈ TW := tw_mem 289 (by decide +kernel) (by decide +kernel)
set_option maxRecDepth 100000 in
theorem co_X5_within : Cond.code yX5_within cX5_within 3 (some .boolean) ∈ TW := tw_mem 290 rfl rfl
theorem ml_X5_52 : Cond.methodLink RX5 52 yX5_settles ∈ TW := tw_mem 291 (by decide +kernel) (by decide +kernel)
theorem im_X5_settles : Cond.instanceMethod yX5_settles ∈ TW := tw_mem 293 (by decide +kernel) (by decide +kernel)
set_option maxRecDepth 100000 in
theorem co_X5_settles : Cond.code yX5_settles cX5_settles 2 (some .int) ∈ TW := tw_mem 294 rfl rfl
theorem ml_X5_177 : Cond.methodLink RX5 177 yX5_isRefusal ∈ TW := tw_mem 295 (by decide +kernel) (by decide +kernel)
theorem st_X5_isRefusal : Cond.static yX5_isRefusal ∈ TW := tw_mem 296 (by decide +kernel) (by decide +kernel)
set_option maxRecDepth 100000 in
theorem co_X5_isRefusal : Cond.code yX5_isRefusal cX5_isRefusal 1 (some .boolean) ∈ TW := tw_mem 297 rfl rfl
theorem ml_X5_89 : Cond.methodLink RX5 89 yX5_refuses ∈ TW := tw_mem 298 (by decide +kernel) (by decide +kernel)
theorem im_X5_refuses : Cond.instanceMethod yX5_refuses ∈ TW := tw_mem 300 (by decide +kernel) (by decide +kernel)
set_option maxRecDepth 100000 in
theorem co_X5_refuses : Cond.code yX5_refuses cX5_refuses 3 (some .int) ∈ TW := tw_mem 301 rfl rfl
theorem ml_X5_85 : Cond.methodLink RX5 85 yX5_within ∈ TW := tw_mem 302 (by decide +kernel) (by decide +kernel)
theorem ml_X5_186 : Cond.methodLink RX5 186 yX3_keeps ∈ TW := tw_mem 303 (by decide +kernel) (by decide +kernel)
theorem im_X3_keeps : Cond.instanceMethod yX3_keeps ∈ TW := tw_mem 304 (by decide +kernel) (by decide +kernel)
theorem se_X3_keeps : Cond.selects RX3 yX3_keeps yX3_keeps ∈ TW := tw_mem 305 (by decide +kernel) (by decide +kernel)
set_option maxRecDepth 100000 in
theorem co_X3_keeps : Cond.code yX3_keeps cX3_keeps 1 none ∈ TW := tw_mem 306 rfl rfl
theorem ml_X3_29 : Cond.methodLink RX3 29 Lib.Math.min.name ∈ TW := tw_mem 307 (by decide +kernel) (by decide +kernel)
theorem st_MIN : Cond.static Lib.Math.min.name ∈ TW := tw_mem 308 (by decide +kernel) (by decide +kernel)
set_option maxRecDepth 100000 in
theorem co_MIN : Cond.code Lib.Math.min.name Lib.Math.min.code 2 (some .int) ∈ TW := tw_mem 309 rfl rfl
theorem ml_X5_180 : Cond.methodLink RX5 180 yX0_forgets ∈ TW := tw_mem 310 (by decide +kernel) (by decide +kernel)
theorem im_X0_forgets : Cond.instanceMethod yX0_forgets ∈ TW := tw_mem 311 (by decide +kernel) (by decide +kernel)
theorem se_X0_forgets : Cond.selects RX0 yX0_forgets yX0_forgets ∈ TW := tw_mem 312 (by decide +kernel) (by decide +kernel)
set_option maxRecDepth 100000 in
theorem co_X0_forgets : Cond.code yX0_forgets cX0_forgets 1 none ∈ TW := tw_mem 313 rfl rfl
theorem ml_L_18 : Cond.methodLink RL 18 yX5_indicates ∈ TW := tw_mem 314 (by decide +kernel) (by decide +kernel)
theorem im_X5_indicates : Cond.instanceMethod yX5_indicates ∈ TW := tw_mem 315 (by decide +kernel) (by decide +kernel)
theorem se_X5_indicates : Cond.selects RX5 yX5_indicates yX5_indicates ∈ TW := tw_mem 316 (by decide +kernel) (by decide +kernel)
set_option maxRecDepth 100000 in
theorem co_X5_indicates : Cond.code yX5_indicates cX5_indicates 3 (some .int) ∈ TW := tw_mem 317 rfl rfl
theorem ml_X5_55 : Cond.methodLink RX5 55 yX2_reindicates ∈ TW := tw_mem 318 (by decide +kernel) (by decide +kernel)
theorem im_X2_reindicates : Cond.instanceMethod yX2_reindicates ∈ TW := tw_mem 319 (by decide +kernel) (by decide +kernel)
theorem se_X2_reindicates : Cond.selects RX2 yX2_reindicates yX2_reindicates ∈ TW := tw_mem 320 (by decide +kernel) (by decide +kernel)
set_option maxRecDepth 100000 in
theorem co_X2_reindicates : Cond.code yX2_reindicates cX2_reindicates 4 (some .int) ∈ TW := tw_mem 321 rfl rfl
theorem ml_X2_44 : Cond.methodLink RX2 44 yX2_has ∈ TW := tw_mem 322 (by decide +kernel) (by decide +kernel)
theorem im_X2_has : Cond.instanceMethod yX2_has ∈ TW := tw_mem 323 (by decide +kernel) (by decide +kernel)
theorem se_X2_has : Cond.selects RX2 yX2_has yX2_has ∈ TW := tw_mem 324 (by decide +kernel) (by decide +kernel)
set_option maxRecDepth 100000 in
theorem co_X2_has : Cond.code yX2_has cX2_has 2 (some .boolean) ∈ TW := tw_mem 325 rfl rfl
theorem ml_L_23 : Cond.methodLink RL 23 yX5_total ∈ TW := tw_mem 326 (by decide +kernel) (by decide +kernel)
theorem im_X5_total : Cond.instanceMethod yX5_total ∈ TW := tw_mem 327 (by decide +kernel) (by decide +kernel)
theorem se_X5_total : Cond.selects RX5 yX5_total yX5_total ∈ TW := tw_mem 328 (by decide +kernel) (by decide +kernel)
set_option maxRecDepth 100000 in
theorem co_X5_total : Cond.code yX5_total cX5_total 3 (some .int) ∈ TW := tw_mem 329 rfl rfl
theorem ml_X5_59 : Cond.methodLink RX5 59 yX2_tells ∈ TW := tw_mem 330 (by decide +kernel) (by decide +kernel)
theorem im_X2_tells : Cond.instanceMethod yX2_tells ∈ TW := tw_mem 331 (by decide +kernel) (by decide +kernel)
theorem se_X2_tells : Cond.selects RX2 yX2_tells yX2_tells ∈ TW := tw_mem 332 (by decide +kernel) (by decide +kernel)
set_option maxRecDepth 100000 in
theorem co_X2_tells : Cond.code yX2_tells cX2_tells 4 (some .int) ∈ TW := tw_mem 333 rfl rfl
theorem mn_X2_48 : Cond.methodLinkNest RX2 48 yX5_isYear RX5 ∈ lw_tbl := lw_mem 334 (by decide +kernel)
theorem st_X5_isYear : Cond.static yX5_isYear ∈ TW := tw_mem 335 (by decide +kernel) (by decide +kernel)
set_option maxRecDepth 100000 in
theorem co_X5_isYear : Cond.code yX5_isYear cX5_isYear 1 (some .boolean) ∈ TW := tw_mem 336 rfl rfl
theorem ml_L_27 : Cond.methodLink RL 27 yX5_untold ∈ TW := tw_mem 337 (by decide +kernel) (by decide +kernel)
theorem im_X5_untold : Cond.instanceMethod yX5_untold ∈ TW := tw_mem 338 (by decide +kernel) (by decide +kernel)
theorem se_X5_untold : Cond.selects RX5 yX5_untold yX5_untold ∈ TW := tw_mem 339 (by decide +kernel) (by decide +kernel)
set_option maxRecDepth 100000 in
theorem co_X5_untold : Cond.code yX5_untold cX5_untold 2 (some .int) ∈ TW := tw_mem 340 rfl rfl
theorem ml_X5_62 : Cond.methodLink RX5 62 yX2_untells ∈ TW := tw_mem 341 (by decide +kernel) (by decide +kernel)
theorem im_X2_untells : Cond.instanceMethod yX2_untells ∈ TW := tw_mem 342 (by decide +kernel) (by decide +kernel)
theorem se_X2_untells : Cond.selects RX2 yX2_untells yX2_untells ∈ TW := tw_mem 343 (by decide +kernel) (by decide +kernel)
set_option maxRecDepth 100000 in
theorem co_X2_untells : Cond.code yX2_untells cX2_untells 3 (some .int) ∈ TW := tw_mem 344 rfl rfl
theorem ml_L_31 : Cond.methodLink RL 31 yX5_freezes ∈ TW := tw_mem 345 (by decide +kernel) (by decide +kernel)
theorem im_X5_freezes : Cond.instanceMethod yX5_freezes ∈ TW := tw_mem 346 (by decide +kernel) (by decide +kernel)
theorem se_X5_freezes : Cond.selects RX5 yX5_freezes yX5_freezes ∈ TW := tw_mem 347 (by decide +kernel) (by decide +kernel)
set_option maxRecDepth 100000 in
theorem co_X5_freezes : Cond.code yX5_freezes cX5_freezes 3 (some .int) ∈ TW := tw_mem 348 rfl rfl
theorem ml_X5_65 : Cond.methodLink RX5 65 yX2_ices ∈ TW := tw_mem 349 (by decide +kernel) (by decide +kernel)
theorem im_X2_ices : Cond.instanceMethod yX2_ices ∈ TW := tw_mem 350 (by decide +kernel) (by decide +kernel)
theorem se_X2_ices : Cond.selects RX2 yX2_ices yX2_ices ∈ TW := tw_mem 351 (by decide +kernel) (by decide +kernel)
set_option maxRecDepth 100000 in
theorem co_X2_ices : Cond.code yX2_ices cX2_ices 4 (some .int) ∈ TW := tw_mem 352 rfl rfl
theorem ml_X2_51 : Cond.methodLink RX2 51 yX2_isPrinted ∈ TW := tw_mem 353 (by decide +kernel) (by decide +kernel)
theorem im_X2_isPrinted : Cond.instanceMethod yX2_isPrinted ∈ TW := tw_mem 354 (by decide +kernel) (by decide +kernel)
theorem se_X2_isPrinted : Cond.selects RX2 yX2_isPrinted yX2_isPrinted ∈ TW := tw_mem 355 (by decide +kernel) (by decide +kernel)
set_option maxRecDepth 100000 in
theorem co_X2_isPrinted : Cond.code yX2_isPrinted cX2_isPrinted 2 (some .boolean) ∈ TW := tw_mem 356 rfl rfl
theorem ml_X2_54 : Cond.methodLink RX2 54 yJ6_bitCount_0f7a4 ∈ TW := tw_mem 357 (by decide +kernel) (by decide +kernel)
theorem st_J6_bitCount_0f7a4 : Cond.static yJ6_bitCount_0f7a4 ∈ TW := tw_mem 358 (by decide +kernel) (by decide +kernel)
set_option maxRecDepth 100000 in
theorem co_J6_bitCount_0f7a4 : Cond.code yJ6_bitCount_0f7a4 cJ6_bitCount_0f7a4 1 (some .int) ∈ TW := tw_mem 359 rfl rfl
theorem kc_J6_265 : Cond.constant RJ6 265 (1431655765) ∈ TW := tw_mem 360 (by decide +kernel) (by decide +kernel)
theorem kc_J6_266 : Cond.constant RJ6 266 (858993459) ∈ TW := tw_mem 361 (by decide +kernel) (by decide +kernel)
theorem kc_J6_267 : Cond.constant RJ6 267 (252645135) ∈ TW := tw_mem 362 (by decide +kernel) (by decide +kernel)
theorem ml_L_35 : Cond.methodLink RL 35 yX5_limits ∈ TW := tw_mem 363 (by decide +kernel) (by decide +kernel)
theorem im_X5_limits : Cond.instanceMethod yX5_limits ∈ TW := tw_mem 364 (by decide +kernel) (by decide +kernel)
theorem se_X5_limits : Cond.selects RX5 yX5_limits yX5_limits ∈ TW := tw_mem 365 (by decide +kernel) (by decide +kernel)
set_option maxRecDepth 100000 in
theorem co_X5_limits : Cond.code yX5_limits cX5_limits 2 (some .int) ∈ TW := tw_mem 366 rfl rfl
theorem ml_X5_68 : Cond.methodLink RX5 68 yX2_bounds ∈ TW := tw_mem 367 (by decide +kernel) (by decide +kernel)
theorem im_X2_bounds : Cond.instanceMethod yX2_bounds ∈ TW := tw_mem 368 (by decide +kernel) (by decide +kernel)
theorem se_X2_bounds : Cond.selects RX2 yX2_bounds yX2_bounds ∈ TW := tw_mem 369 (by decide +kernel) (by decide +kernel)
set_option maxRecDepth 100000 in
theorem co_X2_bounds : Cond.code yX2_bounds cX2_bounds 3 (some .int) ∈ TW := tw_mem 370 rfl rfl
theorem ml_L_39 : Cond.methodLink RL 39 yX5_form ∈ TW := tw_mem 371 (by decide +kernel) (by decide +kernel)
theorem im_X5_form : Cond.instanceMethod yX5_form ∈ TW := tw_mem 372 (by decide +kernel) (by decide +kernel)
theorem se_X5_form : Cond.selects RX5 yX5_form yX5_form ∈ TW := tw_mem 373 (by decide +kernel) (by decide +kernel)
set_option maxRecDepth 100000 in
theorem co_X5_form : Cond.code yX5_form cX5_form 2 (some .int) ∈ TW := tw_mem 374 rfl rfl
theorem ml_X5_71 : Cond.methodLink RX5 71 yX2_shapes ∈ TW := tw_mem 375 (by decide +kernel) (by decide +kernel)
theorem im_X2_shapes : Cond.instanceMethod yX2_shapes ∈ TW := tw_mem 376 (by decide +kernel) (by decide +kernel)
theorem se_X2_shapes : Cond.selects RX2 yX2_shapes yX2_shapes ∈ TW := tw_mem 377 (by decide +kernel) (by decide +kernel)
set_option maxRecDepth 100000 in
theorem co_X2_shapes : Cond.code yX2_shapes cX2_shapes 3 (some .int) ∈ TW := tw_mem 378 rfl rfl
theorem mn_X2_60 : Cond.methodLinkNest RX2 60 yX5_isForm RX5 ∈ lw_tbl := lw_mem 379 (by decide +kernel)
theorem st_X5_isForm : Cond.static yX5_isForm ∈ TW := tw_mem 380 (by decide +kernel) (by decide +kernel)
set_option maxRecDepth 100000 in
theorem co_X5_isForm : Cond.code yX5_isForm cX5_isForm 1 (some .boolean) ∈ TW := tw_mem 381 rfl rfl
theorem ml_L_43 : Cond.methodLink RL 43 yX5_publishes ∈ TW := tw_mem 382 (by decide +kernel) (by decide +kernel)
theorem im_X5_publishes : Cond.instanceMethod yX5_publishes ∈ TW := tw_mem 383 (by decide +kernel) (by decide +kernel)
theorem se_X5_publishes : Cond.selects RX5 yX5_publishes yX5_publishes ∈ TW := tw_mem 384 (by decide +kernel) (by decide +kernel)
set_option maxRecDepth 100000 in
theorem co_X5_publishes : Cond.code yX5_publishes cX5_publishes 1 (some .int) ∈ TW := tw_mem 385 rfl rfl
theorem ml_X5_74 : Cond.methodLink RX5 74 yX5_prints ∈ TW := tw_mem 386 (by decide +kernel) (by decide +kernel)
theorem im_X5_prints : Cond.instanceMethod yX5_prints ∈ TW := tw_mem 388 (by decide +kernel) (by decide +kernel)
set_option maxRecDepth 100000 in
theorem co_X5_prints : Cond.code yX5_prints cX5_prints 2 (some .int) ∈ TW := tw_mem 389 rfl rfl
theorem ml_X5_104 : Cond.methodLink RX5 104 yX0_bends ∈ TW := tw_mem 390 (by decide +kernel) (by decide +kernel)
theorem im_X0_bends : Cond.instanceMethod yX0_bends ∈ TW := tw_mem 391 (by decide +kernel) (by decide +kernel)
theorem se_X0_bends : Cond.selects RX0 yX0_bends yX0_bends ∈ TW := tw_mem 392 (by decide +kernel) (by decide +kernel)
set_option maxRecDepth 100000 in
theorem co_X0_bends : Cond.code yX0_bends cX0_bends 2 (some .boolean) ∈ TW := tw_mem 393 rfl rfl
theorem ml_X0_53 : Cond.methodLink RX0 53 yX1_lays ∈ TW := tw_mem 394 (by decide +kernel) (by decide +kernel)
theorem im_X1_lays : Cond.instanceMethod yX1_lays ∈ TW := tw_mem 395 (by decide +kernel) (by decide +kernel)
theorem se_X1_lays : Cond.selects RX1 yX1_lays yX1_lays ∈ TW := tw_mem 396 (by decide +kernel) (by decide +kernel)
set_option maxRecDepth 100000 in
theorem co_X1_lays : Cond.code yX1_lays cX1_lays 6 (some .boolean) ∈ TW := tw_mem 397 rfl rfl
theorem ml_X1_38 : Cond.methodLink RX1 38 yX1_laysQuarter ∈ TW := tw_mem 398 (by decide +kernel) (by decide +kernel)
theorem im_X1_laysQuarter : Cond.instanceMethod yX1_laysQuarter ∈ TW := tw_mem 400 (by decide +kernel) (by decide +kernel)
set_option maxRecDepth 100000 in
theorem co_X1_laysQuarter : Cond.code yX1_laysQuarter cX1_laysQuarter 6 none ∈ TW := tw_mem 401 rfl rfl
theorem ml_X1_53 : Cond.methodLink RX1 53 yX2_isFrozen ∈ TW := tw_mem 402 (by decide +kernel) (by decide +kernel)
theorem im_X2_isFrozen : Cond.instanceMethod yX2_isFrozen ∈ TW := tw_mem 403 (by decide +kernel) (by decide +kernel)
theorem se_X2_isFrozen : Cond.selects RX2 yX2_isFrozen yX2_isFrozen ∈ TW := tw_mem 404 (by decide +kernel) (by decide +kernel)
set_option maxRecDepth 100000 in
theorem co_X2_isFrozen : Cond.code yX2_isFrozen cX2_isFrozen 2 (some .boolean) ∈ TW := tw_mem 405 rfl rfl
theorem ml_X1_56 : Cond.methodLink RX1 56 yX2_isPrinted ∈ TW := tw_mem 406 (by decide +kernel) (by decide +kernel)
theorem ml_X1_65 : Cond.methodLink RX1 65 Lib.Math.max.name ∈ TW := tw_mem 407 (by decide +kernel) (by decide +kernel)
theorem st_MAX : Cond.static Lib.Math.max.name ∈ TW := tw_mem 408 (by decide +kernel) (by decide +kernel)
set_option maxRecDepth 100000 in
theorem co_MAX : Cond.code Lib.Math.max.name Lib.Math.max.code 2 (some .int) ∈ TW := tw_mem 409 rfl rfl
theorem ml_X1_71 : Cond.methodLink RX1 71 Lib.Math.min.name ∈ TW := tw_mem 410 (by decide +kernel) (by decide +kernel)
theorem ml_X1_45 : Cond.methodLink RX1 45 yX2_gap ∈ TW := tw_mem 411 (by decide +kernel) (by decide +kernel)
theorem im_X2_gap : Cond.instanceMethod yX2_gap ∈ TW := tw_mem 412 (by decide +kernel) (by decide +kernel)
theorem se_X2_gap : Cond.selects RX2 yX2_gap yX2_gap ∈ TW := tw_mem 413 (by decide +kernel) (by decide +kernel)
set_option maxRecDepth 100000 in
theorem co_X2_gap : Cond.code yX2_gap cX2_gap 2 (some .int) ∈ TW := tw_mem 414 rfl rfl
theorem ml_X2_70 : Cond.methodLink RX2 70 yX2_indicated ∈ TW := tw_mem 415 (by decide +kernel) (by decide +kernel)
theorem im_X2_indicated : Cond.instanceMethod yX2_indicated ∈ TW := tw_mem 416 (by decide +kernel) (by decide +kernel)
theorem se_X2_indicated : Cond.selects RX2 yX2_indicated yX2_indicated ∈ TW := tw_mem 417 (by decide +kernel) (by decide +kernel)
set_option maxRecDepth 100000 in
theorem co_X2_indicated : Cond.code yX2_indicated cX2_indicated 4 (some .int) ∈ TW := tw_mem 418 rfl rfl
theorem ml_X1_49 : Cond.methodLink RX1 49 yX1_laysYear ∈ TW := tw_mem 419 (by decide +kernel) (by decide +kernel)
theorem im_X1_laysYear : Cond.instanceMethod yX1_laysYear ∈ TW := tw_mem 421 (by decide +kernel) (by decide +kernel)
set_option maxRecDepth 100000 in
theorem co_X1_laysYear : Cond.code yX1_laysYear cX1_laysYear 9 (some .boolean) ∈ TW := tw_mem 422 rfl rfl
theorem ml_X0_62 : Cond.methodLink RX0 62 yX0_fills ∈ TW := tw_mem 423 (by decide +kernel) (by decide +kernel)
theorem im_X0_fills : Cond.instanceMethod yX0_fills ∈ TW := tw_mem 425 (by decide +kernel) (by decide +kernel)
set_option maxRecDepth 100000 in
theorem co_X0_fills : Cond.code yX0_fills cX0_fills 6 none ∈ TW := tw_mem 426 rfl rfl
theorem ml_X0_78 : Cond.methodLink RX0 78 yX0_weighsSteps ∈ TW := tw_mem 427 (by decide +kernel) (by decide +kernel)
theorem im_X0_weighsSteps : Cond.instanceMethod yX0_weighsSteps ∈ TW := tw_mem 429 (by decide +kernel) (by decide +kernel)
set_option maxRecDepth 100000 in
theorem co_X0_weighsSteps : Cond.code yX0_weighsSteps cX0_weighsSteps 7 none ∈ TW := tw_mem 430 rfl rfl
theorem ml_X0_82 : Cond.methodLink RX0 82 yX1_mostLeft ∈ TW := tw_mem 431 (by decide +kernel) (by decide +kernel)
theorem im_X1_mostLeft : Cond.instanceMethod yX1_mostLeft ∈ TW := tw_mem 432 (by decide +kernel) (by decide +kernel)
theorem se_X1_mostLeft : Cond.selects RX1 yX1_mostLeft yX1_mostLeft ∈ TW := tw_mem 433 (by decide +kernel) (by decide +kernel)
set_option maxRecDepth 100000 in
theorem co_X1_mostLeft : Cond.code yX1_mostLeft cX1_mostLeft 4 (some .int) ∈ TW := tw_mem 434 rfl rfl
theorem ml_X1_74 : Cond.methodLink RX1 74 yX1_isBound ∈ TW := tw_mem 435 (by decide +kernel) (by decide +kernel)
theorem im_X1_isBound : Cond.instanceMethod yX1_isBound ∈ TW := tw_mem 436 (by decide +kernel) (by decide +kernel)
theorem se_X1_isBound : Cond.selects RX1 yX1_isBound yX1_isBound ∈ TW := tw_mem 437 (by decide +kernel) (by decide +kernel)
set_option maxRecDepth 100000 in
theorem co_X1_isBound : Cond.code yX1_isBound cX1_isBound 2 (some .boolean) ∈ TW := tw_mem 438 rfl rfl
theorem ml_X1_77 : Cond.methodLink RX1 77 yX1_leftAhead ∈ TW := tw_mem 439 (by decide +kernel) (by decide +kernel)
theorem im_X1_leftAhead : Cond.instanceMethod yX1_leftAhead ∈ TW := tw_mem 440 (by decide +kernel) (by decide +kernel)
theorem se_X1_leftAhead : Cond.selects RX1 yX1_leftAhead yX1_leftAhead ∈ TW := tw_mem 441 (by decide +kernel) (by decide +kernel)
set_option maxRecDepth 100000 in
theorem co_X1_leftAhead : Cond.code yX1_leftAhead cX1_leftAhead 3 (some .int) ∈ TW := tw_mem 442 rfl rfl
theorem ml_X0_86 : Cond.methodLink RX0 86 yX1_leastLeft ∈ TW := tw_mem 443 (by decide +kernel) (by decide +kernel)
theorem im_X1_leastLeft : Cond.instanceMethod yX1_leastLeft ∈ TW := tw_mem 444 (by decide +kernel) (by decide +kernel)
theorem se_X1_leastLeft : Cond.selects RX1 yX1_leastLeft yX1_leastLeft ∈ TW := tw_mem 445 (by decide +kernel) (by decide +kernel)
set_option maxRecDepth 100000 in
theorem co_X1_leastLeft : Cond.code yX1_leastLeft cX1_leastLeft 4 (some .int) ∈ TW := tw_mem 446 rfl rfl
theorem ml_X0_89 : Cond.methodLink RX0 89 yX0_choosesStep ∈ TW := tw_mem 447 (by decide +kernel) (by decide +kernel)
theorem im_X0_choosesStep : Cond.instanceMethod yX0_choosesStep ∈ TW := tw_mem 449 (by decide +kernel) (by decide +kernel)
set_option maxRecDepth 100000 in
theorem co_X0_choosesStep : Cond.code yX0_choosesStep cX0_choosesStep 12 none ∈ TW := tw_mem 450 rfl rfl
theorem ml_X0_105 : Cond.methodLink RX0 105 yX1_isBound ∈ TW := tw_mem 451 (by decide +kernel) (by decide +kernel)
theorem ml_X0_108 : Cond.methodLink RX0 108 yX1_leftAhead ∈ TW := tw_mem 452 (by decide +kernel) (by decide +kernel)
theorem ml_X0_121 : Cond.methodLink RX0 121 Lib.Math.max.name ∈ TW := tw_mem 453 (by decide +kernel) (by decide +kernel)
theorem ml_X0_129 : Cond.methodLink RX0 129 Lib.Math.min.name ∈ TW := tw_mem 454 (by decide +kernel) (by decide +kernel)
theorem ml_X0_93 : Cond.methodLink RX0 93 yX0_spot ∈ TW := tw_mem 455 (by decide +kernel) (by decide +kernel)
theorem im_X0_spot : Cond.instanceMethod yX0_spot ∈ TW := tw_mem 457 (by decide +kernel) (by decide +kernel)
set_option maxRecDepth 100000 in
theorem co_X0_spot : Cond.code yX0_spot cX0_spot 5 (some .int) ∈ TW := tw_mem 458 rfl rfl
theorem fn_X0_134 : Cond.fieldLinkNest RX0 134 "BentQuarters" "SPOTS_BEGIN" "[I" "BentQuarters" ∈ lw_tbl := lw_mem 459 (by decide +kernel)
theorem ls_0 : Cond.laysStatic "BentQuarters" "SPOTS_BEGIN" "[I" ∈ lw_tbl := lw_mem 460 (by decide +kernel)
theorem kl_X0_132 : Cond.constantLong RX0 132 (1152921504606846976) ∈ TW := tw_mem 461 (by decide +kernel) (by decide +kernel)
theorem ml_X0_101 : Cond.methodLink RX0 101 yX0_isSpot ∈ TW := tw_mem 462 (by decide +kernel) (by decide +kernel)
theorem im_X0_isSpot : Cond.instanceMethod yX0_isSpot ∈ TW := tw_mem 464 (by decide +kernel) (by decide +kernel)
set_option maxRecDepth 100000 in
theorem co_X0_isSpot : Cond.code yX0_isSpot cX0_isSpot 2 (some .boolean) ∈ TW := tw_mem 465 rfl rfl
theorem ml_X0_97 : Cond.methodLink RX0 97 yX0_keepsBest ∈ TW := tw_mem 466 (by decide +kernel) (by decide +kernel)
theorem im_X0_keepsBest : Cond.instanceMethod yX0_keepsBest ∈ TW := tw_mem 468 (by decide +kernel) (by decide +kernel)
set_option maxRecDepth 100000 in
theorem co_X0_keepsBest : Cond.code yX0_keepsBest cX0_keepsBest 2 none ∈ TW := tw_mem 469 rfl rfl
theorem ml_X0_66 : Cond.methodLink RX0 66 yX0_traces ∈ TW := tw_mem 470 (by decide +kernel) (by decide +kernel)
theorem im_X0_traces : Cond.instanceMethod yX0_traces ∈ TW := tw_mem 472 (by decide +kernel) (by decide +kernel)
set_option maxRecDepth 100000 in
theorem co_X0_traces : Cond.code yX0_traces cX0_traces 5 none ∈ TW := tw_mem 473 rfl rfl
theorem ml_L_48 : Cond.methodLink RL 48 yX5_recalls ∈ TW := tw_mem 474 (by decide +kernel) (by decide +kernel)
theorem im_X5_recalls : Cond.instanceMethod yX5_recalls ∈ TW := tw_mem 475 (by decide +kernel) (by decide +kernel)
theorem se_X5_recalls : Cond.selects RX5 yX5_recalls yX5_recalls ∈ TW := tw_mem 476 (by decide +kernel) (by decide +kernel)
set_option maxRecDepth 100000 in
theorem co_X5_recalls : Cond.code yX5_recalls cX5_recalls 1 (some .int) ∈ TW := tw_mem 477 rfl rfl
theorem ml_X5_78 : Cond.methodLink RX5 78 yX2_unprints ∈ TW := tw_mem 478 (by decide +kernel) (by decide +kernel)
theorem im_X2_unprints : Cond.instanceMethod yX2_unprints ∈ TW := tw_mem 479 (by decide +kernel) (by decide +kernel)
theorem se_X2_unprints : Cond.selects RX2 yX2_unprints yX2_unprints ∈ TW := tw_mem 480 (by decide +kernel) (by decide +kernel)
set_option maxRecDepth 100000 in
theorem co_X2_unprints : Cond.code yX2_unprints cX2_unprints 3 (some .int) ∈ TW := tw_mem 481 rfl rfl
theorem ml_X2_63 : Cond.methodLink RX2 63 yX2_printedOnes ∈ TW := tw_mem 482 (by decide +kernel) (by decide +kernel)
theorem im_X2_printedOnes : Cond.instanceMethod yX2_printedOnes ∈ TW := tw_mem 483 (by decide +kernel) (by decide +kernel)
theorem se_X2_printedOnes : Cond.selects RX2 yX2_printedOnes yX2_printedOnes ∈ TW := tw_mem 484 (by decide +kernel) (by decide +kernel)
set_option maxRecDepth 100000 in
theorem co_X2_printedOnes : Cond.code yX2_printedOnes cX2_printedOnes 3 (some .int) ∈ TW := tw_mem 485 rfl rfl
theorem ml_L_52 : Cond.methodLink RL 52 yX5_of ∈ TW := tw_mem 486 (by decide +kernel) (by decide +kernel)
theorem im_X5_of : Cond.instanceMethod yX5_of ∈ TW := tw_mem 487 (by decide +kernel) (by decide +kernel)
theorem se_X5_of : Cond.selects RX5 yX5_of yX5_of ∈ TW := tw_mem 488 (by decide +kernel) (by decide +kernel)
set_option maxRecDepth 100000 in
theorem co_X5_of : Cond.code yX5_of cX5_of 3 (some .int) ∈ TW := tw_mem 489 rfl rfl
theorem ml_X5_81 : Cond.methodLink RX5 81 yX2_has ∈ TW := tw_mem 490 (by decide +kernel) (by decide +kernel)
theorem ml_X5_92 : Cond.methodLink RX5 92 yX2_toldOfQuarter ∈ TW := tw_mem 491 (by decide +kernel) (by decide +kernel)
theorem im_X2_toldOfQuarter : Cond.instanceMethod yX2_toldOfQuarter ∈ TW := tw_mem 492 (by decide +kernel) (by decide +kernel)
theorem se_X2_toldOfQuarter : Cond.selects RX2 yX2_toldOfQuarter yX2_toldOfQuarter ∈ TW := tw_mem 493 (by decide +kernel) (by decide +kernel)
set_option maxRecDepth 100000 in
theorem co_X2_toldOfQuarter : Cond.code yX2_toldOfQuarter cX2_toldOfQuarter 3 (some .int) ∈ TW := tw_mem 494 rfl rfl
theorem ml_X2_67 : Cond.methodLink RX2 67 yX2_isFrozen ∈ TW := tw_mem 495 (by decide +kernel) (by decide +kernel)
theorem ml_L_56 : Cond.methodLink RL 56 yX5_year ∈ TW := tw_mem 496 (by decide +kernel) (by decide +kernel)
theorem im_X5_year : Cond.instanceMethod yX5_year ∈ TW := tw_mem 497 (by decide +kernel) (by decide +kernel)
theorem se_X5_year : Cond.selects RX5 yX5_year yX5_year ∈ TW := tw_mem 498 (by decide +kernel) (by decide +kernel)
set_option maxRecDepth 100000 in
theorem co_X5_year : Cond.code yX5_year cX5_year 3 (some .int) ∈ TW := tw_mem 499 rfl rfl
theorem ml_X5_95 : Cond.methodLink RX5 95 yX5_isYear ∈ TW := tw_mem 500 (by decide +kernel) (by decide +kernel)
theorem ml_X5_98 : Cond.methodLink RX5 98 yX2_toldOfYear ∈ TW := tw_mem 501 (by decide +kernel) (by decide +kernel)
theorem im_X2_toldOfYear : Cond.instanceMethod yX2_toldOfYear ∈ TW := tw_mem 502 (by decide +kernel) (by decide +kernel)
theorem se_X2_toldOfYear : Cond.selects RX2 yX2_toldOfYear yX2_toldOfYear ∈ TW := tw_mem 503 (by decide +kernel) (by decide +kernel)
set_option maxRecDepth 100000 in
theorem co_X2_toldOfYear : Cond.code yX2_toldOfYear cX2_toldOfYear 3 (some .int) ∈ TW := tw_mem 504 rfl rfl
theorem ml_X2_73 : Cond.methodLink RX2 73 yX2_gap ∈ TW := tw_mem 505 (by decide +kernel) (by decide +kernel)
theorem ml_L_60 : Cond.methodLink RL 60 yX5_count ∈ TW := tw_mem 506 (by decide +kernel) (by decide +kernel)
theorem im_X5_count : Cond.instanceMethod yX5_count ∈ TW := tw_mem 507 (by decide +kernel) (by decide +kernel)
theorem se_X5_count : Cond.selects RX5 yX5_count yX5_count ∈ TW := tw_mem 508 (by decide +kernel) (by decide +kernel)
set_option maxRecDepth 100000 in
theorem co_X5_count : Cond.code yX5_count cX5_count 2 (some .int) ∈ TW := tw_mem 509 rfl rfl
theorem ml_X5_101 : Cond.methodLink RX5 101 yX2_toldOfAll ∈ TW := tw_mem 510 (by decide +kernel) (by decide +kernel)
theorem im_X2_toldOfAll : Cond.instanceMethod yX2_toldOfAll ∈ TW := tw_mem 511 (by decide +kernel) (by decide +kernel)
theorem se_X2_toldOfAll : Cond.selects RX2 yX2_toldOfAll yX2_toldOfAll ∈ TW := tw_mem 512 (by decide +kernel) (by decide +kernel)
set_option maxRecDepth 100000 in
theorem co_X2_toldOfAll : Cond.code yX2_toldOfAll cX2_toldOfAll 2 (some .int) ∈ TW := tw_mem 513 rfl rfl
theorem ml_X2_76 : Cond.methodLink RX2 76 yX2_yearsTold ∈ TW := tw_mem 514 (by decide +kernel) (by decide +kernel)
theorem im_X2_yearsTold : Cond.instanceMethod yX2_yearsTold ∈ TW := tw_mem 515 (by decide +kernel) (by decide +kernel)
theorem se_X2_yearsTold : Cond.selects RX2 yX2_yearsTold yX2_yearsTold ∈ TW := tw_mem 516 (by decide +kernel) (by decide +kernel)
set_option maxRecDepth 100000 in
theorem co_X2_yearsTold : Cond.code yX2_yearsTold cX2_yearsTold 3 (some .int) ∈ TW := tw_mem 517 rfl rfl
theorem ml_L_64 : Cond.methodLink RL 64 yX5_bent ∈ TW := tw_mem 518 (by decide +kernel) (by decide +kernel)
theorem im_X5_bent : Cond.instanceMethod yX5_bent ∈ TW := tw_mem 519 (by decide +kernel) (by decide +kernel)
theorem se_X5_bent : Cond.selects RX5 yX5_bent yX5_bent ∈ TW := tw_mem 520 (by decide +kernel) (by decide +kernel)
set_option maxRecDepth 100000 in
theorem co_X5_bent : Cond.code yX5_bent cX5_bent 2 (some .int) ∈ TW := tw_mem 521 rfl rfl
theorem ml_L_68 : Cond.methodLink RL 68 yX5_moved ∈ TW := tw_mem 522 (by decide +kernel) (by decide +kernel)
theorem im_X5_moved : Cond.instanceMethod yX5_moved ∈ TW := tw_mem 523 (by decide +kernel) (by decide +kernel)
theorem se_X5_moved : Cond.selects RX5 yX5_moved yX5_moved ∈ TW := tw_mem 524 (by decide +kernel) (by decide +kernel)
set_option maxRecDepth 100000 in
theorem co_X5_moved : Cond.code yX5_moved cX5_moved 2 (some .long) ∈ TW := tw_mem 525 rfl rfl
theorem ml_X5_111 : Cond.methodLink RX5 111 yX5_isForm ∈ TW := tw_mem 526 (by decide +kernel) (by decide +kernel)
theorem ml_X5_114 : Cond.methodLink RX5 114 yX2_movement ∈ TW := tw_mem 527 (by decide +kernel) (by decide +kernel)
theorem im_X2_movement : Cond.instanceMethod yX2_movement ∈ TW := tw_mem 528 (by decide +kernel) (by decide +kernel)
theorem se_X2_movement : Cond.selects RX2 yX2_movement yX2_movement ∈ TW := tw_mem 529 (by decide +kernel) (by decide +kernel)
set_option maxRecDepth 100000 in
theorem co_X2_movement : Cond.code yX2_movement cX2_movement 8 (some .long) ∈ TW := tw_mem 530 rfl rfl
theorem ml_L_73 : Cond.methodLink RL 73 yX5_revised ∈ TW := tw_mem 531 (by decide +kernel) (by decide +kernel)
theorem im_X5_revised : Cond.instanceMethod yX5_revised ∈ TW := tw_mem 532 (by decide +kernel) (by decide +kernel)
theorem se_X5_revised : Cond.selects RX5 yX5_revised yX5_revised ∈ TW := tw_mem 533 (by decide +kernel) (by decide +kernel)
set_option maxRecDepth 100000 in
theorem co_X5_revised : Cond.code yX5_revised cX5_revised 2 (some .int) ∈ TW := tw_mem 534 rfl rfl
theorem ml_X5_118 : Cond.methodLink RX5 118 yX2_isPrinted ∈ TW := tw_mem 535 (by decide +kernel) (by decide +kernel)
theorem ml_X5_121 : Cond.methodLink RX5 121 yX5_revision ∈ TW := tw_mem 536 (by decide +kernel) (by decide +kernel)
theorem im_X5_revision : Cond.instanceMethod yX5_revision ∈ TW := tw_mem 538 (by decide +kernel) (by decide +kernel)
set_option maxRecDepth 100000 in
theorem co_X5_revision : Cond.code yX5_revision cX5_revision 2 (some .int) ∈ TW := tw_mem 539 rfl rfl
theorem ml_X5_214 : Cond.methodLink RX5 214 Lib.Math.abs.name ∈ TW := tw_mem 540 (by decide +kernel) (by decide +kernel)
theorem st_ABS : Cond.static Lib.Math.abs.name ∈ TW := tw_mem 541 (by decide +kernel) (by decide +kernel)
set_option maxRecDepth 100000 in
theorem co_ABS : Cond.code Lib.Math.abs.name Lib.Math.abs.code 1 (some .int) ∈ TW := tw_mem 542 rfl rfl
theorem ml_L_77 : Cond.methodLink RL 77 yX5_farthest ∈ TW := tw_mem 543 (by decide +kernel) (by decide +kernel)
theorem im_X5_farthest : Cond.instanceMethod yX5_farthest ∈ TW := tw_mem 544 (by decide +kernel) (by decide +kernel)
theorem se_X5_farthest : Cond.selects RX5 yX5_farthest yX5_farthest ∈ TW := tw_mem 545 (by decide +kernel) (by decide +kernel)
set_option maxRecDepth 100000 in
theorem co_X5_farthest : Cond.code yX5_farthest cX5_farthest 4 (some .int) ∈ TW := tw_mem 546 rfl rfl
theorem ml_L_81 : Cond.methodLink RL 81 yX5_least ∈ TW := tw_mem 547 (by decide +kernel) (by decide +kernel)
theorem im_X5_least : Cond.instanceMethod yX5_least ∈ TW := tw_mem 548 (by decide +kernel) (by decide +kernel)
theorem se_X5_least : Cond.selects RX5 yX5_least yX5_least ∈ TW := tw_mem 549 (by decide +kernel) (by decide +kernel)
set_option maxRecDepth 100000 in
theorem co_X5_least : Cond.code yX5_least cX5_least 2 (some .int) ∈ TW := tw_mem 550 rfl rfl
theorem ml_X5_128 : Cond.methodLink RX5 128 yX0_meetsWithin ∈ TW := tw_mem 551 (by decide +kernel) (by decide +kernel)
theorem im_X0_meetsWithin : Cond.instanceMethod yX0_meetsWithin ∈ TW := tw_mem 552 (by decide +kernel) (by decide +kernel)
theorem se_X0_meetsWithin : Cond.selects RX0 yX0_meetsWithin yX0_meetsWithin ∈ TW := tw_mem 553 (by decide +kernel) (by decide +kernel)
set_option maxRecDepth 100000 in
theorem co_X0_meetsWithin : Cond.code yX0_meetsWithin cX0_meetsWithin 3 (some .boolean) ∈ TW := tw_mem 554 rfl rfl
theorem ml_L_85 : Cond.methodLink RL 85 yX5_price ∈ TW := tw_mem 555 (by decide +kernel) (by decide +kernel)
theorem im_X5_price : Cond.instanceMethod yX5_price ∈ TW := tw_mem 556 (by decide +kernel) (by decide +kernel)
theorem se_X5_price : Cond.selects RX5 yX5_price yX5_price ∈ TW := tw_mem 557 (by decide +kernel) (by decide +kernel)
set_option maxRecDepth 100000 in
theorem co_X5_price : Cond.code yX5_price cX5_price 2 (some .long) ∈ TW := tw_mem 558 rfl rfl
theorem ml_X5_138 : Cond.methodLink RX5 138 yX0_leastWithout ∈ TW := tw_mem 559 (by decide +kernel) (by decide +kernel)
theorem im_X0_leastWithout : Cond.instanceMethod yX0_leastWithout ∈ TW := tw_mem 560 (by decide +kernel) (by decide +kernel)
theorem se_X0_leastWithout : Cond.selects RX0 yX0_leastWithout yX0_leastWithout ∈ TW := tw_mem 561 (by decide +kernel) (by decide +kernel)
set_option maxRecDepth 100000 in
theorem co_X0_leastWithout : Cond.code yX0_leastWithout cX0_leastWithout 3 (some .long) ∈ TW := tw_mem 562 rfl rfl
theorem ml_L_89 : Cond.methodLink RL 89 yX5_others ∈ TW := tw_mem 563 (by decide +kernel) (by decide +kernel)
theorem im_X5_others : Cond.instanceMethod yX5_others ∈ TW := tw_mem 564 (by decide +kernel) (by decide +kernel)
theorem se_X5_others : Cond.selects RX5 yX5_others yX5_others ∈ TW := tw_mem 565 (by decide +kernel) (by decide +kernel)
set_option maxRecDepth 100000 in
theorem co_X5_others : Cond.code yX5_others cX5_others 1 (some .int) ∈ TW := tw_mem 566 rfl rfl
theorem ml_L_93 : Cond.methodLink RL 93 yX5_shared ∈ TW := tw_mem 567 (by decide +kernel) (by decide +kernel)
theorem im_X5_shared : Cond.instanceMethod yX5_shared ∈ TW := tw_mem 568 (by decide +kernel) (by decide +kernel)
theorem se_X5_shared : Cond.selects RX5 yX5_shared yX5_shared ∈ TW := tw_mem 569 (by decide +kernel) (by decide +kernel)
set_option maxRecDepth 100000 in
theorem co_X5_shared : Cond.code yX5_shared cX5_shared 2 (some .int) ∈ TW := tw_mem 570 rfl rfl
theorem ml_X5_145 : Cond.methodLink RX5 145 yX2_share ∈ TW := tw_mem 571 (by decide +kernel) (by decide +kernel)
theorem im_X2_share : Cond.instanceMethod yX2_share ∈ TW := tw_mem 572 (by decide +kernel) (by decide +kernel)
theorem se_X2_share : Cond.selects RX2 yX2_share yX2_share ∈ TW := tw_mem 573 (by decide +kernel) (by decide +kernel)
set_option maxRecDepth 100000 in
theorem co_X2_share : Cond.code yX2_share cX2_share 9 (some .int) ∈ TW := tw_mem 574 rfl rfl
theorem ml_L_97 : Cond.methodLink RL 97 yX5_stepped ∈ TW := tw_mem 575 (by decide +kernel) (by decide +kernel)
theorem im_X5_stepped : Cond.instanceMethod yX5_stepped ∈ TW := tw_mem 576 (by decide +kernel) (by decide +kernel)
theorem se_X5_stepped : Cond.selects RX5 yX5_stepped yX5_stepped ∈ TW := tw_mem 577 (by decide +kernel) (by decide +kernel)
set_option maxRecDepth 100000 in
theorem co_X5_stepped : Cond.code yX5_stepped cX5_stepped 2 (some .long) ∈ TW := tw_mem 578 rfl rfl
theorem ml_X5_148 : Cond.methodLink RX5 148 yX5_shareMovement ∈ TW := tw_mem 579 (by decide +kernel) (by decide +kernel)
theorem im_X5_shareMovement : Cond.instanceMethod yX5_shareMovement ∈ TW := tw_mem 581 (by decide +kernel) (by decide +kernel)
set_option maxRecDepth 100000 in
theorem co_X5_shareMovement : Cond.code yX5_shareMovement cX5_shareMovement 3 (some .long) ∈ TW := tw_mem 582 rfl rfl
theorem ml_L_101 : Cond.methodLink RL 101 yX5_type ∈ TW := tw_mem 583 (by decide +kernel) (by decide +kernel)
theorem im_X5_type : Cond.instanceMethod yX5_type ∈ TW := tw_mem 584 (by decide +kernel) (by decide +kernel)
theorem se_X5_type : Cond.selects RX5 yX5_type yX5_type ∈ TW := tw_mem 585 (by decide +kernel) (by decide +kernel)
set_option maxRecDepth 100000 in
theorem co_X5_type : Cond.code yX5_type cX5_type 2 (some .int) ∈ TW := tw_mem 586 rfl rfl
theorem ml_X5_155 : Cond.methodLink RX5 155 yX4_takes ∈ TW := tw_mem 587 (by decide +kernel) (by decide +kernel)
theorem im_X4_takes : Cond.instanceMethod yX4_takes ∈ TW := tw_mem 588 (by decide +kernel) (by decide +kernel)
theorem se_X4_takes : Cond.selects RX4 yX4_takes yX4_takes ∈ TW := tw_mem 589 (by decide +kernel) (by decide +kernel)
set_option maxRecDepth 100000 in
theorem co_X4_takes : Cond.code yX4_takes cX4_takes 2 (some .int) ∈ TW := tw_mem 590 rfl rfl
theorem ml_L_105 : Cond.methodLink RL 105 yX5_clear ∈ TW := tw_mem 591 (by decide +kernel) (by decide +kernel)
theorem im_X5_clear : Cond.instanceMethod yX5_clear ∈ TW := tw_mem 592 (by decide +kernel) (by decide +kernel)
theorem se_X5_clear : Cond.selects RX5 yX5_clear yX5_clear ∈ TW := tw_mem 593 (by decide +kernel) (by decide +kernel)
set_option maxRecDepth 100000 in
theorem co_X5_clear : Cond.code yX5_clear cX5_clear 2 (some .int) ∈ TW := tw_mem 594 rfl rfl
theorem ml_L_109 : Cond.methodLink RL 109 yX5_does ∈ TW := tw_mem 595 (by decide +kernel) (by decide +kernel)
theorem im_X5_does : Cond.instanceMethod yX5_does ∈ TW := tw_mem 596 (by decide +kernel) (by decide +kernel)
theorem se_X5_does : Cond.selects RX5 yX5_does yX5_does ∈ TW := tw_mem 597 (by decide +kernel) (by decide +kernel)
set_option maxRecDepth 100000 in
theorem co_X5_does : Cond.code yX5_does cX5_does 4 (some .int) ∈ TW := tw_mem 598 rfl rfl
theorem ml_X5_158 : Cond.methodLink RX5 158 yX4_reads ∈ TW := tw_mem 599 (by decide +kernel) (by decide +kernel)
theorem im_X4_reads : Cond.instanceMethod yX4_reads ∈ TW := tw_mem 600 (by decide +kernel) (by decide +kernel)
theorem se_X4_reads : Cond.selects RX4 yX4_reads yX4_reads ∈ TW := tw_mem 601 (by decide +kernel) (by decide +kernel)
set_option maxRecDepth 100000 in
theorem co_X4_reads : Cond.code yX4_reads cX4_reads 2 (some .int) ∈ TW := tw_mem 602 rfl rfl
theorem ml_X4_41 : Cond.methodLink RX4 41 yX4_readsByte ∈ TW := tw_mem 603 (by decide +kernel) (by decide +kernel)
theorem im_X4_readsByte : Cond.instanceMethod yX4_readsByte ∈ TW := tw_mem 605 (by decide +kernel) (by decide +kernel)
set_option maxRecDepth 100000 in
theorem co_X4_readsByte : Cond.code yX4_readsByte cX4_readsByte 2 (some .boolean) ∈ TW := tw_mem 606 rfl rfl
theorem ml_X4_45 : Cond.methodLink RX4 45 yX4_opens ∈ TW := tw_mem 607 (by decide +kernel) (by decide +kernel)
theorem im_X4_opens : Cond.instanceMethod yX4_opens ∈ TW := tw_mem 609 (by decide +kernel) (by decide +kernel)
set_option maxRecDepth 100000 in
theorem co_X4_opens : Cond.code yX4_opens cX4_opens 2 (some .boolean) ∈ TW := tw_mem 610 rfl rfl
theorem ml_X4_59 : Cond.methodLink RX4 59 yX4_numbersOf ∈ TW := tw_mem 611 (by decide +kernel) (by decide +kernel)
theorem st_X4_numbersOf : Cond.static yX4_numbersOf ∈ TW := tw_mem 612 (by decide +kernel) (by decide +kernel)
set_option maxRecDepth 100000 in
theorem co_X4_numbersOf : Cond.code yX4_numbersOf cX4_numbersOf 1 (some .int) ∈ TW := tw_mem 613 rfl rfl
theorem ml_X4_48 : Cond.methodLink RX4 48 yX4_closes ∈ TW := tw_mem 614 (by decide +kernel) (by decide +kernel)
theorem im_X4_closes : Cond.instanceMethod yX4_closes ∈ TW := tw_mem 616 (by decide +kernel) (by decide +kernel)
set_option maxRecDepth 100000 in
theorem co_X4_closes : Cond.code yX4_closes cX4_closes 1 (some .boolean) ∈ TW := tw_mem 617 rfl rfl
theorem mn_X4_52 : Cond.methodLinkNest RX4 52 yX5_within RX5 ∈ lw_tbl := lw_mem 618 (by decide +kernel)
theorem ml_X4_56 : Cond.methodLink RX4 56 yX4_readsFigure ∈ TW := tw_mem 619 (by decide +kernel) (by decide +kernel)
theorem im_X4_readsFigure : Cond.instanceMethod yX4_readsFigure ∈ TW := tw_mem 621 (by decide +kernel) (by decide +kernel)
set_option maxRecDepth 100000 in
theorem co_X4_readsFigure : Cond.code yX4_readsFigure cX4_readsFigure 3 (some .boolean) ∈ TW := tw_mem 622 rfl rfl
theorem ml_X5_173 : Cond.methodLink RX5 173 yX5_obeys ∈ TW := tw_mem 623 (by decide +kernel) (by decide +kernel)
theorem im_X5_obeys : Cond.instanceMethod yX5_obeys ∈ TW := tw_mem 625 (by decide +kernel) (by decide +kernel)
set_option maxRecDepth 100000 in
theorem co_X5_obeys : Cond.code yX5_obeys cX5_obeys 4 (some .int) ∈ TW := tw_mem 626 rfl rfl
theorem ml_X5_183 : Cond.methodLink RX5 183 yX3_restores ∈ TW := tw_mem 627 (by decide +kernel) (by decide +kernel)
theorem im_X3_restores : Cond.instanceMethod yX3_restores ∈ TW := tw_mem 628 (by decide +kernel) (by decide +kernel)
theorem se_X3_restores : Cond.selects RX3 yX3_restores yX3_restores ∈ TW := tw_mem 629 (by decide +kernel) (by decide +kernel)
set_option maxRecDepth 100000 in
theorem co_X3_restores : Cond.code yX3_restores cX3_restores 2 none ∈ TW := tw_mem 630 rfl rfl
theorem ml_L_113 : Cond.methodLink RL 113 yX5_back ∈ TW := tw_mem 631 (by decide +kernel) (by decide +kernel)
theorem im_X5_back : Cond.instanceMethod yX5_back ∈ TW := tw_mem 632 (by decide +kernel) (by decide +kernel)
theorem se_X5_back : Cond.selects RX5 yX5_back yX5_back ∈ TW := tw_mem 633 (by decide +kernel) (by decide +kernel)
set_option maxRecDepth 100000 in
theorem co_X5_back : Cond.code yX5_back cX5_back 1 (some .int) ∈ TW := tw_mem 634 rfl rfl
theorem ml_X5_192 : Cond.methodLink RX5 192 yX3_returns ∈ TW := tw_mem 635 (by decide +kernel) (by decide +kernel)
theorem im_X3_returns : Cond.instanceMethod yX3_returns ∈ TW := tw_mem 636 (by decide +kernel) (by decide +kernel)
theorem se_X3_returns : Cond.selects RX3 yX3_returns yX3_returns ∈ TW := tw_mem 637 (by decide +kernel) (by decide +kernel)
set_option maxRecDepth 100000 in
theorem co_X3_returns : Cond.code yX3_returns cX3_returns 2 none ∈ TW := tw_mem 638 rfl rfl
theorem ml_L_117 : Cond.methodLink RL 117 yX5_told ∈ TW := tw_mem 639 (by decide +kernel) (by decide +kernel)
theorem im_X5_told : Cond.instanceMethod yX5_told ∈ TW := tw_mem 640 (by decide +kernel) (by decide +kernel)
theorem se_X5_told : Cond.selects RX5 yX5_told yX5_told ∈ TW := tw_mem 641 (by decide +kernel) (by decide +kernel)
set_option maxRecDepth 100000 in
theorem co_X5_told : Cond.code yX5_told cX5_told 2 (some .int) ∈ TW := tw_mem 642 rfl rfl
theorem ml_L_121 : Cond.methodLink RL 121 yX5_digest ∈ TW := tw_mem 643 (by decide +kernel) (by decide +kernel)
theorem im_X5_digest : Cond.instanceMethod yX5_digest ∈ TW := tw_mem 644 (by decide +kernel) (by decide +kernel)
theorem se_X5_digest : Cond.selects RX5 yX5_digest yX5_digest ∈ TW := tw_mem 645 (by decide +kernel) (by decide +kernel)
set_option maxRecDepth 100000 in
theorem co_X5_digest : Cond.code yX5_digest cX5_digest 4 (some .long) ∈ TW := tw_mem 646 rfl rfl
theorem kl_X5_195 : Cond.constantLong RX5 195 (1980) ∈ TW := tw_mem 647 (by decide +kernel) (by decide +kernel)
theorem kl_X5_197 : Cond.constantLong RX5 197 (31) ∈ TW := tw_mem 648 (by decide +kernel) (by decide +kernel)
theorem ml_X5_199 : Cond.methodLink RX5 199 yX5_told ∈ TW := tw_mem 649 (by decide +kernel) (by decide +kernel)
theorem ml_X5_202 : Cond.methodLink RX5 202 yX5_digestsFigures ∈ TW := tw_mem 650 (by decide +kernel) (by decide +kernel)
theorem im_X5_digestsFigures : Cond.instanceMethod yX5_digestsFigures ∈ TW := tw_mem 652 (by decide +kernel) (by decide +kernel)
set_option maxRecDepth 100000 in
theorem co_X5_digestsFigures : Cond.code yX5_digestsFigures cX5_digestsFigures 7 (some .long) ∈ TW := tw_mem 653 rfl rfl
theorem ml_X5_206 : Cond.methodLink RX5 206 yX5_digestsBent ∈ TW := tw_mem 654 (by decide +kernel) (by decide +kernel)
theorem im_X5_digestsBent : Cond.instanceMethod yX5_digestsBent ∈ TW := tw_mem 656 (by decide +kernel) (by decide +kernel)
set_option maxRecDepth 100000 in
theorem co_X5_digestsBent : Cond.code yX5_digestsBent cX5_digestsBent 6 (some .long) ∈ TW := tw_mem 657 rfl rfl
theorem kl_X5_209 : Cond.constantLong RX5 209 (8) ∈ TW := tw_mem 658 (by decide +kernel) (by decide +kernel)
theorem cl_L_10 : Cond.classLink RL 10 RX6 ∈ TW := tw_mem 659 (by decide +kernel) (by decide +kernel)
theorem it_X6 : Cond.instantiable RX6 23 ∈ TW := tw_mem 660 (by decide +kernel) (by decide +kernel)
theorem ml_L_12 : Cond.methodLink RL 12 yX6_init ∈ TW := tw_mem 661 (by decide +kernel) (by decide +kernel)
theorem im_X6_init : Cond.instanceMethod yX6_init ∈ TW := tw_mem 662 (by decide +kernel) (by decide +kernel)
set_option maxRecDepth 100000 in
theorem co_X6_init : Cond.code yX6_init cX6_init 2 none ∈ TW := tw_mem 663 rfl rfl
theorem ml_X6_1 : Cond.methodLink RX6 1 objectInit ∈ TW := tw_mem 664 (by decide +kernel) (by decide +kernel)
theorem fl_X6_7 : Cond.fieldLink RX6 7 "BentQuartersModel" "now" "[I" ∈ TW := tw_mem 665 (by decide +kernel) (by decide +kernel)
theorem fl_X6_13 : Cond.fieldLink RX6 13 "BentQuartersModel" "aside" "[I" ∈ TW := tw_mem 666 (by decide +kernel) (by decide +kernel)
theorem fl_X6_16 : Cond.fieldLink RX6 16 "BentQuartersModel" "past" "[I" ∈ TW := tw_mem 667 (by decide +kernel) (by decide +kernel)
theorem fl_X6_58 : Cond.fieldLink RX6 58 "BentQuartersModel" "states" "I" ∈ TW := tw_mem 668 (by decide +kernel) (by decide +kernel)
theorem fl_X6_19 : Cond.fieldLink RX6 19 "BentQuartersModel" "refused" "[I" ∈ TW := tw_mem 669 (by decide +kernel) (by decide +kernel)
theorem fl_X6_22 : Cond.fieldLink RX6 22 "BentQuartersModel" "text" "[I" ∈ TW := tw_mem 670 (by decide +kernel) (by decide +kernel)
theorem fl_X6_209 : Cond.fieldLink RX6 209 "BentQuartersModel" "bytes" "I" ∈ TW := tw_mem 671 (by decide +kernel) (by decide +kernel)
theorem fl_X6_25 : Cond.fieldLink RX6 25 "BentQuartersModel" "orderLetter" "[I" ∈ TW := tw_mem 672 (by decide +kernel) (by decide +kernel)
theorem fl_X6_28 : Cond.fieldLink RX6 28 "BentQuartersModel" "orderFrom" "[I" ∈ TW := tw_mem 673 (by decide +kernel) (by decide +kernel)
theorem fl_X6_31 : Cond.fieldLink RX6 31 "BentQuartersModel" "numbers" "[I" ∈ TW := tw_mem 674 (by decide +kernel) (by decide +kernel)
theorem fl_X6_221 : Cond.fieldLink RX6 221 "BentQuartersModel" "orders" "I" ∈ TW := tw_mem 675 (by decide +kernel) (by decide +kernel)
theorem fl_X6_34 : Cond.fieldLink RX6 34 "BentQuartersModel" "best" "[J" ∈ TW := tw_mem 676 (by decide +kernel) (by decide +kernel)
theorem fl_X6_38 : Cond.fieldLink RX6 38 "BentQuartersModel" "ways" "[I" ∈ TW := tw_mem 677 (by decide +kernel) (by decide +kernel)
theorem fl_X6_41 : Cond.fieldLink RX6 41 "BentQuartersModel" "rowX" "[I" ∈ TW := tw_mem 678 (by decide +kernel) (by decide +kernel)
theorem fl_X6_185 : Cond.fieldLink RX6 185 "BentQuartersModel" "allWays" "I" ∈ TW := tw_mem 679 (by decide +kernel) (by decide +kernel)
theorem fl_X6_181 : Cond.fieldLink RX6 181 "BentQuartersModel" "bestCost" "J" ∈ TW := tw_mem 680 (by decide +kernel) (by decide +kernel)
theorem fl_X6_144 : Cond.fieldLink RX6 144 "BentQuartersModel" "askedLimit" "I" ∈ TW := tw_mem 681 (by decide +kernel) (by decide +kernel)
theorem fl_X6_141 : Cond.fieldLink RX6 141 "BentQuartersModel" "askedBut" "I" ∈ TW := tw_mem 682 (by decide +kernel) (by decide +kernel)
theorem fl_X6_44 : Cond.fieldLink RX6 44 "BentQuartersModel" "sharedX" "[I" ∈ TW := tw_mem 683 (by decide +kernel) (by decide +kernel)
theorem fl_X6_212 : Cond.fieldLink RX6 212 "BentQuartersModel" "letter" "I" ∈ TW := tw_mem 684 (by decide +kernel) (by decide +kernel)
theorem fl_X6_215 : Cond.fieldLink RX6 215 "BentQuartersModel" "begun" "I" ∈ TW := tw_mem 685 (by decide +kernel) (by decide +kernel)
theorem fl_X6_218 : Cond.fieldLink RX6 218 "BentQuartersModel" "figures" "I" ∈ TW := tw_mem 686 (by decide +kernel) (by decide +kernel)
theorem fl_X6_47 : Cond.fieldLink RX6 47 "BentQuartersModel" "before" "[I" ∈ TW := tw_mem 687 (by decide +kernel) (by decide +kernel)
theorem ml_L_17 : Cond.methodLink RL 17 yX6_quarter ∈ TW := tw_mem 735 (by decide +kernel) (by decide +kernel)
theorem im_X6_quarter : Cond.instanceMethod yX6_quarter ∈ TW := tw_mem 736 (by decide +kernel) (by decide +kernel)
theorem se_X6_quarter : Cond.selects RX6 yX6_quarter yX6_quarter ∈ TW := tw_mem 737 (by decide +kernel) (by decide +kernel)
set_option maxRecDepth 100000 in
theorem co_X6_quarter : Cond.code yX6_quarter cX6_quarter 2 (some .int) ∈ TW := tw_mem 738 rfl rfl
theorem ml_X6_90 : Cond.methodLink RX6 90 yX6_save ∈ TW := tw_mem 739 (by decide +kernel) (by decide +kernel)
theorem im_X6_save : Cond.instanceMethod yX6_save ∈ TW := tw_mem 741 (by decide +kernel) (by decide +kernel)
set_option maxRecDepth 100000 in
theorem co_X6_save : Cond.code yX6_save cX6_save 1 none ∈ TW := tw_mem 742 rfl rfl
theorem ml_X6_50 : Cond.methodLink RX6 50 yX6_bring ∈ TW := tw_mem 743 (by decide +kernel) (by decide +kernel)
theorem st_X6_bring : Cond.static yX6_bring ∈ TW := tw_mem 744 (by decide +kernel) (by decide +kernel)
set_option maxRecDepth 100000 in
theorem co_X6_bring : Cond.code yX6_bring cX6_bring 5 none ∈ TW := tw_mem 745 rfl rfl
theorem ml_X6_93 : Cond.methodLink RX6 93 yX6_putQuarter ∈ TW := tw_mem 746 (by decide +kernel) (by decide +kernel)
theorem im_X6_putQuarter : Cond.instanceMethod yX6_putQuarter ∈ TW := tw_mem 748 (by decide +kernel) (by decide +kernel)
set_option maxRecDepth 100000 in
theorem co_X6_putQuarter : Cond.code yX6_putQuarter cX6_putQuarter 3 (some .int) ∈ TW := tw_mem 749 rfl rfl
theorem kl_X6_68 : Cond.constantLong RX6 68 (99) ∈ TW := tw_mem 750 (by decide +kernel) (by decide +kernel)
theorem ml_X6_62 : Cond.methodLink RX6 62 yX6_in ∈ TW := tw_mem 751 (by decide +kernel) (by decide +kernel)
theorem st_X6_in : Cond.static yX6_in ∈ TW := tw_mem 752 (by decide +kernel) (by decide +kernel)
set_option maxRecDepth 100000 in
theorem co_X6_in : Cond.code yX6_in cX6_in 6 (some .boolean) ∈ TW := tw_mem 753 rfl rfl
theorem ml_X6_96 : Cond.methodLink RX6 96 yX6_finish ∈ TW := tw_mem 754 (by decide +kernel) (by decide +kernel)
theorem im_X6_finish : Cond.instanceMethod yX6_finish ∈ TW := tw_mem 756 (by decide +kernel) (by decide +kernel)
set_option maxRecDepth 100000 in
theorem co_X6_finish : Cond.code yX6_finish cX6_finish 3 (some .int) ∈ TW := tw_mem 757 rfl rfl
theorem ml_X6_54 : Cond.methodLink RX6 54 yX6_refuse ∈ TW := tw_mem 758 (by decide +kernel) (by decide +kernel)
theorem im_X6_refuse : Cond.instanceMethod yX6_refuse ∈ TW := tw_mem 760 (by decide +kernel) (by decide +kernel)
set_option maxRecDepth 100000 in
theorem co_X6_refuse : Cond.code yX6_refuse cX6_refuse 2 (some .int) ∈ TW := tw_mem 761 rfl rfl
theorem ml_L_22 : Cond.methodLink RL 22 yX6_indicates ∈ TW := tw_mem 762 (by decide +kernel) (by decide +kernel)
theorem im_X6_indicates : Cond.instanceMethod yX6_indicates ∈ TW := tw_mem 763 (by decide +kernel) (by decide +kernel)
theorem se_X6_indicates : Cond.selects RX6 yX6_indicates yX6_indicates ∈ TW := tw_mem 764 (by decide +kernel) (by decide +kernel)
set_option maxRecDepth 100000 in
theorem co_X6_indicates : Cond.code yX6_indicates cX6_indicates 3 (some .int) ∈ TW := tw_mem 765 rfl rfl
theorem ml_X6_99 : Cond.methodLink RX6 99 yX6_putIndicator ∈ TW := tw_mem 766 (by decide +kernel) (by decide +kernel)
theorem im_X6_putIndicator : Cond.instanceMethod yX6_putIndicator ∈ TW := tw_mem 768 (by decide +kernel) (by decide +kernel)
set_option maxRecDepth 100000 in
theorem co_X6_putIndicator : Cond.code yX6_putIndicator cX6_putIndicator 4 (some .int) ∈ TW := tw_mem 769 rfl rfl
theorem ml_X6_70 : Cond.methodLink RX6 70 yX6_isQuarter ∈ TW := tw_mem 770 (by decide +kernel) (by decide +kernel)
theorem im_X6_isQuarter : Cond.instanceMethod yX6_isQuarter ∈ TW := tw_mem 772 (by decide +kernel) (by decide +kernel)
set_option maxRecDepth 100000 in
theorem co_X6_isQuarter : Cond.code yX6_isQuarter cX6_isQuarter 2 (some .boolean) ∈ TW := tw_mem 773 rfl rfl
theorem ml_L_26 : Cond.methodLink RL 26 yX6_total ∈ TW := tw_mem 774 (by decide +kernel) (by decide +kernel)
theorem im_X6_total : Cond.instanceMethod yX6_total ∈ TW := tw_mem 775 (by decide +kernel) (by decide +kernel)
theorem se_X6_total : Cond.selects RX6 yX6_total yX6_total ∈ TW := tw_mem 776 (by decide +kernel) (by decide +kernel)
set_option maxRecDepth 100000 in
theorem co_X6_total : Cond.code yX6_total cX6_total 3 (some .int) ∈ TW := tw_mem 777 rfl rfl
theorem ml_X6_103 : Cond.methodLink RX6 103 yX6_putTotal ∈ TW := tw_mem 778 (by decide +kernel) (by decide +kernel)
theorem im_X6_putTotal : Cond.instanceMethod yX6_putTotal ∈ TW := tw_mem 780 (by decide +kernel) (by decide +kernel)
set_option maxRecDepth 100000 in
theorem co_X6_putTotal : Cond.code yX6_putTotal cX6_putTotal 4 (some .int) ∈ TW := tw_mem 781 rfl rfl
theorem ml_X6_74 : Cond.methodLink RX6 74 yX6_isYear ∈ TW := tw_mem 782 (by decide +kernel) (by decide +kernel)
theorem st_X6_isYear : Cond.static yX6_isYear ∈ TW := tw_mem 783 (by decide +kernel) (by decide +kernel)
set_option maxRecDepth 100000 in
theorem co_X6_isYear : Cond.code yX6_isYear cX6_isYear 1 (some .boolean) ∈ TW := tw_mem 784 rfl rfl
theorem kl_X6_66 : Cond.constantLong RX6 66 (2) ∈ TW := tw_mem 785 (by decide +kernel) (by decide +kernel)
theorem kl_X6_77 : Cond.constantLong RX6 77 (999) ∈ TW := tw_mem 786 (by decide +kernel) (by decide +kernel)
theorem ml_L_30 : Cond.methodLink RL 30 yX6_untold ∈ TW := tw_mem 787 (by decide +kernel) (by decide +kernel)
theorem im_X6_untold : Cond.instanceMethod yX6_untold ∈ TW := tw_mem 788 (by decide +kernel) (by decide +kernel)
theorem se_X6_untold : Cond.selects RX6 yX6_untold yX6_untold ∈ TW := tw_mem 789 (by decide +kernel) (by decide +kernel)
set_option maxRecDepth 100000 in
theorem co_X6_untold : Cond.code yX6_untold cX6_untold 2 (some .int) ∈ TW := tw_mem 790 rfl rfl
theorem ml_X6_106 : Cond.methodLink RX6 106 yX6_dropTotal ∈ TW := tw_mem 791 (by decide +kernel) (by decide +kernel)
theorem im_X6_dropTotal : Cond.instanceMethod yX6_dropTotal ∈ TW := tw_mem 793 (by decide +kernel) (by decide +kernel)
set_option maxRecDepth 100000 in
theorem co_X6_dropTotal : Cond.code yX6_dropTotal cX6_dropTotal 3 (some .int) ∈ TW := tw_mem 794 rfl rfl
theorem ml_L_34 : Cond.methodLink RL 34 yX6_freezes ∈ TW := tw_mem 795 (by decide +kernel) (by decide +kernel)
theorem im_X6_freezes : Cond.instanceMethod yX6_freezes ∈ TW := tw_mem 796 (by decide +kernel) (by decide +kernel)
theorem se_X6_freezes : Cond.selects RX6 yX6_freezes yX6_freezes ∈ TW := tw_mem 797 (by decide +kernel) (by decide +kernel)
set_option maxRecDepth 100000 in
theorem co_X6_freezes : Cond.code yX6_freezes cX6_freezes 3 (some .int) ∈ TW := tw_mem 798 rfl rfl
theorem ml_X6_109 : Cond.methodLink RX6 109 yX6_putFrozen ∈ TW := tw_mem 799 (by decide +kernel) (by decide +kernel)
theorem im_X6_putFrozen : Cond.instanceMethod yX6_putFrozen ∈ TW := tw_mem 801 (by decide +kernel) (by decide +kernel)
set_option maxRecDepth 100000 in
theorem co_X6_putFrozen : Cond.code yX6_putFrozen cX6_putFrozen 3 (some .int) ∈ TW := tw_mem 802 rfl rfl
theorem ml_X6_79 : Cond.methodLink RX6 79 yX6_ones ∈ TW := tw_mem 803 (by decide +kernel) (by decide +kernel)
theorem st_X6_ones : Cond.static yX6_ones ∈ TW := tw_mem 804 (by decide +kernel) (by decide +kernel)
set_option maxRecDepth 100000 in
theorem co_X6_ones : Cond.code yX6_ones cX6_ones 3 (some .int) ∈ TW := tw_mem 805 rfl rfl
theorem ml_L_38 : Cond.methodLink RL 38 yX6_limits ∈ TW := tw_mem 806 (by decide +kernel) (by decide +kernel)
theorem im_X6_limits : Cond.instanceMethod yX6_limits ∈ TW := tw_mem 807 (by decide +kernel) (by decide +kernel)
theorem se_X6_limits : Cond.selects RX6 yX6_limits yX6_limits ∈ TW := tw_mem 808 (by decide +kernel) (by decide +kernel)
set_option maxRecDepth 100000 in
theorem co_X6_limits : Cond.code yX6_limits cX6_limits 2 (some .int) ∈ TW := tw_mem 809 rfl rfl
theorem ml_X6_112 : Cond.methodLink RX6 112 yX6_putLimit ∈ TW := tw_mem 810 (by decide +kernel) (by decide +kernel)
theorem im_X6_putLimit : Cond.instanceMethod yX6_putLimit ∈ TW := tw_mem 812 (by decide +kernel) (by decide +kernel)
set_option maxRecDepth 100000 in
theorem co_X6_putLimit : Cond.code yX6_putLimit cX6_putLimit 3 (some .int) ∈ TW := tw_mem 813 rfl rfl
theorem kl_X6_82 : Cond.constantLong RX6 82 (-1) ∈ TW := tw_mem 814 (by decide +kernel) (by decide +kernel)
theorem kl_X6_84 : Cond.constantLong RX6 84 (24) ∈ TW := tw_mem 815 (by decide +kernel) (by decide +kernel)
theorem ml_L_42 : Cond.methodLink RL 42 yX6_form ∈ TW := tw_mem 816 (by decide +kernel) (by decide +kernel)
theorem im_X6_form : Cond.instanceMethod yX6_form ∈ TW := tw_mem 817 (by decide +kernel) (by decide +kernel)
theorem se_X6_form : Cond.selects RX6 yX6_form yX6_form ∈ TW := tw_mem 818 (by decide +kernel) (by decide +kernel)
set_option maxRecDepth 100000 in
theorem co_X6_form : Cond.code yX6_form cX6_form 2 (some .int) ∈ TW := tw_mem 819 rfl rfl
theorem ml_X6_115 : Cond.methodLink RX6 115 yX6_putForm ∈ TW := tw_mem 820 (by decide +kernel) (by decide +kernel)
theorem im_X6_putForm : Cond.instanceMethod yX6_putForm ∈ TW := tw_mem 822 (by decide +kernel) (by decide +kernel)
set_option maxRecDepth 100000 in
theorem co_X6_putForm : Cond.code yX6_putForm cX6_putForm 3 (some .int) ∈ TW := tw_mem 823 rfl rfl
theorem ml_L_47 : Cond.methodLink RL 47 yX6_publishes ∈ TW := tw_mem 824 (by decide +kernel) (by decide +kernel)
theorem im_X6_publishes : Cond.instanceMethod yX6_publishes ∈ TW := tw_mem 825 (by decide +kernel) (by decide +kernel)
theorem se_X6_publishes : Cond.selects RX6 yX6_publishes yX6_publishes ∈ TW := tw_mem 826 (by decide +kernel) (by decide +kernel)
set_option maxRecDepth 100000 in
theorem co_X6_publishes : Cond.code yX6_publishes cX6_publishes 1 (some .int) ∈ TW := tw_mem 827 rfl rfl
theorem ml_X6_118 : Cond.methodLink RX6 118 yX6_publishAll ∈ TW := tw_mem 828 (by decide +kernel) (by decide +kernel)
theorem im_X6_publishAll : Cond.instanceMethod yX6_publishAll ∈ TW := tw_mem 830 (by decide +kernel) (by decide +kernel)
set_option maxRecDepth 100000 in
theorem co_X6_publishAll : Cond.code yX6_publishAll cX6_publishAll 2 (some .int) ∈ TW := tw_mem 831 rfl rfl
theorem ml_X6_86 : Cond.methodLink RX6 86 yX6_bend ∈ TW := tw_mem 832 (by decide +kernel) (by decide +kernel)
theorem im_X6_bend : Cond.instanceMethod yX6_bend ∈ TW := tw_mem 834 (by decide +kernel) (by decide +kernel)
set_option maxRecDepth 100000 in
theorem co_X6_bend : Cond.code yX6_bend cX6_bend 1 (some .boolean) ∈ TW := tw_mem 835 rfl rfl
theorem ml_X6_191 : Cond.methodLink RX6 191 yX6_find ∈ TW := tw_mem 836 (by decide +kernel) (by decide +kernel)
theorem im_X6_find : Cond.instanceMethod yX6_find ∈ TW := tw_mem 838 (by decide +kernel) (by decide +kernel)
set_option maxRecDepth 100000 in
theorem co_X6_find : Cond.code yX6_find cX6_find 9 (some .boolean) ∈ TW := tw_mem 839 rfl rfl
theorem ml_X6_151 : Cond.methodLink RX6 151 yX6_isBound ∈ TW := tw_mem 840 (by decide +kernel) (by decide +kernel)
theorem im_X6_isBound : Cond.instanceMethod yX6_isBound ∈ TW := tw_mem 842 (by decide +kernel) (by decide +kernel)
set_option maxRecDepth 100000 in
theorem co_X6_isBound : Cond.code yX6_isBound cX6_isBound 3 (some .boolean) ∈ TW := tw_mem 843 rfl rfl
theorem ml_X6_177 : Cond.methodLink RX6 177 yX6_lay ∈ TW := tw_mem 844 (by decide +kernel) (by decide +kernel)
theorem im_X6_lay : Cond.instanceMethod yX6_lay ∈ TW := tw_mem 846 (by decide +kernel) (by decide +kernel)
set_option maxRecDepth 100000 in
theorem co_X6_lay : Cond.code yX6_lay cX6_lay 12 none ∈ TW := tw_mem 847 rfl rfl
theorem ml_X6_154 : Cond.methodLink RX6 154 yX6_place ∈ TW := tw_mem 848 (by decide +kernel) (by decide +kernel)
theorem st_X6_place : Cond.static yX6_place ∈ TW := tw_mem 849 (by decide +kernel) (by decide +kernel)
set_option maxRecDepth 100000 in
theorem co_X6_place : Cond.code yX6_place cX6_place 3 (some .int) ∈ TW := tw_mem 850 rfl rfl
theorem kl_X6_158 : Cond.constantLong RX6 158 (1000000000000000) ∈ TW := tw_mem 851 (by decide +kernel) (by decide +kernel)
theorem ml_X6_160 : Cond.methodLink RX6 160 yX6_may ∈ TW := tw_mem 852 (by decide +kernel) (by decide +kernel)
theorem im_X6_may : Cond.instanceMethod yX6_may ∈ TW := tw_mem 854 (by decide +kernel) (by decide +kernel)
set_option maxRecDepth 100000 in
theorem co_X6_may : Cond.code yX6_may cX6_may 6 (some .boolean) ∈ TW := tw_mem 855 rfl rfl
theorem ml_X6_130 : Cond.methodLink RX6 130 yX6_together ∈ TW := tw_mem 856 (by decide +kernel) (by decide +kernel)
theorem im_X6_together : Cond.instanceMethod yX6_together ∈ TW := tw_mem 858 (by decide +kernel) (by decide +kernel)
set_option maxRecDepth 100000 in
theorem co_X6_together : Cond.code yX6_together cX6_together 4 (some .int) ∈ TW := tw_mem 859 rfl rfl
theorem ml_X6_164 : Cond.methodLink RX6 164 yX6_nextSum ∈ TW := tw_mem 860 (by decide +kernel) (by decide +kernel)
theorem im_X6_nextSum : Cond.instanceMethod yX6_nextSum ∈ TW := tw_mem 862 (by decide +kernel) (by decide +kernel)
set_option maxRecDepth 100000 in
theorem co_X6_nextSum : Cond.code yX6_nextSum cX6_nextSum 4 (some .int) ∈ TW := tw_mem 863 rfl rfl
theorem kl_X6_167 : Cond.constantLong RX6 167 (-32) ∈ TW := tw_mem 864 (by decide +kernel) (by decide +kernel)
theorem kl_X6_169 : Cond.constantLong RX6 169 (32) ∈ TW := tw_mem 865 (by decide +kernel) (by decide +kernel)
theorem kl_X6_171 : Cond.constantLong RX6 171 (1024) ∈ TW := tw_mem 866 (by decide +kernel) (by decide +kernel)
theorem ml_X6_173 : Cond.methodLink RX6 173 yX6_step ∈ TW := tw_mem 867 (by decide +kernel) (by decide +kernel)
theorem im_X6_step : Cond.instanceMethod yX6_step ∈ TW := tw_mem 869 (by decide +kernel) (by decide +kernel)
set_option maxRecDepth 100000 in
theorem co_X6_step : Cond.code yX6_step cX6_step 6 (some .long) ∈ TW := tw_mem 870 rfl rfl
theorem ml_X6_147 : Cond.methodLink RX6 147 yX6_square ∈ TW := tw_mem 871 (by decide +kernel) (by decide +kernel)
theorem st_X6_square : Cond.static yX6_square ∈ TW := tw_mem 872 (by decide +kernel) (by decide +kernel)
set_option maxRecDepth 100000 in
theorem co_X6_square : Cond.code yX6_square cX6_square 2 (some .long) ∈ TW := tw_mem 873 rfl rfl
theorem ml_X6_188 : Cond.methodLink RX6 188 yX6_nextBest ∈ TW := tw_mem 874 (by decide +kernel) (by decide +kernel)
theorem im_X6_nextBest : Cond.instanceMethod yX6_nextBest ∈ TW := tw_mem 876 (by decide +kernel) (by decide +kernel)
set_option maxRecDepth 100000 in
theorem co_X6_nextBest : Cond.code yX6_nextBest cX6_nextBest 6 (some .int) ∈ TW := tw_mem 877 rfl rfl
theorem ml_L_51 : Cond.methodLink RL 51 yX6_recalls ∈ TW := tw_mem 878 (by decide +kernel) (by decide +kernel)
theorem im_X6_recalls : Cond.instanceMethod yX6_recalls ∈ TW := tw_mem 879 (by decide +kernel) (by decide +kernel)
theorem se_X6_recalls : Cond.selects RX6 yX6_recalls yX6_recalls ∈ TW := tw_mem 880 (by decide +kernel) (by decide +kernel)
set_option maxRecDepth 100000 in
theorem co_X6_recalls : Cond.code yX6_recalls cX6_recalls 3 (some .int) ∈ TW := tw_mem 881 rfl rfl
theorem ml_X6_122 : Cond.methodLink RX6 122 yX6_publishedMany ∈ TW := tw_mem 882 (by decide +kernel) (by decide +kernel)
theorem im_X6_publishedMany : Cond.instanceMethod yX6_publishedMany ∈ TW := tw_mem 884 (by decide +kernel) (by decide +kernel)
set_option maxRecDepth 100000 in
theorem co_X6_publishedMany : Cond.code yX6_publishedMany cX6_publishedMany 3 (some .int) ∈ TW := tw_mem 885 rfl rfl
theorem ml_L_55 : Cond.methodLink RL 55 yX6_of ∈ TW := tw_mem 886 (by decide +kernel) (by decide +kernel)
theorem im_X6_of : Cond.instanceMethod yX6_of ∈ TW := tw_mem 887 (by decide +kernel) (by decide +kernel)
theorem se_X6_of : Cond.selects RX6 yX6_of yX6_of ∈ TW := tw_mem 888 (by decide +kernel) (by decide +kernel)
set_option maxRecDepth 100000 in
theorem co_X6_of : Cond.code yX6_of cX6_of 3 (some .int) ∈ TW := tw_mem 889 rfl rfl
theorem kl_X6_125 : Cond.constantLong RX6 125 (3) ∈ TW := tw_mem 890 (by decide +kernel) (by decide +kernel)
theorem ml_X6_127 : Cond.methodLink RX6 127 yX6_ofQuarter ∈ TW := tw_mem 891 (by decide +kernel) (by decide +kernel)
theorem im_X6_ofQuarter : Cond.instanceMethod yX6_ofQuarter ∈ TW := tw_mem 893 (by decide +kernel) (by decide +kernel)
set_option maxRecDepth 100000 in
theorem co_X6_ofQuarter : Cond.code yX6_ofQuarter cX6_ofQuarter 3 (some .int) ∈ TW := tw_mem 894 rfl rfl
theorem ml_L_59 : Cond.methodLink RL 59 yX6_year ∈ TW := tw_mem 895 (by decide +kernel) (by decide +kernel)
theorem im_X6_year : Cond.instanceMethod yX6_year ∈ TW := tw_mem 896 (by decide +kernel) (by decide +kernel)
theorem se_X6_year : Cond.selects RX6 yX6_year yX6_year ∈ TW := tw_mem 897 (by decide +kernel) (by decide +kernel)
set_option maxRecDepth 100000 in
theorem co_X6_year : Cond.code yX6_year cX6_year 3 (some .int) ∈ TW := tw_mem 898 rfl rfl
theorem ml_X6_133 : Cond.methodLink RX6 133 yX6_ofYear ∈ TW := tw_mem 899 (by decide +kernel) (by decide +kernel)
theorem im_X6_ofYear : Cond.instanceMethod yX6_ofYear ∈ TW := tw_mem 901 (by decide +kernel) (by decide +kernel)
set_option maxRecDepth 100000 in
theorem co_X6_ofYear : Cond.code yX6_ofYear cX6_ofYear 3 (some .int) ∈ TW := tw_mem 902 rfl rfl
theorem ml_L_63 : Cond.methodLink RL 63 yX6_count ∈ TW := tw_mem 903 (by decide +kernel) (by decide +kernel)
theorem im_X6_count : Cond.instanceMethod yX6_count ∈ TW := tw_mem 904 (by decide +kernel) (by decide +kernel)
theorem se_X6_count : Cond.selects RX6 yX6_count yX6_count ∈ TW := tw_mem 905 (by decide +kernel) (by decide +kernel)
set_option maxRecDepth 100000 in
theorem co_X6_count : Cond.code yX6_count cX6_count 2 (some .int) ∈ TW := tw_mem 906 rfl rfl
theorem kl_X6_136 : Cond.constantLong RX6 136 (5) ∈ TW := tw_mem 907 (by decide +kernel) (by decide +kernel)
theorem ml_X6_138 : Cond.methodLink RX6 138 yX6_countOf ∈ TW := tw_mem 908 (by decide +kernel) (by decide +kernel)
theorem im_X6_countOf : Cond.instanceMethod yX6_countOf ∈ TW := tw_mem 910 (by decide +kernel) (by decide +kernel)
set_option maxRecDepth 100000 in
theorem co_X6_countOf : Cond.code yX6_countOf cX6_countOf 4 (some .int) ∈ TW := tw_mem 911 rfl rfl
theorem ml_L_67 : Cond.methodLink RL 67 yX6_bent ∈ TW := tw_mem 912 (by decide +kernel) (by decide +kernel)
theorem im_X6_bent : Cond.instanceMethod yX6_bent ∈ TW := tw_mem 913 (by decide +kernel) (by decide +kernel)
theorem se_X6_bent : Cond.selects RX6 yX6_bent yX6_bent ∈ TW := tw_mem 914 (by decide +kernel) (by decide +kernel)
set_option maxRecDepth 100000 in
theorem co_X6_bent : Cond.code yX6_bent cX6_bent 2 (some .int) ∈ TW := tw_mem 915 rfl rfl
theorem ml_L_72 : Cond.methodLink RL 72 yX6_moved ∈ TW := tw_mem 916 (by decide +kernel) (by decide +kernel)
theorem im_X6_moved : Cond.instanceMethod yX6_moved ∈ TW := tw_mem 917 (by decide +kernel) (by decide +kernel)
theorem se_X6_moved : Cond.selects RX6 yX6_moved yX6_moved ∈ TW := tw_mem 918 (by decide +kernel) (by decide +kernel)
set_option maxRecDepth 100000 in
theorem co_X6_moved : Cond.code yX6_moved cX6_moved 2 (some .long) ∈ TW := tw_mem 919 rfl rfl
theorem ml_X6_194 : Cond.methodLink RX6 194 yX6_movedBy ∈ TW := tw_mem 920 (by decide +kernel) (by decide +kernel)
theorem im_X6_movedBy : Cond.instanceMethod yX6_movedBy ∈ TW := tw_mem 922 (by decide +kernel) (by decide +kernel)
set_option maxRecDepth 100000 in
theorem co_X6_movedBy : Cond.code yX6_movedBy cX6_movedBy 8 (some .long) ∈ TW := tw_mem 923 rfl rfl
theorem ml_L_76 : Cond.methodLink RL 76 yX6_revised ∈ TW := tw_mem 924 (by decide +kernel) (by decide +kernel)
theorem im_X6_revised : Cond.instanceMethod yX6_revised ∈ TW := tw_mem 925 (by decide +kernel) (by decide +kernel)
theorem se_X6_revised : Cond.selects RX6 yX6_revised yX6_revised ∈ TW := tw_mem 926 (by decide +kernel) (by decide +kernel)
set_option maxRecDepth 100000 in
theorem co_X6_revised : Cond.code yX6_revised cX6_revised 2 (some .int) ∈ TW := tw_mem 927 rfl rfl
theorem ml_X6_198 : Cond.methodLink RX6 198 yX6_revisedOf ∈ TW := tw_mem 928 (by decide +kernel) (by decide +kernel)
theorem im_X6_revisedOf : Cond.instanceMethod yX6_revisedOf ∈ TW := tw_mem 930 (by decide +kernel) (by decide +kernel)
set_option maxRecDepth 100000 in
theorem co_X6_revisedOf : Cond.code yX6_revisedOf cX6_revisedOf 3 (some .int) ∈ TW := tw_mem 931 rfl rfl
theorem ml_L_80 : Cond.methodLink RL 80 yX6_farthest ∈ TW := tw_mem 932 (by decide +kernel) (by decide +kernel)
theorem im_X6_farthest : Cond.instanceMethod yX6_farthest ∈ TW := tw_mem 933 (by decide +kernel) (by decide +kernel)
theorem se_X6_farthest : Cond.selects RX6 yX6_farthest yX6_farthest ∈ TW := tw_mem 934 (by decide +kernel) (by decide +kernel)
set_option maxRecDepth 100000 in
theorem co_X6_farthest : Cond.code yX6_farthest cX6_farthest 4 (some .int) ∈ TW := tw_mem 935 rfl rfl
theorem ml_L_84 : Cond.methodLink RL 84 yX6_least ∈ TW := tw_mem 936 (by decide +kernel) (by decide +kernel)
theorem im_X6_least : Cond.instanceMethod yX6_least ∈ TW := tw_mem 937 (by decide +kernel) (by decide +kernel)
theorem se_X6_least : Cond.selects RX6 yX6_least yX6_least ∈ TW := tw_mem 938 (by decide +kernel) (by decide +kernel)
set_option maxRecDepth 100000 in
theorem co_X6_least : Cond.code yX6_least cX6_least 2 (some .int) ∈ TW := tw_mem 939 rfl rfl
theorem ml_L_88 : Cond.methodLink RL 88 yX6_price ∈ TW := tw_mem 940 (by decide +kernel) (by decide +kernel)
theorem im_X6_price : Cond.instanceMethod yX6_price ∈ TW := tw_mem 941 (by decide +kernel) (by decide +kernel)
theorem se_X6_price : Cond.selects RX6 yX6_price yX6_price ∈ TW := tw_mem 942 (by decide +kernel) (by decide +kernel)
set_option maxRecDepth 100000 in
theorem co_X6_price : Cond.code yX6_price cX6_price 5 (some .long) ∈ TW := tw_mem 943 rfl rfl
theorem ml_L_92 : Cond.methodLink RL 92 yX6_others ∈ TW := tw_mem 944 (by decide +kernel) (by decide +kernel)
theorem im_X6_others : Cond.instanceMethod yX6_others ∈ TW := tw_mem 945 (by decide +kernel) (by decide +kernel)
theorem se_X6_others : Cond.selects RX6 yX6_others yX6_others ∈ TW := tw_mem 946 (by decide +kernel) (by decide +kernel)
set_option maxRecDepth 100000 in
theorem co_X6_others : Cond.code yX6_others cX6_others 1 (some .int) ∈ TW := tw_mem 947 rfl rfl
theorem ml_L_96 : Cond.methodLink RL 96 yX6_shared ∈ TW := tw_mem 948 (by decide +kernel) (by decide +kernel)
theorem im_X6_shared : Cond.instanceMethod yX6_shared ∈ TW := tw_mem 949 (by decide +kernel) (by decide +kernel)
theorem se_X6_shared : Cond.selects RX6 yX6_shared yX6_shared ∈ TW := tw_mem 950 (by decide +kernel) (by decide +kernel)
set_option maxRecDepth 100000 in
theorem co_X6_shared : Cond.code yX6_shared cX6_shared 2 (some .int) ∈ TW := tw_mem 951 rfl rfl
theorem ml_X6_204 : Cond.methodLink RX6 204 yX6_shareOut ∈ TW := tw_mem 952 (by decide +kernel) (by decide +kernel)
theorem im_X6_shareOut : Cond.instanceMethod yX6_shareOut ∈ TW := tw_mem 954 (by decide +kernel) (by decide +kernel)
set_option maxRecDepth 100000 in
theorem co_X6_shareOut : Cond.code yX6_shareOut cX6_shareOut 2 none ∈ TW := tw_mem 955 rfl rfl
theorem ml_X6_201 : Cond.methodLink RX6 201 yX6_shareYear ∈ TW := tw_mem 956 (by decide +kernel) (by decide +kernel)
theorem im_X6_shareYear : Cond.instanceMethod yX6_shareYear ∈ TW := tw_mem 958 (by decide +kernel) (by decide +kernel)
set_option maxRecDepth 100000 in
theorem co_X6_shareYear : Cond.code yX6_shareYear cX6_shareYear 9 none ∈ TW := tw_mem 959 rfl rfl
theorem ml_L_100 : Cond.methodLink RL 100 yX6_stepped ∈ TW := tw_mem 960 (by decide +kernel) (by decide +kernel)
theorem im_X6_stepped : Cond.instanceMethod yX6_stepped ∈ TW := tw_mem 961 (by decide +kernel) (by decide +kernel)
theorem se_X6_stepped : Cond.selects RX6 yX6_stepped yX6_stepped ∈ TW := tw_mem 962 (by decide +kernel) (by decide +kernel)
set_option maxRecDepth 100000 in
theorem co_X6_stepped : Cond.code yX6_stepped cX6_stepped 2 (some .long) ∈ TW := tw_mem 963 rfl rfl
theorem ml_L_104 : Cond.methodLink RL 104 yX6_type ∈ TW := tw_mem 964 (by decide +kernel) (by decide +kernel)
theorem im_X6_type : Cond.instanceMethod yX6_type ∈ TW := tw_mem 965 (by decide +kernel) (by decide +kernel)
theorem se_X6_type : Cond.selects RX6 yX6_type yX6_type ∈ TW := tw_mem 966 (by decide +kernel) (by decide +kernel)
set_option maxRecDepth 100000 in
theorem co_X6_type : Cond.code yX6_type cX6_type 2 (some .int) ∈ TW := tw_mem 967 rfl rfl
theorem kl_X6_207 : Cond.constantLong RX6 207 (127) ∈ TW := tw_mem 968 (by decide +kernel) (by decide +kernel)
theorem ml_L_108 : Cond.methodLink RL 108 yX6_clear ∈ TW := tw_mem 969 (by decide +kernel) (by decide +kernel)
theorem im_X6_clear : Cond.instanceMethod yX6_clear ∈ TW := tw_mem 970 (by decide +kernel) (by decide +kernel)
theorem se_X6_clear : Cond.selects RX6 yX6_clear yX6_clear ∈ TW := tw_mem 971 (by decide +kernel) (by decide +kernel)
set_option maxRecDepth 100000 in
theorem co_X6_clear : Cond.code yX6_clear cX6_clear 2 (some .int) ∈ TW := tw_mem 972 rfl rfl
theorem ml_L_112 : Cond.methodLink RL 112 yX6_does ∈ TW := tw_mem 973 (by decide +kernel) (by decide +kernel)
theorem im_X6_does : Cond.instanceMethod yX6_does ∈ TW := tw_mem 974 (by decide +kernel) (by decide +kernel)
theorem se_X6_does : Cond.selects RX6 yX6_does yX6_does ∈ TW := tw_mem 975 (by decide +kernel) (by decide +kernel)
set_option maxRecDepth 100000 in
theorem co_X6_does : Cond.code yX6_does cX6_does 3 (some .int) ∈ TW := tw_mem 976 rfl rfl
theorem ml_X6_234 : Cond.methodLink RX6 234 yX6_readText ∈ TW := tw_mem 977 (by decide +kernel) (by decide +kernel)
theorem im_X6_readText : Cond.instanceMethod yX6_readText ∈ TW := tw_mem 979 (by decide +kernel) (by decide +kernel)
set_option maxRecDepth 100000 in
theorem co_X6_readText : Cond.code yX6_readText cX6_readText 2 (some .int) ∈ TW := tw_mem 980 rfl rfl
theorem ml_X6_231 : Cond.methodLink RX6 231 yX6_readByte ∈ TW := tw_mem 981 (by decide +kernel) (by decide +kernel)
theorem im_X6_readByte : Cond.instanceMethod yX6_readByte ∈ TW := tw_mem 983 (by decide +kernel) (by decide +kernel)
set_option maxRecDepth 100000 in
theorem co_X6_readByte : Cond.code yX6_readByte cX6_readByte 3 (some .boolean) ∈ TW := tw_mem 984 rfl rfl
theorem ml_X6_224 : Cond.methodLink RX6 224 yX6_wantsOf ∈ TW := tw_mem 985 (by decide +kernel) (by decide +kernel)
theorem st_X6_wantsOf : Cond.static yX6_wantsOf ∈ TW := tw_mem 986 (by decide +kernel) (by decide +kernel)
set_option maxRecDepth 100000 in
theorem co_X6_wantsOf : Cond.code yX6_wantsOf cX6_wantsOf 1 (some .int) ∈ TW := tw_mem 987 rfl rfl
theorem kl_X6_227 : Cond.constantLong RX6 227 (48) ∈ TW := tw_mem 988 (by decide +kernel) (by decide +kernel)
theorem kl_X6_229 : Cond.constantLong RX6 229 (57) ∈ TW := tw_mem 989 (by decide +kernel) (by decide +kernel)
theorem ml_X6_237 : Cond.methodLink RX6 237 yX6_doOrder ∈ TW := tw_mem 990 (by decide +kernel) (by decide +kernel)
theorem im_X6_doOrder : Cond.instanceMethod yX6_doOrder ∈ TW := tw_mem 992 (by decide +kernel) (by decide +kernel)
set_option maxRecDepth 100000 in
theorem co_X6_doOrder : Cond.code yX6_doOrder cX6_doOrder 5 (some .int) ∈ TW := tw_mem 993 rfl rfl
theorem ml_L_116 : Cond.methodLink RL 116 yX6_back ∈ TW := tw_mem 994 (by decide +kernel) (by decide +kernel)
theorem im_X6_back : Cond.instanceMethod yX6_back ∈ TW := tw_mem 995 (by decide +kernel) (by decide +kernel)
theorem se_X6_back : Cond.selects RX6 yX6_back yX6_back ∈ TW := tw_mem 996 (by decide +kernel) (by decide +kernel)
set_option maxRecDepth 100000 in
theorem co_X6_back : Cond.code yX6_back cX6_back 1 (some .int) ∈ TW := tw_mem 997 rfl rfl
theorem ml_L_120 : Cond.methodLink RL 120 yX6_told ∈ TW := tw_mem 998 (by decide +kernel) (by decide +kernel)
theorem im_X6_told : Cond.instanceMethod yX6_told ∈ TW := tw_mem 999 (by decide +kernel) (by decide +kernel)
theorem se_X6_told : Cond.selects RX6 yX6_told yX6_told ∈ TW := tw_mem 1000 (by decide +kernel) (by decide +kernel)
set_option maxRecDepth 100000 in
theorem co_X6_told : Cond.code yX6_told cX6_told 2 (some .int) ∈ TW := tw_mem 1001 rfl rfl
theorem kl_X6_240 : Cond.constantLong RX6 240 (4) ∈ TW := tw_mem 1002 (by decide +kernel) (by decide +kernel)
theorem ml_X6_242 : Cond.methodLink RX6 242 yX6_toldOf ∈ TW := tw_mem 1003 (by decide +kernel) (by decide +kernel)
theorem im_X6_toldOf : Cond.instanceMethod yX6_toldOf ∈ TW := tw_mem 1005 (by decide +kernel) (by decide +kernel)
set_option maxRecDepth 100000 in
theorem co_X6_toldOf : Cond.code yX6_toldOf cX6_toldOf 2 (some .int) ∈ TW := tw_mem 1006 rfl rfl
theorem ml_L_125 : Cond.methodLink RL 125 yX6_digest ∈ TW := tw_mem 1007 (by decide +kernel) (by decide +kernel)
theorem im_X6_digest : Cond.instanceMethod yX6_digest ∈ TW := tw_mem 1008 (by decide +kernel) (by decide +kernel)
theorem se_X6_digest : Cond.selects RX6 yX6_digest yX6_digest ∈ TW := tw_mem 1009 (by decide +kernel) (by decide +kernel)
set_option maxRecDepth 100000 in
theorem co_X6_digest : Cond.code yX6_digest cX6_digest 5 (some .long) ∈ TW := tw_mem 1010 rfl rfl
theorem kl_X6_245 : Cond.constantLong RX6 245 (1980) ∈ TW := tw_mem 1011 (by decide +kernel) (by decide +kernel)
theorem kl_X6_247 : Cond.constantLong RX6 247 (31) ∈ TW := tw_mem 1012 (by decide +kernel) (by decide +kernel)
theorem kl_X6_249 : Cond.constantLong RX6 249 (8) ∈ TW := tw_mem 1013 (by decide +kernel) (by decide +kernel)
theorem ly_X0 : ∀ w ∈ u_ws RX0 TX0 11, w ∈ TW := by
  intro w hw
  exact List.mem_filter.mpr (by
    have h : (u_ws RX0 TX0 11).all (fun w => decide (w ∈ lw_tbl) && goodWord w) = true := by decide +kernel
    have h1 := List.all_eq_true.mp h w hw
    simpa using h1)
theorem ly_X1 : ∀ w ∈ u_ws RX1 TX1 7, w ∈ TW := by
  intro w hw
  exact List.mem_filter.mpr (by
    have h : (u_ws RX1 TX1 7).all (fun w => decide (w ∈ lw_tbl) && goodWord w) = true := by decide +kernel
    have h1 := List.all_eq_true.mp h w hw
    simpa using h1)
theorem ly_X2 : ∀ w ∈ u_ws RX2 TX2 7, w ∈ TW := by
  intro w hw
  exact List.mem_filter.mpr (by
    have h : (u_ws RX2 TX2 7).all (fun w => decide (w ∈ lw_tbl) && goodWord w) = true := by decide +kernel
    have h1 := List.all_eq_true.mp h w hw
    simpa using h1)
theorem ly_X3 : ∀ w ∈ u_ws RX3 TX3 3, w ∈ TW := by
  intro w hw
  exact List.mem_filter.mpr (by
    have h : (u_ws RX3 TX3 3).all (fun w => decide (w ∈ lw_tbl) && goodWord w) = true := by decide +kernel
    have h1 := List.all_eq_true.mp h w hw
    simpa using h1)
theorem ly_X4 : ∀ w ∈ u_ws RX4 TX4 9, w ∈ TW := by
  intro w hw
  exact List.mem_filter.mpr (by
    have h : (u_ws RX4 TX4 9).all (fun w => decide (w ∈ lw_tbl) && goodWord w) = true := by decide +kernel
    have h1 := List.all_eq_true.mp h w hw
    simpa using h1)
theorem ly_X5 : ∀ w ∈ u_ws RX5 TX5 6, w ∈ TW := by
  intro w hw
  exact List.mem_filter.mpr (by
    have h : (u_ws RX5 TX5 6).all (fun w => decide (w ∈ lw_tbl) && goodWord w) = true := by decide +kernel
    have h1 := List.all_eq_true.mp h w hw
    simpa using h1)
theorem ly_X6 : ∀ w ∈ u_ws RX6 TX6 23, w ∈ TW := by
  intro w hw
  exact List.mem_filter.mpr (by
    have h : (u_ws RX6 TX6 23).all (fun w => decide (w ∈ lw_tbl) && goodWord w) = true := by decide +kernel
    have h1 := List.all_eq_true.mp h w hw
    simpa using h1)
end
section
/-! ints and longs as integers; arrays as functions of integers -/
def iI (z : Int) : Int32 := Int32.ofInt z
def lI (z : Int) : Int64 := Int64.ofInt z
def bB (b : Bool) : Int32 := if b then 1 else 0
def ia (f : Int → Int) : Nat → Int32 := fun k => iI (f (k : Int))
def la (f : Int → Int) : Nat → Int64 := fun k => lI (f (k : Int))
def ba (f : Int → Bool) : Nat → Int32 := fun k => bB (f (k : Int))
def up {α : Type} (f : Int → α) (k : Int) (v : α) : Int → α := fun j => if j = k then v else f j
abbrev sm (z : Int) : Prop := -2147483648 ≤ z ∧ z < 2147483648
abbrev sl (z : Int) : Prop := -9223372036854775808 ≤ z ∧ z < 9223372036854775808
theorem up_same {α : Type} (f : Int → α) (k : Int) (v : α) : up f k v k = v := by simp [up]
theorem up_ne {α : Type} (f : Int → α) {k j : Int} (v : α) (h : j ≠ k) : up f k v j = f j := by simp [up, h]
theorem iI_toInt {z : Int} (h : sm z) : (iI z).toInt = z := Int32.toInt_ofInt_of_le h.1 h.2
theorem lI_toInt {z : Int} (h : sl z) : (lI z).toInt = z := Int64.toInt_ofInt_of_le h.1 h.2
theorem iI_of (x : Int32) : x = iI x.toInt := (Int32.ofInt_toInt x).symm
theorem iI_sm (x : Int32) : sm x.toInt := ⟨Int32.le_toInt x, Int32.toInt_lt x⟩
theorem iI_add (a b : Int) : iI a + iI b = iI (a + b) := (Int32.ofInt_add a b).symm
theorem iI_sub (a b : Int) : iI a - iI b = iI (a - b) := (Int32.ofInt_sub a b).symm
theorem iI_mul (a b : Int) : iI a * iI b = iI (a * b) := (Int32.ofInt_mul a b).symm
theorem iI_neg (a : Int) : -iI a = iI (-a) := (Int32.ofInt_neg a).symm
theorem lI_add (a b : Int) : lI a + lI b = lI (a + b) := (Int64.ofInt_add a b).symm
theorem lI_sub (a b : Int) : lI a - lI b = lI (a - b) := (Int64.ofInt_sub a b).symm
theorem lI_mul (a b : Int) : lI a * lI b = lI (a * b) := (Int64.ofInt_mul a b).symm
theorem iI_le {a b : Int} (ha : sm a) (hb : sm b) : iI a ≤ iI b ↔ a ≤ b := by rw [Int32.le_iff_toInt_le, iI_toInt ha, iI_toInt hb]
theorem iI_lt {a b : Int} (ha : sm a) (hb : sm b) : iI a < iI b ↔ a < b := by rw [Int32.lt_iff_toInt_lt, iI_toInt ha, iI_toInt hb]
theorem iI_eq {a b : Int} (ha : sm a) (hb : sm b) : iI a = iI b ↔ a = b := by rw [← Int32.toInt_inj, iI_toInt ha, iI_toInt hb]
theorem lI_le {a b : Int} (ha : sl a) (hb : sl b) : lI a ≤ lI b ↔ a ≤ b := by rw [Int64.le_iff_toInt_le, lI_toInt ha, lI_toInt hb]
theorem lI_lt {a b : Int} (ha : sl a) (hb : sl b) : lI a < lI b ↔ a < b := by rw [Int64.lt_iff_toInt_lt, lI_toInt ha, lI_toInt hb]
theorem lI_eq {a b : Int} (ha : sl a) (hb : sl b) : lI a = lI b ↔ a = b := by rw [← Int64.toInt_inj, lI_toInt ha, lI_toInt hb]
theorem sm0 : sm 0 := by decide
theorem iI_0 : iI 0 = 0 := by decide
theorem lI_0 : lI 0 = 0 := by decide
theorem iI_l {a : Int} (h : sm a) : (iI a).toInt64 = lI a := by
  rw [← Int64.toInt_inj, Int32.toInt_toInt64, iI_toInt h, lI_toInt ⟨by omega, by omega⟩]
theorem iI_div {a b : Int} (ha : sm a) (hb : sm b) (h0 : 0 ≤ a) (h1 : 0 < b) : iI a / iI b = iI (a / b) := by
  rw [← Int32.toInt_inj]
  have hb1 : iI b ≠ -1 := fun h => by
    have := congrArg Int32.toInt h
    rw [iI_toInt hb] at this
    have e : (-1 : Int32).toInt = -1 := by decide
    omega
  have hd : a / b ≤ a := Int.ediv_le_self b h0
  have hd0 : 0 ≤ a / b := Int.ediv_nonneg h0 (by omega)
  rw [Int32.toInt_div_of_ne_right _ _ hb1, iI_toInt ha, iI_toInt hb, iI_toInt ⟨by omega, by omega⟩, Int.tdiv_eq_ediv_of_nonneg h0]
theorem iI_rem {a b : Int} (ha : sm a) (hb : sm b) (h0 : 0 ≤ a) (h1 : 0 < b) : iI a - iI a / iI b * iI b = iI (a % b) := by
  rw [iI_div ha hb h0 h1, iI_mul, iI_sub]
  have := Int.emod_add_mul_ediv a b
  congr 1
  rw [Int.mul_comm]
  omega
theorem lI_div {a b : Int} (ha : sl a) (hb : sl b) (h0 : 0 ≤ a) (h1 : 0 < b) : lI a / lI b = lI (a / b) := by
  rw [← Int64.toInt_inj]
  have hb1 : lI b ≠ -1 := fun h => by
    have := congrArg Int64.toInt h
    rw [lI_toInt hb] at this
    have e : (-1 : Int64).toInt = -1 := by decide
    omega
  have hd : a / b ≤ a := Int.ediv_le_self b h0
  have hd0 : 0 ≤ a / b := Int.ediv_nonneg h0 (by omega)
  rw [Int64.toInt_div_of_ne_right _ _ hb1, lI_toInt ha, lI_toInt hb, lI_toInt ⟨by omega, by omega⟩, Int.tdiv_eq_ediv_of_nonneg h0]
theorem iI_in {i : Int} {n : Nat} (h0 : 0 ≤ i) (h1 : i < n) (hn : n < 2147483648) : vp_in (iI i) n := by
  rw [vp_in_iff, iI_toInt ⟨by omega, by omega⟩]
  exact ⟨h0, h1⟩
theorem iI_cl {i : Int} {n : Nat} (h0 : 0 ≤ i) (h1 : i < n) (hn : n < 2147483648) : (((iI i).toNatClampNeg : Nat) : Int) = i := by
  show (((iI i).toInt.toNat : Nat) : Int) = i
  rw [iI_toInt ⟨by omega, by omega⟩]
  omega
theorem ia_at {f : Int → Int} {i : Int} {n : Nat} (h0 : 0 ≤ i) (h1 : i < n) (hn : n < 2147483648) : ia f (iI i).toNatClampNeg = iI (f i) := by
  show iI (f _) = _
  rw [iI_cl h0 h1 hn]
theorem la_at {f : Int → Int} {i : Int} {n : Nat} (h0 : 0 ≤ i) (h1 : i < n) (hn : n < 2147483648) : la f (iI i).toNatClampNeg = lI (f i) := by
  show lI (f _) = _
  rw [iI_cl h0 h1 hn]
theorem ba_at {f : Int → Bool} {i : Int} {n : Nat} (h0 : 0 ≤ i) (h1 : i < n) (hn : n < 2147483648) : ba f (iI i).toNatClampNeg = bB (f i) := by
  show bB (f _) = _
  rw [iI_cl h0 h1 hn]
theorem ia_up {f : Int → Int} {i v : Int} {n : Nat} (h0 : 0 ≤ i) (h1 : i < n) (hn : n < 2147483648) : upd (ia f) (iI i).toNatClampNeg (iI v) = ia (up f i v) := by
  funext j
  have e := iI_cl h0 h1 hn
  by_cases h : j = (iI i).toNatClampNeg
  · have : (j : Int) = i := by omega
    simp [upd, h, ia, up, e]
  · have : (j : Int) ≠ i := by omega
    simp [upd, h, ia, up, this]
theorem la_up {f : Int → Int} {i v : Int} {n : Nat} (h0 : 0 ≤ i) (h1 : i < n) (hn : n < 2147483648) : vp_updL (la f) (iI i).toNatClampNeg (lI v) = la (up f i v) := by
  funext j
  have e := iI_cl h0 h1 hn
  by_cases h : j = (iI i).toNatClampNeg
  · have : (j : Int) = i := by omega
    simp [vp_updL, h, la, up, e]
  · have : (j : Int) ≠ i := by omega
    simp [vp_updL, h, la, up, this]
theorem bB_nar (b : Bool) : vp_nar .boolean (bB b) = bB b := by cases b <;> rfl
theorem bB_nr (b : Bool) : narrow .boolean (.int (bB b)) = .int (bB b) := by cases b <;> rfl
theorem bB_fit (b : Bool) : fits .boolean (.int (bB b)) = true := by cases b <;> rfl
theorem ba_up {f : Int → Bool} {i : Int} {v : Bool} {n : Nat} (h0 : 0 ≤ i) (h1 : i < n) (hn : n < 2147483648) : upd (ba f) (iI i).toNatClampNeg (vp_nar .boolean (bB v)) = ba (up f i v) := by
  rw [bB_nar]
  funext j
  have e := iI_cl h0 h1 hn
  by_cases h : j = (iI i).toNatClampNeg
  · have : (j : Int) = i := by omega
    simp [upd, h, ba, up, e]
  · have : (j : Int) ≠ i := by omega
    simp [upd, h, ba, up, this]
theorem bB_f (b : Bool) : bB b = 0 ↔ b = false := by cases b <;> simp [bB]
theorem bB_t (b : Bool) : ¬ bB b = 0 ↔ b = true := by cases b <;> simp [bB]
theorem iI_bB1 {b : Bool} (h : b = true) : iI 1 = bB b := by rw [h]; decide
theorem iI_bB0 {b : Bool} (h : b = false) : iI 0 = bB b := by rw [h]; decide
theorem lc_lt {a b : Int} (ha : sl a) (hb : sl b) : lg_cmp (lI a) (lI b) < 0 ↔ a < b := by
  unfold lg_cmp
  simp only [gt_iff_lt, lI_lt hb ha, lI_eq ha hb]
  split
  · exact ⟨fun h => absurd h (by decide), fun h => by omega⟩
  · split
    · exact ⟨fun h => absurd h (by decide), fun h => by omega⟩
    · exact ⟨fun _ => by omega, fun _ => by decide⟩
theorem lc_eq {a b : Int} (ha : sl a) (hb : sl b) : lg_cmp (lI a) (lI b) = 0 ↔ a = b := by
  unfold lg_cmp
  simp only [gt_iff_lt, lI_lt hb ha, lI_eq ha hb]
  split
  · exact ⟨fun h => absurd h (by decide), fun h => by omega⟩
  · split
    · exact ⟨fun h => by assumption, fun h => rfl⟩
    · exact ⟨fun h => absurd h (by decide), fun h => by omega⟩
theorem lc_gt {a b : Int} (ha : sl a) (hb : sl b) : 0 < lg_cmp (lI a) (lI b) ↔ b < a := by
  unfold lg_cmp
  simp only [gt_iff_lt, lI_lt hb ha, lI_eq ha hb]
  split
  · exact ⟨fun _ => by assumption, fun _ => by decide⟩
  · split
    · exact ⟨fun h => absurd h (by decide), fun h => by omega⟩
    · exact ⟨fun h => absurd h (by decide), fun h => by omega⟩
theorem i32_nlt {a b : Int32} : ¬ a < b ↔ b ≤ a := Int32.not_lt
theorem i32_nle {a b : Int32} : ¬ a ≤ b ↔ b < a := Int32.not_le
end
section
/-! what holds of the machine at every step: the tables, the array classes, the nest mates, the static row -/
abbrev CY : Type := ClassId × ClassId × ClassId × ClassId
abbrev tyC (y : CY) : List (ClassId × FieldType) := [(y.1, .int), (y.2.1, .long), (y.2.2.1, .boolean), (y.2.2.2, .object RX2)]
def NW1 : Cond := .methodLinkNest RX5 18 yX0_init "BentQuarters"
def NW2 : Cond := .methodLinkNest RX0 11 yX1_init "BentQuarters"
def NW3 : Cond := .methodLinkNest RX5 32 yX4_init "BentQuarters"
def NW4 : Cond := .methodLinkNest RX2 40 yX5_within "BentQuarters"
def NW5 : Cond := .methodLinkNest RX2 48 yX5_isYear "BentQuarters"
def NW6 : Cond := .methodLinkNest RX2 60 yX5_isForm "BentQuarters"
def NW7 : Cond := .methodLinkNest RX4 52 yX5_within "BentQuarters"
def NW8 : Cond := .fieldLinkNest RX0 134 "BentQuarters" "SPOTS_BEGIN" "[I" "BentQuarters"
def EK (D : va_G) (y : CY) (U : State) : Prop := va_K D vwCl (tyC y) U ∧ va_Nw NW1 U ∧ va_Nw NW2 U ∧ va_Nw NW3 U ∧ va_Nw NW4 U ∧ va_Nw NW5 U ∧ va_Nw NW6 U ∧ va_Nw NW7 U ∧ va_Nw NW8 U
theorem EK.warm {D : va_G} {y : CY} {s U : State} (hW : s.WarmedH U.vm) (h : EK D y s) : EK D y U := by
  obtain ⟨h0, h1, h2, h3, h4, h5, h6, h7, h8⟩ := h
  exact ⟨va_K.moved hW.alike h0, va_Nw.warmM hW h1, va_Nw.warmM hW h2, va_Nw.warmM hW h3, va_Nw.warmM hW h4, va_Nw.warmM hW h5, va_Nw.warmM hW h6, va_Nw.warmM hW h7, va_Nw.warmF hW h8⟩
theorem EK.same {D : va_G} {y : CY} {u U : State} (hv : u.vm = U.vm) (h : EK D y u) : EK D y U := by
  obtain ⟨h0, h1, h2, h3, h4, h5, h6, h7, h8⟩ := h
  exact ⟨va_K.moved (by rw [hv]; exact Vm.Alike.refl U.vm) h0, va_Nw.same rfl hv h1, va_Nw.same rfl hv h2, va_Nw.same rfl hv h3, va_Nw.same rfl hv h4, va_Nw.same rfl hv h5, va_Nw.same rfl hv h6, va_Nw.same rfl hv h7, va_Nw.same rfl hv h8⟩
def sbF (j : Nat) : Value := match j with
  | 0 => .int (iI 0)
  | 1 => .int (iI 289)
  | 2 => .int (iI 850)
  | _ => .int (iI 1139)
def SB (z : Nat) (A : Nat → Prop) (U : State) (H : Heap) : Prop := va_Z "BentQuarters" "SPOTS_BEGIN" "[I" (.ref z) A U H ∧ va_T .int z 4 sbF A U H
theorem SB.moved {z : Nat} {A : Nat → Prop} {u U : State} {H : Heap} (hv : u.vm.Alike U.vm) (h : SB z A u H) : SB z A U H := ⟨h.1.moved hv, h.2.moved hv⟩
theorem SB.kept {z : Nat} {A : Nat → Prop} {U : State} {H H1 : Heap} (h : SB z A U H) (hq : ∀ a : Nat, a < H.size → ¬ A a → H1[a]? = H[a]?) : SB z A U H1 := ⟨h.1.kept hq, h.2.kept hq⟩
theorem SB.narrow {z : Nat} {A B : Nat → Prop} {U : State} {H : Heap} (h : SB z A U H) (hAB : ∀ q, B q → A q) : SB z B U H := ⟨h.1.narrow hAB, h.2.narrow hAB⟩
/-- a method's start: its world, of a heap of that size -/
def PX (D : va_G) (y : CY) (z : Nat) (W0 : va_W) (sz : Nat) (U : State) : Prop := U.heap.size = sz ∧ va_P D vwCl W0 U.heap ∧ EK D y U ∧ va_D (fun _ => True) W0 ∧ SB z (va_A W0 sz) U U.heap
/-- a method's end: its world -/
def BX (D : va_G) (W1 : va_W) (A : Nat → Prop) (t : State) : Prop := va_P D vwCl W1 t.heap ∧ va_D A W1
/-- the world within a walk -/
def XW (D : va_G) (A : Nat → Prop) (H0 : Heap) (W0 : va_W) (H : Heap) (locs : List Loc) : Prop := va_P D vwCl W0 H ∧ va_D A W0 ∧ va_S A H0 H locs
/-- what stays within a walk -/
def XE (p : Program) (s : State) (m : MethodId) (args : Array Value) (meth : Method) (c : Code) (cc : ByteArray) (nL : Nat) (own : String) (D : va_G) (y : CY) (z : Nat) (A : Nat → Prop) : Prop :=
  p.tables.exec = Jvm.exec ∧ c.code = cc ∧ c.maxLocals = nL ∧ s.vm.findClass own = some m.cls ∧ (∀ w ∈ TW, w.before args s = true) ∧ (∀ q : Nat, s.heap.size ≤ q → A q) ∧ EK D y s ∧ SB z A s s.heap ∧ meth.locks = false
theorem PX.blind {D : va_G} {y : CY} {z sz : Nat} {W0 : va_W} {av : List Value} : FrameBlind (va_Pc av (PX D y z W0 sz)) := by
  intro a U g mk h
  obtain ⟨h0, h1, h2, h3, h4, h5⟩ := h
  exact ⟨h0, h1, h2, EK.same (u := U) (U := U.calling g mk a) rfl h3, h4, SB.moved (u := U) (U := U.calling g mk a) (Vm.Alike.refl U.vm) h5⟩
theorem xw_ext {D : va_G} {A : Nat → Prop} {H0 H : Heap} {W0 W1 : va_W} {locs : List Loc} (h : XW D A H0 W0 H locs) (e : ∀ (k : Nat) (q : Nat × va_E), W1[k]? = some q → ∃ q' : Nat × va_E, W0[k]? = some q' ∧ q'.1 = q.1 ∧ (va_at D vwCl q' H → va_at D vwCl q H)) : XW D A H0 W1 H locs := by
  obtain ⟨hP, hD, hS⟩ := h
  refine ⟨fun k q hk => ?_, ⟨fun i j p q hi hj hpq => ?_, fun k q hk => ?_⟩, hS⟩
  · obtain ⟨q', h1, h2, h3⟩ := e k q hk
    exact h3 (hP k q' h1)
  · obtain ⟨p', h1, h2, -⟩ := e i p hi
    obtain ⟨q', h3, h4, -⟩ := e j q hj
    exact hD.1 i j p' q' h1 h3 (by rw [h2, h4]; exact hpq)
  · obtain ⟨q', h1, h2, -⟩ := e k q hk
    rw [← h2]
    exact hD.2 k q' h1
section XR
variable {p : Program} {l : Launch} {e : Env} {R : Room} {s : State} {m : MethodId} {args : Array Value} {below : List Frame} {meth : Method} {c : Code} {H : Heap} {locs : List Loc} {cells slots : Nat} {Q : State → Prop} {pc : Nat} {ls : Array Slot} {rest : List Value} {cc : ByteArray} {nL : Nat} {own : String} {D : va_G} {y : CY} {z : Nat} {A : Nat → Prop} {W0 : va_W}
theorem xr_iconst (E : XE p s m args meth c cc nL own D y z A) {n : Int} (hd : decode cc pc = .ok (.iconst n, 1)) (k : W p l e R s m args below meth c H locs cells slots Q (F0 m (pc + 1) ls (.int (iI n) :: rest))) : W p l e R s m args below meth c H locs cells slots Q (F0 m pc ls rest) := lv_iconst E.1 E.2.1 hd rfl k
theorem xr_bipush (E : XE p s m args meth c cc nL own D y z A) {n : Int} (hd : decode cc pc = .ok (.bipush n, 2)) (hv : (Int8.ofInt n).toInt32 = iI n) (k : W p l e R s m args below meth c H locs cells slots Q (F0 m (pc + 2) ls (.int (iI n) :: rest))) : W p l e R s m args below meth c H locs cells slots Q (F0 m pc ls rest) := lv_bipush E.1 E.2.1 hd hv k
theorem xr_sipush (E : XE p s m args meth c cc nL own D y z A) {n : Int} (hd : decode cc pc = .ok (.sipush n, 3)) (hv : (Int16.ofInt n).toInt32 = iI n) (k : W p l e R s m args below meth c H locs cells slots Q (F0 m (pc + 3) ls (.int (iI n) :: rest))) : W p l e R s m args below meth c H locs cells slots Q (F0 m pc ls rest) := lv_sipush E.1 E.2.1 hd hv k
theorem xr_lconst (E : XE p s m args meth c cc nL own D y z A) {n : Fin 2} {v : Int} (hd : decode cc pc = .ok (.lconst n, 1)) (hv : Int64.ofNat (n : Nat) = lI v) (k : W p l e R s m args below meth c H locs cells slots Q (F0 m (pc + 1) ls (.long (lI v) :: rest))) : W p l e R s m args below meth c H locs cells slots Q (F0 m pc ls rest) := lv_lconst E.1 E.2.1 hd hv k
theorem xr_ldc2 (E : XE p s m args meth c cc nL own D y z A) {i : Nat} {v : Int64} {n : Int} (hw : Cond.constantLong own i v ∈ TW) (hd : decode cc pc = .ok (.ldc2_w i, 3)) (hv : v = lI n) (k : W p l e R s m args below meth c H locs cells slots Q (F0 m (pc + 3) ls (.long (lI n) :: rest))) : W p l e R s m args below meth c H locs cells slots Q (F0 m pc ls rest) := lv_ldc2 E.1 E.2.1 E.2.2.2.1 (E.2.2.2.2.1 _ hw) hd (by rw [hv]; exact k)
theorem xr_iload_n (E : XE p s m args meth c cc nL own D y z A) {k : Fin 4} {i : Nat} {x : Int32} {lv : List (Nat × Value)} (hl : lv_has ls nL lv) (j : Nat) (hj : lv[j]? = some (i, .int x)) (hd : decode cc pc = .ok (.iload_n k, 1)) (hi : (k : Nat) = i) (kk : W p l e R s m args below meth c H locs cells slots Q (F0 m (pc + 1) ls (.int x :: rest))) : W p l e R s m args below meth c H locs cells slots Q (F0 m pc ls rest) := lv_iload_n E.1 E.2.1 hd hi (lv_at hl j hj) kk
theorem xr_iload (E : XE p s m args meth c cc nL own D y z A) {i : Nat} {x : Int32} {lv : List (Nat × Value)} (hl : lv_has ls nL lv) (j : Nat) (hj : lv[j]? = some (i, .int x)) (hd : decode cc pc = .ok (.iload i, 2)) (kk : W p l e R s m args below meth c H locs cells slots Q (F0 m (pc + 2) ls (.int x :: rest))) : W p l e R s m args below meth c H locs cells slots Q (F0 m pc ls rest) := lv_iload E.1 E.2.1 hd (lv_at hl j hj) kk
theorem xr_lload_n (E : XE p s m args meth c cc nL own D y z A) {k : Fin 4} {i : Nat} {x : Int64} {lv : List (Nat × Value)} (hl : lv_has ls nL lv) (j : Nat) (hj : lv[j]? = some (i, .long x)) (hd : decode cc pc = .ok (.lload_n k, 1)) (hi : (k : Nat) = i) (kk : W p l e R s m args below meth c H locs cells slots Q (F0 m (pc + 1) ls (.long x :: rest))) : W p l e R s m args below meth c H locs cells slots Q (F0 m pc ls rest) := lv_lload_n E.1 E.2.1 hd hi (lv_at hl j hj) kk
theorem xr_lload (E : XE p s m args meth c cc nL own D y z A) {i : Nat} {x : Int64} {lv : List (Nat × Value)} (hl : lv_has ls nL lv) (j : Nat) (hj : lv[j]? = some (i, .long x)) (hd : decode cc pc = .ok (.lload i, 2)) (kk : W p l e R s m args below meth c H locs cells slots Q (F0 m (pc + 2) ls (.long x :: rest))) : W p l e R s m args below meth c H locs cells slots Q (F0 m pc ls rest) := lv_lload E.1 E.2.1 hd (lv_at hl j hj) kk
theorem xr_aload_n (E : XE p s m args meth c cc nL own D y z A) {k : Fin 4} {i : Nat} {x : Nat} {lv : List (Nat × Value)} (hl : lv_has ls nL lv) (j : Nat) (hj : lv[j]? = some (i, .ref x)) (hd : decode cc pc = .ok (.aload_n k, 1)) (hi : (k : Nat) = i) (kk : W p l e R s m args below meth c H locs cells slots Q (F0 m (pc + 1) ls (.ref x :: rest))) : W p l e R s m args below meth c H locs cells slots Q (F0 m pc ls rest) := lv_aload_n E.1 E.2.1 hd hi (lv_at hl j hj) kk
theorem xr_istore_n (E : XE p s m args meth c cc nL own D y z A) {k : Fin 4} {i : Nat} {x : Int32} {lv lv' : List (Nat × Value)} (hl : lv_has ls nL lv) (hd : decode cc pc = .ok (.istore_n k, 1)) (hi : (k : Nat) = i) (hn : i < nL) (hq : (i, Value.int x) :: lv.filter (fun q => !(q.1 == i) && !(q.1 + 1 == i && q.2.category == 2)) = lv') (kk : ∀ ls' : Array Slot, lv_has ls' nL lv' → W p l e R s m args below meth c H locs cells slots Q (F0 m (pc + 1) ls' rest)) : W p l e R s m args below meth c H locs cells slots Q (F0 m pc ls (.int x :: rest)) := lv_istore_n E.1 E.2.1 hd hi hl hn hq kk
theorem xr_istore (E : XE p s m args meth c cc nL own D y z A) {i : Nat} {x : Int32} {lv lv' : List (Nat × Value)} (hl : lv_has ls nL lv) (hd : decode cc pc = .ok (.istore i, 2)) (hn : i < nL) (hq : (i, Value.int x) :: lv.filter (fun q => !(q.1 == i) && !(q.1 + 1 == i && q.2.category == 2)) = lv') (kk : ∀ ls' : Array Slot, lv_has ls' nL lv' → W p l e R s m args below meth c H locs cells slots Q (F0 m (pc + 2) ls' rest)) : W p l e R s m args below meth c H locs cells slots Q (F0 m pc ls (.int x :: rest)) := lv_istore E.1 E.2.1 hd hl hn hq kk
theorem xr_lstore_n (E : XE p s m args meth c cc nL own D y z A) {k : Fin 4} {i : Nat} {x : Int64} {lv lv' : List (Nat × Value)} (hl : lv_has ls nL lv) (hd : decode cc pc = .ok (.lstore_n k, 1)) (hi : (k : Nat) = i) (hn : i + 1 < nL) (hq : (i, Value.long x) :: lv.filter (fun q => !(q.1 == i) && (!(q.1 == i + 1) && !(q.1 + 1 == i && q.2.category == 2))) = lv') (kk : ∀ ls' : Array Slot, lv_has ls' nL lv' → W p l e R s m args below meth c H locs cells slots Q (F0 m (pc + 1) ls' rest)) : W p l e R s m args below meth c H locs cells slots Q (F0 m pc ls (.long x :: rest)) := lv_lstore_n E.1 E.2.1 hd hi hl hn hq kk
theorem xr_lstore (E : XE p s m args meth c cc nL own D y z A) {i : Nat} {x : Int64} {lv lv' : List (Nat × Value)} (hl : lv_has ls nL lv) (hd : decode cc pc = .ok (.lstore i, 2)) (hn : i + 1 < nL) (hq : (i, Value.long x) :: lv.filter (fun q => !(q.1 == i) && (!(q.1 == i + 1) && !(q.1 + 1 == i && q.2.category == 2))) = lv') (kk : ∀ ls' : Array Slot, lv_has ls' nL lv' → W p l e R s m args below meth c H locs cells slots Q (F0 m (pc + 2) ls' rest)) : W p l e R s m args below meth c H locs cells slots Q (F0 m pc ls (.long x :: rest)) := lv_lstore E.1 E.2.1 hd hl hn hq kk
theorem xr_astore_n (E : XE p s m args meth c cc nL own D y z A) {k : Fin 4} {i : Nat} {x : Nat} {lv lv' : List (Nat × Value)} (hl : lv_has ls nL lv) (hd : decode cc pc = .ok (.astore_n k, 1)) (hi : (k : Nat) = i) (hn : i < nL) (hq : (i, Value.ref x) :: lv.filter (fun q => !(q.1 == i) && !(q.1 + 1 == i && q.2.category == 2)) = lv') (kk : ∀ ls' : Array Slot, lv_has ls' nL lv' → W p l e R s m args below meth c H locs cells slots Q (F0 m (pc + 1) ls' rest)) : W p l e R s m args below meth c H locs cells slots Q (F0 m pc ls (.ref x :: rest)) := lv_astore_n E.1 E.2.1 hd hi hl hn hq kk
theorem xr_iinc (E : XE p s m args meth c cc nL own D y z A) {i k : Nat} {n a : Int} {lv lv' : List (Nat × Value)} (hl : lv_has ls nL lv) (hk : lv[k]? = some (i, .int (iI a))) (hd : decode cc pc = .ok (.iinc i n, 3)) (hn : i < nL) (hq : (i, Value.int (iI (a + n))) :: lv.filter (fun q => !(q.1 == i) && !(q.1 + 1 == i && q.2.category == 2)) = lv') (kk : ∀ ls' : Array Slot, lv_has ls' nL lv' → W p l e R s m args below meth c H locs cells slots Q (F0 m (pc + 3) ls' rest)) : W p l e R s m args below meth c H locs cells slots Q (F0 m pc ls rest) := lv_iinc E.1 E.2.1 hd hl hk (iI_add a n) hn hq kk
theorem xr_iadd (E : XE p s m args meth c cc nL own D y z A) {a b : Int} (hd : decode cc pc = .ok (.iadd, 1)) (k : W p l e R s m args below meth c H locs cells slots Q (F0 m (pc + 1) ls (.int (iI (a + b)) :: rest))) : W p l e R s m args below meth c H locs cells slots Q (F0 m pc ls (.int (iI b) :: .int (iI a) :: rest)) := lv_iadd E.1 E.2.1 hd (by rw [iI_add]; exact k)
theorem xr_isub (E : XE p s m args meth c cc nL own D y z A) {a b : Int} (hd : decode cc pc = .ok (.isub, 1)) (k : W p l e R s m args below meth c H locs cells slots Q (F0 m (pc + 1) ls (.int (iI (a - b)) :: rest))) : W p l e R s m args below meth c H locs cells slots Q (F0 m pc ls (.int (iI b) :: .int (iI a) :: rest)) := lv_isub E.1 E.2.1 hd (by rw [iI_sub]; exact k)
theorem xr_imul (E : XE p s m args meth c cc nL own D y z A) {a b : Int} (hd : decode cc pc = .ok (.imul, 1)) (k : W p l e R s m args below meth c H locs cells slots Q (F0 m (pc + 1) ls (.int (iI (a * b)) :: rest))) : W p l e R s m args below meth c H locs cells slots Q (F0 m pc ls (.int (iI b) :: .int (iI a) :: rest)) := lv_imul E.1 E.2.1 hd (by rw [iI_mul]; exact k)
theorem xr_ineg (E : XE p s m args meth c cc nL own D y z A) {a : Int} (hd : decode cc pc = .ok (.ineg, 1)) (k : W p l e R s m args below meth c H locs cells slots Q (F0 m (pc + 1) ls (.int (iI (-a)) :: rest))) : W p l e R s m args below meth c H locs cells slots Q (F0 m pc ls (.int (iI a) :: rest)) := lv_ineg E.1 E.2.1 hd (by rw [iI_neg]; exact k)
theorem xr_idiv (E : XE p s m args meth c cc nL own D y z A) {a b : Int} (hd : decode cc pc = .ok (.idiv, 1)) (ha : sm a) (hb : sm b) (h0 : 0 ≤ a) (h1 : 0 < b) (k : W p l e R s m args below meth c H locs cells slots Q (F0 m (pc + 1) ls (.int (iI (a / b)) :: rest))) : W p l e R s m args below meth c H locs cells slots Q (F0 m pc ls (.int (iI b) :: .int (iI a) :: rest)) := lv_idiv E.1 E.2.1 hd (fun h => by rw [← iI_0, iI_eq hb sm0] at h; omega) (by rw [iI_div ha hb h0 h1]; exact k)
theorem xr_irem (E : XE p s m args meth c cc nL own D y z A) {a b : Int} (hd : decode cc pc = .ok (.irem, 1)) (ha : sm a) (hb : sm b) (h0 : 0 ≤ a) (h1 : 0 < b) (k : W p l e R s m args below meth c H locs cells slots Q (F0 m (pc + 1) ls (.int (iI (a % b)) :: rest))) : W p l e R s m args below meth c H locs cells slots Q (F0 m pc ls (.int (iI b) :: .int (iI a) :: rest)) := lv_irem E.1 E.2.1 hd (fun h => by rw [← iI_0, iI_eq hb sm0] at h; omega) (by rw [iI_rem ha hb h0 h1]; exact k)
/-- the bits: of ints as they are -/
def bShr (a b : Int) : Int := (iI a >>> (iI b &&& 31)).toInt
def bShl (a b : Int) : Int := (iI a <<< (iI b &&& 31)).toInt
def bAnd (a b : Int) : Int := (iI a &&& iI b).toInt
def bOr (a b : Int) : Int := (iI a ||| iI b).toInt
def bXor (a b : Int) : Int := (iI a ^^^ iI b).toInt
theorem xr_iand (E : XE p s m args meth c cc nL own D y z A) {a b : Int} (hd : decode cc pc = .ok (.iand, 1)) (k : W p l e R s m args below meth c H locs cells slots Q (F0 m (pc + 1) ls (.int (iI (bAnd a b)) :: rest))) : W p l e R s m args below meth c H locs cells slots Q (F0 m pc ls (.int (iI b) :: .int (iI a) :: rest)) := lv_iand E.1 E.2.1 hd (by rw [iI_of (iI a &&& iI b)]; exact k)
theorem xr_ior (E : XE p s m args meth c cc nL own D y z A) {a b : Int} (hd : decode cc pc = .ok (.ior, 1)) (k : W p l e R s m args below meth c H locs cells slots Q (F0 m (pc + 1) ls (.int (iI (bOr a b)) :: rest))) : W p l e R s m args below meth c H locs cells slots Q (F0 m pc ls (.int (iI b) :: .int (iI a) :: rest)) := lv_ior E.1 E.2.1 hd (by rw [iI_of (iI a ||| iI b)]; exact k)
theorem xr_ixor (E : XE p s m args meth c cc nL own D y z A) {a b : Int} (hd : decode cc pc = .ok (.ixor, 1)) (k : W p l e R s m args below meth c H locs cells slots Q (F0 m (pc + 1) ls (.int (iI (bXor a b)) :: rest))) : W p l e R s m args below meth c H locs cells slots Q (F0 m pc ls (.int (iI b) :: .int (iI a) :: rest)) := lv_ixor E.1 E.2.1 hd (by rw [iI_of (iI a ^^^ iI b)]; exact k)
theorem xr_ishr (E : XE p s m args meth c cc nL own D y z A) {a b : Int} (hd : decode cc pc = .ok (.ishr, 1)) (k : W p l e R s m args below meth c H locs cells slots Q (F0 m (pc + 1) ls (.int (iI (bShr a b)) :: rest))) : W p l e R s m args below meth c H locs cells slots Q (F0 m pc ls (.int (iI b) :: .int (iI a) :: rest)) := lv_ishr E.1 E.2.1 hd (by rw [iI_of (iI a >>> (iI b &&& 31))]; exact k)
theorem xr_ishl (E : XE p s m args meth c cc nL own D y z A) {a b : Int} (hd : decode cc pc = .ok (.ishl, 1)) (k : W p l e R s m args below meth c H locs cells slots Q (F0 m (pc + 1) ls (.int (iI (bShl a b)) :: rest))) : W p l e R s m args below meth c H locs cells slots Q (F0 m pc ls (.int (iI b) :: .int (iI a) :: rest)) := lv_ishl E.1 E.2.1 hd (by rw [iI_of (iI a <<< (iI b &&& 31))]; exact k)
theorem xr_i2l (E : XE p s m args meth c cc nL own D y z A) {a : Int} (hd : decode cc pc = .ok (.i2l, 1)) (ha : sm a) (k : W p l e R s m args below meth c H locs cells slots Q (F0 m (pc + 1) ls (.long (lI a) :: rest))) : W p l e R s m args below meth c H locs cells slots Q (F0 m pc ls (.int (iI a) :: rest)) := lv_i2l E.1 E.2.1 hd (iI_l ha) k
theorem xr_ladd (E : XE p s m args meth c cc nL own D y z A) {a b : Int} (hd : decode cc pc = .ok (.ladd, 1)) (k : W p l e R s m args below meth c H locs cells slots Q (F0 m (pc + 1) ls (.long (lI (a + b)) :: rest))) : W p l e R s m args below meth c H locs cells slots Q (F0 m pc ls (.long (lI b) :: .long (lI a) :: rest)) := lv_ladd E.1 E.2.1 hd (by rw [lI_add]; exact k)
theorem xr_lsub (E : XE p s m args meth c cc nL own D y z A) {a b : Int} (hd : decode cc pc = .ok (.lsub, 1)) (k : W p l e R s m args below meth c H locs cells slots Q (F0 m (pc + 1) ls (.long (lI (a - b)) :: rest))) : W p l e R s m args below meth c H locs cells slots Q (F0 m pc ls (.long (lI b) :: .long (lI a) :: rest)) := lv_lsub E.1 E.2.1 hd (by rw [lI_sub]; exact k)
theorem xr_lmul (E : XE p s m args meth c cc nL own D y z A) {a b : Int} (hd : decode cc pc = .ok (.lmul, 1)) (k : W p l e R s m args below meth c H locs cells slots Q (F0 m (pc + 1) ls (.long (lI (a * b)) :: rest))) : W p l e R s m args below meth c H locs cells slots Q (F0 m pc ls (.long (lI b) :: .long (lI a) :: rest)) := lv_lmul E.1 E.2.1 hd (by rw [lI_mul]; exact k)
theorem xr_ldiv (E : XE p s m args meth c cc nL own D y z A) {a b : Int} (hd : decode cc pc = .ok (.ldiv, 1)) (ha : sl a) (hb : sl b) (h0 : 0 ≤ a) (h1 : 0 < b) (k : W p l e R s m args below meth c H locs cells slots Q (F0 m (pc + 1) ls (.long (lI (a / b)) :: rest))) : W p l e R s m args below meth c H locs cells slots Q (F0 m pc ls (.long (lI b) :: .long (lI a) :: rest)) := lv_ldiv E.1 E.2.1 hd (fun h => by rw [← lI_0, lI_eq hb (by decide)] at h; omega) (by rw [lI_div ha hb h0 h1]; exact k)
theorem xr_dup (E : XE p s m args meth c cc nL own D y z A) {v : Value} (hd : decode cc pc = .ok (.dup, 1)) (hv : v.category = 1) (k : W p l e R s m args below meth c H locs cells slots Q (F0 m (pc + 1) ls (v :: v :: rest))) : W p l e R s m args below meth c H locs cells slots Q (F0 m pc ls (v :: rest)) := lv_dup E.1 E.2.1 hd hv k
theorem xr_dup2 (E : XE p s m args meth c cc nL own D y z A) {v w : Value} (hd : decode cc pc = .ok (.dup2, 1)) (hv : v.category = 1) (hw : w.category = 1) (k : W p l e R s m args below meth c H locs cells slots Q (F0 m (pc + 1) ls (v :: w :: v :: w :: rest))) : W p l e R s m args below meth c H locs cells slots Q (F0 m pc ls (v :: w :: rest)) := lv_dup2_11 E.1 E.2.1 hd hv hw k
theorem xr_dup2L (E : XE p s m args meth c cc nL own D y z A) {v : Value} (hd : decode cc pc = .ok (.dup2, 1)) (hv : v.category = 2) (k : W p l e R s m args below meth c H locs cells slots Q (F0 m (pc + 1) ls (v :: v :: rest))) : W p l e R s m args below meth c H locs cells slots Q (F0 m pc ls (v :: rest)) := lv_dup2_2 E.1 E.2.1 hd hv k
theorem xr_goto (E : XE p s m args meth c cc nL own D y z A) {off : Int} {tgt : Nat} (hd : decode cc pc = .ok (.goto off, 3)) (ht : (pc : Int) + off = (tgt : Int)) (k : W p l e R s m args below meth c H locs cells slots Q (F0 m tgt ls rest)) : W p l e R s m args below meth c H locs cells slots Q (F0 m pc ls rest) := lv_goto E.1 E.2.1 hd ht k
theorem xr_icmp_lt (E : XE p s m args meth c cc nL own D y z A) {a b off : Int} {tgt : Nat} (hd : decode cc pc = .ok (.if_icmp .lt off, 3)) (ht : (pc : Int) + off = (tgt : Int)) (ha : sm a) (hb : sm b) (kt : a < b → W p l e R s m args below meth c H locs cells slots Q (F0 m tgt ls rest)) (kf : b ≤ a → W p l e R s m args below meth c H locs cells slots Q (F0 m (pc + 3) ls rest)) : W p l e R s m args below meth c H locs cells slots Q (F0 m pc ls (.int (iI b) :: .int (iI a) :: rest)) := lv_icmp_lt E.1 E.2.1 hd ht (fun h => kt ((iI_lt ha hb).mp h)) (fun h => kf (by rw [iI_lt ha hb] at h; omega))
theorem xr_icmp_ge (E : XE p s m args meth c cc nL own D y z A) {a b off : Int} {tgt : Nat} (hd : decode cc pc = .ok (.if_icmp .ge off, 3)) (ht : (pc : Int) + off = (tgt : Int)) (ha : sm a) (hb : sm b) (kt : b ≤ a → W p l e R s m args below meth c H locs cells slots Q (F0 m tgt ls rest)) (kf : a < b → W p l e R s m args below meth c H locs cells slots Q (F0 m (pc + 3) ls rest)) : W p l e R s m args below meth c H locs cells slots Q (F0 m pc ls (.int (iI b) :: .int (iI a) :: rest)) := lv_icmp_ge E.1 E.2.1 hd ht (fun h => kt ((iI_le hb ha).mp h)) (fun h => kf (by rw [iI_le hb ha] at h; omega))
theorem xr_icmp_gt (E : XE p s m args meth c cc nL own D y z A) {a b off : Int} {tgt : Nat} (hd : decode cc pc = .ok (.if_icmp .gt off, 3)) (ht : (pc : Int) + off = (tgt : Int)) (ha : sm a) (hb : sm b) (kt : b < a → W p l e R s m args below meth c H locs cells slots Q (F0 m tgt ls rest)) (kf : a ≤ b → W p l e R s m args below meth c H locs cells slots Q (F0 m (pc + 3) ls rest)) : W p l e R s m args below meth c H locs cells slots Q (F0 m pc ls (.int (iI b) :: .int (iI a) :: rest)) := lv_icmp_gt E.1 E.2.1 hd ht (fun h => kt ((iI_lt hb ha).mp h)) (fun h => kf (by have h : ¬ iI b < iI a := h; rw [iI_lt hb ha] at h; omega))
theorem xr_icmp_le (E : XE p s m args meth c cc nL own D y z A) {a b off : Int} {tgt : Nat} (hd : decode cc pc = .ok (.if_icmp .le off, 3)) (ht : (pc : Int) + off = (tgt : Int)) (ha : sm a) (hb : sm b) (kt : a ≤ b → W p l e R s m args below meth c H locs cells slots Q (F0 m tgt ls rest)) (kf : b < a → W p l e R s m args below meth c H locs cells slots Q (F0 m (pc + 3) ls rest)) : W p l e R s m args below meth c H locs cells slots Q (F0 m pc ls (.int (iI b) :: .int (iI a) :: rest)) := lv_icmp_le E.1 E.2.1 hd ht (fun h => kt ((iI_le ha hb).mp h)) (fun h => kf (by rw [iI_le ha hb] at h; omega))
theorem xr_icmp_eq (E : XE p s m args meth c cc nL own D y z A) {a b off : Int} {tgt : Nat} (hd : decode cc pc = .ok (.if_icmp .eq off, 3)) (ht : (pc : Int) + off = (tgt : Int)) (ha : sm a) (hb : sm b) (kt : a = b → W p l e R s m args below meth c H locs cells slots Q (F0 m tgt ls rest)) (kf : a ≠ b → W p l e R s m args below meth c H locs cells slots Q (F0 m (pc + 3) ls rest)) : W p l e R s m args below meth c H locs cells slots Q (F0 m pc ls (.int (iI b) :: .int (iI a) :: rest)) := lv_icmp_eq E.1 E.2.1 hd ht (fun h => kt ((iI_eq ha hb).mp h)) (fun h => kf (fun h2 => h ((iI_eq ha hb).mpr h2)))
theorem xr_icmp_ne (E : XE p s m args meth c cc nL own D y z A) {a b off : Int} {tgt : Nat} (hd : decode cc pc = .ok (.if_icmp .ne off, 3)) (ht : (pc : Int) + off = (tgt : Int)) (ha : sm a) (hb : sm b) (kt : a ≠ b → W p l e R s m args below meth c H locs cells slots Q (F0 m tgt ls rest)) (kf : a = b → W p l e R s m args below meth c H locs cells slots Q (F0 m (pc + 3) ls rest)) : W p l e R s m args below meth c H locs cells slots Q (F0 m pc ls (.int (iI b) :: .int (iI a) :: rest)) := lv_icmp_ne E.1 E.2.1 hd ht (fun h => kt (fun h2 => h ((iI_eq ha hb).mpr h2))) (fun h => kf ((iI_eq ha hb).mp h))
theorem xr_if_lt (E : XE p s m args meth c cc nL own D y z A) {a off : Int} {tgt : Nat} (hd : decode cc pc = .ok (.ifCond .lt off, 3)) (ht : (pc : Int) + off = (tgt : Int)) (ha : sm a) (kt : a < 0 → W p l e R s m args below meth c H locs cells slots Q (F0 m tgt ls rest)) (kf : 0 ≤ a → W p l e R s m args below meth c H locs cells slots Q (F0 m (pc + 3) ls rest)) : W p l e R s m args below meth c H locs cells slots Q (F0 m pc ls (.int (iI a) :: rest)) := lv_if_lt E.1 E.2.1 hd ht (fun h => kt (by rw [← iI_0, iI_lt ha sm0] at h; exact h)) (fun h => kf (by rw [← iI_0, iI_lt ha sm0] at h; omega))
theorem xr_if_ge (E : XE p s m args meth c cc nL own D y z A) {a off : Int} {tgt : Nat} (hd : decode cc pc = .ok (.ifCond .ge off, 3)) (ht : (pc : Int) + off = (tgt : Int)) (ha : sm a) (kt : 0 ≤ a → W p l e R s m args below meth c H locs cells slots Q (F0 m tgt ls rest)) (kf : a < 0 → W p l e R s m args below meth c H locs cells slots Q (F0 m (pc + 3) ls rest)) : W p l e R s m args below meth c H locs cells slots Q (F0 m pc ls (.int (iI a) :: rest)) := lv_if_ge E.1 E.2.1 hd ht (fun h => kt (by rw [← iI_0, iI_le sm0 ha] at h; exact h)) (fun h => kf (by rw [← iI_0, iI_le sm0 ha] at h; omega))
theorem xr_if_gt (E : XE p s m args meth c cc nL own D y z A) {a off : Int} {tgt : Nat} (hd : decode cc pc = .ok (.ifCond .gt off, 3)) (ht : (pc : Int) + off = (tgt : Int)) (ha : sm a) (kt : 0 < a → W p l e R s m args below meth c H locs cells slots Q (F0 m tgt ls rest)) (kf : a ≤ 0 → W p l e R s m args below meth c H locs cells slots Q (F0 m (pc + 3) ls rest)) : W p l e R s m args below meth c H locs cells slots Q (F0 m pc ls (.int (iI a) :: rest)) := lv_if_gt E.1 E.2.1 hd ht (fun h => kt (by have h : 0 < iI a := h; rw [← iI_0, iI_lt sm0 ha] at h; exact h)) (fun h => kf (by have h : ¬ 0 < iI a := h; rw [← iI_0, iI_lt sm0 ha] at h; omega))
theorem xr_if_le (E : XE p s m args meth c cc nL own D y z A) {a off : Int} {tgt : Nat} (hd : decode cc pc = .ok (.ifCond .le off, 3)) (ht : (pc : Int) + off = (tgt : Int)) (ha : sm a) (kt : a ≤ 0 → W p l e R s m args below meth c H locs cells slots Q (F0 m tgt ls rest)) (kf : 0 < a → W p l e R s m args below meth c H locs cells slots Q (F0 m (pc + 3) ls rest)) : W p l e R s m args below meth c H locs cells slots Q (F0 m pc ls (.int (iI a) :: rest)) := lv_if_le E.1 E.2.1 hd ht (fun h => kt (by rw [← iI_0, iI_le ha sm0] at h; exact h)) (fun h => kf (by rw [← iI_0, iI_le ha sm0] at h; omega))
theorem xr_if_eq (E : XE p s m args meth c cc nL own D y z A) {a off : Int} {tgt : Nat} (hd : decode cc pc = .ok (.ifCond .eq off, 3)) (ht : (pc : Int) + off = (tgt : Int)) (ha : sm a) (kt : a = 0 → W p l e R s m args below meth c H locs cells slots Q (F0 m tgt ls rest)) (kf : a ≠ 0 → W p l e R s m args below meth c H locs cells slots Q (F0 m (pc + 3) ls rest)) : W p l e R s m args below meth c H locs cells slots Q (F0 m pc ls (.int (iI a) :: rest)) := lv_if_eq E.1 E.2.1 hd ht (fun h => kt (by rw [← iI_0, iI_eq ha sm0] at h; exact h)) (fun h => kf (by rw [← iI_0, iI_eq ha sm0] at h; exact h))
theorem xr_if_ne (E : XE p s m args meth c cc nL own D y z A) {a off : Int} {tgt : Nat} (hd : decode cc pc = .ok (.ifCond .ne off, 3)) (ht : (pc : Int) + off = (tgt : Int)) (ha : sm a) (kt : a ≠ 0 → W p l e R s m args below meth c H locs cells slots Q (F0 m tgt ls rest)) (kf : a = 0 → W p l e R s m args below meth c H locs cells slots Q (F0 m (pc + 3) ls rest)) : W p l e R s m args below meth c H locs cells slots Q (F0 m pc ls (.int (iI a) :: rest)) := lv_if_ne E.1 E.2.1 hd ht (fun h => kt (fun h2 => h (by rw [← iI_0, iI_eq ha sm0]; exact h2))) (fun h => kf (by rw [← iI_0, iI_eq ha sm0] at h; exact h))
/-- the branches on a boolean -/
theorem xr_if_eqB (E : XE p s m args meth c cc nL own D y z A) {b : Bool} {off : Int} {tgt : Nat} (hd : decode cc pc = .ok (.ifCond .eq off, 3)) (ht : (pc : Int) + off = (tgt : Int)) (kt : b = false → W p l e R s m args below meth c H locs cells slots Q (F0 m tgt ls rest)) (kf : b = true → W p l e R s m args below meth c H locs cells slots Q (F0 m (pc + 3) ls rest)) : W p l e R s m args below meth c H locs cells slots Q (F0 m pc ls (.int (bB b) :: rest)) := lv_if_eq E.1 E.2.1 hd ht (fun h => kt ((bB_f b).mp h)) (fun h => kf ((bB_t b).mp h))
theorem xr_if_neB (E : XE p s m args meth c cc nL own D y z A) {b : Bool} {off : Int} {tgt : Nat} (hd : decode cc pc = .ok (.ifCond .ne off, 3)) (ht : (pc : Int) + off = (tgt : Int)) (kt : b = true → W p l e R s m args below meth c H locs cells slots Q (F0 m tgt ls rest)) (kf : b = false → W p l e R s m args below meth c H locs cells slots Q (F0 m (pc + 3) ls rest)) : W p l e R s m args below meth c H locs cells slots Q (F0 m pc ls (.int (bB b) :: rest)) := lv_if_ne E.1 E.2.1 hd ht (fun h => kt ((bB_t b).mp h)) (fun h => kf (by cases b with | false => rfl | true => exact absurd h (by decide)))
/-- the branches behind a compare of longs -/
theorem xr_lc_lt (E : XE p s m args meth c cc nL own D y z A) {a b off : Int} {tgt : Nat} (hc : decode cc pc = .ok (.lcmp, 1)) (hd : decode cc (pc + 1) = .ok (.ifCond .lt off, 3)) (ht : ((pc + 1 : Nat) : Int) + off = (tgt : Int)) (ha : sl a) (hb : sl b) (kt : a < b → W p l e R s m args below meth c H locs cells slots Q (F0 m tgt ls rest)) (kf : b ≤ a → W p l e R s m args below meth c H locs cells slots Q (F0 m (pc + 1 + 3) ls rest)) : W p l e R s m args below meth c H locs cells slots Q (F0 m pc ls (.long (lI b) :: .long (lI a) :: rest)) := W.lcmp E.1 E.2.1 hc (lv_if_lt E.1 E.2.1 hd ht (fun h => kt ((lc_lt ha hb).mp h)) (fun h => kf (by rw [lc_lt ha hb] at h; omega)))
theorem xr_lc_ge (E : XE p s m args meth c cc nL own D y z A) {a b off : Int} {tgt : Nat} (hc : decode cc pc = .ok (.lcmp, 1)) (hd : decode cc (pc + 1) = .ok (.ifCond .ge off, 3)) (ht : ((pc + 1 : Nat) : Int) + off = (tgt : Int)) (ha : sl a) (hb : sl b) (kt : b ≤ a → W p l e R s m args below meth c H locs cells slots Q (F0 m tgt ls rest)) (kf : a < b → W p l e R s m args below meth c H locs cells slots Q (F0 m (pc + 1 + 3) ls rest)) : W p l e R s m args below meth c H locs cells slots Q (F0 m pc ls (.long (lI b) :: .long (lI a) :: rest)) := W.lcmp E.1 E.2.1 hc (lv_if_ge E.1 E.2.1 hd ht (fun h => kt (by rw [← i32_nlt, lc_lt ha hb] at h; omega)) (fun h => kf (by rw [i32_nle, lc_lt ha hb] at h; exact h)))
theorem xr_lc_gt (E : XE p s m args meth c cc nL own D y z A) {a b off : Int} {tgt : Nat} (hc : decode cc pc = .ok (.lcmp, 1)) (hd : decode cc (pc + 1) = .ok (.ifCond .gt off, 3)) (ht : ((pc + 1 : Nat) : Int) + off = (tgt : Int)) (ha : sl a) (hb : sl b) (kt : b < a → W p l e R s m args below meth c H locs cells slots Q (F0 m tgt ls rest)) (kf : a ≤ b → W p l e R s m args below meth c H locs cells slots Q (F0 m (pc + 1 + 3) ls rest)) : W p l e R s m args below meth c H locs cells slots Q (F0 m pc ls (.long (lI b) :: .long (lI a) :: rest)) := W.lcmp E.1 E.2.1 hc (lv_if_gt E.1 E.2.1 hd ht (fun h => kt ((lc_gt ha hb).mp h)) (fun h => kf (by have h : ¬ 0 < lg_cmp (lI a) (lI b) := h; rw [lc_gt ha hb] at h; omega)))
theorem xr_lc_le (E : XE p s m args meth c cc nL own D y z A) {a b off : Int} {tgt : Nat} (hc : decode cc pc = .ok (.lcmp, 1)) (hd : decode cc (pc + 1) = .ok (.ifCond .le off, 3)) (ht : ((pc + 1 : Nat) : Int) + off = (tgt : Int)) (ha : sl a) (hb : sl b) (kt : a ≤ b → W p l e R s m args below meth c H locs cells slots Q (F0 m tgt ls rest)) (kf : b < a → W p l e R s m args below meth c H locs cells slots Q (F0 m (pc + 1 + 3) ls rest)) : W p l e R s m args below meth c H locs cells slots Q (F0 m pc ls (.long (lI b) :: .long (lI a) :: rest)) := W.lcmp E.1 E.2.1 hc (lv_if_le E.1 E.2.1 hd ht (fun h => kt (by rw [← i32_nlt, lc_gt ha hb] at h; omega)) (fun h => kf (by rw [i32_nle, lc_gt ha hb] at h; exact h)))
theorem xr_lc_eq (E : XE p s m args meth c cc nL own D y z A) {a b off : Int} {tgt : Nat} (hc : decode cc pc = .ok (.lcmp, 1)) (hd : decode cc (pc + 1) = .ok (.ifCond .eq off, 3)) (ht : ((pc + 1 : Nat) : Int) + off = (tgt : Int)) (ha : sl a) (hb : sl b) (kt : a = b → W p l e R s m args below meth c H locs cells slots Q (F0 m tgt ls rest)) (kf : a ≠ b → W p l e R s m args below meth c H locs cells slots Q (F0 m (pc + 1 + 3) ls rest)) : W p l e R s m args below meth c H locs cells slots Q (F0 m pc ls (.long (lI b) :: .long (lI a) :: rest)) := W.lcmp E.1 E.2.1 hc (lv_if_eq E.1 E.2.1 hd ht (fun h => kt ((lc_eq ha hb).mp h)) (fun h => kf (fun h2 => h ((lc_eq ha hb).mpr h2))))
theorem xr_lc_ne (E : XE p s m args meth c cc nL own D y z A) {a b off : Int} {tgt : Nat} (hc : decode cc pc = .ok (.lcmp, 1)) (hd : decode cc (pc + 1) = .ok (.ifCond .ne off, 3)) (ht : ((pc + 1 : Nat) : Int) + off = (tgt : Int)) (ha : sl a) (hb : sl b) (kt : a ≠ b → W p l e R s m args below meth c H locs cells slots Q (F0 m tgt ls rest)) (kf : a = b → W p l e R s m args below meth c H locs cells slots Q (F0 m (pc + 1 + 3) ls rest)) : W p l e R s m args below meth c H locs cells slots Q (F0 m pc ls (.long (lI b) :: .long (lI a) :: rest)) := W.lcmp E.1 E.2.1 hc (lv_if_ne E.1 E.2.1 hd ht (fun h => kt (fun h2 => h ((lc_eq ha hb).mpr h2))) (fun h => kf ((lc_eq ha hb).mp h)))
/-- the same of longs as they are, by equality alone -/
theorem xr_lc_eqX (E : XE p s m args meth c cc nL own D y z A) {a b : Int64} {off : Int} {tgt : Nat} (hc : decode cc pc = .ok (.lcmp, 1)) (hd : decode cc (pc + 1) = .ok (.ifCond .eq off, 3)) (ht : ((pc + 1 : Nat) : Int) + off = (tgt : Int)) (hab : a = b) (kt : W p l e R s m args below meth c H locs cells slots Q (F0 m tgt ls rest)) : W p l e R s m args below meth c H locs cells slots Q (F0 m pc ls (.long b :: .long a :: rest)) := W.lcmp E.1 E.2.1 hc (lv_if_eq E.1 E.2.1 hd ht (fun _ => kt) (fun h => absurd (by rw [hab]; simp [lg_cmp]) h))
theorem xr_get (E : XE p s m args meth c cc nL own D y z A) (hX : XW D A s.heap W0 H locs) {C : String} {T : u_T} {N ci index a : Nat} {fs : List Value} {v : Value} (q0 : Nat) (he : W0[q0]? = some (a, .inr (ci, fs))) (hc : vwCl[ci]? = some (C, T, N)) (hin : ∀ w ∈ u_ws C T N, w ∈ TW) (k : Nat) (hk : k < N) (hl : Cond.fieldLink own index (T k).1 (T k).2.1 (T k).2.2.1 ∈ TW) (hv : fs[k]? = some v) (hd : decode cc pc = .ok (.getfield index, 3)) (kk : W p l e R s m args below meth c H locs cells slots Q (F0 m (pc + 3) ls (v :: rest))) : W p l e R s m args below meth c H locs cells slots Q (F0 m pc ls (.ref a :: rest)) :=
  va_get E.1 E.2.1 E.2.2.2.2.1 hin E.2.2.2.1 E.2.2.2.2.2.2.1.1 hX.1 q0 he hc k hk (E.2.2.2.2.1 _ hl) (fun _ h => h) hv hd kk
theorem xr_put (E : XE p s m args meth c cc nL own D y z A) (hX : XW D A s.heap W0 H locs) {C : String} {T : u_T} {N ci index a : Nat} {ty : Nat → FieldType} {fs : List Value} {v : Value} {W1 : va_W} (q0 : Nat) (he : W0[q0]? = some (a, .inr (ci, fs))) (hc : vwCl[ci]? = some (C, T, N)) (hin : ∀ w ∈ u_ws C T N, w ∈ TW) (hty : ∀ k, k < N → parseFieldDescriptor (T k).2.2.1 = some (ty k)) (hnm : ∀ a, a < N → ∀ b, b < N → a ≠ b → (T a).2.1 ≠ (T b).2.1) (k : Nat) (hk : k < N) (hl : Cond.fieldLink own index (T k).1 (T k).2.1 (T k).2.2.1 ∈ TW) (hfin : (T k).2.2.2 = false) (hn : narrow (ty k) v = v) (hf : fits (ty k) v = true) (hlen : k < fs.length) (hW : W0.set q0 (a, .inr (ci, fs.set k v)) = W1) (hd : decode cc pc = .ok (.putfield index, 3)) (kk : ∀ (H1 : Heap) (locs1 : List Loc), XW D A s.heap W1 H1 locs1 → W p l e R s m args below meth c H1 locs1 cells slots Q (F0 m (pc + 3) ls rest)) : W p l e R s m args below meth c H locs cells slots Q (F0 m pc ls (v :: .ref a :: rest)) :=
  va_put E.1 E.2.1 E.2.2.2.2.1 hin ty hty hnm E.2.2.2.1 E.2.2.2.2.2.2.1.1 hX.1 hX.2.1 hX.2.2 q0 he hc k hk (E.2.2.2.2.1 _ hl) (fun _ h => h) hfin (hty k hk) hn hf hlen hd (fun H1 locs1 h1 h2 h3 => kk H1 locs1 (by rw [hW] at h1 h2; exact ⟨h1, h2, h3⟩))
theorem xr_iald (E : XE p s m args meth c cc nL own D y z A) (hX : XW D A s.heap W0 H locs) {a n : Nat} {f : Int → Int} {i : Int} (q0 : Nat) (ha : W0[q0]? = some (a, .inl (y.1, n, .inl (ia f)))) (h0 : 0 ≤ i) (h1 : i < n) (hn : n < 2147483648) (hd : decode cc pc = .ok (.iaload, 1)) (kk : W p l e R s m args below meth c H locs cells slots Q (F0 m (pc + 1) ls (.int (iI (f i)) :: rest))) : W p l e R s m args below meth c H locs cells slots Q (F0 m pc ls (.int (iI i) :: .ref a :: rest)) :=
  va_iald E.1 E.2.1 E.2.2.2.2.2.2.1.1 hX.1 q0 0 ha rfl (iI_in h0 h1 hn) hd (by rw [ia_at h0 h1 hn]; exact kk)
theorem xr_lald (E : XE p s m args meth c cc nL own D y z A) (hX : XW D A s.heap W0 H locs) {a n : Nat} {f : Int → Int} {i : Int} (q0 : Nat) (ha : W0[q0]? = some (a, .inl (y.2.1, n, .inr (.inl (la f))))) (h0 : 0 ≤ i) (h1 : i < n) (hn : n < 2147483648) (hd : decode cc pc = .ok (.laload, 1)) (kk : W p l e R s m args below meth c H locs cells slots Q (F0 m (pc + 1) ls (.long (lI (f i)) :: rest))) : W p l e R s m args below meth c H locs cells slots Q (F0 m pc ls (.int (iI i) :: .ref a :: rest)) :=
  va_lald E.1 E.2.1 E.2.2.2.2.2.2.1.1 hX.1 q0 1 ha rfl (iI_in h0 h1 hn) hd (by rw [la_at h0 h1 hn]; exact kk)
theorem xr_zald (E : XE p s m args meth c cc nL own D y z A) (hX : XW D A s.heap W0 H locs) {a n : Nat} {f : Int → Bool} {i : Int} (q0 : Nat) (ha : W0[q0]? = some (a, .inl (y.2.2.1, n, .inl (ba f)))) (h0 : 0 ≤ i) (h1 : i < n) (hn : n < 2147483648) (hd : decode cc pc = .ok (.baload, 1)) (kk : W p l e R s m args below meth c H locs cells slots Q (F0 m (pc + 1) ls (.int (bB (f i)) :: rest))) : W p l e R s m args below meth c H locs cells slots Q (F0 m pc ls (.int (iI i) :: .ref a :: rest)) :=
  va_zald E.1 E.2.1 E.2.2.2.2.2.2.1.1 hX.1 q0 2 ha rfl (iI_in h0 h1 hn) hd (by rw [ba_at h0 h1 hn]; exact kk)
theorem xr_iast (E : XE p s m args meth c cc nL own D y z A) (hX : XW D A s.heap W0 H locs) {a n : Nat} {f : Int → Int} {i v : Int} {W1 : va_W} (q0 : Nat) (ha : W0[q0]? = some (a, .inl (y.1, n, .inl (ia f)))) (h0 : 0 ≤ i) (h1 : i < n) (hn : n < 2147483648) (hW : W0.set q0 (a, .inl (y.1, n, .inl (ia (up f i v)))) = W1) (hd : decode cc pc = .ok (.iastore, 1)) (kk : ∀ (H1 : Heap) (locs1 : List Loc), XW D A s.heap W1 H1 locs1 → W p l e R s m args below meth c H1 locs1 cells slots Q (F0 m (pc + 1) ls rest)) : W p l e R s m args below meth c H locs cells slots Q (F0 m pc ls (.int (iI v) :: .int (iI i) :: .ref a :: rest)) :=
  va_iast E.1 E.2.1 E.2.2.2.2.2.2.1.1 hX.1 hX.2.1 hX.2.2 q0 0 ha rfl (iI_in h0 h1 hn) hd (fun H1 locs1 k1 k2 k3 => kk H1 locs1 (by rw [ia_up h0 h1 hn, hW] at k1 k2; exact ⟨k1, k2, k3⟩))
theorem xr_last (E : XE p s m args meth c cc nL own D y z A) (hX : XW D A s.heap W0 H locs) {a n : Nat} {f : Int → Int} {i v : Int} {W1 : va_W} (q0 : Nat) (ha : W0[q0]? = some (a, .inl (y.2.1, n, .inr (.inl (la f))))) (h0 : 0 ≤ i) (h1 : i < n) (hn : n < 2147483648) (hW : W0.set q0 (a, .inl (y.2.1, n, .inr (.inl (la (up f i v))))) = W1) (hd : decode cc pc = .ok (.lastore, 1)) (kk : ∀ (H1 : Heap) (locs1 : List Loc), XW D A s.heap W1 H1 locs1 → W p l e R s m args below meth c H1 locs1 cells slots Q (F0 m (pc + 1) ls rest)) : W p l e R s m args below meth c H locs cells slots Q (F0 m pc ls (.long (lI v) :: .int (iI i) :: .ref a :: rest)) :=
  va_last E.1 E.2.1 E.2.2.2.2.2.2.1.1 hX.1 hX.2.1 hX.2.2 q0 1 ha rfl (iI_in h0 h1 hn) hd (fun H1 locs1 k1 k2 k3 => kk H1 locs1 (by rw [la_up h0 h1 hn, hW] at k1 k2; exact ⟨k1, k2, k3⟩))
theorem xr_zast (E : XE p s m args meth c cc nL own D y z A) (hX : XW D A s.heap W0 H locs) {a n : Nat} {f : Int → Bool} {i : Int} {v : Bool} {W1 : va_W} (q0 : Nat) (ha : W0[q0]? = some (a, .inl (y.2.2.1, n, .inl (ba f)))) (h0 : 0 ≤ i) (h1 : i < n) (hn : n < 2147483648) (hW : W0.set q0 (a, .inl (y.2.2.1, n, .inl (ba (up f i v)))) = W1) (hd : decode cc pc = .ok (.bastore, 1)) (kk : ∀ (H1 : Heap) (locs1 : List Loc), XW D A s.heap W1 H1 locs1 → W p l e R s m args below meth c H1 locs1 cells slots Q (F0 m (pc + 1) ls rest)) : W p l e R s m args below meth c H locs cells slots Q (F0 m pc ls (.int (bB v) :: .int (iI i) :: .ref a :: rest)) :=
  va_zast E.1 E.2.1 E.2.2.2.2.2.2.1.1 hX.1 hX.2.1 hX.2.2 q0 2 ha rfl (iI_in h0 h1 hn) hd (fun H1 locs1 k1 k2 k3 => kk H1 locs1 (by rw [ba_up h0 h1 hn, hW] at k1 k2; exact ⟨k1, k2, k3⟩))
theorem xr_alen (E : XE p s m args meth c cc nL own D y z A) (hX : XW D A s.heap W0 H locs) {a : Nat} {cA : ClassId} {x : vp_A} {ty : FieldType} {v : Int} (q0 t0 : Nat) (ha : W0[q0]? = some (a, .inl (cA, x))) (ht : (tyC y)[t0]? = some (cA, ty)) (hv : Int32.ofNat x.1 = iI v) (hd : decode cc pc = .ok (.arraylength, 1)) (kk : W p l e R s m args below meth c H locs cells slots Q (F0 m (pc + 1) ls (.int (iI v) :: rest))) : W p l e R s m args below meth c H locs cells slots Q (F0 m pc ls (.ref a :: rest)) :=
  va_alen E.1 E.2.1 E.2.2.2.2.2.2.1.1 hX.1 q0 t0 ha ht hv hd kk
/-- the ends -/
theorem xr_iret (E : XE p s m args meth c cc nL own D y z A) (hX : XW D A s.heap W0 H locs) {S : Type} {post : Int32 → S → Prop} {W1 : S → va_W} {x : Int32} (hQ : MQ below (va_Qi post (fun u t => BX D (W1 u) A t) A) args s cells slots A = Q) (u : S) (hr : meth.sig.returnType = some .int) (hp : post x u) (hW : W0 = W1 u) (hd : decode cc pc = .ok (.ireturn, 1)) : W p l e R s m args below meth c H locs cells slots Q (F0 m pc ls [.int x]) := by
  subst hQ
  exact W.iret E.1 E.2.1 hr (fun t ht _ => ⟨⟨x, u, rfl, hp, by dsimp only; rw [← hW]; exact ⟨by rw [ht]; exact hX.1, hX.2.1⟩⟩, hX.2.2.F ht⟩) hX.2.2.2.2 hd E.2.2.2.2.2.2.2.2
theorem xr_zret (E : XE p s m args meth c cc nL own D y z A) (hX : XW D A s.heap W0 H locs) {S : Type} {post : Int32 → S → Prop} {W1 : S → va_W} {x : Int32} (hQ : MQ below (va_Qi post (fun u t => BX D (W1 u) A t) A) args s cells slots A = Q) (u : S) (hr : meth.sig.returnType = some .boolean) {b : Bool} (hb : x = bB b) (hp : post x u) (hW : W0 = W1 u) (hd : decode cc pc = .ok (.ireturn, 1)) : W p l e R s m args below meth c H locs cells slots Q (F0 m pc ls [.int x]) := by
  subst hQ
  exact W.zret E.1 E.2.1 hr (by rw [hb]; exact bB_nr b) (fun t ht _ => ⟨⟨x, u, rfl, hp, by dsimp only; rw [← hW]; exact ⟨by rw [ht]; exact hX.1, hX.2.1⟩⟩, hX.2.2.F ht⟩) hX.2.2.2.2 hd E.2.2.2.2.2.2.2.2
theorem xr_lret (E : XE p s m args meth c cc nL own D y z A) (hX : XW D A s.heap W0 H locs) {S : Type} {post : Int64 → S → Prop} {W1 : S → va_W} {x : Int64} (hQ : MQ below (va_Ql post (fun u t => BX D (W1 u) A t) A) args s cells slots A = Q) (u : S) (hr : meth.sig.returnType = some .long) (hp : post x u) (hW : W0 = W1 u) (hd : decode cc pc = .ok (.lreturn, 1)) : W p l e R s m args below meth c H locs cells slots Q (F0 m pc ls [.long x]) := by
  subst hQ
  exact W.lret E.1 E.2.1 hr (fun t ht _ => ⟨⟨x, u, rfl, hp, by dsimp only; rw [← hW]; exact ⟨by rw [ht]; exact hX.1, hX.2.1⟩⟩, hX.2.2.F ht⟩) hX.2.2.2.2 hd E.2.2.2.2.2.2.2.2
theorem xr_vret (E : XE p s m args meth c cc nL own D y z A) (hX : XW D A s.heap W0 H locs) {S : Type} {post : S → Prop} {W1 : S → va_W} (hQ : MQ below (va_Qv post (fun u t => BX D (W1 u) A t) A) args s cells slots A = Q) (u : S) (hr : meth.sig.returnType = none) (hp : post u) (hW : W0 = W1 u) (hd : decode cc pc = .ok (.return_, 1)) : W p l e R s m args below meth c H locs cells slots Q (F0 m pc ls []) := by
  subst hQ
  exact W.vret E.1 E.2.1 hr (fun t ht _ => ⟨⟨u, rfl, hp, by dsimp only; rw [← hW]; exact ⟨by rw [ht]; exact hX.1, hX.2.1⟩⟩, hX.2.2.F ht⟩) hX.2.2.2.2 hd E.2.2.2.2.2.2.2.2
/-- a number that is a boolean -/
theorem xr_toB1 (k : W p l e R s m args below meth c H locs cells slots Q (F0 m pc ls (.int (bB true) :: rest))) : W p l e R s m args below meth c H locs cells slots Q (F0 m pc ls (.int (iI 1) :: rest)) := by
  rw [iI_bB1 (b := true) rfl]; exact k
theorem xr_toB0 (k : W p l e R s m args below meth c H locs cells slots Q (F0 m pc ls (.int (bB false) :: rest))) : W p l e R s m args below meth c H locs cells slots Q (F0 m pc ls (.int (iI 0) :: rest)) := by
  rw [iI_bB0 (b := false) rfl]; exact k
theorem xr_tabIn (E : XE p s m args meth c cc nL own D y z A) {v dflt lo hi off : Int} {offs : Array Int} {len tgt : Nat} (hd : decode cc pc = .ok (.tableswitch dflt lo hi offs, len)) (hv : sm v) (j : Nat) (hj : v = lo + j) (hh : v ≤ hi) (ho : offs[j]? = some off) (ht : (pc : Int) + off = (tgt : Int)) (k : W p l e R s m args below meth c H locs cells slots Q (F0 m tgt ls rest)) : W p l e R s m args below meth c H locs cells slots Q (F0 m pc ls (.int (iI v) :: rest)) :=
  lv_tableIn E.1 E.2.1 hd (by rw [iI_toInt hv]; omega) (by rw [iI_toInt hv]; omega) (by rw [iI_toInt hv, show (v - lo).toNat = j by omega]; exact ho) ht k
theorem xr_tabOut (E : XE p s m args meth c cc nL own D y z A) {v dflt lo hi : Int} {offs : Array Int} {len tgt : Nat} (hd : decode cc pc = .ok (.tableswitch dflt lo hi offs, len)) (hv : sm v) (hj : v < lo ∨ hi < v) (ht : (pc : Int) + dflt = (tgt : Int)) (k : W p l e R s m args below meth c H locs cells slots Q (F0 m tgt ls rest)) : W p l e R s m args below meth c H locs cells slots Q (F0 m pc ls (.int (iI v) :: rest)) :=
  lv_tableOut E.1 E.2.1 hd (by rw [iI_toInt hv]; exact hj) ht k
theorem xr_max (E : XE p s m args meth c cc nL own D y z A) {lv : List (Nat × Value)} (hl : lv_has ls nL lv) {i : Nat} {a b : Int} (hml : Cond.methodLink own i Lib.Math.max.name ∈ TW) (hd : decode cc pc = .ok (.invokestatic i, 3)) (hR : 1 ≤ R.frames ∧ (rest.map fun v => v.category).sum + 13 ≤ R.locals ∧ cells ≤ R.cells ∧ slots ≤ R.slots) (ha : sm a) (hb : sm b) (k : W p l e R s m args below meth c H locs cells slots Q (F0 m (pc + 3) ls (.int (iI (if a < b then b else a)) :: rest))) : W p l e R s m args below meth c H locs cells slots Q (F0 m pc ls (.int (iI b) :: .int (iI a) :: rest)) := by
  refine va_mmax E.1 E.2.1 (E.2.2.1.trans hl.1.symm) E.2.2.2.1 (E.2.2.2.2.1 _ hml) (E.2.2.2.2.1 _ st_MAX) (E.2.2.2.2.1 _ in_J9) (E.2.2.2.2.1 _ co_MAX) hR.1 hR.2.1 hR.2.2.1 hR.2.2.2 hd ?_
  have h : (if iI a < iI b then iI b else iI a) = iI (if a < b then b else a) := by
    by_cases q : a < b
    · rw [if_pos q, if_pos ((iI_lt ha hb).mpr q)]
    · rw [if_neg q, if_neg (fun h => q ((iI_lt ha hb).mp h))]
  rw [h]
  exact k
theorem xr_min (E : XE p s m args meth c cc nL own D y z A) {lv : List (Nat × Value)} (hl : lv_has ls nL lv) {i : Nat} {a b : Int} (hml : Cond.methodLink own i Lib.Math.min.name ∈ TW) (hd : decode cc pc = .ok (.invokestatic i, 3)) (hR : 1 ≤ R.frames ∧ (rest.map fun v => v.category).sum + 13 ≤ R.locals ∧ cells ≤ R.cells ∧ slots ≤ R.slots) (ha : sm a) (hb : sm b) (k : W p l e R s m args below meth c H locs cells slots Q (F0 m (pc + 3) ls (.int (iI (if b < a then b else a)) :: rest))) : W p l e R s m args below meth c H locs cells slots Q (F0 m pc ls (.int (iI b) :: .int (iI a) :: rest)) := by
  refine va_mmin E.1 E.2.1 (E.2.2.1.trans hl.1.symm) E.2.2.2.1 (E.2.2.2.2.1 _ hml) (E.2.2.2.2.1 _ st_MIN) (E.2.2.2.2.1 _ in_J9) (E.2.2.2.2.1 _ co_MIN) hR.1 hR.2.1 hR.2.2.1 hR.2.2.2 hd ?_
  have h : (if iI b < iI a then iI b else iI a) = iI (if b < a then b else a) := by
    by_cases q : b < a
    · rw [if_pos q, if_pos ((iI_lt hb ha).mpr q)]
    · rw [if_neg q, if_neg (fun h => q ((iI_lt hb ha).mp h))]
  rw [h]
  exact k
theorem xr_abs (E : XE p s m args meth c cc nL own D y z A) {lv : List (Nat × Value)} (hl : lv_has ls nL lv) {i : Nat} {a : Int} (hml : Cond.methodLink own i Lib.Math.abs.name ∈ TW) (hd : decode cc pc = .ok (.invokestatic i, 3)) (hR : 1 ≤ R.frames ∧ (rest.map fun v => v.category).sum + 13 ≤ R.locals ∧ cells ≤ R.cells ∧ slots ≤ R.slots) (ha : sm a) (k : W p l e R s m args below meth c H locs cells slots Q (F0 m (pc + 3) ls (.int (iI (if 0 ≤ a then a else 0 - a)) :: rest))) : W p l e R s m args below meth c H locs cells slots Q (F0 m pc ls (.int (iI a) :: rest)) := by
  refine va_mabs E.1 E.2.1 (E.2.2.1.trans hl.1.symm) E.2.2.2.1 (E.2.2.2.2.1 _ hml) (E.2.2.2.2.1 _ st_ABS) (E.2.2.2.2.1 _ in_J9) (E.2.2.2.2.1 _ co_ABS) hR.1 hR.2.1 hR.2.2.1 hR.2.2.2 hd ?_
  have h : (if 0 ≤ iI a then iI a else 0 - iI a) = iI (if 0 ≤ a then a else 0 - a) := by
    by_cases q : 0 ≤ a
    · rw [if_pos q, if_pos (by rw [← iI_0]; exact (iI_le sm0 ha).mpr q)]
    · rw [if_neg q, if_neg (fun h => q (by rw [← iI_0] at h; exact (iI_le sm0 ha).mp h)), ← iI_0, iI_sub]
  rw [h]
  exact k
end XR
end
section
/-! a contract from a walk, and the calls -/
theorem tw_good : ∀ w ∈ TW, goodWord w = true := fun _ h => (List.mem_filter.mp h).2
theorem tw_in {a : Cond} {y : MethodName} {b : ByteArray} {n : Nat} {r : Option FieldType} (hco : Cond.code y b n r ∈ TW) : GoodIn (a :: TW) (Cond.code y b n r :: TW) := by
  intro w hw
  have h1 : w ∈ TW := by
    rcases List.mem_cons.mp hw with h | h
    · rw [h]; exact hco
    · exact h
  exact ⟨List.mem_cons_of_mem _ h1, good_of_word (tw_good w h1)⟩
theorem tw_in0 {y : MethodName} {b : ByteArray} {n : Nat} {r : Option FieldType} (hco : Cond.code y b n r ∈ TW) : GoodIn TW (Cond.code y b n r :: TW) := by
  intro w hw
  have h1 : w ∈ TW := by
    rcases List.mem_cons.mp hw with h | h
    · rw [h]; exact hco
    · exact h
  exact ⟨h1, good_of_word (tw_good w h1)⟩
theorem xm_start {l : Launch} {yM : MethodName} {cc : ByteArray} {maxL : Nat} {ret : Option FieldType} {rm : Room} {D : va_G} {y : CY} {z sz : Nat} {av : List Value} {W0 : va_W} {Qc : Array Value → State → Outcome → State → Prop} {mc ms : Nat}
    (hy : plainName yM.cls = true) (hlen : (lg_sl av).length ≤ maxL)
    (body : ∀ (p : Program) (e : Env) (s : State) (m : MethodId) (below : List Frame) (meth : Method) (c : Code) (ls : Array Slot), sz = s.heap.size → XE p s m av.toArray meth c cc maxL yM.cls D y z (va_A W0 sz) → meth.sig.returnType = ret → meth.name = yM.name → XW D (va_A W0 sz) s.heap W0 s.heap [] → lv_has ls maxL (lv_args 0 av) →
      W p l e rm s m av.toArray below meth c s.heap [] 0 0 (MQ below Qc av.toArray s mc ms (va_A W0 sz)) (F0 m 0 ls [])) :
    Met l yM (Cond.code yM cc maxL ret :: TW) rm (va_Pc av (PX D y z W0 sz)) Qc mc ms (va_A W0 sz) := by
  refine Met.ofW (cc := cc) (maxL := maxL) (ret := ret) hy rfl ?_
  intro p e s m args below meth c s₁ B hml hv
  obtain ⟨rfl, hsz, hP, hK, hD0, hZ⟩ := hv
  have hts := atoms_spec (ws := Cond.code yM cc maxL ret :: TW) B.pre
  have hown : s.vm.findClass yM.cls = some m.cls := findClass_of_methodNamed B.named
  have hin : meth.name = yM.name := (name_of_methodNamed B.named B.method).1
  rw [lg_entry_eq]
  exact body p e s m below meth c _ hsz.symm ⟨B.exec, B.bytes, hml, hown, fun w h => hts w (List.mem_cons_of_mem _ h), fun q h => Or.inr (by rw [← hsz]; exact h), hK, hZ, B.notSynchronized⟩ B.returns hin ⟨hP, hD0.self, va_S.rf⟩ (lv_entry av hlen)
theorem xm_i {l : Launch} {yM : MethodName} {cc : ByteArray} {maxL : Nat} {ret : Option FieldType} {rm : Room} {D : va_G} {y : CY} {z sz : Nat} {av : List Value} {W0 : va_W} {S : Type} {post : Int32 → S → Prop} {W1 : S → va_W} {mc ms : Nat}
    (hy : plainName yM.cls = true) (hlen : (lg_sl av).length ≤ maxL)
    (body : ∀ (p : Program) (e : Env) (s : State) (m : MethodId) (args : Array Value) (below : List Frame) (meth : Method) (c : Code) (ls : Array Slot) (A : Nat → Prop) (Q : State → Prop), XE p s m args meth c cc maxL yM.cls D y z A → meth.sig.returnType = ret → meth.name = yM.name → XW D A s.heap W0 s.heap [] → lv_has ls maxL (lv_args 0 av) → MQ below (va_Qi post (fun u t => BX D (W1 u) A t) A) args s mc ms A = Q →
      W p l e rm s m args below meth c s.heap [] 0 0 Q (F0 m 0 ls [])) :
    Met l yM (Cond.code yM cc maxL ret :: TW) rm (va_Pc av (PX D y z W0 sz)) (va_Qi post (fun u t => BX D (W1 u) (va_A W0 sz) t) (va_A W0 sz)) mc ms (va_A W0 sz) :=
  xm_start hy hlen (fun p e s m below meth c ls _ E hr hn hX hl => body p e s m av.toArray below meth c ls (va_A W0 sz) _ E hr hn hX hl rfl)
theorem xm_l {l : Launch} {yM : MethodName} {cc : ByteArray} {maxL : Nat} {ret : Option FieldType} {rm : Room} {D : va_G} {y : CY} {z sz : Nat} {av : List Value} {W0 : va_W} {S : Type} {post : Int64 → S → Prop} {W1 : S → va_W} {mc ms : Nat}
    (hy : plainName yM.cls = true) (hlen : (lg_sl av).length ≤ maxL)
    (body : ∀ (p : Program) (e : Env) (s : State) (m : MethodId) (args : Array Value) (below : List Frame) (meth : Method) (c : Code) (ls : Array Slot) (A : Nat → Prop) (Q : State → Prop), XE p s m args meth c cc maxL yM.cls D y z A → meth.sig.returnType = ret → meth.name = yM.name → XW D A s.heap W0 s.heap [] → lv_has ls maxL (lv_args 0 av) → MQ below (va_Ql post (fun u t => BX D (W1 u) A t) A) args s mc ms A = Q →
      W p l e rm s m args below meth c s.heap [] 0 0 Q (F0 m 0 ls [])) :
    Met l yM (Cond.code yM cc maxL ret :: TW) rm (va_Pc av (PX D y z W0 sz)) (va_Ql post (fun u t => BX D (W1 u) (va_A W0 sz) t) (va_A W0 sz)) mc ms (va_A W0 sz) :=
  xm_start hy hlen (fun p e s m below meth c ls _ E hr hn hX hl => body p e s m av.toArray below meth c ls (va_A W0 sz) _ E hr hn hX hl rfl)
theorem xm_v {l : Launch} {yM : MethodName} {cc : ByteArray} {maxL : Nat} {ret : Option FieldType} {rm : Room} {D : va_G} {y : CY} {z sz : Nat} {av : List Value} {W0 : va_W} {S : Type} {post : S → Prop} {W1 : S → va_W} {mc ms : Nat}
    (hy : plainName yM.cls = true) (hlen : (lg_sl av).length ≤ maxL)
    (body : ∀ (p : Program) (e : Env) (s : State) (m : MethodId) (args : Array Value) (below : List Frame) (meth : Method) (c : Code) (ls : Array Slot) (A : Nat → Prop) (Q : State → Prop), XE p s m args meth c cc maxL yM.cls D y z A → meth.sig.returnType = ret → meth.name = yM.name → XW D A s.heap W0 s.heap [] → lv_has ls maxL (lv_args 0 av) → MQ below (va_Qv post (fun u t => BX D (W1 u) A t) A) args s mc ms A = Q →
      W p l e rm s m args below meth c s.heap [] 0 0 Q (F0 m 0 ls [])) :
    Met l yM (Cond.code yM cc maxL ret :: TW) rm (va_Pc av (PX D y z W0 sz)) (va_Qv post (fun u t => BX D (W1 u) (va_A W0 sz) t) (va_A W0 sz)) mc ms (va_A W0 sz) :=
  xm_start hy hlen (fun p e s m below meth c ls _ E hr hn hX hl => body p e s m av.toArray below meth c ls (va_A W0 sz) _ E hr hn hX hl rfl)
theorem xw_call {D : va_G} {A : Nat → Prop} {H0 H H1 : Heap} {W0 Wc W1 W2 : va_W} {locs1 : List Loc} (hP : va_P D vwCl W0 H) (hD : va_D A W0) (isC : List Nat) (hC : isC.map (fun i => W0[i]?) = Wc.map some) (ps : List Nat) (n1 : Nat) (hn1 : W1.length = n1) (hps : ps.map (fun i => (W1 ++ W0)[i]?) = W2.map some) (hnd : va_nd ps = true) (hdis : ∀ i ∈ ps, n1 ≤ i → i - n1 ∉ isC)
    (hF : ∀ q, va_A Wc H.size q → A q) (hk : ∀ q : Nat, q < H.size → ¬ va_A Wc H.size q → H1[q]? = H[q]?) (hP1 : va_P D vwCl W1 H1) (hD1 : va_D (va_A Wc H.size) W1) (hS : va_S A H0 H1 locs1) : XW D A H0 W2 H1 locs1 := by
  have at' : ∀ {is : List Nat} {w w' : va_W}, is.map (fun i => w[i]?) = w'.map some → ∀ (k : Nat) (q : Nat × va_E), w'[k]? = some q → ∃ i, is[k]? = some i ∧ w[i]? = some q := by
    intro is w w' hs k q hq
    have h1 : (is.map (fun i => w[i]?))[k]? = some (some q) := by rw [hs, List.getElem?_map, hq]; rfl
    rw [List.getElem?_map] at h1
    cases hi : is[k]? with
    | none => rw [hi] at h1; cases h1
    | some i => rw [hi] at h1; exact ⟨i, rfl, Option.some.inj h1⟩
  have apart : ∀ (i : Nat) (q : Nat × va_E), W0[i]? = some q → i ∉ isC → q.1 < H.size ∧ ¬ va_A Wc H.size q.1 := by
    intro i q hq hi
    have hl := (hP i q hq).lt
    refine ⟨hl, fun h => ?_⟩
    rcases h with ⟨k2, e, h⟩ | h
    · obtain ⟨j, h3, h4⟩ := at' hC k2 (q.1, e) h
      have hij := hD.1 i j q (q.1, e) hq h4 rfl
      subst hij
      exact hi (List.mem_of_getElem? h3)
    · omega
  have src : ∀ (k : Nat) (q : Nat × va_E), W2[k]? = some q → ∃ i, ps[k]? = some i ∧ ((i < n1 ∧ W1[i]? = some q) ∨ (n1 ≤ i ∧ i - n1 ∉ isC ∧ W0[i - n1]? = some q)) := by
    intro k q hq
    obtain ⟨i, h1, h2⟩ := at' hps k q hq
    refine ⟨i, h1, ?_⟩
    rcases Nat.lt_or_ge i n1 with h | h
    · rw [List.getElem?_append_left (by rw [hn1]; exact h)] at h2
      exact Or.inl ⟨h, h2⟩
    · rw [List.getElem?_append_right (by rw [hn1]; exact h), hn1] at h2
      exact Or.inr ⟨h, hdis i (List.mem_of_getElem? h1) h, h2⟩
  refine ⟨fun k q hq => ?_, ⟨fun i j p q hi hj hpq => ?_, fun k q hq => ?_⟩, hS⟩
  · obtain ⟨i, -, h | h⟩ := src k q hq
    · exact hP1 i q h.2
    · obtain ⟨g1, g2⟩ := apart _ q h.2.2 h.2.1
      exact (hP _ q h.2.2).kept (hk q.1 g1 g2)
  · obtain ⟨i1, e1, h1⟩ := src i p hi
    obtain ⟨j1, e2, h2⟩ := src j q hj
    have e : i1 = j1 := by
      rcases h1 with h1 | h1 <;> rcases h2 with h2 | h2
      · exact hD1.1 i1 j1 p q h1.2 h2.2 hpq
      · exact absurd (hD1.2 i1 p h1.2) (by rw [hpq]; exact (apart _ q h2.2.2 h2.2.1).2)
      · exact absurd (hD1.2 j1 q h2.2) (by rw [← hpq]; exact (apart _ p h1.2.2 h1.2.1).2)
      · have := hD.1 _ _ p q h1.2.2 h2.2.2 hpq
        omega
    subst e
    exact va_nd_inj ps hnd i j _ e1 e2
  · obtain ⟨i, -, h | h⟩ := src k q hq
    · exact hF _ (hD1.2 i q h.2)
    · exact hD.2 _ q h.2.2
theorem xw_read {D : va_G} {A : Nat → Prop} {H0 H H1 : Heap} {W0 Wc : va_W} {locs1 : List Loc} (hP : va_P D vwCl W0 H) (hD : va_D A W0) (isC : List Nat) (hC : isC.map (fun i => W0[i]?) = Wc.map some)
    (hk : ∀ q : Nat, q < H.size → ¬ va_A Wc H.size q → H1[q]? = H[q]?) (hP1 : va_P D vwCl Wc H1) (hS : va_S A H0 H1 locs1) : XW D A H0 W0 H1 locs1 := by
  refine ⟨fun k q hq => ?_, hD, hS⟩
  have hl := (hP k q hq).lt
  by_cases h : va_A Wc H.size q.1
  · rcases h with ⟨k2, e, h⟩ | h
    · have h1 : (isC.map (fun i => W0[i]?))[k2]? = some (some (q.1, e)) := by rw [hC, List.getElem?_map, h]; rfl
      rw [List.getElem?_map] at h1
      cases hi : isC[k2]? with
      | none => rw [hi] at h1; cases h1
      | some i =>
        rw [hi] at h1
        have h2 : W0[i]? = some (q.1, e) := Option.some.inj h1
        have e1 := hD.1 k i q (q.1, e) hq h2 rfl
        subst e1
        have e2 : q = (q.1, e) := Option.some.inj (hq.symm.trans h2)
        rw [e2]
        exact hP1 k2 _ h
    · omega
  · exact (hP k q hq).kept (hk q.1 hl h)
section XC
variable {p : Program} {l : Launch} {e : Env} {R : Room} {s : State} {m : MethodId} {args : Array Value} {below : List Frame} {meth : Method} {c : Code} {H : Heap} {locs : List Loc} {cells slots : Nat} {Q : State → Prop} {pc : Nat} {ls : Array Slot} {rest st0 : List Value} {cc : ByteArray} {nL : Nat} {own : String} {D : va_G} {y : CY} {z : Nat} {A : Nat → Prop} {W0 Wc : va_W} {lv : List (Nat × Value)}
theorem xw_free (E : XE p s m args meth c cc nL own D y z A) (hX : XW D A s.heap W0 H locs) (isC : List Nat) (hC : isC.map (fun i => W0[i]?) = Wc.map some) : ∀ q, va_A Wc H.size q → A q := va_free hX.2.1 hX.2.2 E.2.2.2.2.2.1 isC hC
theorem px_of (E : XE p s m args meth c cc nL own D y z A) (hX : XW D A s.heap W0 H locs) (isC : List Nat) (hC : isC.map (fun i => W0[i]?) = Wc.map some) (hnd : va_nd isC = true) {av : List Value} : ∀ U : State, U.heap = H → s.WarmedH U.vm → va_Pc av (PX D y z Wc H.size) av.toArray U := by
  intro U hU hW
  refine ⟨rfl, by rw [hU], ?_, EK.warm hW E.2.2.2.2.2.2.1, (hX.2.1.sub isC hnd hC).weaken (fun _ _ _ _ => trivial), ?_⟩
  · rw [hU]
    intro k q hk
    have h1 : (isC.map (fun i => W0[i]?))[k]? = some (some q) := by rw [hC, List.getElem?_map, hk]; rfl
    rw [List.getElem?_map] at h1
    cases hi : isC[k]? with
    | none => rw [hi] at h1; cases h1
    | some i => rw [hi] at h1; exact hX.1 i q (Option.some.inj h1)
  · have h := E.2.2.2.2.2.2.2.1
    rw [hU]
    exact ((h.kept (H1 := H) (fun a h1 h2 => hX.2.2.2.1 a h1 h2)).narrow (xw_free E hX isC hC)).moved hW.alike
variable {yM : MethodName} {bytes : ByteArray} {maxL mc ms n index b : Nat} {ret : Option FieldType} {rm : Room} {Qc : Array Value → State → Outcome → State → Prop} {free : Addr → Prop} {As : List Value}
theorem xv_V (E : XE p s m args meth c cc nL own D y z A) (hX : XW D A s.heap W0 H locs) (hl : lv_has ls nL lv) (hM : Met l yM (Cond.code yM bytes maxL ret :: TW) rm (va_Pc (.ref b :: As) (PX D y z Wc H.size)) Qc mc ms free)
    (hml : Cond.methodLink own index yM ∈ TW) (him : Cond.instanceMethod yM ∈ TW) (hse : Cond.selects yM.cls yM yM ∈ TW) (hin : Cond.initialized yM.cls ∈ TW) (hco : Cond.code yM bytes maxL ret ∈ TW) (n : Nat)
    (hd : yM.cls ≠ "java/lang/invoke/MethodHandle" ∧ yM.cls ≠ "java/lang/invoke/VarHandle" ∧ (parseMethodDescriptor yM.desc).map (fun d => d.parameters.length) = some n) (hrm : rm.cells = mc ∧ rm.slots = ms) (hR : rm.frames + 1 ≤ R.frames ∧ 8 + (maxL + 11) + rm.locals ≤ R.locals)
    (isC : List Nat) (hC : isC.map (fun i => W0[i]?) = Wc.map some) (hnd : va_nd isC = true) (q0 : Nat) {ci : Nat} {q : vw_C} {fs : List Value} (he : W0[q0]? = some (b, .inr (ci, fs))) (hc : vwCl[ci]? = some q) (hq : q.1 = yM.cls)
    (hn : As.length = n) (hst : st0 = As.reverse ++ .ref b :: rest) (hcat : (rest.map fun v => v.category).sum ≤ 8) (hdec : decode cc pc = .ok (.invokevirtual index, 3)) (hf : cells + mc ≤ R.cells ∧ slots + ms ≤ R.slots) :
    va_Run p l e R s m args below meth c H locs cells slots mc ms (F0 m pc ls st0) rest (Qc (Value.ref b :: As).toArray) free := by
  refine va_runV (C := yM.cls) (Ts := TW) (ret := ret) (maxL := maxL) (bytes := bytes) (n := n) ⟨E.1, E.2.1, E.2.2.1, E.2.2.2.1, E.2.2.2.2.1⟩ hM ?_ ⟨PX.blind, ?_, px_of E hX isC hC hnd⟩ rfl hn hl.1 hst (lv_room hcat) hdec hf
  · refine cwV n E.2.2.2.2.1 ?_ rfl hrm.1 hrm.2 ⟨rfl, hd.1, hd.2.1, hd.2.2⟩ hR
    intro w hw
    rcases List.mem_append.mp hw with h | h
    · have hT : w ∈ TW := by
        simp only [List.mem_cons, List.not_mem_nil, or_false] at h
        rcases h with rfl | rfl | rfl | rfl <;> assumption
      exact ⟨hT, good_of_word (tw_good w hT)⟩
    · exact tw_in0 hco w h
  · have h := va_recv E.2.2.2.2.2.2.1.1 hX.1 hc he
    rw [hq] at h
    exact h
theorem xv_S (E : XE p s m args meth c cc nL own D y z A) (hX : XW D A s.heap W0 H locs) (hl : lv_has ls nL lv) (hM : Met l yM (Cond.code yM bytes maxL ret :: TW) rm (va_Pc As (PX D y z Wc H.size)) Qc mc ms free)
    (hml : Cond.methodLink own index yM ∈ TW) (hst2 : Cond.static yM ∈ TW) (hin : Cond.initialized yM.cls ∈ TW) (hco : Cond.code yM bytes maxL ret ∈ TW) (n : Nat)
    (hd : yM.cls ≠ "java/lang/invoke/MethodHandle" ∧ yM.cls ≠ "java/lang/invoke/VarHandle" ∧ (parseMethodDescriptor yM.desc).map (fun d => d.parameters.length) = some n) (hrm : rm.cells = mc ∧ rm.slots = ms) (hR : rm.frames + 1 ≤ R.frames ∧ 8 + (maxL + 11) + rm.locals ≤ R.locals)
    (isC : List Nat) (hC : isC.map (fun i => W0[i]?) = Wc.map some) (hnd : va_nd isC = true)
    (hn : As.length = n) (hst : st0 = As.reverse ++ rest) (hcat : (rest.map fun v => v.category).sum ≤ 8) (hdec : decode cc pc = .ok (.invokestatic index, 3)) (hf : cells + mc ≤ R.cells ∧ slots + ms ≤ R.slots) :
    va_Run p l e R s m args below meth c H locs cells slots mc ms (F0 m pc ls st0) rest (Qc As.toArray) free :=
  va_runS (Ts := TW) (ret := ret) (maxL := maxL) (bytes := bytes) (n := n) ⟨E.1, E.2.1, E.2.2.1, E.2.2.2.1, E.2.2.2.2.1⟩ hM ⟨callB_of n E.2.2.2.2.1 (tw_in0 hco) rfl hrm.1 hrm.2 (E.2.2.2.2.1 _ hin) (E.2.2.2.2.1 _ hml) hd hR, E.2.2.2.2.1 _ hst2⟩ ⟨PX.blind, px_of E hX isC hC hnd⟩ rfl hn hl.1 hst (lv_room hcat) hdec hf
theorem xv_SN (E : XE p s m args meth c cc nL own D y z A) (hX : XW D A s.heap W0 H locs) (hl : lv_has ls nL lv) (hM : Met l yM (Cond.code yM bytes maxL ret :: TW) rm (va_Pc As (PX D y z Wc H.size)) Qc mc ms free)
    {host : String} (hml : va_Nw (.methodLinkNest own index yM host) s) (hst2 : Cond.static yM ∈ TW) (hin : Cond.initialized yM.cls ∈ TW) (hco : Cond.code yM bytes maxL ret ∈ TW) (n : Nat)
    (hd : yM.cls ≠ "java/lang/invoke/MethodHandle" ∧ yM.cls ≠ "java/lang/invoke/VarHandle" ∧ (parseMethodDescriptor yM.desc).map (fun d => d.parameters.length) = some n) (hrm : rm.cells = mc ∧ rm.slots = ms) (hR : rm.frames + 1 ≤ R.frames ∧ 8 + (maxL + 11) + rm.locals ≤ R.locals)
    (isC : List Nat) (hC : isC.map (fun i => W0[i]?) = Wc.map some) (hnd : va_nd isC = true)
    (hn : As.length = n) (hst : st0 = As.reverse ++ rest) (hcat : (rest.map fun v => v.category).sum ≤ 8) (hdec : decode cc pc = .ok (.invokestatic index, 3)) (hf : cells + mc ≤ R.cells ∧ slots + ms ≤ R.slots) :
    va_Run p l e R s m args below meth c H locs cells slots mc ms (F0 m pc ls st0) rest (Qc As.toArray) free :=
  va_runSN (Ts := TW) (ret := ret) (maxL := maxL) (bytes := bytes) (n := n) ⟨E.1, E.2.1, E.2.2.1, E.2.2.2.1, E.2.2.2.2.1⟩ hM ⟨va_cnB n E.2.2.2.2.1 (tw_in0 hco) rfl hrm.1 hrm.2 hml (E.2.2.2.2.1 _ hin) hd hR, E.2.2.2.2.1 _ hst2, trivial⟩ ⟨PX.blind, px_of E hX isC hC hnd⟩ rfl hn hl.1 hst (lv_room hcat) hdec hf
variable {S : Type} {W1 W2 : S → va_W}
theorem xk_i (E : XE p s m args meth c cc nL own D y z A) (hX : XW D A s.heap W0 H locs) (isC : List Nat) (hC : isC.map (fun i => W0[i]?) = Wc.map some) {post : Int32 → S → Prop} {av : Array Value}
    (hr : va_Run p l e R s m args below meth c H locs cells slots mc ms (F0 m pc ls st0) rest (va_Qi post (fun u t => BX D (W1 u) (va_A Wc H.size) t) (va_A Wc H.size) av) (va_A Wc H.size))
    (ps : List Nat) (n1 : Nat) (hn1 : ∀ u, (W1 u).length = n1) (hps : ∀ u, ps.map (fun i => (W1 u ++ W0)[i]?) = (W2 u).map some) (hnd : va_nd ps = true) (hdis : ∀ i ∈ ps, n1 ≤ i → i - n1 ∉ isC)
    (kk : ∀ (r : Int32) (u : S) (H1 : Heap) (locs1 : List Loc), post r u → XW D A s.heap (W2 u) H1 locs1 → W p l e R s m args below meth c H1 locs1 (cells + mc) (slots + ms) Q (F0 m (pc + 3) ls (.int r :: rest))) : W p l e R s m args below meth c H locs cells slots Q (F0 m pc ls st0) :=
  va_calli hr hX.2.2 (fun q _ h => xw_free E hX isC hC q h) (xw_free E hX isC hC) (fun r u t H1 locs1 ht _ hp hB _ hk hS => kk r u H1 locs1 hp (xw_call hX.1 hX.2.1 isC hC ps n1 (hn1 u) (hps u) hnd hdis (xw_free E hX isC hC) hk (by rw [← ht]; exact hB.1) hB.2 hS))
theorem xk_l (E : XE p s m args meth c cc nL own D y z A) (hX : XW D A s.heap W0 H locs) (isC : List Nat) (hC : isC.map (fun i => W0[i]?) = Wc.map some) {post : Int64 → S → Prop} {av : Array Value}
    (hr : va_Run p l e R s m args below meth c H locs cells slots mc ms (F0 m pc ls st0) rest (va_Ql post (fun u t => BX D (W1 u) (va_A Wc H.size) t) (va_A Wc H.size) av) (va_A Wc H.size))
    (ps : List Nat) (n1 : Nat) (hn1 : ∀ u, (W1 u).length = n1) (hps : ∀ u, ps.map (fun i => (W1 u ++ W0)[i]?) = (W2 u).map some) (hnd : va_nd ps = true) (hdis : ∀ i ∈ ps, n1 ≤ i → i - n1 ∉ isC)
    (kk : ∀ (r : Int64) (u : S) (H1 : Heap) (locs1 : List Loc), post r u → XW D A s.heap (W2 u) H1 locs1 → W p l e R s m args below meth c H1 locs1 (cells + mc) (slots + ms) Q (F0 m (pc + 3) ls (.long r :: rest))) : W p l e R s m args below meth c H locs cells slots Q (F0 m pc ls st0) :=
  va_calll hr hX.2.2 (fun q _ h => xw_free E hX isC hC q h) (xw_free E hX isC hC) (fun r u t H1 locs1 ht _ hp hB _ hk hS => kk r u H1 locs1 hp (xw_call hX.1 hX.2.1 isC hC ps n1 (hn1 u) (hps u) hnd hdis (xw_free E hX isC hC) hk (by rw [← ht]; exact hB.1) hB.2 hS))
theorem xk_v (E : XE p s m args meth c cc nL own D y z A) (hX : XW D A s.heap W0 H locs) (isC : List Nat) (hC : isC.map (fun i => W0[i]?) = Wc.map some) {post : S → Prop} {av : Array Value}
    (hr : va_Run p l e R s m args below meth c H locs cells slots mc ms (F0 m pc ls st0) rest (va_Qv post (fun u t => BX D (W1 u) (va_A Wc H.size) t) (va_A Wc H.size) av) (va_A Wc H.size))
    (ps : List Nat) (n1 : Nat) (hn1 : ∀ u, (W1 u).length = n1) (hps : ∀ u, ps.map (fun i => (W1 u ++ W0)[i]?) = (W2 u).map some) (hnd : va_nd ps = true) (hdis : ∀ i ∈ ps, n1 ≤ i → i - n1 ∉ isC)
    (kk : ∀ (u : S) (H1 : Heap) (locs1 : List Loc), post u → XW D A s.heap (W2 u) H1 locs1 → W p l e R s m args below meth c H1 locs1 (cells + mc) (slots + ms) Q (F0 m (pc + 3) ls rest)) : W p l e R s m args below meth c H locs cells slots Q (F0 m pc ls st0) :=
  va_callv hr hX.2.2 (fun q _ h => xw_free E hX isC hC q h) (xw_free E hX isC hC) (fun u t H1 locs1 ht _ hp hB _ hk hS => kk u H1 locs1 hp (xw_call hX.1 hX.2.1 isC hC ps n1 (hn1 u) (hps u) hnd hdis (xw_free E hX isC hC) hk (by rw [← ht]; exact hB.1) hB.2 hS))
theorem xk_ri (E : XE p s m args meth c cc nL own D y z A) (hX : XW D A s.heap W0 H locs) (isC : List Nat) (hC : isC.map (fun i => W0[i]?) = Wc.map some) {post : Int32 → Unit → Prop} {av : Array Value}
    (hr : va_Run p l e R s m args below meth c H locs cells slots mc ms (F0 m pc ls st0) rest (va_Qi post (fun _ t => BX D Wc (va_A Wc H.size) t) (va_A Wc H.size) av) (va_A Wc H.size))
    (kk : ∀ (r : Int32) (H1 : Heap) (locs1 : List Loc), post r () → XW D A s.heap W0 H1 locs1 → W p l e R s m args below meth c H1 locs1 (cells + mc) (slots + ms) Q (F0 m (pc + 3) ls (.int r :: rest))) : W p l e R s m args below meth c H locs cells slots Q (F0 m pc ls st0) :=
  va_calli hr hX.2.2 (fun q _ h => xw_free E hX isC hC q h) (xw_free E hX isC hC) (fun r _ t H1 locs1 ht _ hp hB _ hk hS => kk r H1 locs1 hp (xw_read hX.1 hX.2.1 isC hC hk (by rw [← ht]; exact hB.1) hS))
theorem xk_rl (E : XE p s m args meth c cc nL own D y z A) (hX : XW D A s.heap W0 H locs) (isC : List Nat) (hC : isC.map (fun i => W0[i]?) = Wc.map some) {post : Int64 → Unit → Prop} {av : Array Value}
    (hr : va_Run p l e R s m args below meth c H locs cells slots mc ms (F0 m pc ls st0) rest (va_Ql post (fun _ t => BX D Wc (va_A Wc H.size) t) (va_A Wc H.size) av) (va_A Wc H.size))
    (kk : ∀ (r : Int64) (H1 : Heap) (locs1 : List Loc), post r () → XW D A s.heap W0 H1 locs1 → W p l e R s m args below meth c H1 locs1 (cells + mc) (slots + ms) Q (F0 m (pc + 3) ls (.long r :: rest))) : W p l e R s m args below meth c H locs cells slots Q (F0 m pc ls st0) :=
  va_calll hr hX.2.2 (fun q _ h => xw_free E hX isC hC q h) (xw_free E hX isC hC) (fun r _ t H1 locs1 ht _ hp hB _ hk hS => kk r H1 locs1 hp (xw_read hX.1 hX.2.1 isC hC hk (by rw [← ht]; exact hB.1) hS))
end XC
end
section
/-! the static row, shifts of longs, the copy of a row, the bits' own -/
def spB (i : Int) : Int := if i = 0 then 0 else if i = 1 then 289 else if i = 2 then 850 else 1139
def bUshr (a b : Int) : Int := ((iI a).toUInt32 >>> ((iI b).toUInt32 &&& Int32.toUInt32 31)).toInt32.toInt
theorem lI_lN {a : Int} (h : 0 ≤ a) : lI a = lN a.toNat := by
  obtain ⟨n, rfl⟩ := Int.eq_ofNat_of_zero_le h
  exact Int64.ofInt_eq_ofNat
theorem ia_ext {f g : Int → Int} {n : Nat} {cA : ClassId} (h : ∀ j : Int, 0 ≤ j → j < n → f j = g j) : vp_cell cA (n, .inl (ia f)) = vp_cell cA (n, .inl (ia g)) := by
  rw [vp_cell_i, vp_cell_i]
  have e : (Array.ofFn (n := n) fun j => (Value.int (ia f j.val))) = Array.ofFn (n := n) fun j => Value.int (ia g j.val) := by
    congr 1
    funext j
    have := h (j.val : Int) (by omega) (by have := j.isLt; omega)
    show Value.int (iI (f _)) = Value.int (iI (g _))
    rw [this]
  unfold arrV
  rw [e]
section XR2
variable {p : Program} {l : Launch} {e : Env} {R : Room} {s : State} {m : MethodId} {args : Array Value} {below : List Frame} {meth : Method} {c : Code} {H : Heap} {locs : List Loc} {cells slots : Nat} {Q : State → Prop} {pc : Nat} {ls : Array Slot} {rest : List Value} {cc : ByteArray} {nL : Nat} {own : String} {D : va_G} {y : CY} {z : Nat} {A : Nat → Prop} {W0 : va_W}
theorem xr_static (E : XE p s m args meth c cc nL RX0 D y z A) (hX : XW D A s.heap W0 H locs) (hd : decode cc pc = .ok (.getstatic 134, 3)) (k : W p l e R s m args below meth c H locs cells slots Q (F0 m (pc + 3) ls (.ref z :: rest))) : W p l e R s m args below meth c H locs cells slots Q (F0 m pc ls rest) :=
  va_getsN E.1 E.2.1 E.2.2.2.2.2.2.2.1.1 hX.2.2 E.2.2.2.1 (va_Nw.use rfl E.2.2.2.2.2.2.1.2.2.2.2.2.2.2.2) (fun _ h => h) hd k
theorem xr_spots (E : XE p s m args meth c cc nL own D y z A) (hX : XW D A s.heap W0 H locs) {i : Int} (h0 : 0 ≤ i) (h1 : i < 4) (hd : decode cc pc = .ok (.iaload, 1)) (k : W p l e R s m args below meth c H locs cells slots Q (F0 m (pc + 1) ls (.int (iI (spB i)) :: rest))) : W p l e R s m args below meth c H locs cells slots Q (F0 m pc ls (.int (iI i) :: .ref z :: rest)) := by
  refine va_ti E.1 E.2.1 E.2.2.2.2.2.2.2.1.2 hX.2.2 (iI_in (n := 4) h0 (by omega) (by decide)) (v := .int (iI (spB i))) ?_ hd k
  have e := iI_cl (n := 4) h0 (by omega) (by decide)
  have hk : (iI i).toNatClampNeg = i.toNat := by omega
  rw [hk]
  rcases (show i = 0 ∨ i = 1 ∨ i = 2 ∨ i = 3 by omega) with rfl | rfl | rfl | rfl <;> rfl
theorem xr_lshl (E : XE p s m args meth c cc nL own D y z A) {a : Int} (hd : decode cc pc = .ok (.lshl, 1)) (h0 : 0 ≤ a) (k : W p l e R s m args below meth c H locs cells slots Q (F0 m (pc + 1) ls (.long (lI (a * 1024)) :: rest))) : W p l e R s m args below meth c H locs cells slots Q (F0 m pc ls (.int (iI 10) :: .long (lI a) :: rest)) := by
  refine lv_lshl E.1 E.2.1 (v := lI (a * 1024)) hd ?_ k
  have e : ((iI 10).toInt64 &&& 63) = 10 := by decide
  rw [e, ← Int64.toBitVec_inj]
  show (lI a).toBitVec <<< _ = _
  rw [← lI_mul]
  show _ = (lI a).toBitVec * (lI 1024).toBitVec
  have e2 : ((10 : Int64).toBitVec.smod 64) = 10#64 := by decide
  have e3 : (lI 1024).toBitVec = BitVec.twoPow 64 10 := by decide
  rw [e3, BitVec.mul_twoPow_eq_shiftLeft]
  rfl
theorem xr_lshr (E : XE p s m args meth c cc nL own D y z A) {a : Int} (hd : decode cc pc = .ok (.lshr, 1)) (h0 : 0 ≤ a) (h1 : a < 4611686018427387904) (k : W p l e R s m args below meth c H locs cells slots Q (F0 m (pc + 1) ls (.long (lI (a / 1024)) :: rest))) : W p l e R s m args below meth c H locs cells slots Q (F0 m pc ls (.int (iI 10) :: .long (lI a) :: rest)) := by
  refine lv_lshr E.1 E.2.1 (v := lI (a / 1024)) hd ?_ k
  have e : ((iI 10).toInt64 &&& 63) = 10 := by decide
  rw [e, ← Int64.toInt_inj, lI_toInt ⟨by omega, by omega⟩]
  show ((lI a).toBitVec.sshiftRight' _).toInt = _
  have e2 : ((10 : Int64).toBitVec.smod 64) = 10#64 := by decide
  rw [e2]
  show ((lI a).toBitVec.sshiftRight 10).toInt = _
  rw [BitVec.toInt_sshiftRight]
  show (lI a).toInt >>> 10 = _
  rw [lI_toInt ⟨by omega, by omega⟩, Int.shiftRight_eq_div_pow]
  rfl
theorem xr_iushr (E : XE p s m args meth c cc nL own D y z A) {a b : Int} (hd : decode cc pc = .ok (.iushr, 1)) (k : W p l e R s m args below meth c H locs cells slots Q (F0 m (pc + 1) ls (.int (iI (bUshr a b)) :: rest))) : W p l e R s m args below meth c H locs cells slots Q (F0 m pc ls (.int (iI b) :: .int (iI a) :: rest)) := lv_iushr E.1 E.2.1 hd (iI_of _) k
theorem xr_ldcw (E : XE p s m args meth c cc nL own D y z A) {i : Nat} {v : Int32} {n : Int} (hw : Cond.constant own i v ∈ TW) (hd : decode cc pc = .ok (.ldc_w i, 3)) (hv : v = iI n) (k : W p l e R s m args below meth c H locs cells slots Q (F0 m (pc + 3) ls (.int (iI n) :: rest))) : W p l e R s m args below meth c H locs cells slots Q (F0 m pc ls rest) := lv_ldcw E.1 E.2.1 E.2.2.2.1 (E.2.2.2.2.1 _ hw) hd (by rw [hv]; exact k)
theorem xr_copy (E : XE p s m args meth c cc nL own D y z A) (hX : XW D A s.heap W0 H locs) {lv : List (Nat × Value)} (hl : lv_has ls nL lv) {i a0 a n : Nat} {f g : Int → Int} {W1 : va_W} {w : Int} (hml : Cond.methodLink own i arraycopyName ∈ TW) (q0 q1 : Nat) (ha0 : W0[q0]? = some (a0, .inl (y.1, n, .inl (ia f)))) (ha1 : W0[q1]? = some (a, .inl (y.1, n, .inl (ia g)))) (hw : w = n) (hn : n < 2147483648) (hW : W0.set q1 (a, .inl (y.1, n, .inl (ia f))) = W1) (hR : 1 ≤ R.frames ∧ (rest.map fun v => v.category).sum + (nativeFrameWords "java/lang/System" "arraycopy" 5 + 11) ≤ R.locals) (hd : decode cc pc = .ok (.invokestatic i, 3)) (kk : ∀ (H1 : Heap) (locs1 : List Loc), XW D A s.heap W1 H1 locs1 → W p l e R s m args below meth c H1 locs1 cells slots Q (F0 m (pc + 3) ls rest)) : W p l e R s m args below meth c H locs cells slots Q (F0 m pc ls (.int (iI w) :: .int (iI 0) :: .ref a :: .int (iI 0) :: .ref a0 :: rest)) := by
  subst hw
  have en : (iI (n : Int)).toNatClampNeg = n := by
    show (iI (n : Int)).toInt.toNat = n
    rw [iI_toInt ⟨by omega, by omega⟩]
    omega
  have e0 : (iI 0).toNatClampNeg = 0 := by decide
  refine va_copyi E.1 E.2.1 (E.2.2.1.trans hl.1.symm) E.2.2.2.1 (E.2.2.2.2.1 _ hml) (E.2.2.2.2.1 _ tna_ACP) (E.2.2.2.2.1 _ st_ACP) (E.2.2.2.2.1 _ in_J10) E.2.2.2.2.2.2.1.1 hX.1 hX.2.1 hX.2.2 q0 q1 0 0 ha0 ha1 rfl rfl rfl (by decide) (by decide) (by rw [Int32.lt_iff_toInt_lt, iI_toInt ⟨by omega, by omega⟩]; show ¬ (n : Int) < 0; omega) (by rw [en, e0]; omega) (by rw [en, e0]; omega) (fun j _ => rfl) hR.1 hR.2 hd ?_
  intro H1 locs1 h1 h2 h3
  rw [e0, en] at h1 h2
  have hX1 : XW D A s.heap (W0.set q1 (a, .inl (y.1, n, .inl (va_cpy (ia f) (ia g) 0 0 n)))) H1 locs1 := ⟨h1, h2, h3⟩
  refine kk H1 locs1 (xw_ext hX1 (fun k q hk => ?_))
  rw [← hW] at hk
  have hq1 : q1 < W0.length := (List.getElem?_eq_some_iff.mp ha1).1
  by_cases hkq : k = q1
  · subst hkq
    rw [List.getElem?_set_self hq1] at hk
    refine ⟨_, List.getElem?_set_self hq1, ?_, ?_⟩
    · rw [← Option.some.inj hk]
    · rw [← Option.some.inj hk]
      intro h
      show H1[a]? = some (vp_cell y.1 (n, .inl (ia f)))
      have h' : H1[a]? = some (vp_cell y.1 (n, .inl (va_cpy (ia f) (ia g) 0 0 n))) := h
      rw [h']
      congr 1
      rw [vp_cell_i, vp_cell_i]
      unfold arrV
      congr 2
      funext j
      have := j.isLt
      show Value.int (va_cpy (ia f) (ia g) 0 0 n j.val) = Value.int (ia f j.val)
      rw [pk_cpy_in (Nat.zero_le _) (by omega)]
      simp
  · rw [List.getElem?_set_ne (Ne.symm hkq)] at hk
    exact ⟨q, by rw [List.getElem?_set_ne (Ne.symm hkq)]; exact hk, rfl, fun h => h⟩
theorem xr_aald (E : XE p s m args meth c cc nL own D y z A) (hX : XW D A s.heap W0 H locs) {a n b : Nat} {f : Nat → Option Nat} {i : Int} (q0 : Nat) (ha : W0[q0]? = some (a, .inl (y.2.2.2, n, .inr (.inr (.inr (.inr f)))))) (h0 : 0 ≤ i) (h1 : i < n) (hn : n < 2147483648) (hf : f i.toNat = some b) (hd : decode cc pc = .ok (.aaload, 1)) (k : W p l e R s m args below meth c H locs cells slots Q (F0 m (pc + 1) ls (.ref b :: rest))) : W p l e R s m args below meth c H locs cells slots Q (F0 m pc ls (.int (iI i) :: .ref a :: rest)) := by
  refine va_aldq E.1 E.2.1 E.2.2.2.2.2.2.1.1 hX.1 q0 3 ha rfl (iI_in h0 h1 hn) hd ?_
  have e := iI_cl h0 h1 hn
  rw [show (iI i).toNatClampNeg = i.toNat by omega, hf]
  exact k
end XR2
end
section
/-! sums and the small words of the figures -/
def sumI (f : Int → Int) (a : Int) : Nat → Int
  | 0 => 0
  | n + 1 => sumI f a n + f (a + n)
theorem sumI_0 (f : Int → Int) (a : Int) : sumI f a 0 = 0 := rfl
theorem sumI_s (f : Int → Int) (a : Int) (n : Nat) : sumI f a (n + 1) = sumI f a n + f (a + n) := rfl
theorem sumI_cong {f g : Int → Int} {a b : Int} : ∀ {n : Nat}, (∀ k : Int, 0 ≤ k → k < n → f (a + k) = g (b + k)) → sumI f a n = sumI g b n
  | 0, _ => rfl
  | n + 1, h => by rw [sumI_s, sumI_s, sumI_cong (n := n) (fun k h0 h1 => h k h0 (by omega)), h n (by omega) (by omega)]
theorem sumI_bd {f : Int → Int} {a lo hi : Int} : ∀ {n : Nat}, (∀ k : Int, 0 ≤ k → k < n → lo ≤ f (a + k) ∧ f (a + k) ≤ hi) → n * lo ≤ sumI f a n ∧ sumI f a n ≤ n * hi
  | 0, _ => by simp [sumI]
  | n + 1, h => by
    have h1 := sumI_bd (n := n) (fun k h0 h1 => h k h0 (by omega))
    have h2 := h n (by omega) (by omega)
    rw [sumI_s]
    have e1 : ((n + 1 : Nat) : Int) * lo = n * lo + lo := by rw [Int.natCast_add, Int.add_mul]; omega
    have e2 : ((n + 1 : Nat) : Int) * hi = n * hi + hi := by rw [Int.natCast_add, Int.add_mul]; omega
    omega
/-- how many quarters of a year are there -/
def yN (q y : Int) : Nat := (if 4 * y + 4 ≤ q then 4 else q - 4 * y).toNat
def xInd (ind : Int → Int) (q y : Int) : Int := sumI ind (4 * y) (yN q y)
def xGap (ind tot : Int → Int) (q y : Int) : Int := tot y - xInd ind q y
def pr1 (pri : Int → Int) (t : Int) : Int := if pri t = -1 then 0 else 1
def xOnes (pri : Int → Int) (q : Int) : Int := sumI (pr1 pri) 0 q.toNat
def xYears (tot : Int → Int) : Int := sumI (pr1 tot) 0 3
def fillI (f : Int → Int) (v n : Int) : Int → Int := fun t => if 0 ≤ t ∧ t < n then v else f t
theorem fillI_up (f : Int → Int) (v : Int) (n : Int) (h : 0 ≤ n) : up (fillI f v n) n v = fillI f v (n + 1) := by
  funext j
  unfold up fillI
  by_cases h1 : j = n
  · rw [if_pos h1, if_pos (by omega)]
  · rw [if_neg h1]
    by_cases h2 : 0 ≤ j ∧ j < n
    · rw [if_pos h2, if_pos (by omega)]
    · rw [if_neg h2, if_neg (by omega)]
theorem fillI_0 (f : Int → Int) (v : Int) : fillI f v 0 = f := by
  funext j
  unfold fillI
  rw [if_neg (by omega)]
/-- what the figures keep to -/
def FI (ind tot pri : Int → Int) (q fr li sh : Int) : Prop :=
  (0 ≤ q ∧ q ≤ 12) ∧ (∀ t : Int, 0 ≤ t → t < 12 → 0 ≤ ind t ∧ ind t ≤ 99 ∧ (t < q → 1 ≤ ind t)) ∧ (∀ v : Int, 0 ≤ v → v < 3 → -1 ≤ tot v ∧ tot v ≤ 999 ∧ (tot v ≠ -1 → 4 * v + 4 ≤ q)) ∧ (∀ t : Int, 0 ≤ t → t < 12 → pri t = -1 ∨ 1 ≤ pri t ∧ pri t ≤ 115) ∧ (0 ≤ fr ∧ fr < 4096) ∧ (-1 ≤ li ∧ li ≤ 24) ∧ (sh = 0 ∨ sh = 1)
theorem FI.q {ind tot pri : Int → Int} {q fr li sh : Int} (h : FI ind tot pri q fr li sh) : 0 ≤ q ∧ q ≤ 12 := h.1
theorem FI.ind {ind tot pri : Int → Int} {q fr li sh : Int} (h : FI ind tot pri q fr li sh) {t : Int} (h0 : 0 ≤ t) (h1 : t < 12) : 0 ≤ ind t ∧ ind t ≤ 99 ∧ (t < q → 1 ≤ ind t) := h.2.1 t h0 h1
theorem FI.tot {ind tot pri : Int → Int} {q fr li sh : Int} (h : FI ind tot pri q fr li sh) {v : Int} (h0 : 0 ≤ v) (h1 : v < 3) : -1 ≤ tot v ∧ tot v ≤ 999 ∧ (tot v ≠ -1 → 4 * v + 4 ≤ q) := h.2.2.1 v h0 h1
theorem FI.pri {ind tot pri : Int → Int} {q fr li sh : Int} (h : FI ind tot pri q fr li sh) {t : Int} (h0 : 0 ≤ t) (h1 : t < 12) : pri t = -1 ∨ 1 ≤ pri t ∧ pri t ≤ 115 := h.2.2.2.1 t h0 h1
theorem FI.fr {ind tot pri : Int → Int} {q fr li sh : Int} (h : FI ind tot pri q fr li sh) : 0 ≤ fr ∧ fr < 4096 := h.2.2.2.2.1
theorem FI.li {ind tot pri : Int → Int} {q fr li sh : Int} (h : FI ind tot pri q fr li sh) : -1 ≤ li ∧ li ≤ 24 := h.2.2.2.2.2.1
theorem FI.sh {ind tot pri : Int → Int} {q fr li sh : Int} (h : FI ind tot pri q fr li sh) : sh = 0 ∨ sh = 1 := h.2.2.2.2.2.2
theorem bAnd1 (a : Int) : bAnd a 1 = 0 ∨ bAnd a 1 = 1 := by
  unfold bAnd
  have h : ∀ x : Int32, (x &&& 1).toInt = 0 ∨ (x &&& 1).toInt = 1 := by
    intro x
    have h1 : (x &&& 1) = nI (x.toBitVec.toNat % 2 ^ 1) := pk_and x (m := 1) 1 (by decide)
    rw [h1]
    rcases Nat.mod_two_eq_zero_or_one x.toBitVec.toNat with h2 | h2
    · left; rw [show (2 : Nat) ^ 1 = 2 from rfl, h2]; decide
    · right; rw [show (2 : Nat) ^ 1 = 2 from rfl, h2]; decide
  exact h (iI a)
theorem xInd_bd {ind : Int → Int} {q v : Int} (h : ∀ t : Int, 0 ≤ t → t < 12 → 0 ≤ ind t ∧ ind t ≤ 99) (h0 : 0 ≤ v) (h1 : v < 3) (hq : q ≤ 12) : 0 ≤ xInd ind q v ∧ xInd ind q v ≤ 396 := by
  have hn : yN q v ≤ 4 := by unfold yN; split <;> omega
  have := sumI_bd (f := ind) (a := 4 * v) (lo := 0) (hi := 99) (n := yN q v) (fun k k0 k1 => h _ (by omega) (by omega))
  unfold xInd
  omega
/-- sharing out, and how much a row is moved -/
def xShare (ind tot : Int → Int) (q t : Int) : Int :=
  if tot (t / 4) = -1 ∨ xInd ind q (t / 4) ≤ 0 then ind t else
    tot (t / 4) * ind t / xInd ind q (t / 4) + (if sumI (fun u => if tot (t / 4) * ind u % xInd ind q (t / 4) > tot (t / 4) * ind t % xInd ind q (t / 4) ∨ (tot (t / 4) * ind u % xInd ind q (t / 4) = tot (t / 4) * ind t % xInd ind q (t / 4) ∧ u < t) then 1 else 0) (4 * (t / 4)) (yN q (t / 4)) < tot (t / 4) - sumI (fun u => tot (t / 4) * ind u / xInd ind q (t / 4)) (4 * (t / 4)) (yN q (t / 4)) then 1 else 0)
def mvI (ind x : Int → Int) (k t : Int) : Int := if k = 0 then x t - ind t - (x (t - 1) - ind (t - 1)) else x t * ind (t - 1) - x (t - 1) * ind t
def xMoved (ind x : Int → Int) (q k : Int) : Int := sumI (fun t => mvI ind x k t * mvI ind x k t) 1 (q - 1).toNat
end
section
/-! the tests that BentQuarters has for all: within, isYear, isForm, isRefusal -/
abbrev rm_X5_within : Room := { frames := 0, cells := 0, slots := 0, locals := 0 }
set_option maxHeartbeats 4000000 in
set_option maxRecDepth 100000 in
theorem c_X5_within (l : Launch) (D : va_G) (y : CY) (z sz : Nat) (v : Int) (lo : Int) (hi : Int) (hv : sm v) (hlo : sm lo) (hhi : sm hi) : Met l yX5_within (Cond.code yX5_within cX5_within 3 (some .boolean) :: TW) rm_X5_within (va_Pc [.int (iI v), .int (iI lo), .int (iI hi)] (PX D y z [] sz)) (va_Qi (fun (r : Int32) (u : Unit) => r = bB (decide (lo ≤ v ∧ v ≤ hi))) (fun u t => BX D [] (va_A [] sz) t) (va_A [] sz)) 0 0 (va_A [] sz) := by
  refine xm_i (by decide) (Nat.le_of_ble_eq_true rfl) (fun p e s m args below meth c ls A Q E hr hnm hX hl hQ => ?_)
  have hl : lv_has ls 3 [(0, .int (iI v)), (1, .int (iI lo)), (2, .int (iI hi))] := hl
  refine xr_iload_n E hl 0 rfl dX5_within_0 rfl ?_
  refine xr_iload_n E hl 1 rfl dX5_within_1 rfl ?_
  refine xr_icmp_lt (tgt := 14) E dX5_within_2 (by decide) ⟨by omega, by omega⟩ ⟨by omega, by omega⟩ (fun c_2 => ?_) (fun c_2 => ?_)
  · have c_2 := c_2
    refine xr_iconst E dX5_within_14 ?_
    exact xr_zret E hX hQ () hr (iI_bB0 (b := false) rfl) (iI_bB0 (decide_eq_false (by omega))) rfl dX5_within_15
  · have c_2 := c_2
    refine xr_iload_n E hl 0 rfl dX5_within_5 rfl ?_
    refine xr_iload_n E hl 2 rfl dX5_within_6 rfl ?_
    refine xr_icmp_gt (tgt := 14) E dX5_within_7 (by decide) ⟨by omega, by omega⟩ ⟨by omega, by omega⟩ (fun c_7 => ?_) (fun c_7 => ?_)
    · have c_7 := c_7
      refine xr_iconst E dX5_within_14 ?_
      exact xr_zret E hX hQ () hr (iI_bB0 (b := false) rfl) (iI_bB0 (decide_eq_false (by omega))) rfl dX5_within_15
    · have c_7 := c_7
      refine xr_iconst E dX5_within_10 ?_
      refine xr_goto (tgt := 15) E dX5_within_11 (by decide) ?_
      exact xr_zret E hX hQ () hr (iI_bB1 (b := true) rfl) (iI_bB1 (decide_eq_true (by omega))) rfl dX5_within_15
abbrev rm_X5_isYear : Room := { frames := 1, cells := 0, slots := 0, locals := 22 }
set_option maxHeartbeats 4000000 in
set_option maxRecDepth 100000 in
theorem c_X5_isYear (l : Launch) (D : va_G) (y : CY) (z sz : Nat) (v : Int) (hv : sm v) : Met l yX5_isYear (Cond.code yX5_isYear cX5_isYear 1 (some .boolean) :: TW) rm_X5_isYear (va_Pc [.int (iI v)] (PX D y z [] sz)) (va_Qi (fun (r : Int32) (u : Unit) => r = bB (decide (0 ≤ v ∧ v ≤ 2))) (fun u t => BX D [] (va_A [] sz) t) (va_A [] sz)) 0 0 (va_A [] sz) := by
  refine xm_i (by decide) (Nat.le_of_ble_eq_true rfl) (fun p e s m args below meth c ls A Q E hr hnm hX hl hQ => ?_)
  have hl : lv_has ls 1 [(0, .int (iI v))] := hl
  refine xr_iload_n E hl 0 rfl dX5_isYear_0 rfl ?_
  refine xr_iconst E dX5_isYear_1 ?_
  refine xr_iconst E dX5_isYear_2 ?_
  refine xk_ri E hX [] rfl (xv_S (As := [.int (iI v), .int (iI 0), .int (iI 2)]) E hX hl (c_X5_within l D y z _ v 0 2 ⟨by omega, by omega⟩ (by decide) (by decide)) ml_X5_85 st_X5_within in_X5 co_X5_within 3 (by decide) ⟨rfl, rfl⟩ ⟨Nat.le_of_ble_eq_true rfl, Nat.le_of_ble_eq_true rfl⟩ [] rfl rfl rfl rfl (Nat.le_of_ble_eq_true rfl) dX5_isYear_3 ⟨Nat.le_refl _, Nat.le_refl _⟩) (fun r_3 H locs hw hX => ?_)
  subst hw
  exact xr_zret E hX hQ () hr rfl rfl rfl dX5_isYear_6
abbrev rm_X5_isForm : Room := { frames := 1, cells := 0, slots := 0, locals := 22 }
set_option maxHeartbeats 4000000 in
set_option maxRecDepth 100000 in
theorem c_X5_isForm (l : Launch) (D : va_G) (y : CY) (z sz : Nat) (v : Int) (hv : sm v) : Met l yX5_isForm (Cond.code yX5_isForm cX5_isForm 1 (some .boolean) :: TW) rm_X5_isForm (va_Pc [.int (iI v)] (PX D y z [] sz)) (va_Qi (fun (r : Int32) (u : Unit) => r = bB (decide (0 ≤ v ∧ v ≤ 1))) (fun u t => BX D [] (va_A [] sz) t) (va_A [] sz)) 0 0 (va_A [] sz) := by
  refine xm_i (by decide) (Nat.le_of_ble_eq_true rfl) (fun p e s m args below meth c ls A Q E hr hnm hX hl hQ => ?_)
  have hl : lv_has ls 1 [(0, .int (iI v))] := hl
  refine xr_iload_n E hl 0 rfl dX5_isForm_0 rfl ?_
  refine xr_iconst E dX5_isForm_1 ?_
  refine xr_iconst E dX5_isForm_2 ?_
  refine xk_ri E hX [] rfl (xv_S (As := [.int (iI v), .int (iI 0), .int (iI 1)]) E hX hl (c_X5_within l D y z _ v 0 1 ⟨by omega, by omega⟩ (by decide) (by decide)) ml_X5_85 st_X5_within in_X5 co_X5_within 3 (by decide) ⟨rfl, rfl⟩ ⟨Nat.le_of_ble_eq_true rfl, Nat.le_of_ble_eq_true rfl⟩ [] rfl rfl rfl rfl (Nat.le_of_ble_eq_true rfl) dX5_isForm_3 ⟨Nat.le_refl _, Nat.le_refl _⟩) (fun r_3 H locs hw hX => ?_)
  subst hw
  exact xr_zret E hX hQ () hr rfl rfl rfl dX5_isForm_6
abbrev rm_X5_isRefusal : Room := { frames := 0, cells := 0, slots := 0, locals := 0 }
set_option maxHeartbeats 4000000 in
set_option maxRecDepth 100000 in
theorem c_X5_isRefusal (l : Launch) (D : va_G) (y : CY) (z sz : Nat) (v : Int) (hv : sm v) : Met l yX5_isRefusal (Cond.code yX5_isRefusal cX5_isRefusal 1 (some .boolean) :: TW) rm_X5_isRefusal (va_Pc [.int (iI v)] (PX D y z [] sz)) (va_Qi (fun (r : Int32) (u : Unit) => r = bB (decide (v < -1))) (fun u t => BX D [] (va_A [] sz) t) (va_A [] sz)) 0 0 (va_A [] sz) := by
  refine xm_i (by decide) (Nat.le_of_ble_eq_true rfl) (fun p e s m args below meth c ls A Q E hr hnm hX hl hQ => ?_)
  have hl : lv_has ls 1 [(0, .int (iI v))] := hl
  refine xr_iload_n E hl 0 rfl dX5_isRefusal_0 rfl ?_
  refine xr_iconst E dX5_isRefusal_1 ?_
  refine xr_icmp_ge (tgt := 9) E dX5_isRefusal_2 (by decide) ⟨by omega, by omega⟩ (by decide) (fun c_2 => ?_) (fun c_2 => ?_)
  · have c_2 := c_2
    refine xr_iconst E dX5_isRefusal_9 ?_
    exact xr_zret E hX hQ () hr (iI_bB0 (b := false) rfl) (iI_bB0 (decide_eq_false (by omega))) rfl dX5_isRefusal_10
  · have c_2 := c_2
    refine xr_iconst E dX5_isRefusal_5 ?_
    refine xr_goto (tgt := 10) E dX5_isRefusal_6 (by decide) ?_
    exact xr_zret E hX hQ () hr (iI_bB1 (b := true) rfl) (iI_bB1 (decide_eq_true (by omega))) rfl dX5_isRefusal_10
end
section
/-! Figures -/
abbrev W_F (y : CY) (hF a_ind a_tot a_pri : Nat) (ind : Int → Int) (tot : Int → Int) (pri : Int → Int) (q : Int) (fr : Int) (li : Int) (sh : Int) : va_W := [(hF, .inr (2, [.ref a_ind, .ref a_tot, .ref a_pri, .int (iI q), .int (iI fr), .int (iI li), .int (iI sh)])), (a_ind, .inl (y.1, 12, .inl (ia ind))), (a_tot, .inl (y.1, 3, .inl (ia tot))), (a_pri, .inl (y.1, 12, .inl (ia pri)))]
abbrev rm_X2_has : Room := { frames := 1, cells := 0, slots := 0, locals := 22 }
set_option maxHeartbeats 4000000 in
set_option maxRecDepth 100000 in
theorem c_X2_has (l : Launch) (D : va_G) (y : CY) (z sz : Nat) (hF a_ind a_tot a_pri : Nat) (ind : Int → Int) (tot : Int → Int) (pri : Int → Int) (q : Int) (fr : Int) (li : Int) (sh : Int) (t : Int) (ht : sm t) (hq : 0 ≤ q ∧ q ≤ 12) : Met l yX2_has (Cond.code yX2_has cX2_has 2 (some .boolean) :: TW) rm_X2_has (va_Pc [.ref hF, .int (iI t)] (PX D y z (W_F y hF a_ind a_tot a_pri ind tot pri q fr li sh) sz)) (va_Qi (fun (r : Int32) (u : Unit) => r = bB (decide (0 ≤ t ∧ t ≤ q - 1))) (fun u t => BX D (W_F y hF a_ind a_tot a_pri ind tot pri q fr li sh) (va_A (W_F y hF a_ind a_tot a_pri ind tot pri q fr li sh) sz) t) (va_A (W_F y hF a_ind a_tot a_pri ind tot pri q fr li sh) sz)) 0 0 (va_A (W_F y hF a_ind a_tot a_pri ind tot pri q fr li sh) sz) := by
  refine xm_i (by decide) (Nat.le_of_ble_eq_true rfl) (fun p e s m args below meth c ls A Q E hr hnm hX hl hQ => ?_)
  have hl : lv_has ls 2 [(0, .ref hF), (1, .int (iI t))] := hl
  refine xr_iload_n E hl 1 rfl dX2_has_0 rfl ?_
  refine xr_iconst E dX2_has_1 ?_
  refine xr_aload_n E hl 0 rfl dX2_has_2 rfl ?_
  refine xr_get E hX 0 rfl rfl ly_X2 3 (by decide) fl_X2_21 rfl dX2_has_3 ?_
  refine xr_iconst E dX2_has_6 ?_
  refine xr_isub E dX2_has_7 ?_
  refine xk_ri E hX [] rfl (xv_SN (As := [.int (iI t), .int (iI 0), .int (iI (q - 1))]) E hX hl (c_X5_within l D y z _ t 0 (q - 1) ⟨by omega, by omega⟩ ⟨by omega, by omega⟩ ⟨by omega, by omega⟩) E.2.2.2.2.2.2.1.2.2.2.2.1 st_X5_within in_X5 co_X5_within 3 (by decide) ⟨rfl, rfl⟩ ⟨Nat.le_of_ble_eq_true rfl, Nat.le_of_ble_eq_true rfl⟩ [] rfl rfl rfl rfl (Nat.le_of_ble_eq_true rfl) dX2_has_8 ⟨Nat.le_refl _, Nat.le_refl _⟩) (fun r_8 H locs hw hX => ?_)
  subst hw
  exact xr_zret E hX hQ () hr rfl rfl rfl dX2_has_11
abbrev rm_X2_isPrinted : Room := { frames := 0, cells := 0, slots := 0, locals := 0 }
set_option maxHeartbeats 4000000 in
set_option maxRecDepth 100000 in
theorem c_X2_isPrinted (l : Launch) (D : va_G) (y : CY) (z sz : Nat) (hF a_ind a_tot a_pri : Nat) (ind : Int → Int) (tot : Int → Int) (pri : Int → Int) (q : Int) (fr : Int) (li : Int) (sh : Int) (t : Int) (ht : 0 ≤ t ∧ t < 12) (hp : sm (pri t)) : Met l yX2_isPrinted (Cond.code yX2_isPrinted cX2_isPrinted 2 (some .boolean) :: TW) rm_X2_isPrinted (va_Pc [.ref hF, .int (iI t)] (PX D y z (W_F y hF a_ind a_tot a_pri ind tot pri q fr li sh) sz)) (va_Qi (fun (r : Int32) (u : Unit) => r = bB (decide (pri t ≠ -1))) (fun u t => BX D (W_F y hF a_ind a_tot a_pri ind tot pri q fr li sh) (va_A (W_F y hF a_ind a_tot a_pri ind tot pri q fr li sh) sz) t) (va_A (W_F y hF a_ind a_tot a_pri ind tot pri q fr li sh) sz)) 0 0 (va_A (W_F y hF a_ind a_tot a_pri ind tot pri q fr li sh) sz) := by
  refine xm_i (by decide) (Nat.le_of_ble_eq_true rfl) (fun p e s m args below meth c ls A Q E hr hnm hX hl hQ => ?_)
  have hl : lv_has ls 2 [(0, .ref hF), (1, .int (iI t))] := hl
  refine xr_aload_n E hl 0 rfl dX2_isPrinted_0 rfl ?_
  refine xr_get E hX 0 rfl rfl ly_X2 2 (by decide) fl_X2_18 rfl dX2_isPrinted_1 ?_
  refine xr_iload_n E hl 1 rfl dX2_isPrinted_4 rfl ?_
  refine xr_iald E hX 3 rfl (by omega) (by omega) (by decide) dX2_isPrinted_5 ?_
  refine xr_iconst E dX2_isPrinted_6 ?_
  refine xr_icmp_eq (tgt := 14) E dX2_isPrinted_7 (by decide) ⟨by omega, by omega⟩ (by decide) (fun c_7 => ?_) (fun c_7 => ?_)
  · have c_7 := c_7
    refine xr_iconst E dX2_isPrinted_14 ?_
    exact xr_zret E hX hQ () hr (iI_bB0 (b := false) rfl) (iI_bB0 (decide_eq_false (by omega))) rfl dX2_isPrinted_15
  · have c_7 := c_7
    refine xr_iconst E dX2_isPrinted_10 ?_
    refine xr_goto (tgt := 15) E dX2_isPrinted_11 (by decide) ?_
    exact xr_zret E hX hQ () hr (iI_bB1 (b := true) rfl) (iI_bB1 (decide_eq_true (by omega))) rfl dX2_isPrinted_15
abbrev rm_X2_isFrozen : Room := { frames := 0, cells := 0, slots := 0, locals := 0 }
set_option maxHeartbeats 4000000 in
set_option maxRecDepth 100000 in
theorem c_X2_isFrozen (l : Launch) (D : va_G) (y : CY) (z sz : Nat) (hF a_ind a_tot a_pri : Nat) (ind : Int → Int) (tot : Int → Int) (pri : Int → Int) (q : Int) (fr : Int) (li : Int) (sh : Int) (t : Int) : Met l yX2_isFrozen (Cond.code yX2_isFrozen cX2_isFrozen 2 (some .boolean) :: TW) rm_X2_isFrozen (va_Pc [.ref hF, .int (iI t)] (PX D y z (W_F y hF a_ind a_tot a_pri ind tot pri q fr li sh) sz)) (va_Qi (fun (r : Int32) (u : Unit) => r = bB (decide (bAnd (bShr fr t) 1 = 1))) (fun u t => BX D (W_F y hF a_ind a_tot a_pri ind tot pri q fr li sh) (va_A (W_F y hF a_ind a_tot a_pri ind tot pri q fr li sh) sz) t) (va_A (W_F y hF a_ind a_tot a_pri ind tot pri q fr li sh) sz)) 0 0 (va_A (W_F y hF a_ind a_tot a_pri ind tot pri q fr li sh) sz) := by
  refine xm_i (by decide) (Nat.le_of_ble_eq_true rfl) (fun p e s m args below meth c ls A Q E hr hnm hX hl hQ => ?_)
  have hl : lv_has ls 2 [(0, .ref hF), (1, .int (iI t))] := hl
  have hp := bAnd1 (bShr fr t)
  refine xr_aload_n E hl 0 rfl dX2_isFrozen_0 rfl ?_
  refine xr_get E hX 0 rfl rfl ly_X2 4 (by decide) fl_X2_25 rfl dX2_isFrozen_1 ?_
  refine xr_iload_n E hl 1 rfl dX2_isFrozen_4 rfl ?_
  refine xr_ishr E dX2_isFrozen_5 ?_
  refine xr_iconst E dX2_isFrozen_6 ?_
  refine xr_iand E dX2_isFrozen_7 ?_
  refine xr_iconst E dX2_isFrozen_8 ?_
  refine xr_icmp_ne (tgt := 16) E dX2_isFrozen_9 (by decide) ⟨by omega, by omega⟩ (by decide) (fun c_9 => ?_) (fun c_9 => ?_)
  · have c_9 := c_9
    refine xr_iconst E dX2_isFrozen_16 ?_
    exact xr_zret E hX hQ () hr (iI_bB0 (b := false) rfl) (iI_bB0 (decide_eq_false (by omega))) rfl dX2_isFrozen_17
  · have c_9 := c_9
    refine xr_iconst E dX2_isFrozen_12 ?_
    refine xr_goto (tgt := 17) E dX2_isFrozen_13 (by decide) ?_
    exact xr_zret E hX hQ () hr (iI_bB1 (b := true) rfl) (iI_bB1 (decide_eq_true (by omega))) rfl dX2_isFrozen_17
def xAdds_r (i q : Int) : Int := if 1 ≤ i ∧ i ≤ 99 then (if 12 ≤ q then -4 else q) else -2
def xAdds_ind (i : Int) (ind : Int → Int) (q : Int) : Int → Int := if 1 ≤ i ∧ i ≤ 99 then (if 12 ≤ q then ind else up ind q i) else ind
def xAdds_q (i q : Int) : Int := if 1 ≤ i ∧ i ≤ 99 then (if 12 ≤ q then q else q + 1) else q
abbrev rm_X2_adds : Room := { frames := 1, cells := 0, slots := 0, locals := 22 }
set_option maxHeartbeats 4000000 in
set_option maxRecDepth 100000 in
theorem c_X2_adds (l : Launch) (D : va_G) (y : CY) (z sz : Nat) (hF a_ind a_tot a_pri : Nat) (ind : Int → Int) (tot : Int → Int) (pri : Int → Int) (q : Int) (fr : Int) (li : Int) (sh : Int) (i : Int) (hi : sm i) (H_I : FI ind tot pri q fr li sh) : Met l yX2_adds (Cond.code yX2_adds cX2_adds 2 (some .int) :: TW) rm_X2_adds (va_Pc [.ref hF, .int (iI i)] (PX D y z (W_F y hF a_ind a_tot a_pri ind tot pri q fr li sh) sz)) (va_Qi (fun (r : Int32) (u : (Int → Int) × (Int)) => r = iI (xAdds_r i q) ∧ u = (xAdds_ind i ind q, xAdds_q i q)) (fun u t => BX D (W_F y hF a_ind a_tot a_pri u.1 tot pri u.2 fr li sh) (va_A (W_F y hF a_ind a_tot a_pri ind tot pri q fr li sh) sz) t) (va_A (W_F y hF a_ind a_tot a_pri ind tot pri q fr li sh) sz)) 0 0 (va_A (W_F y hF a_ind a_tot a_pri ind tot pri q fr li sh) sz) := by
  refine xm_i (by decide) (Nat.le_of_ble_eq_true rfl) (fun p e s m args below meth c ls A Q E hr hnm hX hl hQ => ?_)
  have hl : lv_has ls 2 [(0, .ref hF), (1, .int (iI i))] := hl
  have hq := H_I.q
  have hfr := H_I.fr
  have hli := H_I.li
  have hsh := H_I.sh
  refine xr_iload_n E hl 1 rfl dX2_adds_0 rfl ?_
  refine xr_iconst E dX2_adds_1 ?_
  refine xr_bipush E dX2_adds_2 (by decide) ?_
  refine xk_ri E hX [] rfl (xv_SN (As := [.int (iI i), .int (iI 1), .int (iI 99)]) E hX hl (c_X5_within l D y z _ i 1 99 ⟨by omega, by omega⟩ ⟨by omega, by omega⟩ ⟨by omega, by omega⟩) E.2.2.2.2.2.2.1.2.2.2.2.1 st_X5_within in_X5 co_X5_within 3 (by decide) ⟨rfl, rfl⟩ ⟨Nat.le_of_ble_eq_true rfl, Nat.le_of_ble_eq_true rfl⟩ [] rfl rfl rfl rfl (Nat.le_of_ble_eq_true rfl) dX2_adds_4 ⟨Nat.le_refl _, Nat.le_refl _⟩) (fun r_4 H locs hw hX => ?_)
  subst hw
  refine xr_if_neB (tgt := 13) E dX2_adds_7 (by decide) (fun c_7 => ?_) (fun c_7 => ?_)
  · have c_7 := of_decide_eq_true c_7
    refine xr_aload_n E hl 0 rfl dX2_adds_13 rfl ?_
    refine xr_get E hX 0 rfl rfl ly_X2 3 (by decide) fl_X2_21 rfl dX2_adds_14 ?_
    refine xr_bipush E dX2_adds_17 (by decide) ?_
    refine xr_icmp_lt (tgt := 25) E dX2_adds_19 (by decide) ⟨by omega, by omega⟩ (by decide) (fun c_19 => ?_) (fun c_19 => ?_)
    · have c_19 := c_19
      refine xr_aload_n E hl 0 rfl dX2_adds_25 rfl ?_
      refine xr_get E hX 0 rfl rfl ly_X2 0 (by decide) fl_X2_9 rfl dX2_adds_26 ?_
      refine xr_aload_n E hl 0 rfl dX2_adds_29 rfl ?_
      refine xr_get E hX 0 rfl rfl ly_X2 3 (by decide) fl_X2_21 rfl dX2_adds_30 ?_
      refine xr_iload_n E hl 1 rfl dX2_adds_33 rfl ?_
      refine xr_iast (W1 := (W_F y hF a_ind a_tot a_pri (up ind q i) tot pri q fr li sh)) E hX 1 rfl (by omega) (by omega) (by decide) rfl dX2_adds_34 (fun H locs hX => ?_)
      refine xr_aload_n E hl 0 rfl dX2_adds_35 rfl ?_
      refine xr_dup E dX2_adds_36 rfl ?_
      refine xr_get E hX 0 rfl rfl ly_X2 3 (by decide) fl_X2_21 rfl dX2_adds_37 ?_
      refine xr_iconst E dX2_adds_40 ?_
      refine xr_iadd E dX2_adds_41 ?_
      refine xr_put (W1 := (W_F y hF a_ind a_tot a_pri (up ind q i) tot pri (q + 1) fr li sh)) E hX 0 rfl rfl ly_X2 tyX2_ok nmX2 3 (by decide) fl_X2_21 rfl rfl rfl (Nat.le_of_ble_eq_true rfl) rfl dX2_adds_42 (fun H locs hX => ?_)
      refine xr_aload_n E hl 0 rfl dX2_adds_45 rfl ?_
      refine xr_get E hX 0 rfl rfl ly_X2 3 (by decide) fl_X2_21 rfl dX2_adds_46 ?_
      refine xr_iconst E dX2_adds_49 ?_
      refine xr_isub E dX2_adds_50 ?_
      exact xr_iret E hX hQ ((up ind q i), (q + 1)) hr ⟨by unfold xAdds_r; (repeat' split) <;> first | (exfalso; omega) | rfl | (congr 1; omega) | (congr 2; omega), by unfold xAdds_ind xAdds_q; (repeat' split) <;> first | (exfalso; omega) | rfl | (congr 1; omega) | (congr 2; omega)⟩ rfl dX2_adds_51
    · have c_19 := c_19
      refine xr_bipush E dX2_adds_22 (by decide) ?_
      exact xr_iret E hX hQ (ind, q) hr ⟨by unfold xAdds_r; (repeat' split) <;> first | (exfalso; omega) | rfl | (congr 1; omega) | (congr 2; omega), by unfold xAdds_ind xAdds_q; (repeat' split) <;> first | (exfalso; omega) | rfl | (congr 1; omega) | (congr 2; omega)⟩ rfl dX2_adds_24
  · have c_7 := of_decide_eq_false c_7
    refine xr_bipush E dX2_adds_10 (by decide) ?_
    exact xr_iret E hX hQ (ind, q) hr ⟨by unfold xAdds_r; (repeat' split) <;> first | (exfalso; omega) | rfl | (congr 1; omega) | (congr 2; omega), by unfold xAdds_ind xAdds_q; (repeat' split) <;> first | (exfalso; omega) | rfl | (congr 1; omega) | (congr 2; omega)⟩ rfl dX2_adds_12
def xRe_r (t i : Int) (ind : Int → Int) (q : Int) : Int := if (0 ≤ t ∧ t ≤ q - 1) ∧ 1 ≤ i ∧ i ≤ 99 then ind t else -2
def xRe_ind (t i : Int) (ind : Int → Int) (q : Int) : Int → Int := if (0 ≤ t ∧ t ≤ q - 1) ∧ 1 ≤ i ∧ i ≤ 99 then up ind t i else ind
abbrev rm_X2_reindicates : Room := { frames := 2, cells := 0, slots := 0, locals := 43 }
set_option maxHeartbeats 4000000 in
set_option maxRecDepth 100000 in
theorem c_X2_reindicates (l : Launch) (D : va_G) (y : CY) (z sz : Nat) (hF a_ind a_tot a_pri : Nat) (ind : Int → Int) (tot : Int → Int) (pri : Int → Int) (q : Int) (fr : Int) (li : Int) (sh : Int) (t : Int) (i : Int) (ht : sm t) (hi : sm i) (H_I : FI ind tot pri q fr li sh) : Met l yX2_reindicates (Cond.code yX2_reindicates cX2_reindicates 4 (some .int) :: TW) rm_X2_reindicates (va_Pc [.ref hF, .int (iI t), .int (iI i)] (PX D y z (W_F y hF a_ind a_tot a_pri ind tot pri q fr li sh) sz)) (va_Qi (fun (r : Int32) (u : (Int → Int)) => r = iI (xRe_r t i ind q) ∧ u = xRe_ind t i ind q) (fun u t => BX D (W_F y hF a_ind a_tot a_pri u tot pri q fr li sh) (va_A (W_F y hF a_ind a_tot a_pri ind tot pri q fr li sh) sz) t) (va_A (W_F y hF a_ind a_tot a_pri ind tot pri q fr li sh) sz)) 0 0 (va_A (W_F y hF a_ind a_tot a_pri ind tot pri q fr li sh) sz) := by
  refine xm_i (by decide) (Nat.le_of_ble_eq_true rfl) (fun p e s m args below meth c ls A Q E hr hnm hX hl hQ => ?_)
  have hl : lv_has ls 4 [(0, .ref hF), (1, .int (iI t)), (2, .int (iI i))] := hl
  have hq := H_I.q
  have hfr := H_I.fr
  have hli := H_I.li
  have hsh := H_I.sh
  refine xr_aload_n E hl 0 rfl dX2_reindicates_0 rfl ?_
  refine xr_iload_n E hl 1 rfl dX2_reindicates_1 rfl ?_
  refine xk_ri E hX [0, 1, 2, 3] rfl (xv_V (As := [.int (iI t)]) E hX hl (c_X2_has l D y z _ hF a_ind a_tot a_pri ind tot pri q fr li sh t ⟨by omega, by omega⟩ ⟨by omega, by omega⟩) ml_X2_44 im_X2_has se_X2_has in_X2 co_X2_has 1 (by decide) ⟨rfl, rfl⟩ ⟨Nat.le_of_ble_eq_true rfl, Nat.le_of_ble_eq_true rfl⟩ [0, 1, 2, 3] rfl rfl 0 rfl rfl rfl rfl rfl (Nat.le_of_ble_eq_true rfl) dX2_reindicates_2 ⟨Nat.le_refl _, Nat.le_refl _⟩) (fun r_2 H locs hw hX => ?_)
  subst hw
  refine xr_if_eqB (tgt := 18) E dX2_reindicates_5 (by decide) (fun c_5 => ?_) (fun c_5 => ?_)
  · have c_5 := of_decide_eq_false c_5
    refine xr_bipush E dX2_reindicates_18 (by decide) ?_
    exact xr_iret E hX hQ ind hr ⟨by unfold xRe_r; (repeat' split) <;> first | (exfalso; omega) | rfl | (congr 1; omega) | (congr 2; omega), by unfold xRe_ind; (repeat' split) <;> first | (exfalso; omega) | rfl | (congr 1; omega) | (congr 2; omega)⟩ rfl dX2_reindicates_20
  · have c_5 := of_decide_eq_true c_5
    refine xr_iload_n E hl 2 rfl dX2_reindicates_8 rfl ?_
    refine xr_iconst E dX2_reindicates_9 ?_
    refine xr_bipush E dX2_reindicates_10 (by decide) ?_
    refine xk_ri E hX [] rfl (xv_SN (As := [.int (iI i), .int (iI 1), .int (iI 99)]) E hX hl (c_X5_within l D y z _ i 1 99 ⟨by omega, by omega⟩ ⟨by omega, by omega⟩ ⟨by omega, by omega⟩) E.2.2.2.2.2.2.1.2.2.2.2.1 st_X5_within in_X5 co_X5_within 3 (by decide) ⟨rfl, rfl⟩ ⟨Nat.le_of_ble_eq_true rfl, Nat.le_of_ble_eq_true rfl⟩ [] rfl rfl rfl rfl (Nat.le_of_ble_eq_true rfl) dX2_reindicates_12 ⟨Nat.le_refl _, Nat.le_refl _⟩) (fun r_12 H locs hw hX => ?_)
    subst hw
    refine xr_if_neB (tgt := 21) E dX2_reindicates_15 (by decide) (fun c_15 => ?_) (fun c_15 => ?_)
    · have c_15 := of_decide_eq_true c_15
      refine xr_aload_n E hl 0 rfl dX2_reindicates_21 rfl ?_
      refine xr_get E hX 0 rfl rfl ly_X2 0 (by decide) fl_X2_9 rfl dX2_reindicates_22 ?_
      refine xr_iload_n E hl 1 rfl dX2_reindicates_25 rfl ?_
      refine xr_iald E hX 1 rfl (by omega) (by omega) (by decide) dX2_reindicates_26 ?_
      refine xr_istore_n (lv' := [(3, .int (iI (ind t))), (0, .ref hF), (1, .int (iI t)), (2, .int (iI i))]) E hl dX2_reindicates_27 rfl (by decide) rfl (fun ls hl => ?_)
      refine xr_aload_n E hl 1 rfl dX2_reindicates_28 rfl ?_
      refine xr_get E hX 0 rfl rfl ly_X2 0 (by decide) fl_X2_9 rfl dX2_reindicates_29 ?_
      refine xr_iload_n E hl 2 rfl dX2_reindicates_32 rfl ?_
      refine xr_iload_n E hl 3 rfl dX2_reindicates_33 rfl ?_
      refine xr_iast (W1 := (W_F y hF a_ind a_tot a_pri (up ind t i) tot pri q fr li sh)) E hX 1 rfl (by omega) (by omega) (by decide) rfl dX2_reindicates_34 (fun H locs hX => ?_)
      refine xr_iload_n E hl 0 rfl dX2_reindicates_35 rfl ?_
      exact xr_iret E hX hQ (up ind t i) hr ⟨by unfold xRe_r; (repeat' split) <;> first | (exfalso; omega) | rfl | (congr 1; omega) | (congr 2; omega), by unfold xRe_ind; (repeat' split) <;> first | (exfalso; omega) | rfl | (congr 1; omega) | (congr 2; omega)⟩ rfl dX2_reindicates_36
    · have c_15 := of_decide_eq_false c_15
      refine xr_bipush E dX2_reindicates_18 (by decide) ?_
      exact xr_iret E hX hQ ind hr ⟨by unfold xRe_r; (repeat' split) <;> first | (exfalso; omega) | rfl | (congr 1; omega) | (congr 2; omega), by unfold xRe_ind; (repeat' split) <;> first | (exfalso; omega) | rfl | (congr 1; omega) | (congr 2; omega)⟩ rfl dX2_reindicates_20
def xTl_r (v w : Int) (tot : Int → Int) (q : Int) : Int := if (0 ≤ v ∧ v ≤ 2) ∧ 0 ≤ w ∧ w ≤ 999 then (if q < 4 * (v + 1) then -3 else tot v) else -2
def xTl_tot (v w : Int) (tot : Int → Int) (q : Int) : Int → Int := if (0 ≤ v ∧ v ≤ 2) ∧ 0 ≤ w ∧ w ≤ 999 then (if q < 4 * (v + 1) then tot else up tot v w) else tot
abbrev rm_X2_tells : Room := { frames := 2, cells := 0, slots := 0, locals := 42 }
set_option maxHeartbeats 4000000 in
set_option maxRecDepth 100000 in
theorem c_X2_tells (l : Launch) (D : va_G) (y : CY) (z sz : Nat) (hF a_ind a_tot a_pri : Nat) (ind : Int → Int) (tot : Int → Int) (pri : Int → Int) (q : Int) (fr : Int) (li : Int) (sh : Int) (v : Int) (w : Int) (hv : sm v) (hw : sm w) (H_I : FI ind tot pri q fr li sh) : Met l yX2_tells (Cond.code yX2_tells cX2_tells 4 (some .int) :: TW) rm_X2_tells (va_Pc [.ref hF, .int (iI v), .int (iI w)] (PX D y z (W_F y hF a_ind a_tot a_pri ind tot pri q fr li sh) sz)) (va_Qi (fun (r : Int32) (u : (Int → Int)) => r = iI (xTl_r v w tot q) ∧ u = xTl_tot v w tot q) (fun u t => BX D (W_F y hF a_ind a_tot a_pri ind u pri q fr li sh) (va_A (W_F y hF a_ind a_tot a_pri ind tot pri q fr li sh) sz) t) (va_A (W_F y hF a_ind a_tot a_pri ind tot pri q fr li sh) sz)) 0 0 (va_A (W_F y hF a_ind a_tot a_pri ind tot pri q fr li sh) sz) := by
  refine xm_i (by decide) (Nat.le_of_ble_eq_true rfl) (fun p e s m args below meth c ls A Q E hr hnm hX hl hQ => ?_)
  have hl : lv_has ls 4 [(0, .ref hF), (1, .int (iI v)), (2, .int (iI w))] := hl
  have hq := H_I.q
  have hfr := H_I.fr
  have hli := H_I.li
  have hsh := H_I.sh
  refine xr_iload_n E hl 1 rfl dX2_tells_0 rfl ?_
  refine xk_ri E hX [] rfl (xv_SN (As := [.int (iI v)]) E hX hl (c_X5_isYear l D y z _ v ⟨by omega, by omega⟩) E.2.2.2.2.2.2.1.2.2.2.2.2.1 st_X5_isYear in_X5 co_X5_isYear 1 (by decide) ⟨rfl, rfl⟩ ⟨Nat.le_of_ble_eq_true rfl, Nat.le_of_ble_eq_true rfl⟩ [] rfl rfl rfl rfl (Nat.le_of_ble_eq_true rfl) dX2_tells_1 ⟨Nat.le_refl _, Nat.le_refl _⟩) (fun r_1 H locs hw hX => ?_)
  subst hw
  refine xr_if_eqB (tgt := 18) E dX2_tells_4 (by decide) (fun c_4 => ?_) (fun c_4 => ?_)
  · have c_4 := of_decide_eq_false c_4
    refine xr_bipush E dX2_tells_18 (by decide) ?_
    exact xr_iret E hX hQ tot hr ⟨by unfold xTl_r; (repeat' split) <;> first | (exfalso; omega) | rfl | (congr 1; omega) | (congr 2; omega), by unfold xTl_tot; (repeat' split) <;> first | (exfalso; omega) | rfl | (congr 1; omega) | (congr 2; omega)⟩ rfl dX2_tells_20
  · have c_4 := of_decide_eq_true c_4
    refine xr_iload_n E hl 2 rfl dX2_tells_7 rfl ?_
    refine xr_iconst E dX2_tells_8 ?_
    refine xr_sipush E dX2_tells_9 (by decide) ?_
    refine xk_ri E hX [] rfl (xv_SN (As := [.int (iI w), .int (iI 0), .int (iI 999)]) E hX hl (c_X5_within l D y z _ w 0 999 ⟨by omega, by omega⟩ ⟨by omega, by omega⟩ ⟨by omega, by omega⟩) E.2.2.2.2.2.2.1.2.2.2.2.1 st_X5_within in_X5 co_X5_within 3 (by decide) ⟨rfl, rfl⟩ ⟨Nat.le_of_ble_eq_true rfl, Nat.le_of_ble_eq_true rfl⟩ [] rfl rfl rfl rfl (Nat.le_of_ble_eq_true rfl) dX2_tells_12 ⟨Nat.le_refl _, Nat.le_refl _⟩) (fun r_12 H locs hw hX => ?_)
    subst hw
    refine xr_if_neB (tgt := 21) E dX2_tells_15 (by decide) (fun c_15 => ?_) (fun c_15 => ?_)
    · have c_15 := of_decide_eq_true c_15
      refine xr_aload_n E hl 0 rfl dX2_tells_21 rfl ?_
      refine xr_get E hX 0 rfl rfl ly_X2 3 (by decide) fl_X2_21 rfl dX2_tells_22 ?_
      refine xr_iconst E dX2_tells_25 ?_
      refine xr_iload_n E hl 1 rfl dX2_tells_26 rfl ?_
      refine xr_iconst E dX2_tells_27 ?_
      refine xr_iadd E dX2_tells_28 ?_
      refine xr_imul E dX2_tells_29 ?_
      refine xr_icmp_ge (tgt := 36) E dX2_tells_30 (by decide) ⟨by omega, by omega⟩ ⟨by omega, by omega⟩ (fun c_30 => ?_) (fun c_30 => ?_)
      · have c_30 := c_30
        refine xr_aload_n E hl 0 rfl dX2_tells_36 rfl ?_
        refine xr_get E hX 0 rfl rfl ly_X2 1 (by decide) fl_X2_15 rfl dX2_tells_37 ?_
        refine xr_iload_n E hl 1 rfl dX2_tells_40 rfl ?_
        refine xr_iald E hX 2 rfl (by omega) (by omega) (by decide) dX2_tells_41 ?_
        refine xr_istore_n (lv' := [(3, .int (iI (tot v))), (0, .ref hF), (1, .int (iI v)), (2, .int (iI w))]) E hl dX2_tells_42 rfl (by decide) rfl (fun ls hl => ?_)
        refine xr_aload_n E hl 1 rfl dX2_tells_43 rfl ?_
        refine xr_get E hX 0 rfl rfl ly_X2 1 (by decide) fl_X2_15 rfl dX2_tells_44 ?_
        refine xr_iload_n E hl 2 rfl dX2_tells_47 rfl ?_
        refine xr_iload_n E hl 3 rfl dX2_tells_48 rfl ?_
        refine xr_iast (W1 := (W_F y hF a_ind a_tot a_pri ind (up tot v w) pri q fr li sh)) E hX 2 rfl (by omega) (by omega) (by decide) rfl dX2_tells_49 (fun H locs hX => ?_)
        refine xr_iload_n E hl 0 rfl dX2_tells_50 rfl ?_
        exact xr_iret E hX hQ (up tot v w) hr ⟨by unfold xTl_r; (repeat' split) <;> first | (exfalso; omega) | rfl | (congr 1; omega) | (congr 2; omega), by unfold xTl_tot; (repeat' split) <;> first | (exfalso; omega) | rfl | (congr 1; omega) | (congr 2; omega)⟩ rfl dX2_tells_51
      · have c_30 := c_30
        refine xr_bipush E dX2_tells_33 (by decide) ?_
        exact xr_iret E hX hQ tot hr ⟨by unfold xTl_r; (repeat' split) <;> first | (exfalso; omega) | rfl | (congr 1; omega) | (congr 2; omega), by unfold xTl_tot; (repeat' split) <;> first | (exfalso; omega) | rfl | (congr 1; omega) | (congr 2; omega)⟩ rfl dX2_tells_35
    · have c_15 := of_decide_eq_false c_15
      refine xr_bipush E dX2_tells_18 (by decide) ?_
      exact xr_iret E hX hQ tot hr ⟨by unfold xTl_r; (repeat' split) <;> first | (exfalso; omega) | rfl | (congr 1; omega) | (congr 2; omega), by unfold xTl_tot; (repeat' split) <;> first | (exfalso; omega) | rfl | (congr 1; omega) | (congr 2; omega)⟩ rfl dX2_tells_20
def xUn_r (v : Int) (tot : Int → Int) : Int := if 0 ≤ v ∧ v ≤ 2 then (if tot v = -1 then -3 else tot v) else -2
def xUn_tot (v : Int) (tot : Int → Int) : Int → Int := if 0 ≤ v ∧ v ≤ 2 then (if tot v = -1 then tot else up tot v (-1)) else tot
abbrev rm_X2_untells : Room := { frames := 2, cells := 0, slots := 0, locals := 42 }
set_option maxHeartbeats 4000000 in
set_option maxRecDepth 100000 in
theorem c_X2_untells (l : Launch) (D : va_G) (y : CY) (z sz : Nat) (hF a_ind a_tot a_pri : Nat) (ind : Int → Int) (tot : Int → Int) (pri : Int → Int) (q : Int) (fr : Int) (li : Int) (sh : Int) (v : Int) (hv : sm v) (H_I : FI ind tot pri q fr li sh) : Met l yX2_untells (Cond.code yX2_untells cX2_untells 3 (some .int) :: TW) rm_X2_untells (va_Pc [.ref hF, .int (iI v)] (PX D y z (W_F y hF a_ind a_tot a_pri ind tot pri q fr li sh) sz)) (va_Qi (fun (r : Int32) (u : (Int → Int)) => r = iI (xUn_r v tot) ∧ u = xUn_tot v tot) (fun u t => BX D (W_F y hF a_ind a_tot a_pri ind u pri q fr li sh) (va_A (W_F y hF a_ind a_tot a_pri ind tot pri q fr li sh) sz) t) (va_A (W_F y hF a_ind a_tot a_pri ind tot pri q fr li sh) sz)) 0 0 (va_A (W_F y hF a_ind a_tot a_pri ind tot pri q fr li sh) sz) := by
  refine xm_i (by decide) (Nat.le_of_ble_eq_true rfl) (fun p e s m args below meth c ls A Q E hr hnm hX hl hQ => ?_)
  have hl : lv_has ls 3 [(0, .ref hF), (1, .int (iI v))] := hl
  have hq := H_I.q
  have hfr := H_I.fr
  have hli := H_I.li
  have hsh := H_I.sh
  refine xr_iload_n E hl 1 rfl dX2_untells_0 rfl ?_
  refine xk_ri E hX [] rfl (xv_SN (As := [.int (iI v)]) E hX hl (c_X5_isYear l D y z _ v ⟨by omega, by omega⟩) E.2.2.2.2.2.2.1.2.2.2.2.2.1 st_X5_isYear in_X5 co_X5_isYear 1 (by decide) ⟨rfl, rfl⟩ ⟨Nat.le_of_ble_eq_true rfl, Nat.le_of_ble_eq_true rfl⟩ [] rfl rfl rfl rfl (Nat.le_of_ble_eq_true rfl) dX2_untells_1 ⟨Nat.le_refl _, Nat.le_refl _⟩) (fun r_1 H locs hw hX => ?_)
  subst hw
  refine xr_if_neB (tgt := 10) E dX2_untells_4 (by decide) (fun c_4 => ?_) (fun c_4 => ?_)
  · have c_4 := of_decide_eq_true c_4
    have ht := H_I.tot (v := v) (by omega) (by omega)
    refine xr_aload_n E hl 0 rfl dX2_untells_10 rfl ?_
    refine xr_get E hX 0 rfl rfl ly_X2 1 (by decide) fl_X2_15 rfl dX2_untells_11 ?_
    refine xr_iload_n E hl 1 rfl dX2_untells_14 rfl ?_
    refine xr_iald E hX 2 rfl (by omega) (by omega) (by decide) dX2_untells_15 ?_
    refine xr_iconst E dX2_untells_16 ?_
    refine xr_icmp_ne (tgt := 23) E dX2_untells_17 (by decide) ⟨by omega, by omega⟩ (by decide) (fun c_17 => ?_) (fun c_17 => ?_)
    · have c_17 := c_17
      refine xr_aload_n E hl 0 rfl dX2_untells_23 rfl ?_
      refine xr_get E hX 0 rfl rfl ly_X2 1 (by decide) fl_X2_15 rfl dX2_untells_24 ?_
      refine xr_iload_n E hl 1 rfl dX2_untells_27 rfl ?_
      refine xr_iald E hX 2 rfl (by omega) (by omega) (by decide) dX2_untells_28 ?_
      refine xr_istore_n (lv' := [(2, .int (iI (tot v))), (0, .ref hF), (1, .int (iI v))]) E hl dX2_untells_29 rfl (by decide) rfl (fun ls hl => ?_)
      refine xr_aload_n E hl 1 rfl dX2_untells_30 rfl ?_
      refine xr_get E hX 0 rfl rfl ly_X2 1 (by decide) fl_X2_15 rfl dX2_untells_31 ?_
      refine xr_iload_n E hl 2 rfl dX2_untells_34 rfl ?_
      refine xr_iconst E dX2_untells_35 ?_
      refine xr_iast (W1 := (W_F y hF a_ind a_tot a_pri ind (up tot v (-1)) pri q fr li sh)) E hX 2 rfl (by omega) (by omega) (by decide) rfl dX2_untells_36 (fun H locs hX => ?_)
      refine xr_iload_n E hl 0 rfl dX2_untells_37 rfl ?_
      exact xr_iret E hX hQ (up tot v (-1)) hr ⟨by unfold xUn_r; (repeat' split) <;> first | (exfalso; omega) | rfl | (congr 1; omega) | (congr 2; omega), by unfold xUn_tot; (repeat' split) <;> first | (exfalso; omega) | rfl | (congr 1; omega) | (congr 2; omega)⟩ rfl dX2_untells_38
    · have c_17 := c_17
      refine xr_bipush E dX2_untells_20 (by decide) ?_
      exact xr_iret E hX hQ tot hr ⟨by unfold xUn_r; (repeat' split) <;> first | (exfalso; omega) | rfl | (congr 1; omega) | (congr 2; omega), by unfold xUn_tot; (repeat' split) <;> first | (exfalso; omega) | rfl | (congr 1; omega) | (congr 2; omega)⟩ rfl dX2_untells_22
  · have c_4 := of_decide_eq_false c_4
    refine xr_bipush E dX2_untells_7 (by decide) ?_
    exact xr_iret E hX hQ tot hr ⟨by unfold xUn_r; (repeat' split) <;> first | (exfalso; omega) | rfl | (congr 1; omega) | (congr 2; omega), by unfold xUn_tot; (repeat' split) <;> first | (exfalso; omega) | rfl | (congr 1; omega) | (congr 2; omega)⟩ rfl dX2_untells_9
def xBo_r (v li : Int) : Int := if -1 ≤ v ∧ v ≤ 24 then li else -2
def xBo_l (v li : Int) : Int := if -1 ≤ v ∧ v ≤ 24 then v else li
abbrev rm_X2_bounds : Room := { frames := 1, cells := 0, slots := 0, locals := 22 }
set_option maxHeartbeats 4000000 in
set_option maxRecDepth 100000 in
theorem c_X2_bounds (l : Launch) (D : va_G) (y : CY) (z sz : Nat) (hF a_ind a_tot a_pri : Nat) (ind : Int → Int) (tot : Int → Int) (pri : Int → Int) (q : Int) (fr : Int) (li : Int) (sh : Int) (v : Int) (hv : sm v) (H_I : FI ind tot pri q fr li sh) : Met l yX2_bounds (Cond.code yX2_bounds cX2_bounds 3 (some .int) :: TW) rm_X2_bounds (va_Pc [.ref hF, .int (iI v)] (PX D y z (W_F y hF a_ind a_tot a_pri ind tot pri q fr li sh) sz)) (va_Qi (fun (r : Int32) (u : (Int)) => r = iI (xBo_r v li) ∧ u = xBo_l v li) (fun u t => BX D (W_F y hF a_ind a_tot a_pri ind tot pri q fr u sh) (va_A (W_F y hF a_ind a_tot a_pri ind tot pri q fr li sh) sz) t) (va_A (W_F y hF a_ind a_tot a_pri ind tot pri q fr li sh) sz)) 0 0 (va_A (W_F y hF a_ind a_tot a_pri ind tot pri q fr li sh) sz) := by
  refine xm_i (by decide) (Nat.le_of_ble_eq_true rfl) (fun p e s m args below meth c ls A Q E hr hnm hX hl hQ => ?_)
  have hl : lv_has ls 3 [(0, .ref hF), (1, .int (iI v))] := hl
  have hq := H_I.q
  have hfr := H_I.fr
  have hli := H_I.li
  have hsh := H_I.sh
  refine xr_iload_n E hl 1 rfl dX2_bounds_0 rfl ?_
  refine xr_iconst E dX2_bounds_1 ?_
  refine xr_icmp_eq (tgt := 18) E dX2_bounds_2 (by decide) ⟨by omega, by omega⟩ (by decide) (fun c_2 => ?_) (fun c_2 => ?_)
  · have c_2 := c_2
    refine xr_aload_n E hl 0 rfl dX2_bounds_18 rfl ?_
    refine xr_get E hX 0 rfl rfl ly_X2 5 (by decide) fl_X2_28 rfl dX2_bounds_19 ?_
    refine xr_istore_n (lv' := [(2, .int (iI li)), (0, .ref hF), (1, .int (iI v))]) E hl dX2_bounds_22 rfl (by decide) rfl (fun ls hl => ?_)
    refine xr_aload_n E hl 1 rfl dX2_bounds_23 rfl ?_
    refine xr_iload_n E hl 2 rfl dX2_bounds_24 rfl ?_
    refine xr_put (W1 := (W_F y hF a_ind a_tot a_pri ind tot pri q fr v sh)) E hX 0 rfl rfl ly_X2 tyX2_ok nmX2 5 (by decide) fl_X2_28 rfl rfl rfl (Nat.le_of_ble_eq_true rfl) rfl dX2_bounds_25 (fun H locs hX => ?_)
    refine xr_iload_n E hl 0 rfl dX2_bounds_28 rfl ?_
    exact xr_iret E hX hQ v hr ⟨by unfold xBo_r; (repeat' split) <;> first | (exfalso; omega) | rfl | (congr 1; omega) | (congr 2; omega), by unfold xBo_l; (repeat' split) <;> first | (exfalso; omega) | rfl | (congr 1; omega) | (congr 2; omega)⟩ rfl dX2_bounds_29
  · have c_2 := c_2
    refine xr_iload_n E hl 1 rfl dX2_bounds_5 rfl ?_
    refine xr_iconst E dX2_bounds_6 ?_
    refine xr_bipush E dX2_bounds_7 (by decide) ?_
    refine xk_ri E hX [] rfl (xv_SN (As := [.int (iI v), .int (iI 0), .int (iI 24)]) E hX hl (c_X5_within l D y z _ v 0 24 ⟨by omega, by omega⟩ ⟨by omega, by omega⟩ ⟨by omega, by omega⟩) E.2.2.2.2.2.2.1.2.2.2.2.1 st_X5_within in_X5 co_X5_within 3 (by decide) ⟨rfl, rfl⟩ ⟨Nat.le_of_ble_eq_true rfl, Nat.le_of_ble_eq_true rfl⟩ [] rfl rfl rfl rfl (Nat.le_of_ble_eq_true rfl) dX2_bounds_9 ⟨Nat.le_refl _, Nat.le_refl _⟩) (fun r_9 H locs hw hX => ?_)
    subst hw
    refine xr_if_neB (tgt := 18) E dX2_bounds_12 (by decide) (fun c_12 => ?_) (fun c_12 => ?_)
    · have c_12 := of_decide_eq_true c_12
      refine xr_aload_n E hl 0 rfl dX2_bounds_18 rfl ?_
      refine xr_get E hX 0 rfl rfl ly_X2 5 (by decide) fl_X2_28 rfl dX2_bounds_19 ?_
      refine xr_istore_n (lv' := [(2, .int (iI li)), (0, .ref hF), (1, .int (iI v))]) E hl dX2_bounds_22 rfl (by decide) rfl (fun ls hl => ?_)
      refine xr_aload_n E hl 1 rfl dX2_bounds_23 rfl ?_
      refine xr_iload_n E hl 2 rfl dX2_bounds_24 rfl ?_
      refine xr_put (W1 := (W_F y hF a_ind a_tot a_pri ind tot pri q fr v sh)) E hX 0 rfl rfl ly_X2 tyX2_ok nmX2 5 (by decide) fl_X2_28 rfl rfl rfl (Nat.le_of_ble_eq_true rfl) rfl dX2_bounds_25 (fun H locs hX => ?_)
      refine xr_iload_n E hl 0 rfl dX2_bounds_28 rfl ?_
      exact xr_iret E hX hQ v hr ⟨by unfold xBo_r; (repeat' split) <;> first | (exfalso; omega) | rfl | (congr 1; omega) | (congr 2; omega), by unfold xBo_l; (repeat' split) <;> first | (exfalso; omega) | rfl | (congr 1; omega) | (congr 2; omega)⟩ rfl dX2_bounds_29
    · have c_12 := of_decide_eq_false c_12
      refine xr_bipush E dX2_bounds_15 (by decide) ?_
      exact xr_iret E hX hQ li hr ⟨by unfold xBo_r; (repeat' split) <;> first | (exfalso; omega) | rfl | (congr 1; omega) | (congr 2; omega), by unfold xBo_l; (repeat' split) <;> first | (exfalso; omega) | rfl | (congr 1; omega) | (congr 2; omega)⟩ rfl dX2_bounds_17
def xSh_r (v sh : Int) : Int := if 0 ≤ v ∧ v ≤ 1 then sh else -2
def xSh_s (v sh : Int) : Int := if 0 ≤ v ∧ v ≤ 1 then v else sh
abbrev rm_X2_shapes : Room := { frames := 2, cells := 0, slots := 0, locals := 42 }
set_option maxHeartbeats 4000000 in
set_option maxRecDepth 100000 in
theorem c_X2_shapes (l : Launch) (D : va_G) (y : CY) (z sz : Nat) (hF a_ind a_tot a_pri : Nat) (ind : Int → Int) (tot : Int → Int) (pri : Int → Int) (q : Int) (fr : Int) (li : Int) (sh : Int) (v : Int) (hv : sm v) (H_I : FI ind tot pri q fr li sh) : Met l yX2_shapes (Cond.code yX2_shapes cX2_shapes 3 (some .int) :: TW) rm_X2_shapes (va_Pc [.ref hF, .int (iI v)] (PX D y z (W_F y hF a_ind a_tot a_pri ind tot pri q fr li sh) sz)) (va_Qi (fun (r : Int32) (u : (Int)) => r = iI (xSh_r v sh) ∧ u = xSh_s v sh) (fun u t => BX D (W_F y hF a_ind a_tot a_pri ind tot pri q fr li u) (va_A (W_F y hF a_ind a_tot a_pri ind tot pri q fr li sh) sz) t) (va_A (W_F y hF a_ind a_tot a_pri ind tot pri q fr li sh) sz)) 0 0 (va_A (W_F y hF a_ind a_tot a_pri ind tot pri q fr li sh) sz) := by
  refine xm_i (by decide) (Nat.le_of_ble_eq_true rfl) (fun p e s m args below meth c ls A Q E hr hnm hX hl hQ => ?_)
  have hl : lv_has ls 3 [(0, .ref hF), (1, .int (iI v))] := hl
  have hq := H_I.q
  have hfr := H_I.fr
  have hli := H_I.li
  have hsh := H_I.sh
  refine xr_iload_n E hl 1 rfl dX2_shapes_0 rfl ?_
  refine xk_ri E hX [] rfl (xv_SN (As := [.int (iI v)]) E hX hl (c_X5_isForm l D y z _ v ⟨by omega, by omega⟩) E.2.2.2.2.2.2.1.2.2.2.2.2.2.1 st_X5_isForm in_X5 co_X5_isForm 1 (by decide) ⟨rfl, rfl⟩ ⟨Nat.le_of_ble_eq_true rfl, Nat.le_of_ble_eq_true rfl⟩ [] rfl rfl rfl rfl (Nat.le_of_ble_eq_true rfl) dX2_shapes_1 ⟨Nat.le_refl _, Nat.le_refl _⟩) (fun r_1 H locs hw hX => ?_)
  subst hw
  refine xr_if_neB (tgt := 10) E dX2_shapes_4 (by decide) (fun c_4 => ?_) (fun c_4 => ?_)
  · have c_4 := of_decide_eq_true c_4
    refine xr_aload_n E hl 0 rfl dX2_shapes_10 rfl ?_
    refine xr_get E hX 0 rfl rfl ly_X2 6 (by decide) fl_X2_31 rfl dX2_shapes_11 ?_
    refine xr_istore_n (lv' := [(2, .int (iI sh)), (0, .ref hF), (1, .int (iI v))]) E hl dX2_shapes_14 rfl (by decide) rfl (fun ls hl => ?_)
    refine xr_aload_n E hl 1 rfl dX2_shapes_15 rfl ?_
    refine xr_iload_n E hl 2 rfl dX2_shapes_16 rfl ?_
    refine xr_put (W1 := (W_F y hF a_ind a_tot a_pri ind tot pri q fr li v)) E hX 0 rfl rfl ly_X2 tyX2_ok nmX2 6 (by decide) fl_X2_31 rfl rfl rfl (Nat.le_of_ble_eq_true rfl) rfl dX2_shapes_17 (fun H locs hX => ?_)
    refine xr_iload_n E hl 0 rfl dX2_shapes_20 rfl ?_
    exact xr_iret E hX hQ v hr ⟨by unfold xSh_r; (repeat' split) <;> first | (exfalso; omega) | rfl | (congr 1; omega) | (congr 2; omega), by unfold xSh_s; (repeat' split) <;> first | (exfalso; omega) | rfl | (congr 1; omega) | (congr 2; omega)⟩ rfl dX2_shapes_21
  · have c_4 := of_decide_eq_false c_4
    refine xr_bipush E dX2_shapes_7 (by decide) ?_
    exact xr_iret E hX hQ sh hr ⟨by unfold xSh_r; (repeat' split) <;> first | (exfalso; omega) | rfl | (congr 1; omega) | (congr 2; omega), by unfold xSh_s; (repeat' split) <;> first | (exfalso; omega) | rfl | (congr 1; omega) | (congr 2; omega)⟩ rfl dX2_shapes_9
abbrev rm_X2_printedOnes : Room := { frames := 1, cells := 0, slots := 0, locals := 21 }
set_option maxHeartbeats 4000000 in
set_option maxRecDepth 100000 in
theorem c_X2_printedOnes (l : Launch) (D : va_G) (y : CY) (z sz : Nat) (hF a_ind a_tot a_pri : Nat) (ind : Int → Int) (tot : Int → Int) (pri : Int → Int) (q : Int) (fr : Int) (li : Int) (sh : Int) (H_I : FI ind tot pri q fr li sh) : Met l yX2_printedOnes (Cond.code yX2_printedOnes cX2_printedOnes 3 (some .int) :: TW) rm_X2_printedOnes (va_Pc [.ref hF] (PX D y z (W_F y hF a_ind a_tot a_pri ind tot pri q fr li sh) sz)) (va_Qi (fun (r : Int32) (u : Unit) => r = iI (xOnes pri q)) (fun u t => BX D (W_F y hF a_ind a_tot a_pri ind tot pri q fr li sh) (va_A (W_F y hF a_ind a_tot a_pri ind tot pri q fr li sh) sz) t) (va_A (W_F y hF a_ind a_tot a_pri ind tot pri q fr li sh) sz)) 0 0 (va_A (W_F y hF a_ind a_tot a_pri ind tot pri q fr li sh) sz) := by
  refine xm_i (by decide) (Nat.le_of_ble_eq_true rfl) (fun p e s m args below meth c ls A Q E hr hnm hX hl hQ => ?_)
  have hl : lv_has ls 3 [(0, .ref hF)] := hl
  have hq := H_I.q
  have hfr := H_I.fr
  have hli := H_I.li
  have hsh := H_I.sh
  refine xr_iconst E dX2_printedOnes_0 ?_
  refine xr_istore_n (lv' := [(1, .int (iI 0)), (0, .ref hF)]) E hl dX2_printedOnes_1 rfl (by decide) rfl (fun ls hl => ?_)
  refine xr_iconst E dX2_printedOnes_2 ?_
  refine xr_istore_n (lv' := [(2, .int (iI 0)), (1, .int (iI 0)), (0, .ref hF)]) E hl dX2_printedOnes_3 rfl (by decide) rfl (fun ls hl => ?_)
  have L_4 : ∀ (nmu : Nat) (n : Nat) (acc : Int) (t : Int), q.toNat - n < nmu → (t = n) → (acc = sumI (pr1 pri) 0 n) → ((n : Int) ≤ q) → ∀ (H : Heap) (locs : List Loc) (ls : Array Slot), XW D A s.heap (W_F y hF a_ind a_tot a_pri ind tot pri q fr li sh) H locs → lv_has ls 3 [(0, .ref hF), (1, .int (iI acc)), (2, .int (iI t))] → W p l e rm_X2_printedOnes s m args below meth c H locs 0 0 Q (F0 m 4 ls []) := by
    intro nmu
    induction nmu with
    | zero =>
      intro n acc t hmu
      exact absurd hmu (Nat.not_lt_zero _)
    | succ nmu ih =>
      intro n acc t hmu ht ha hn H locs ls hX hl
      have ih_4_1 := ih
      clear ih
      refine xr_iload_n E hl 2 rfl dX2_printedOnes_4 rfl ?_
      refine xr_aload_n E hl 0 rfl dX2_printedOnes_5 rfl ?_
      refine xr_get E hX 0 rfl rfl ly_X2 3 (by decide) fl_X2_21 rfl dX2_printedOnes_6 ?_
      refine xr_icmp_ge (tgt := 34) E dX2_printedOnes_9 (by decide) ⟨by omega, by omega⟩ ⟨by omega, by omega⟩ (fun c_9 => ?_) (fun c_9 => ?_)
      · have c_9 := c_9
        refine xr_iload_n E hl 1 rfl dX2_printedOnes_34 rfl ?_
        exact xr_iret E hX hQ () hr (by rw [ha, xOnes, show q.toNat = n by omega]) rfl dX2_printedOnes_35
      · have c_9 := c_9
        refine xr_iload_n E hl 1 rfl dX2_printedOnes_12 rfl ?_
        refine xr_aload_n E hl 0 rfl dX2_printedOnes_13 rfl ?_
        refine xr_iload_n E hl 2 rfl dX2_printedOnes_14 rfl ?_
        refine xk_ri E hX [0, 1, 2, 3] rfl (xv_V (As := [.int (iI t)]) E hX hl (c_X2_isPrinted l D y z _ hF a_ind a_tot a_pri ind tot pri q fr li sh t (by omega) (by have h := H_I.pri (t := t) (by omega) (by omega); exact ⟨by omega, by omega⟩)) ml_X2_51 im_X2_isPrinted se_X2_isPrinted in_X2 co_X2_isPrinted 1 (by decide) ⟨rfl, rfl⟩ ⟨Nat.le_of_ble_eq_true rfl, Nat.le_of_ble_eq_true rfl⟩ [0, 1, 2, 3] rfl rfl 0 rfl rfl rfl rfl rfl (Nat.le_of_ble_eq_true rfl) dX2_printedOnes_15 ⟨Nat.le_refl _, Nat.le_refl _⟩) (fun r_15 H locs hw hX => ?_)
        subst hw
        refine xr_if_eqB (tgt := 25) E dX2_printedOnes_18 (by decide) (fun c_18 => ?_) (fun c_18 => ?_)
        · have c_18 := of_decide_eq_false c_18
          refine xr_iconst E dX2_printedOnes_25 ?_
          refine xr_iadd E dX2_printedOnes_26 ?_
          refine xr_istore_n (lv' := [(1, .int (iI (acc + 0))), (0, .ref hF), (2, .int (iI t))]) E hl dX2_printedOnes_27 rfl (by decide) rfl (fun ls hl => ?_)
          refine xr_iinc (k := 2) (lv' := [(2, .int (iI (t + 1))), (1, .int (iI (acc + 0))), (0, .ref hF)]) E hl rfl dX2_printedOnes_28 (by decide) rfl (fun ls hl => ?_)
          refine xr_goto (tgt := 4) E dX2_printedOnes_31 (by decide) ?_
          exact ih_4_1 (n + 1) (acc + 0) (t + 1) (by omega) (by omega) (by rw [sumI_s, ← ha, show (0 : Int) + (n : Int) = t by omega]; unfold pr1; split <;> omega) (by omega) _ _ _ hX (lv_sub hl [2, 1, 0] rfl)
        · have c_18 := of_decide_eq_true c_18
          refine xr_iconst E dX2_printedOnes_21 ?_
          refine xr_goto (tgt := 26) E dX2_printedOnes_22 (by decide) ?_
          refine xr_iadd E dX2_printedOnes_26 ?_
          refine xr_istore_n (lv' := [(1, .int (iI (acc + 1))), (0, .ref hF), (2, .int (iI t))]) E hl dX2_printedOnes_27 rfl (by decide) rfl (fun ls hl => ?_)
          refine xr_iinc (k := 2) (lv' := [(2, .int (iI (t + 1))), (1, .int (iI (acc + 1))), (0, .ref hF)]) E hl rfl dX2_printedOnes_28 (by decide) rfl (fun ls hl => ?_)
          refine xr_goto (tgt := 4) E dX2_printedOnes_31 (by decide) ?_
          exact ih_4_1 (n + 1) (acc + 1) (t + 1) (by omega) (by omega) (by rw [sumI_s, ← ha, show (0 : Int) + (n : Int) = t by omega]; unfold pr1; split <;> omega) (by omega) _ _ _ hX (lv_sub hl [2, 1, 0] rfl)
  exact L_4 _ 0 0 0 (Nat.lt_succ_self _) (by omega) (sumI_0 _ _).symm (by omega) _ _ _ hX (lv_sub hl [2, 1, 0] rfl)
abbrev rm_X2_unprints : Room := { frames := 2, cells := 0, slots := 0, locals := 43 }
set_option maxHeartbeats 4000000 in
set_option maxRecDepth 100000 in
theorem c_X2_unprints (l : Launch) (D : va_G) (y : CY) (z sz : Nat) (hF a_ind a_tot a_pri : Nat) (ind : Int → Int) (tot : Int → Int) (pri : Int → Int) (q : Int) (fr : Int) (li : Int) (sh : Int) (H_I : FI ind tot pri q fr li sh) : Met l yX2_unprints (Cond.code yX2_unprints cX2_unprints 3 (some .int) :: TW) rm_X2_unprints (va_Pc [.ref hF] (PX D y z (W_F y hF a_ind a_tot a_pri ind tot pri q fr li sh) sz)) (va_Qi (fun (r : Int32) (u : (Int → Int) × (Int)) => r = iI (xOnes pri q) ∧ u = (fillI pri (-1) 12, 0)) (fun u t => BX D (W_F y hF a_ind a_tot a_pri ind tot u.1 q u.2 li sh) (va_A (W_F y hF a_ind a_tot a_pri ind tot pri q fr li sh) sz) t) (va_A (W_F y hF a_ind a_tot a_pri ind tot pri q fr li sh) sz)) 0 0 (va_A (W_F y hF a_ind a_tot a_pri ind tot pri q fr li sh) sz) := by
  refine xm_i (by decide) (Nat.le_of_ble_eq_true rfl) (fun p e s m args below meth c ls A Q E hr hnm hX hl hQ => ?_)
  have hl : lv_has ls 3 [(0, .ref hF)] := hl
  have hq := H_I.q
  have hfr := H_I.fr
  have hli := H_I.li
  have hsh := H_I.sh
  refine xr_aload_n E hl 0 rfl dX2_unprints_0 rfl ?_
  refine xk_ri E hX [0, 1, 2, 3] rfl (xv_V (As := []) E hX hl (c_X2_printedOnes l D y z _ hF a_ind a_tot a_pri ind tot pri q fr li sh H_I) ml_X2_63 im_X2_printedOnes se_X2_printedOnes in_X2 co_X2_printedOnes 0 (by decide) ⟨rfl, rfl⟩ ⟨Nat.le_of_ble_eq_true rfl, Nat.le_of_ble_eq_true rfl⟩ [0, 1, 2, 3] rfl rfl 0 rfl rfl rfl rfl rfl (Nat.le_of_ble_eq_true rfl) dX2_unprints_1 ⟨Nat.le_refl _, Nat.le_refl _⟩) (fun r_1 H locs hw hX => ?_)
  subst hw
  refine xr_istore_n (lv' := [(1, .int (iI (xOnes pri q))), (0, .ref hF)]) E hl dX2_unprints_4 rfl (by decide) rfl (fun ls hl => ?_)
  refine xr_iconst E dX2_unprints_5 ?_
  refine xr_istore_n (lv' := [(2, .int (iI 0)), (1, .int (iI (xOnes pri q))), (0, .ref hF)]) E hl dX2_unprints_6 rfl (by decide) rfl (fun ls hl => ?_)
  have L_7 : ∀ (nmu : Nat) (f : Int → Int) (t : Int), (12 - t).toNat < nmu → (0 ≤ t ∧ t ≤ 12) → (f = fillI pri (-1) t) → ∀ (H : Heap) (locs : List Loc) (ls : Array Slot), XW D A s.heap (W_F y hF a_ind a_tot a_pri ind tot f q fr li sh) H locs → lv_has ls 3 [(0, .ref hF), (1, .int (iI (xOnes pri q))), (2, .int (iI t))] → W p l e rm_X2_unprints s m args below meth c H locs 0 0 Q (F0 m 7 ls []) := by
    intro nmu
    induction nmu with
    | zero =>
      intro f t hmu
      exact absurd hmu (Nat.not_lt_zero _)
    | succ nmu ih =>
      intro f t hmu ht hf H locs ls hX hl
      have ih_7_1 := ih
      clear ih
      refine xr_iload_n E hl 2 rfl dX2_unprints_7 rfl ?_
      refine xr_bipush E dX2_unprints_8 (by decide) ?_
      refine xr_icmp_ge (tgt := 26) E dX2_unprints_10 (by decide) ⟨by omega, by omega⟩ (by decide) (fun c_10 => ?_) (fun c_10 => ?_)
      · have c_10 := c_10
        refine xr_aload_n E hl 0 rfl dX2_unprints_26 rfl ?_
        refine xr_iconst E dX2_unprints_27 ?_
        refine xr_put (W1 := (W_F y hF a_ind a_tot a_pri ind tot f q 0 li sh)) E hX 0 rfl rfl ly_X2 tyX2_ok nmX2 4 (by decide) fl_X2_25 rfl rfl rfl (Nat.le_of_ble_eq_true rfl) rfl dX2_unprints_28 (fun H locs hX => ?_)
        refine xr_iload_n E hl 1 rfl dX2_unprints_31 rfl ?_
        exact xr_iret E hX hQ (f, 0) hr ⟨rfl, by rw [hf, show t = 12 by omega]⟩ rfl dX2_unprints_32
      · have c_10 := c_10
        refine xr_aload_n E hl 0 rfl dX2_unprints_13 rfl ?_
        refine xr_get E hX 0 rfl rfl ly_X2 2 (by decide) fl_X2_18 rfl dX2_unprints_14 ?_
        refine xr_iload_n E hl 2 rfl dX2_unprints_17 rfl ?_
        refine xr_iconst E dX2_unprints_18 ?_
        refine xr_iast (W1 := (W_F y hF a_ind a_tot a_pri ind tot (up f t (-1)) q fr li sh)) E hX 3 rfl (by omega) (by omega) (by decide) rfl dX2_unprints_19 (fun H locs hX => ?_)
        refine xr_iinc (k := 2) (lv' := [(2, .int (iI (t + 1))), (0, .ref hF), (1, .int (iI (xOnes pri q)))]) E hl rfl dX2_unprints_20 (by decide) rfl (fun ls hl => ?_)
        refine xr_goto (tgt := 7) E dX2_unprints_23 (by decide) ?_
        exact ih_7_1 (up f t (-1)) (t + 1) (by omega) (by omega) (by rw [hf]; exact fillI_up _ _ _ (by omega)) _ _ _ hX (lv_sub hl [1, 2, 0] rfl)
  exact L_7 _ pri 0 (Nat.lt_succ_self _) (by omega) (fillI_0 _ _).symm _ _ _ hX (lv_sub hl [2, 1, 0] rfl)
abbrev rm_X2_yearsTold : Room := { frames := 0, cells := 0, slots := 0, locals := 0 }
set_option maxHeartbeats 4000000 in
set_option maxRecDepth 100000 in
theorem c_X2_yearsTold (l : Launch) (D : va_G) (y : CY) (z sz : Nat) (hF a_ind a_tot a_pri : Nat) (ind : Int → Int) (tot : Int → Int) (pri : Int → Int) (q : Int) (fr : Int) (li : Int) (sh : Int) (H_I : FI ind tot pri q fr li sh) : Met l yX2_yearsTold (Cond.code yX2_yearsTold cX2_yearsTold 3 (some .int) :: TW) rm_X2_yearsTold (va_Pc [.ref hF] (PX D y z (W_F y hF a_ind a_tot a_pri ind tot pri q fr li sh) sz)) (va_Qi (fun (r : Int32) (u : Unit) => r = iI (xYears tot)) (fun u t => BX D (W_F y hF a_ind a_tot a_pri ind tot pri q fr li sh) (va_A (W_F y hF a_ind a_tot a_pri ind tot pri q fr li sh) sz) t) (va_A (W_F y hF a_ind a_tot a_pri ind tot pri q fr li sh) sz)) 0 0 (va_A (W_F y hF a_ind a_tot a_pri ind tot pri q fr li sh) sz) := by
  refine xm_i (by decide) (Nat.le_of_ble_eq_true rfl) (fun p e s m args below meth c ls A Q E hr hnm hX hl hQ => ?_)
  have hl : lv_has ls 3 [(0, .ref hF)] := hl
  have hq := H_I.q
  have hfr := H_I.fr
  have hli := H_I.li
  have hsh := H_I.sh
  refine xr_iconst E dX2_yearsTold_0 ?_
  refine xr_istore_n (lv' := [(1, .int (iI 0)), (0, .ref hF)]) E hl dX2_yearsTold_1 rfl (by decide) rfl (fun ls hl => ?_)
  refine xr_iconst E dX2_yearsTold_2 ?_
  refine xr_istore_n (lv' := [(2, .int (iI 0)), (1, .int (iI 0)), (0, .ref hF)]) E hl dX2_yearsTold_3 rfl (by decide) rfl (fun ls hl => ?_)
  have L_4 : ∀ (nmu : Nat) (n : Nat) (acc : Int) (t : Int), 3 - n < nmu → (t = n) → (acc = sumI (pr1 tot) 0 n) → (n ≤ 3) → ∀ (H : Heap) (locs : List Loc) (ls : Array Slot), XW D A s.heap (W_F y hF a_ind a_tot a_pri ind tot pri q fr li sh) H locs → lv_has ls 3 [(0, .ref hF), (1, .int (iI acc)), (2, .int (iI t))] → W p l e rm_X2_yearsTold s m args below meth c H locs 0 0 Q (F0 m 4 ls []) := by
    intro nmu
    induction nmu with
    | zero =>
      intro n acc t hmu
      exact absurd hmu (Nat.not_lt_zero _)
    | succ nmu ih =>
      intro n acc t hmu ht ha hn H locs ls hX hl
      have ih_4_1 := ih
      clear ih
      refine xr_iload_n E hl 2 rfl dX2_yearsTold_4 rfl ?_
      refine xr_iconst E dX2_yearsTold_5 ?_
      refine xr_icmp_ge (tgt := 33) E dX2_yearsTold_6 (by decide) ⟨by omega, by omega⟩ (by decide) (fun c_6 => ?_) (fun c_6 => ?_)
      · have c_6 := c_6
        refine xr_iload_n E hl 1 rfl dX2_yearsTold_33 rfl ?_
        exact xr_iret E hX hQ () hr (by rw [ha, xYears, show n = 3 by omega]) rfl dX2_yearsTold_34
      · have c_6 := c_6
        have htt := H_I.tot (v := t) (by omega) (by omega)
        refine xr_iload_n E hl 1 rfl dX2_yearsTold_9 rfl ?_
        refine xr_aload_n E hl 0 rfl dX2_yearsTold_10 rfl ?_
        refine xr_get E hX 0 rfl rfl ly_X2 1 (by decide) fl_X2_15 rfl dX2_yearsTold_11 ?_
        refine xr_iload_n E hl 2 rfl dX2_yearsTold_14 rfl ?_
        refine xr_iald E hX 2 rfl (by omega) (by omega) (by decide) dX2_yearsTold_15 ?_
        refine xr_iconst E dX2_yearsTold_16 ?_
        refine xr_icmp_eq (tgt := 24) E dX2_yearsTold_17 (by decide) ⟨by omega, by omega⟩ (by decide) (fun c_17 => ?_) (fun c_17 => ?_)
        · have c_17 := c_17
          refine xr_iconst E dX2_yearsTold_24 ?_
          refine xr_iadd E dX2_yearsTold_25 ?_
          refine xr_istore_n (lv' := [(1, .int (iI (acc + 0))), (0, .ref hF), (2, .int (iI t))]) E hl dX2_yearsTold_26 rfl (by decide) rfl (fun ls hl => ?_)
          refine xr_iinc (k := 2) (lv' := [(2, .int (iI (t + 1))), (1, .int (iI (acc + 0))), (0, .ref hF)]) E hl rfl dX2_yearsTold_27 (by decide) rfl (fun ls hl => ?_)
          refine xr_goto (tgt := 4) E dX2_yearsTold_30 (by decide) ?_
          exact ih_4_1 (n + 1) (acc + 0) (t + 1) (by omega) (by omega) (by rw [sumI_s, ← ha, show (0 : Int) + (n : Int) = t by omega]; unfold pr1; split <;> omega) (by omega) _ _ _ hX (lv_sub hl [2, 1, 0] rfl)
        · have c_17 := c_17
          refine xr_iconst E dX2_yearsTold_20 ?_
          refine xr_goto (tgt := 25) E dX2_yearsTold_21 (by decide) ?_
          refine xr_iadd E dX2_yearsTold_25 ?_
          refine xr_istore_n (lv' := [(1, .int (iI (acc + 1))), (0, .ref hF), (2, .int (iI t))]) E hl dX2_yearsTold_26 rfl (by decide) rfl (fun ls hl => ?_)
          refine xr_iinc (k := 2) (lv' := [(2, .int (iI (t + 1))), (1, .int (iI (acc + 1))), (0, .ref hF)]) E hl rfl dX2_yearsTold_27 (by decide) rfl (fun ls hl => ?_)
          refine xr_goto (tgt := 4) E dX2_yearsTold_30 (by decide) ?_
          exact ih_4_1 (n + 1) (acc + 1) (t + 1) (by omega) (by omega) (by rw [sumI_s, ← ha, show (0 : Int) + (n : Int) = t by omega]; unfold pr1; split <;> omega) (by omega) _ _ _ hX (lv_sub hl [2, 1, 0] rfl)
  exact L_4 _ 0 0 0 (Nat.lt_succ_self _) (by omega) (sumI_0 _ _).symm (by omega) _ _ _ hX (lv_sub hl [2, 1, 0] rfl)
abbrev rm_X2_indicated : Room := { frames := 0, cells := 0, slots := 0, locals := 0 }
set_option maxHeartbeats 4000000 in
set_option maxRecDepth 100000 in
theorem c_X2_indicated (l : Launch) (D : va_G) (y : CY) (z sz : Nat) (hF a_ind a_tot a_pri : Nat) (ind : Int → Int) (tot : Int → Int) (pri : Int → Int) (q : Int) (fr : Int) (li : Int) (sh : Int) (v : Int) (H_I : FI ind tot pri q fr li sh) (hv : 0 ≤ v ∧ v < 3) : Met l yX2_indicated (Cond.code yX2_indicated cX2_indicated 4 (some .int) :: TW) rm_X2_indicated (va_Pc [.ref hF, .int (iI v)] (PX D y z (W_F y hF a_ind a_tot a_pri ind tot pri q fr li sh) sz)) (va_Qi (fun (r : Int32) (u : Unit) => r = iI (xInd ind q v)) (fun u t => BX D (W_F y hF a_ind a_tot a_pri ind tot pri q fr li sh) (va_A (W_F y hF a_ind a_tot a_pri ind tot pri q fr li sh) sz) t) (va_A (W_F y hF a_ind a_tot a_pri ind tot pri q fr li sh) sz)) 0 0 (va_A (W_F y hF a_ind a_tot a_pri ind tot pri q fr li sh) sz) := by
  refine xm_i (by decide) (Nat.le_of_ble_eq_true rfl) (fun p e s m args below meth c ls A Q E hr hnm hX hl hQ => ?_)
  have hl : lv_has ls 4 [(0, .ref hF), (1, .int (iI v))] := hl
  have hq := H_I.q
  have hfr := H_I.fr
  have hli := H_I.li
  have hsh := H_I.sh
  refine xr_iconst E dX2_indicated_0 ?_
  refine xr_istore_n (lv' := [(2, .int (iI 0)), (0, .ref hF), (1, .int (iI v))]) E hl dX2_indicated_1 rfl (by decide) rfl (fun ls hl => ?_)
  refine xr_iconst E dX2_indicated_2 ?_
  refine xr_iload_n E hl 2 rfl dX2_indicated_3 rfl ?_
  refine xr_imul E dX2_indicated_4 ?_
  refine xr_istore_n (lv' := [(3, .int (iI (4 * v))), (2, .int (iI 0)), (0, .ref hF), (1, .int (iI v))]) E hl dX2_indicated_5 rfl (by decide) rfl (fun ls hl => ?_)
  have L_6 : ∀ (nmu : Nat) (n : Nat) (acc : Int) (t : Int), 4 - n < nmu → (t = 4 * v + n) → (acc = sumI ind (4 * v) n) → (n ≤ 4 ∧ (n = 0 ∨ 4 * v + n ≤ q)) → ∀ (H : Heap) (locs : List Loc) (ls : Array Slot), XW D A s.heap (W_F y hF a_ind a_tot a_pri ind tot pri q fr li sh) H locs → lv_has ls 4 [(0, .ref hF), (1, .int (iI v)), (2, .int (iI acc)), (3, .int (iI t))] → W p l e rm_X2_indicated s m args below meth c H locs 0 0 Q (F0 m 6 ls []) := by
    intro nmu
    induction nmu with
    | zero =>
      intro n acc t hmu
      exact absurd hmu (Nat.not_lt_zero _)
    | succ nmu ih =>
      intro n acc t hmu ht ha hn H locs ls hX hl
      have ih_6_1 := ih
      clear ih
      refine xr_iload_n E hl 3 rfl dX2_indicated_6 rfl ?_
      refine xr_iconst E dX2_indicated_7 ?_
      refine xr_iload_n E hl 1 rfl dX2_indicated_8 rfl ?_
      refine xr_iconst E dX2_indicated_9 ?_
      refine xr_iadd E dX2_indicated_10 ?_
      refine xr_imul E dX2_indicated_11 ?_
      refine xr_icmp_ge (tgt := 38) E dX2_indicated_12 (by decide) ⟨by omega, by omega⟩ ⟨by omega, by omega⟩ (fun c_12 => ?_) (fun c_12 => ?_)
      · have c_12 := c_12
        refine xr_iload_n E hl 2 rfl dX2_indicated_38 rfl ?_
        exact xr_iret E hX hQ () hr (by rw [ha, xInd, show yN q v = n by unfold yN; split <;> omega]) rfl dX2_indicated_39
      · have c_12 := c_12
        refine xr_iload_n E hl 3 rfl dX2_indicated_15 rfl ?_
        refine xr_aload_n E hl 0 rfl dX2_indicated_16 rfl ?_
        refine xr_get E hX 0 rfl rfl ly_X2 3 (by decide) fl_X2_21 rfl dX2_indicated_17 ?_
        refine xr_icmp_ge (tgt := 38) E dX2_indicated_20 (by decide) ⟨by omega, by omega⟩ ⟨by omega, by omega⟩ (fun c_20 => ?_) (fun c_20 => ?_)
        · have c_20 := c_20
          refine xr_iload_n E hl 2 rfl dX2_indicated_38 rfl ?_
          exact xr_iret E hX hQ () hr (by rw [ha, xInd, show yN q v = n by unfold yN; split <;> omega]) rfl dX2_indicated_39
        · have c_20 := c_20
          refine xr_iload_n E hl 2 rfl dX2_indicated_23 rfl ?_
          refine xr_aload_n E hl 0 rfl dX2_indicated_24 rfl ?_
          refine xr_get E hX 0 rfl rfl ly_X2 0 (by decide) fl_X2_9 rfl dX2_indicated_25 ?_
          refine xr_iload_n E hl 3 rfl dX2_indicated_28 rfl ?_
          refine xr_iald E hX 1 rfl (by omega) (by omega) (by decide) dX2_indicated_29 ?_
          refine xr_iadd E dX2_indicated_30 ?_
          refine xr_istore_n (lv' := [(2, .int (iI (acc + (ind t)))), (0, .ref hF), (1, .int (iI v)), (3, .int (iI t))]) E hl dX2_indicated_31 rfl (by decide) rfl (fun ls hl => ?_)
          refine xr_iinc (k := 3) (lv' := [(3, .int (iI (t + 1))), (2, .int (iI (acc + (ind t)))), (0, .ref hF), (1, .int (iI v))]) E hl rfl dX2_indicated_32 (by decide) rfl (fun ls hl => ?_)
          refine xr_goto (tgt := 6) E dX2_indicated_35 (by decide) ?_
          exact ih_6_1 (n + 1) (acc + (ind t)) (t + 1) (by omega) (by omega) (by rw [sumI_s, ← ha, ← ht]) (by omega) _ _ _ hX (lv_sub hl [2, 3, 1, 0] rfl)
  exact L_6 _ 0 0 (4 * v) (Nat.lt_succ_self _) (by omega) (sumI_0 _ _).symm (by omega) _ _ _ hX (lv_sub hl [2, 3, 1, 0] rfl)
abbrev rm_X2_gap : Room := { frames := 1, cells := 0, slots := 0, locals := 23 }
set_option maxHeartbeats 4000000 in
set_option maxRecDepth 100000 in
theorem c_X2_gap (l : Launch) (D : va_G) (y : CY) (z sz : Nat) (hF a_ind a_tot a_pri : Nat) (ind : Int → Int) (tot : Int → Int) (pri : Int → Int) (q : Int) (fr : Int) (li : Int) (sh : Int) (v : Int) (H_I : FI ind tot pri q fr li sh) (hv : 0 ≤ v ∧ v < 3) : Met l yX2_gap (Cond.code yX2_gap cX2_gap 2 (some .int) :: TW) rm_X2_gap (va_Pc [.ref hF, .int (iI v)] (PX D y z (W_F y hF a_ind a_tot a_pri ind tot pri q fr li sh) sz)) (va_Qi (fun (r : Int32) (u : Unit) => r = iI (xGap ind tot q v)) (fun u t => BX D (W_F y hF a_ind a_tot a_pri ind tot pri q fr li sh) (va_A (W_F y hF a_ind a_tot a_pri ind tot pri q fr li sh) sz) t) (va_A (W_F y hF a_ind a_tot a_pri ind tot pri q fr li sh) sz)) 0 0 (va_A (W_F y hF a_ind a_tot a_pri ind tot pri q fr li sh) sz) := by
  refine xm_i (by decide) (Nat.le_of_ble_eq_true rfl) (fun p e s m args below meth c ls A Q E hr hnm hX hl hQ => ?_)
  have hl : lv_has ls 2 [(0, .ref hF), (1, .int (iI v))] := hl
  have hq := H_I.q
  have hfr := H_I.fr
  have hli := H_I.li
  have hsh := H_I.sh
  refine xr_aload_n E hl 0 rfl dX2_gap_0 rfl ?_
  refine xr_get E hX 0 rfl rfl ly_X2 1 (by decide) fl_X2_15 rfl dX2_gap_1 ?_
  refine xr_iload_n E hl 1 rfl dX2_gap_4 rfl ?_
  refine xr_iald E hX 2 rfl (by omega) (by omega) (by decide) dX2_gap_5 ?_
  refine xr_aload_n E hl 0 rfl dX2_gap_6 rfl ?_
  refine xr_iload_n E hl 1 rfl dX2_gap_7 rfl ?_
  refine xk_ri E hX [0, 1, 2, 3] rfl (xv_V (As := [.int (iI v)]) E hX hl (c_X2_indicated l D y z _ hF a_ind a_tot a_pri ind tot pri q fr li sh v H_I (by omega)) ml_X2_70 im_X2_indicated se_X2_indicated in_X2 co_X2_indicated 1 (by decide) ⟨rfl, rfl⟩ ⟨Nat.le_of_ble_eq_true rfl, Nat.le_of_ble_eq_true rfl⟩ [0, 1, 2, 3] rfl rfl 0 rfl rfl rfl rfl rfl (Nat.le_of_ble_eq_true rfl) dX2_gap_8 ⟨Nat.le_refl _, Nat.le_refl _⟩) (fun r_8 H locs hw hX => ?_)
  subst hw
  refine xr_isub E dX2_gap_11 ?_
  exact xr_iret E hX hQ () hr rfl rfl dX2_gap_12
def xOf (ind pri : Int → Int) (fr t w : Int) : Int := if w = 0 then ind t else if w = 1 then pri t else if w = 2 then bAnd (bShr fr t) 1 else t / 4
abbrev rm_X2_toldOfQuarter : Room := { frames := 1, cells := 0, slots := 0, locals := 21 }
set_option maxHeartbeats 4000000 in
set_option maxRecDepth 100000 in
theorem c_X2_toldOfQuarter (l : Launch) (D : va_G) (y : CY) (z sz : Nat) (hF a_ind a_tot a_pri : Nat) (ind : Int → Int) (tot : Int → Int) (pri : Int → Int) (q : Int) (fr : Int) (li : Int) (sh : Int) (t : Int) (w : Int) (H_I : FI ind tot pri q fr li sh) (ht : 0 ≤ t ∧ t < 12) (hw : sm w) : Met l yX2_toldOfQuarter (Cond.code yX2_toldOfQuarter cX2_toldOfQuarter 3 (some .int) :: TW) rm_X2_toldOfQuarter (va_Pc [.ref hF, .int (iI t), .int (iI w)] (PX D y z (W_F y hF a_ind a_tot a_pri ind tot pri q fr li sh) sz)) (va_Qi (fun (r : Int32) (u : Unit) => r = iI (xOf ind pri fr t w)) (fun u t => BX D (W_F y hF a_ind a_tot a_pri ind tot pri q fr li sh) (va_A (W_F y hF a_ind a_tot a_pri ind tot pri q fr li sh) sz) t) (va_A (W_F y hF a_ind a_tot a_pri ind tot pri q fr li sh) sz)) 0 0 (va_A (W_F y hF a_ind a_tot a_pri ind tot pri q fr li sh) sz) := by
  refine xm_i (by decide) (Nat.le_of_ble_eq_true rfl) (fun p e s m args below meth c ls A Q E hr hnm hX hl hQ => ?_)
  have hl : lv_has ls 3 [(0, .ref hF), (1, .int (iI t)), (2, .int (iI w))] := hl
  have hq := H_I.q
  have hfr := H_I.fr
  have hli := H_I.li
  have hsh := H_I.sh
  refine xr_iload_n E hl 2 rfl dX2_toldOfQuarter_0 rfl ?_
  by_cases k_1_0 : w = 0
  · refine xr_tabIn (tgt := 28) E dX2_toldOfQuarter_1 ⟨by omega, by omega⟩ 0 (by omega) (by omega) rfl (by decide) ?_
    refine xr_aload_n E hl 0 rfl dX2_toldOfQuarter_28 rfl ?_
    refine xr_get E hX 0 rfl rfl ly_X2 0 (by decide) fl_X2_9 rfl dX2_toldOfQuarter_29 ?_
    refine xr_iload_n E hl 1 rfl dX2_toldOfQuarter_32 rfl ?_
    refine xr_iald E hX 1 rfl (by omega) (by omega) (by decide) dX2_toldOfQuarter_33 ?_
    exact xr_iret E hX hQ () hr (by unfold xOf; (repeat' split) <;> first | (exfalso; omega) | rfl | (congr 1; omega) | (congr 2; omega)) rfl dX2_toldOfQuarter_34
  by_cases k_1_1 : w = 1
  · refine xr_tabIn (tgt := 35) E dX2_toldOfQuarter_1 ⟨by omega, by omega⟩ 1 (by omega) (by omega) rfl (by decide) ?_
    refine xr_aload_n E hl 0 rfl dX2_toldOfQuarter_35 rfl ?_
    refine xr_get E hX 0 rfl rfl ly_X2 2 (by decide) fl_X2_18 rfl dX2_toldOfQuarter_36 ?_
    refine xr_iload_n E hl 1 rfl dX2_toldOfQuarter_39 rfl ?_
    refine xr_iald E hX 3 rfl (by omega) (by omega) (by decide) dX2_toldOfQuarter_40 ?_
    exact xr_iret E hX hQ () hr (by unfold xOf; (repeat' split) <;> first | (exfalso; omega) | rfl | (congr 1; omega) | (congr 2; omega)) rfl dX2_toldOfQuarter_41
  by_cases k_1_2 : w = 2
  · refine xr_tabIn (tgt := 42) E dX2_toldOfQuarter_1 ⟨by omega, by omega⟩ 2 (by omega) (by omega) rfl (by decide) ?_
    refine xr_aload_n E hl 0 rfl dX2_toldOfQuarter_42 rfl ?_
    refine xr_iload_n E hl 1 rfl dX2_toldOfQuarter_43 rfl ?_
    refine xk_ri E hX [0, 1, 2, 3] rfl (xv_V (As := [.int (iI t)]) E hX hl (c_X2_isFrozen l D y z _ hF a_ind a_tot a_pri ind tot pri q fr li sh t) ml_X2_67 im_X2_isFrozen se_X2_isFrozen in_X2 co_X2_isFrozen 1 (by decide) ⟨rfl, rfl⟩ ⟨Nat.le_of_ble_eq_true rfl, Nat.le_of_ble_eq_true rfl⟩ [0, 1, 2, 3] rfl rfl 0 rfl rfl rfl rfl rfl (Nat.le_of_ble_eq_true rfl) dX2_toldOfQuarter_44 ⟨Nat.le_refl _, Nat.le_refl _⟩) (fun r_44 H locs hw hX => ?_)
    subst hw
    refine xr_if_eqB (tgt := 54) E dX2_toldOfQuarter_47 (by decide) (fun c_47 => ?_) (fun c_47 => ?_)
    · have c_47 := of_decide_eq_false c_47
      refine xr_iconst E dX2_toldOfQuarter_54 ?_
      have hb := bAnd1 (bShr fr t)
      exact xr_iret E hX hQ () hr (by unfold xOf; (repeat' split) <;> first | (exfalso; omega) | rfl | (congr 1; omega) | (congr 2; omega)) rfl dX2_toldOfQuarter_55
    · have c_47 := of_decide_eq_true c_47
      refine xr_iconst E dX2_toldOfQuarter_50 ?_
      refine xr_goto (tgt := 55) E dX2_toldOfQuarter_51 (by decide) ?_
      have hb := bAnd1 (bShr fr t)
      exact xr_iret E hX hQ () hr (by unfold xOf; (repeat' split) <;> first | (exfalso; omega) | rfl | (congr 1; omega) | (congr 2; omega)) rfl dX2_toldOfQuarter_55
  refine xr_tabOut (tgt := 56) E dX2_toldOfQuarter_1 ⟨by omega, by omega⟩ (by omega) (by decide) ?_
  refine xr_iload_n E hl 1 rfl dX2_toldOfQuarter_56 rfl ?_
  refine xr_iconst E dX2_toldOfQuarter_57 ?_
  refine xr_idiv E dX2_toldOfQuarter_58 ⟨by omega, by omega⟩ (by decide) (by omega) (by omega) ?_
  exact xr_iret E hX hQ () hr (by unfold xOf; (repeat' split) <;> first | (exfalso; omega) | rfl | (congr 1; omega) | (congr 2; omega)) rfl dX2_toldOfQuarter_59
def xYr (ind tot : Int → Int) (q v w : Int) : Int := if w = 1 then xInd ind q v else if w = 0 ∨ tot v = -1 then tot v else xGap ind tot q v + 1000
abbrev rm_X2_toldOfYear : Room := { frames := 2, cells := 0, slots := 0, locals := 44 }
set_option maxHeartbeats 4000000 in
set_option maxRecDepth 100000 in
theorem c_X2_toldOfYear (l : Launch) (D : va_G) (y : CY) (z sz : Nat) (hF a_ind a_tot a_pri : Nat) (ind : Int → Int) (tot : Int → Int) (pri : Int → Int) (q : Int) (fr : Int) (li : Int) (sh : Int) (v : Int) (w : Int) (H_I : FI ind tot pri q fr li sh) (hv : 0 ≤ v ∧ v < 3) (hw : sm w) : Met l yX2_toldOfYear (Cond.code yX2_toldOfYear cX2_toldOfYear 3 (some .int) :: TW) rm_X2_toldOfYear (va_Pc [.ref hF, .int (iI v), .int (iI w)] (PX D y z (W_F y hF a_ind a_tot a_pri ind tot pri q fr li sh) sz)) (va_Qi (fun (r : Int32) (u : Unit) => r = iI (xYr ind tot q v w)) (fun u t => BX D (W_F y hF a_ind a_tot a_pri ind tot pri q fr li sh) (va_A (W_F y hF a_ind a_tot a_pri ind tot pri q fr li sh) sz) t) (va_A (W_F y hF a_ind a_tot a_pri ind tot pri q fr li sh) sz)) 0 0 (va_A (W_F y hF a_ind a_tot a_pri ind tot pri q fr li sh) sz) := by
  refine xm_i (by decide) (Nat.le_of_ble_eq_true rfl) (fun p e s m args below meth c ls A Q E hr hnm hX hl hQ => ?_)
  have hl : lv_has ls 3 [(0, .ref hF), (1, .int (iI v)), (2, .int (iI w))] := hl
  have hq := H_I.q
  have hfr := H_I.fr
  have hli := H_I.li
  have hsh := H_I.sh
  have ht := H_I.tot (v := v) (by omega) (by omega)
  refine xr_iload_n E hl 2 rfl dX2_toldOfYear_0 rfl ?_
  refine xr_iconst E dX2_toldOfYear_1 ?_
  refine xr_icmp_ne (tgt := 11) E dX2_toldOfYear_2 (by decide) ⟨by omega, by omega⟩ (by decide) (fun c_2 => ?_) (fun c_2 => ?_)
  · have c_2 := c_2
    refine xr_iload_n E hl 2 rfl dX2_toldOfYear_11 rfl ?_
    refine xr_if_eq (tgt := 25) E dX2_toldOfYear_12 (by decide) ⟨by omega, by omega⟩ (fun c_12 => ?_) (fun c_12 => ?_)
    · have c_12 := c_12
      refine xr_aload_n E hl 0 rfl dX2_toldOfYear_25 rfl ?_
      refine xr_get E hX 0 rfl rfl ly_X2 1 (by decide) fl_X2_15 rfl dX2_toldOfYear_26 ?_
      refine xr_iload_n E hl 1 rfl dX2_toldOfYear_29 rfl ?_
      refine xr_iald E hX 2 rfl (by omega) (by omega) (by decide) dX2_toldOfYear_30 ?_
      exact xr_iret E hX hQ () hr (by unfold xYr; (repeat' split) <;> first | (exfalso; omega) | rfl | (congr 1; omega) | (congr 2; omega)) rfl dX2_toldOfYear_31
    · have c_12 := c_12
      refine xr_aload_n E hl 0 rfl dX2_toldOfYear_15 rfl ?_
      refine xr_get E hX 0 rfl rfl ly_X2 1 (by decide) fl_X2_15 rfl dX2_toldOfYear_16 ?_
      refine xr_iload_n E hl 1 rfl dX2_toldOfYear_19 rfl ?_
      refine xr_iald E hX 2 rfl (by omega) (by omega) (by decide) dX2_toldOfYear_20 ?_
      refine xr_iconst E dX2_toldOfYear_21 ?_
      refine xr_icmp_ne (tgt := 32) E dX2_toldOfYear_22 (by decide) ⟨by omega, by omega⟩ (by decide) (fun c_22 => ?_) (fun c_22 => ?_)
      · have c_22 := c_22
        refine xr_aload_n E hl 0 rfl dX2_toldOfYear_32 rfl ?_
        refine xr_iload_n E hl 1 rfl dX2_toldOfYear_33 rfl ?_
        refine xk_ri E hX [0, 1, 2, 3] rfl (xv_V (As := [.int (iI v)]) E hX hl (c_X2_gap l D y z _ hF a_ind a_tot a_pri ind tot pri q fr li sh v H_I (by omega)) ml_X2_73 im_X2_gap se_X2_gap in_X2 co_X2_gap 1 (by decide) ⟨rfl, rfl⟩ ⟨Nat.le_of_ble_eq_true rfl, Nat.le_of_ble_eq_true rfl⟩ [0, 1, 2, 3] rfl rfl 0 rfl rfl rfl rfl rfl (Nat.le_of_ble_eq_true rfl) dX2_toldOfYear_34 ⟨Nat.le_refl _, Nat.le_refl _⟩) (fun r_34 H locs hw hX => ?_)
        subst hw
        refine xr_sipush E dX2_toldOfYear_37 (by decide) ?_
        refine xr_iadd E dX2_toldOfYear_40 ?_
        exact xr_iret E hX hQ () hr (by unfold xYr; (repeat' split) <;> first | (exfalso; omega) | rfl | (congr 1; omega) | (congr 2; omega)) rfl dX2_toldOfYear_41
      · have c_22 := c_22
        refine xr_aload_n E hl 0 rfl dX2_toldOfYear_25 rfl ?_
        refine xr_get E hX 0 rfl rfl ly_X2 1 (by decide) fl_X2_15 rfl dX2_toldOfYear_26 ?_
        refine xr_iload_n E hl 1 rfl dX2_toldOfYear_29 rfl ?_
        refine xr_iald E hX 2 rfl (by omega) (by omega) (by decide) dX2_toldOfYear_30 ?_
        exact xr_iret E hX hQ () hr (by unfold xYr; (repeat' split) <;> first | (exfalso; omega) | rfl | (congr 1; omega) | (congr 2; omega)) rfl dX2_toldOfYear_31
  · have c_2 := c_2
    refine xr_aload_n E hl 0 rfl dX2_toldOfYear_5 rfl ?_
    refine xr_iload_n E hl 1 rfl dX2_toldOfYear_6 rfl ?_
    refine xk_ri E hX [0, 1, 2, 3] rfl (xv_V (As := [.int (iI v)]) E hX hl (c_X2_indicated l D y z _ hF a_ind a_tot a_pri ind tot pri q fr li sh v H_I (by omega)) ml_X2_70 im_X2_indicated se_X2_indicated in_X2 co_X2_indicated 1 (by decide) ⟨rfl, rfl⟩ ⟨Nat.le_of_ble_eq_true rfl, Nat.le_of_ble_eq_true rfl⟩ [0, 1, 2, 3] rfl rfl 0 rfl rfl rfl rfl rfl (Nat.le_of_ble_eq_true rfl) dX2_toldOfYear_7 ⟨Nat.le_refl _, Nat.le_refl _⟩) (fun r_7 H locs hw hX => ?_)
    subst hw
    exact xr_iret E hX hQ () hr (by unfold xYr; (repeat' split) <;> first | (exfalso; omega) | rfl | (congr 1; omega) | (congr 2; omega)) rfl dX2_toldOfYear_10
def xAll (tot pri : Int → Int) (q fr li sh w : Int) : Int := if w = 0 then q else if w = 1 then xYears tot else if w = 2 then xOnes pri q else if w = 3 then fr else if w = 4 then li else sh
abbrev rm_X2_toldOfAll : Room := { frames := 2, cells := 0, slots := 0, locals := 43 }
set_option maxHeartbeats 4000000 in
set_option maxRecDepth 100000 in
theorem c_X2_toldOfAll (l : Launch) (D : va_G) (y : CY) (z sz : Nat) (hF a_ind a_tot a_pri : Nat) (ind : Int → Int) (tot : Int → Int) (pri : Int → Int) (q : Int) (fr : Int) (li : Int) (sh : Int) (w : Int) (H_I : FI ind tot pri q fr li sh) (hw : sm w) : Met l yX2_toldOfAll (Cond.code yX2_toldOfAll cX2_toldOfAll 2 (some .int) :: TW) rm_X2_toldOfAll (va_Pc [.ref hF, .int (iI w)] (PX D y z (W_F y hF a_ind a_tot a_pri ind tot pri q fr li sh) sz)) (va_Qi (fun (r : Int32) (u : Unit) => r = iI (xAll tot pri q fr li sh w)) (fun u t => BX D (W_F y hF a_ind a_tot a_pri ind tot pri q fr li sh) (va_A (W_F y hF a_ind a_tot a_pri ind tot pri q fr li sh) sz) t) (va_A (W_F y hF a_ind a_tot a_pri ind tot pri q fr li sh) sz)) 0 0 (va_A (W_F y hF a_ind a_tot a_pri ind tot pri q fr li sh) sz) := by
  refine xm_i (by decide) (Nat.le_of_ble_eq_true rfl) (fun p e s m args below meth c ls A Q E hr hnm hX hl hQ => ?_)
  have hl : lv_has ls 2 [(0, .ref hF), (1, .int (iI w))] := hl
  have hq := H_I.q
  have hfr := H_I.fr
  have hli := H_I.li
  have hsh := H_I.sh
  refine xr_iload_n E hl 1 rfl dX2_toldOfAll_0 rfl ?_
  by_cases k_1_0 : w = 0
  · refine xr_tabIn (tgt := 36) E dX2_toldOfAll_1 ⟨by omega, by omega⟩ 0 (by omega) (by omega) rfl (by decide) ?_
    refine xr_aload_n E hl 0 rfl dX2_toldOfAll_36 rfl ?_
    refine xr_get E hX 0 rfl rfl ly_X2 3 (by decide) fl_X2_21 rfl dX2_toldOfAll_37 ?_
    exact xr_iret E hX hQ () hr (by unfold xAll; (repeat' split) <;> first | (exfalso; omega) | rfl | (congr 1; omega) | (congr 2; omega)) rfl dX2_toldOfAll_40
  by_cases k_1_1 : w = 1
  · refine xr_tabIn (tgt := 41) E dX2_toldOfAll_1 ⟨by omega, by omega⟩ 1 (by omega) (by omega) rfl (by decide) ?_
    refine xr_aload_n E hl 0 rfl dX2_toldOfAll_41 rfl ?_
    refine xk_ri E hX [0, 1, 2, 3] rfl (xv_V (As := []) E hX hl (c_X2_yearsTold l D y z _ hF a_ind a_tot a_pri ind tot pri q fr li sh H_I) ml_X2_76 im_X2_yearsTold se_X2_yearsTold in_X2 co_X2_yearsTold 0 (by decide) ⟨rfl, rfl⟩ ⟨Nat.le_of_ble_eq_true rfl, Nat.le_of_ble_eq_true rfl⟩ [0, 1, 2, 3] rfl rfl 0 rfl rfl rfl rfl rfl (Nat.le_of_ble_eq_true rfl) dX2_toldOfAll_42 ⟨Nat.le_refl _, Nat.le_refl _⟩) (fun r_42 H locs hw hX => ?_)
    subst hw
    exact xr_iret E hX hQ () hr (by unfold xAll; (repeat' split) <;> first | (exfalso; omega) | rfl | (congr 1; omega) | (congr 2; omega)) rfl dX2_toldOfAll_45
  by_cases k_1_2 : w = 2
  · refine xr_tabIn (tgt := 46) E dX2_toldOfAll_1 ⟨by omega, by omega⟩ 2 (by omega) (by omega) rfl (by decide) ?_
    refine xr_aload_n E hl 0 rfl dX2_toldOfAll_46 rfl ?_
    refine xk_ri E hX [0, 1, 2, 3] rfl (xv_V (As := []) E hX hl (c_X2_printedOnes l D y z _ hF a_ind a_tot a_pri ind tot pri q fr li sh H_I) ml_X2_63 im_X2_printedOnes se_X2_printedOnes in_X2 co_X2_printedOnes 0 (by decide) ⟨rfl, rfl⟩ ⟨Nat.le_of_ble_eq_true rfl, Nat.le_of_ble_eq_true rfl⟩ [0, 1, 2, 3] rfl rfl 0 rfl rfl rfl rfl rfl (Nat.le_of_ble_eq_true rfl) dX2_toldOfAll_47 ⟨Nat.le_refl _, Nat.le_refl _⟩) (fun r_47 H locs hw hX => ?_)
    subst hw
    exact xr_iret E hX hQ () hr (by unfold xAll; (repeat' split) <;> first | (exfalso; omega) | rfl | (congr 1; omega) | (congr 2; omega)) rfl dX2_toldOfAll_50
  by_cases k_1_3 : w = 3
  · refine xr_tabIn (tgt := 51) E dX2_toldOfAll_1 ⟨by omega, by omega⟩ 3 (by omega) (by omega) rfl (by decide) ?_
    refine xr_aload_n E hl 0 rfl dX2_toldOfAll_51 rfl ?_
    refine xr_get E hX 0 rfl rfl ly_X2 4 (by decide) fl_X2_25 rfl dX2_toldOfAll_52 ?_
    exact xr_iret E hX hQ () hr (by unfold xAll; (repeat' split) <;> first | (exfalso; omega) | rfl | (congr 1; omega) | (congr 2; omega)) rfl dX2_toldOfAll_55
  by_cases k_1_4 : w = 4
  · refine xr_tabIn (tgt := 56) E dX2_toldOfAll_1 ⟨by omega, by omega⟩ 4 (by omega) (by omega) rfl (by decide) ?_
    refine xr_aload_n E hl 0 rfl dX2_toldOfAll_56 rfl ?_
    refine xr_get E hX 0 rfl rfl ly_X2 5 (by decide) fl_X2_28 rfl dX2_toldOfAll_57 ?_
    exact xr_iret E hX hQ () hr (by unfold xAll; (repeat' split) <;> first | (exfalso; omega) | rfl | (congr 1; omega) | (congr 2; omega)) rfl dX2_toldOfAll_60
  refine xr_tabOut (tgt := 61) E dX2_toldOfAll_1 ⟨by omega, by omega⟩ (by omega) (by decide) ?_
  refine xr_aload_n E hl 0 rfl dX2_toldOfAll_61 rfl ?_
  refine xr_get E hX 0 rfl rfl ly_X2 6 (by decide) fl_X2_31 rfl dX2_toldOfAll_62 ?_
  exact xr_iret E hX hQ () hr (by unfold xAll; (repeat' split) <;> first | (exfalso; omega) | rfl | (congr 1; omega) | (congr 2; omega)) rfl dX2_toldOfAll_65
end
section
/-! Figures: freezing, sharing out, movement, becoming another -/
abbrev W_Fx (y : CY) (hF a_ind a_tot a_pri a_x : Nat) (ind : Int → Int) (tot : Int → Int) (pri : Int → Int) (q : Int) (fr : Int) (li : Int) (sh : Int) (x : Int → Int) : va_W := [(hF, .inr (2, [.ref a_ind, .ref a_tot, .ref a_pri, .int (iI q), .int (iI fr), .int (iI li), .int (iI sh)])), (a_ind, .inl (y.1, 12, .inl (ia ind))), (a_tot, .inl (y.1, 3, .inl (ia tot))), (a_pri, .inl (y.1, 12, .inl (ia pri))), (a_x, .inl (y.1, 12, .inl (ia x)))]
abbrev W_FF (y : CY) (hF a_ind a_tot a_pri ohF oa_ind oa_tot oa_pri : Nat) (ind : Int → Int) (tot : Int → Int) (pri : Int → Int) (q : Int) (fr : Int) (li : Int) (sh : Int) (oind : Int → Int) (otot : Int → Int) (opri : Int → Int) (oq : Int) (ofr : Int) (oli : Int) (osh : Int) : va_W := [(hF, .inr (2, [.ref a_ind, .ref a_tot, .ref a_pri, .int (iI q), .int (iI fr), .int (iI li), .int (iI sh)])), (a_ind, .inl (y.1, 12, .inl (ia ind))), (a_tot, .inl (y.1, 3, .inl (ia tot))), (a_pri, .inl (y.1, 12, .inl (ia pri))), (ohF, .inr (2, [.ref oa_ind, .ref oa_tot, .ref oa_pri, .int (iI oq), .int (iI ofr), .int (iI oli), .int (iI osh)])), (oa_ind, .inl (y.1, 12, .inl (ia oind))), (oa_tot, .inl (y.1, 3, .inl (ia otot))), (oa_pri, .inl (y.1, 12, .inl (ia opri)))]
def bC1 (x : Int) : Int := x - bAnd (bUshr x 1) 1431655765
def bC2 (x : Int) : Int := bAnd x 858993459 + bAnd (bUshr x 2) 858993459
def bC3 (x : Int) : Int := bAnd (x + bUshr x 4) 252645135
def bC4 (x : Int) : Int := x + bUshr x 8
def bC5 (x : Int) : Int := x + bUshr x 16
def bCnt (x : Int) : Int := bAnd (bC5 (bC4 (bC3 (bC2 (bC1 x))))) 63
abbrev rm_J6_bitCount_0f7a4 : Room := { frames := 0, cells := 0, slots := 0, locals := 0 }
set_option maxHeartbeats 4000000 in
set_option maxRecDepth 100000 in
theorem c_J6_bitCount_0f7a4 (l : Launch) (D : va_G) (y : CY) (z sz : Nat) (x : Int) : Met l yJ6_bitCount_0f7a4 (Cond.code yJ6_bitCount_0f7a4 cJ6_bitCount_0f7a4 1 (some .int) :: TW) rm_J6_bitCount_0f7a4 (va_Pc [.int (iI x)] (PX D y z [] sz)) (va_Qi (fun (r : Int32) (u : Unit) => r = iI (bCnt x)) (fun u t => BX D [] (va_A [] sz) t) (va_A [] sz)) 0 0 (va_A [] sz) := by
  refine xm_i (by decide) (Nat.le_of_ble_eq_true rfl) (fun p e s m args below meth c ls A Q E hr hnm hX hl hQ => ?_)
  have hl : lv_has ls 1 [(0, .int (iI x))] := hl
  refine xr_iload_n E hl 0 rfl dJ6_bitCount_0f7a4_0 rfl ?_
  refine xr_iload_n E hl 0 rfl dJ6_bitCount_0f7a4_1 rfl ?_
  refine xr_iconst E dJ6_bitCount_0f7a4_2 ?_
  refine xr_iushr E dJ6_bitCount_0f7a4_3 ?_
  refine xr_ldcw (n := 1431655765) E kc_J6_265 dJ6_bitCount_0f7a4_4 (by decide) ?_
  refine xr_iand E dJ6_bitCount_0f7a4_7 ?_
  refine xr_isub E dJ6_bitCount_0f7a4_8 ?_
  refine xr_istore_n (lv' := [(0, .int (iI (x - (bAnd (bUshr x 1) 1431655765))))]) E hl dJ6_bitCount_0f7a4_9 rfl (by decide) rfl (fun ls hl => ?_)
  refine xr_iload_n E hl 0 rfl dJ6_bitCount_0f7a4_10 rfl ?_
  refine xr_ldcw (n := 858993459) E kc_J6_266 dJ6_bitCount_0f7a4_11 (by decide) ?_
  refine xr_iand E dJ6_bitCount_0f7a4_14 ?_
  refine xr_iload_n E hl 0 rfl dJ6_bitCount_0f7a4_15 rfl ?_
  refine xr_iconst E dJ6_bitCount_0f7a4_16 ?_
  refine xr_iushr E dJ6_bitCount_0f7a4_17 ?_
  refine xr_ldcw (n := 858993459) E kc_J6_266 dJ6_bitCount_0f7a4_18 (by decide) ?_
  refine xr_iand E dJ6_bitCount_0f7a4_21 ?_
  refine xr_iadd E dJ6_bitCount_0f7a4_22 ?_
  refine xr_istore_n (lv' := [(0, .int (iI ((bAnd (x - (bAnd (bUshr x 1) 1431655765)) 858993459) + (bAnd (bUshr (x - (bAnd (bUshr x 1) 1431655765)) 2) 858993459))))]) E hl dJ6_bitCount_0f7a4_23 rfl (by decide) rfl (fun ls hl => ?_)
  refine xr_iload_n E hl 0 rfl dJ6_bitCount_0f7a4_24 rfl ?_
  refine xr_iload_n E hl 0 rfl dJ6_bitCount_0f7a4_25 rfl ?_
  refine xr_iconst E dJ6_bitCount_0f7a4_26 ?_
  refine xr_iushr E dJ6_bitCount_0f7a4_27 ?_
  refine xr_iadd E dJ6_bitCount_0f7a4_28 ?_
  refine xr_ldcw (n := 252645135) E kc_J6_267 dJ6_bitCount_0f7a4_29 (by decide) ?_
  refine xr_iand E dJ6_bitCount_0f7a4_32 ?_
  refine xr_istore_n (lv' := [(0, .int (iI (bAnd (((bAnd (x - (bAnd (bUshr x 1) 1431655765)) 858993459) + (bAnd (bUshr (x - (bAnd (bUshr x 1) 1431655765)) 2) 858993459)) + (bUshr ((bAnd (x - (bAnd (bUshr x 1) 1431655765)) 858993459) + (bAnd (bUshr (x - (bAnd (bUshr x 1) 1431655765)) 2) 858993459)) 4)) 252645135)))]) E hl dJ6_bitCount_0f7a4_33 rfl (by decide) rfl (fun ls hl => ?_)
  refine xr_iload_n E hl 0 rfl dJ6_bitCount_0f7a4_34 rfl ?_
  refine xr_iload_n E hl 0 rfl dJ6_bitCount_0f7a4_35 rfl ?_
  refine xr_bipush E dJ6_bitCount_0f7a4_36 (by decide) ?_
  refine xr_iushr E dJ6_bitCount_0f7a4_38 ?_
  refine xr_iadd E dJ6_bitCount_0f7a4_39 ?_
  refine xr_istore_n (lv' := [(0, .int (iI ((bAnd (((bAnd (x - (bAnd (bUshr x 1) 1431655765)) 858993459) + (bAnd (bUshr (x - (bAnd (bUshr x 1) 1431655765)) 2) 858993459)) + (bUshr ((bAnd (x - (bAnd (bUshr x 1) 1431655765)) 858993459) + (bAnd (bUshr (x - (bAnd (bUshr x 1) 1431655765)) 2) 858993459)) 4)) 252645135) + (bUshr (bAnd (((bAnd (x - (bAnd (bUshr x 1) 1431655765)) 858993459) + (bAnd (bUshr (x - (bAnd (bUshr x 1) 1431655765)) 2) 858993459)) + (bUshr ((bAnd (x - (bAnd (bUshr x 1) 1431655765)) 858993459) + (bAnd (bUshr (x - (bAnd (bUshr x 1) 1431655765)) 2) 858993459)) 4)) 252645135) 8))))]) E hl dJ6_bitCount_0f7a4_40 rfl (by decide) rfl (fun ls hl => ?_)
  refine xr_iload_n E hl 0 rfl dJ6_bitCount_0f7a4_41 rfl ?_
  refine xr_iload_n E hl 0 rfl dJ6_bitCount_0f7a4_42 rfl ?_
  refine xr_bipush E dJ6_bitCount_0f7a4_43 (by decide) ?_
  refine xr_iushr E dJ6_bitCount_0f7a4_45 ?_
  refine xr_iadd E dJ6_bitCount_0f7a4_46 ?_
  refine xr_istore_n (lv' := [(0, .int (iI (((bAnd (((bAnd (x - (bAnd (bUshr x 1) 1431655765)) 858993459) + (bAnd (bUshr (x - (bAnd (bUshr x 1) 1431655765)) 2) 858993459)) + (bUshr ((bAnd (x - (bAnd (bUshr x 1) 1431655765)) 858993459) + (bAnd (bUshr (x - (bAnd (bUshr x 1) 1431655765)) 2) 858993459)) 4)) 252645135) + (bUshr (bAnd (((bAnd (x - (bAnd (bUshr x 1) 1431655765)) 858993459) + (bAnd (bUshr (x - (bAnd (bUshr x 1) 1431655765)) 2) 858993459)) + (bUshr ((bAnd (x - (bAnd (bUshr x 1) 1431655765)) 858993459) + (bAnd (bUshr (x - (bAnd (bUshr x 1) 1431655765)) 2) 858993459)) 4)) 252645135) 8)) + (bUshr ((bAnd (((bAnd (x - (bAnd (bUshr x 1) 1431655765)) 858993459) + (bAnd (bUshr (x - (bAnd (bUshr x 1) 1431655765)) 2) 858993459)) + (bUshr ((bAnd (x - (bAnd (bUshr x 1) 1431655765)) 858993459) + (bAnd (bUshr (x - (bAnd (bUshr x 1) 1431655765)) 2) 858993459)) 4)) 252645135) + (bUshr (bAnd (((bAnd (x - (bAnd (bUshr x 1) 1431655765)) 858993459) + (bAnd (bUshr (x - (bAnd (bUshr x 1) 1431655765)) 2) 858993459)) + (bUshr ((bAnd (x - (bAnd (bUshr x 1) 1431655765)) 858993459) + (bAnd (bUshr (x - (bAnd (bUshr x 1) 1431655765)) 2) 858993459)) 4)) 252645135) 8)) 16))))]) E hl dJ6_bitCount_0f7a4_47 rfl (by decide) rfl (fun ls hl => ?_)
  refine xr_iload_n E hl 0 rfl dJ6_bitCount_0f7a4_48 rfl ?_
  refine xr_bipush E dJ6_bitCount_0f7a4_49 (by decide) ?_
  refine xr_iand E dJ6_bitCount_0f7a4_51 ?_
  exact xr_iret E hX hQ () hr rfl rfl dJ6_bitCount_0f7a4_52
def xIcF (fr t on : Int) : Int := if on = 1 then bOr fr (bShl 1 t) else bAnd fr (bXor (bShl 1 t) (-1))
def xIc_r (t on : Int) (pri : Int → Int) (q fr : Int) : Int := if (0 ≤ t ∧ t ≤ q - 1) ∧ 0 ≤ on ∧ on ≤ 1 then (if pri t = -1 then -3 else bCnt (xIcF fr t on)) else -2
def xIc_fr (t on : Int) (pri : Int → Int) (q fr : Int) : Int := if (0 ≤ t ∧ t ≤ q - 1) ∧ 0 ≤ on ∧ on ≤ 1 then (if pri t = -1 then fr else xIcF fr t on) else fr
abbrev rm_X2_ices : Room := { frames := 2, cells := 0, slots := 0, locals := 43 }
set_option maxHeartbeats 4000000 in
set_option maxRecDepth 100000 in
theorem c_X2_ices (l : Launch) (D : va_G) (y : CY) (z sz : Nat) (hF a_ind a_tot a_pri : Nat) (ind : Int → Int) (tot : Int → Int) (pri : Int → Int) (q : Int) (fr : Int) (li : Int) (sh : Int) (t : Int) (on : Int) (ht : sm t) (ho : sm on) (H_I : FI ind tot pri q fr li sh) : Met l yX2_ices (Cond.code yX2_ices cX2_ices 4 (some .int) :: TW) rm_X2_ices (va_Pc [.ref hF, .int (iI t), .int (iI on)] (PX D y z (W_F y hF a_ind a_tot a_pri ind tot pri q fr li sh) sz)) (va_Qi (fun (r : Int32) (u : (Int)) => r = iI (xIc_r t on pri q fr) ∧ u = xIc_fr t on pri q fr) (fun u t => BX D (W_F y hF a_ind a_tot a_pri ind tot pri q u li sh) (va_A (W_F y hF a_ind a_tot a_pri ind tot pri q fr li sh) sz) t) (va_A (W_F y hF a_ind a_tot a_pri ind tot pri q fr li sh) sz)) 0 0 (va_A (W_F y hF a_ind a_tot a_pri ind tot pri q fr li sh) sz) := by
  refine xm_i (by decide) (Nat.le_of_ble_eq_true rfl) (fun p e s m args below meth c ls A Q E hr hnm hX hl hQ => ?_)
  have hl : lv_has ls 4 [(0, .ref hF), (1, .int (iI t)), (2, .int (iI on))] := hl
  have hq := H_I.q
  have hfr := H_I.fr
  have hli := H_I.li
  have hsh := H_I.sh
  refine xr_aload_n E hl 0 rfl dX2_ices_0 rfl ?_
  refine xr_iload_n E hl 1 rfl dX2_ices_1 rfl ?_
  refine xk_ri E hX [0, 1, 2, 3] rfl (xv_V (As := [.int (iI t)]) E hX hl (c_X2_has l D y z _ hF a_ind a_tot a_pri ind tot pri q fr li sh t ⟨by omega, by omega⟩ ⟨by omega, by omega⟩) ml_X2_44 im_X2_has se_X2_has in_X2 co_X2_has 1 (by decide) ⟨rfl, rfl⟩ ⟨Nat.le_of_ble_eq_true rfl, Nat.le_of_ble_eq_true rfl⟩ [0, 1, 2, 3] rfl rfl 0 rfl rfl rfl rfl rfl (Nat.le_of_ble_eq_true rfl) dX2_ices_2 ⟨Nat.le_refl _, Nat.le_refl _⟩) (fun r_2 H locs hw hX => ?_)
  subst hw
  refine xr_if_eqB (tgt := 17) E dX2_ices_5 (by decide) (fun c_5 => ?_) (fun c_5 => ?_)
  · have c_5 := of_decide_eq_false c_5
    refine xr_bipush E dX2_ices_17 (by decide) ?_
    exact xr_iret E hX hQ fr hr ⟨by unfold xIc_r xIcF; (repeat' split) <;> first | (exfalso; omega) | rfl | (congr 1; omega) | (congr 2; omega), by unfold xIc_fr xIcF; (repeat' split) <;> first | (exfalso; omega) | rfl | (congr 1; omega) | (congr 2; omega)⟩ rfl dX2_ices_19
  · have c_5 := of_decide_eq_true c_5
    refine xr_iload_n E hl 2 rfl dX2_ices_8 rfl ?_
    refine xr_iconst E dX2_ices_9 ?_
    refine xr_iconst E dX2_ices_10 ?_
    refine xk_ri E hX [] rfl (xv_SN (As := [.int (iI on), .int (iI 0), .int (iI 1)]) E hX hl (c_X5_within l D y z _ on 0 1 ⟨by omega, by omega⟩ ⟨by omega, by omega⟩ ⟨by omega, by omega⟩) E.2.2.2.2.2.2.1.2.2.2.2.1 st_X5_within in_X5 co_X5_within 3 (by decide) ⟨rfl, rfl⟩ ⟨Nat.le_of_ble_eq_true rfl, Nat.le_of_ble_eq_true rfl⟩ [] rfl rfl rfl rfl (Nat.le_of_ble_eq_true rfl) dX2_ices_11 ⟨Nat.le_refl _, Nat.le_refl _⟩) (fun r_11 H locs hw hX => ?_)
    subst hw
    refine xr_if_neB (tgt := 20) E dX2_ices_14 (by decide) (fun c_14 => ?_) (fun c_14 => ?_)
    · have c_14 := of_decide_eq_true c_14
      refine xr_aload_n E hl 0 rfl dX2_ices_20 rfl ?_
      refine xr_iload_n E hl 1 rfl dX2_ices_21 rfl ?_
      refine xk_ri E hX [0, 1, 2, 3] rfl (xv_V (As := [.int (iI t)]) E hX hl (c_X2_isPrinted l D y z _ hF a_ind a_tot a_pri ind tot pri q fr li sh t (by omega) (by have h := H_I.pri (t := t) (by omega) (by omega); exact ⟨by omega, by omega⟩)) ml_X2_51 im_X2_isPrinted se_X2_isPrinted in_X2 co_X2_isPrinted 1 (by decide) ⟨rfl, rfl⟩ ⟨Nat.le_of_ble_eq_true rfl, Nat.le_of_ble_eq_true rfl⟩ [0, 1, 2, 3] rfl rfl 0 rfl rfl rfl rfl rfl (Nat.le_of_ble_eq_true rfl) dX2_ices_22 ⟨Nat.le_refl _, Nat.le_refl _⟩) (fun r_22 H locs hw hX => ?_)
      subst hw
      refine xr_if_neB (tgt := 31) E dX2_ices_25 (by decide) (fun c_25 => ?_) (fun c_25 => ?_)
      · have c_25 := of_decide_eq_true c_25
        refine xr_iconst E dX2_ices_31 ?_
        refine xr_iload_n E hl 1 rfl dX2_ices_32 rfl ?_
        refine xr_ishl E dX2_ices_33 ?_
        refine xr_istore_n (lv' := [(3, .int (iI (bShl 1 t))), (0, .ref hF), (1, .int (iI t)), (2, .int (iI on))]) E hl dX2_ices_34 rfl (by decide) rfl (fun ls hl => ?_)
        refine xr_aload_n E hl 1 rfl dX2_ices_35 rfl ?_
        refine xr_iload_n E hl 3 rfl dX2_ices_36 rfl ?_
        refine xr_iconst E dX2_ices_37 ?_
        refine xr_icmp_ne (tgt := 50) E dX2_ices_38 (by decide) ⟨by omega, by omega⟩ (by decide) (fun c_38 => ?_) (fun c_38 => ?_)
        · have c_38 := c_38
          refine xr_aload_n E hl 1 rfl dX2_ices_50 rfl ?_
          refine xr_get E hX 0 rfl rfl ly_X2 4 (by decide) fl_X2_25 rfl dX2_ices_51 ?_
          refine xr_iload_n E hl 0 rfl dX2_ices_54 rfl ?_
          refine xr_iconst E dX2_ices_55 ?_
          refine xr_ixor E dX2_ices_56 ?_
          refine xr_iand E dX2_ices_57 ?_
          refine xr_put (W1 := (W_F y hF a_ind a_tot a_pri ind tot pri q (bAnd fr (bXor (bShl 1 t) (-1))) li sh)) E hX 0 rfl rfl ly_X2 tyX2_ok nmX2 4 (by decide) fl_X2_25 rfl rfl rfl (Nat.le_of_ble_eq_true rfl) rfl dX2_ices_58 (fun H locs hX => ?_)
          refine xr_aload_n E hl 1 rfl dX2_ices_61 rfl ?_
          refine xr_get E hX 0 rfl rfl ly_X2 4 (by decide) fl_X2_25 rfl dX2_ices_62 ?_
          refine xk_ri E hX [] rfl (xv_S (As := [.int (iI (bAnd fr (bXor (bShl 1 t) (-1))))]) E hX hl (c_J6_bitCount_0f7a4 l D y z _ (bAnd fr (bXor (bShl 1 t) (-1)))) ml_X2_54 st_J6_bitCount_0f7a4 in_J6 co_J6_bitCount_0f7a4 1 (by decide) ⟨rfl, rfl⟩ ⟨Nat.le_of_ble_eq_true rfl, Nat.le_of_ble_eq_true rfl⟩ [] rfl rfl rfl rfl (Nat.le_of_ble_eq_true rfl) dX2_ices_65 ⟨Nat.le_refl _, Nat.le_refl _⟩) (fun r_65 H locs hw hX => ?_)
          subst hw
          exact xr_iret E hX hQ (bAnd fr (bXor (bShl 1 t) (-1))) hr ⟨by unfold xIc_r xIcF; (repeat' split) <;> first | (exfalso; omega) | rfl | (congr 1; omega) | (congr 2; omega), by unfold xIc_fr xIcF; (repeat' split) <;> first | (exfalso; omega) | rfl | (congr 1; omega) | (congr 2; omega)⟩ rfl dX2_ices_68
        · have c_38 := c_38
          refine xr_aload_n E hl 1 rfl dX2_ices_41 rfl ?_
          refine xr_get E hX 0 rfl rfl ly_X2 4 (by decide) fl_X2_25 rfl dX2_ices_42 ?_
          refine xr_iload_n E hl 0 rfl dX2_ices_45 rfl ?_
          refine xr_ior E dX2_ices_46 ?_
          refine xr_goto (tgt := 58) E dX2_ices_47 (by decide) ?_
          refine xr_put (W1 := (W_F y hF a_ind a_tot a_pri ind tot pri q (bOr fr (bShl 1 t)) li sh)) E hX 0 rfl rfl ly_X2 tyX2_ok nmX2 4 (by decide) fl_X2_25 rfl rfl rfl (Nat.le_of_ble_eq_true rfl) rfl dX2_ices_58 (fun H locs hX => ?_)
          refine xr_aload_n E hl 1 rfl dX2_ices_61 rfl ?_
          refine xr_get E hX 0 rfl rfl ly_X2 4 (by decide) fl_X2_25 rfl dX2_ices_62 ?_
          refine xk_ri E hX [] rfl (xv_S (As := [.int (iI (bOr fr (bShl 1 t)))]) E hX hl (c_J6_bitCount_0f7a4 l D y z _ (bOr fr (bShl 1 t))) ml_X2_54 st_J6_bitCount_0f7a4 in_J6 co_J6_bitCount_0f7a4 1 (by decide) ⟨rfl, rfl⟩ ⟨Nat.le_of_ble_eq_true rfl, Nat.le_of_ble_eq_true rfl⟩ [] rfl rfl rfl rfl (Nat.le_of_ble_eq_true rfl) dX2_ices_65 ⟨Nat.le_refl _, Nat.le_refl _⟩) (fun r_65 H locs hw hX => ?_)
          subst hw
          exact xr_iret E hX hQ (bOr fr (bShl 1 t)) hr ⟨by unfold xIc_r xIcF; (repeat' split) <;> first | (exfalso; omega) | rfl | (congr 1; omega) | (congr 2; omega), by unfold xIc_fr xIcF; (repeat' split) <;> first | (exfalso; omega) | rfl | (congr 1; omega) | (congr 2; omega)⟩ rfl dX2_ices_68
      · have c_25 := of_decide_eq_false c_25
        refine xr_bipush E dX2_ices_28 (by decide) ?_
        exact xr_iret E hX hQ fr hr ⟨by unfold xIc_r xIcF; (repeat' split) <;> first | (exfalso; omega) | rfl | (congr 1; omega) | (congr 2; omega), by unfold xIc_fr xIcF; (repeat' split) <;> first | (exfalso; omega) | rfl | (congr 1; omega) | (congr 2; omega)⟩ rfl dX2_ices_30
    · have c_14 := of_decide_eq_false c_14
      refine xr_bipush E dX2_ices_17 (by decide) ?_
      exact xr_iret E hX hQ fr hr ⟨by unfold xIc_r xIcF; (repeat' split) <;> first | (exfalso; omega) | rfl | (congr 1; omega) | (congr 2; omega), by unfold xIc_fr xIcF; (repeat' split) <;> first | (exfalso; omega) | rfl | (congr 1; omega) | (congr 2; omega)⟩ rfl dX2_ices_19
theorem mul_bd {a b A B : Int} (h0 : 0 ≤ a) (h1 : a ≤ A) (h2 : 0 ≤ b) (h3 : b ≤ B) : 0 ≤ a * b ∧ a * b ≤ A * B :=
  ⟨Int.mul_nonneg h0 h2, Int.mul_le_mul h1 h3 h2 (by omega)⟩
abbrev rm_X2_share : Room := { frames := 1, cells := 0, slots := 0, locals := 23 }
set_option maxHeartbeats 4000000 in
set_option maxRecDepth 100000 in
theorem c_X2_share (l : Launch) (D : va_G) (y : CY) (z sz : Nat) (hF a_ind a_tot a_pri : Nat) (ind : Int → Int) (tot : Int → Int) (pri : Int → Int) (q : Int) (fr : Int) (li : Int) (sh : Int) (t : Int) (H_I : FI ind tot pri q fr li sh) (ht : 0 ≤ t ∧ t < 12) : Met l yX2_share (Cond.code yX2_share cX2_share 9 (some .int) :: TW) rm_X2_share (va_Pc [.ref hF, .int (iI t)] (PX D y z (W_F y hF a_ind a_tot a_pri ind tot pri q fr li sh) sz)) (va_Qi (fun (r : Int32) (u : Unit) => r = iI (xShare ind tot q t)) (fun u t => BX D (W_F y hF a_ind a_tot a_pri ind tot pri q fr li sh) (va_A (W_F y hF a_ind a_tot a_pri ind tot pri q fr li sh) sz) t) (va_A (W_F y hF a_ind a_tot a_pri ind tot pri q fr li sh) sz)) 0 0 (va_A (W_F y hF a_ind a_tot a_pri ind tot pri q fr li sh) sz) := by
  refine xm_i (by decide) (Nat.le_of_ble_eq_true rfl) (fun p e s m args below meth c ls A Q E hr hnm hX hl hQ => ?_)
  have hl : lv_has ls 9 [(0, .ref hF), (1, .int (iI t))] := hl
  have hq := H_I.q
  have hfr := H_I.fr
  have hli := H_I.li
  have hsh := H_I.sh
  have hv : 0 ≤ t / 4 ∧ t / 4 < 3 := by omega
  have hS := xInd_bd (q := q) (v := t / 4) (fun t h0 h1 => ⟨(H_I.ind h0 h1).1, (H_I.ind h0 h1).2.1⟩) hv.1 hv.2 hq.2
  have htt := H_I.tot hv.1 hv.2
  have hit := H_I.ind ht.1 ht.2
  refine xr_iload_n E hl 1 rfl dX2_share_0 rfl ?_
  refine xr_iconst E dX2_share_1 ?_
  refine xr_idiv E dX2_share_2 ⟨by omega, by omega⟩ (by decide) (by omega) (by omega) ?_
  refine xr_istore_n (lv' := [(2, .int (iI (t / 4))), (0, .ref hF), (1, .int (iI t))]) E hl dX2_share_3 rfl (by decide) rfl (fun ls hl => ?_)
  refine xr_aload_n E hl 1 rfl dX2_share_4 rfl ?_
  refine xr_iload_n E hl 0 rfl dX2_share_5 rfl ?_
  refine xk_ri E hX [0, 1, 2, 3] rfl (xv_V (As := [.int (iI (t / 4))]) E hX hl (c_X2_indicated l D y z _ hF a_ind a_tot a_pri ind tot pri q fr li sh (t / 4) H_I (by omega)) ml_X2_70 im_X2_indicated se_X2_indicated in_X2 co_X2_indicated 1 (by decide) ⟨rfl, rfl⟩ ⟨Nat.le_of_ble_eq_true rfl, Nat.le_of_ble_eq_true rfl⟩ [0, 1, 2, 3] rfl rfl 0 rfl rfl rfl rfl rfl (Nat.le_of_ble_eq_true rfl) dX2_share_6 ⟨Nat.le_refl _, Nat.le_refl _⟩) (fun r_6 H locs hw hX => ?_)
  subst hw
  refine xr_istore_n (lv' := [(3, .int (iI (xInd ind q (t / 4)))), (2, .int (iI (t / 4))), (0, .ref hF), (1, .int (iI t))]) E hl dX2_share_9 rfl (by decide) rfl (fun ls hl => ?_)
  refine xr_aload_n E hl 2 rfl dX2_share_10 rfl ?_
  refine xr_get E hX 0 rfl rfl ly_X2 1 (by decide) fl_X2_15 rfl dX2_share_11 ?_
  refine xr_iload_n E hl 1 rfl dX2_share_14 rfl ?_
  refine xr_iald E hX 2 rfl (by omega) (by omega) (by decide) dX2_share_15 ?_
  refine xr_iconst E dX2_share_16 ?_
  refine xr_icmp_eq (tgt := 24) E dX2_share_17 (by decide) ⟨by omega, by omega⟩ (by decide) (fun c_17 => ?_) (fun c_17 => ?_)
  · have c_17 := c_17
    refine xr_aload_n E hl 2 rfl dX2_share_24 rfl ?_
    refine xr_get E hX 0 rfl rfl ly_X2 0 (by decide) fl_X2_9 rfl dX2_share_25 ?_
    refine xr_iload_n E hl 3 rfl dX2_share_28 rfl ?_
    refine xr_iald E hX 1 rfl (by omega) (by omega) (by decide) dX2_share_29 ?_
    exact xr_iret E hX hQ () hr (by unfold xShare; rw [if_pos (by omega)]) rfl dX2_share_30
  · have c_17 := c_17
    refine xr_iload_n E hl 0 rfl dX2_share_20 rfl ?_
    refine xr_if_gt (tgt := 31) E dX2_share_21 (by decide) ⟨by omega, by omega⟩ (fun c_21 => ?_) (fun c_21 => ?_)
    · have c_21 := c_21
      have hm := mul_bd (a := tot (t / 4)) (b := ind t) (A := 999) (B := 99) (by omega) (by omega) (by omega) (by omega)
      have hr1 := Int.emod_nonneg (tot (t / 4) * ind t) (show xInd ind q (t / 4) ≠ 0 by omega)
      have hr2 := Int.emod_lt_of_pos (tot (t / 4) * ind t) (show 0 < xInd ind q (t / 4) by omega)
      have hd0 := Int.ediv_nonneg hm.1 (show 0 ≤ xInd ind q (t / 4) by omega)
      refine xr_aload_n E hl 2 rfl dX2_share_31 rfl ?_
      refine xr_get E hX 0 rfl rfl ly_X2 1 (by decide) fl_X2_15 rfl dX2_share_32 ?_
      refine xr_iload_n E hl 1 rfl dX2_share_35 rfl ?_
      refine xr_iald E hX 2 rfl (by omega) (by omega) (by decide) dX2_share_36 ?_
      refine xr_aload_n E hl 2 rfl dX2_share_37 rfl ?_
      refine xr_get E hX 0 rfl rfl ly_X2 0 (by decide) fl_X2_9 rfl dX2_share_38 ?_
      refine xr_iload_n E hl 3 rfl dX2_share_41 rfl ?_
      refine xr_iald E hX 1 rfl (by omega) (by omega) (by decide) dX2_share_42 ?_
      refine xr_imul E dX2_share_43 ?_
      refine xr_iload_n E hl 0 rfl dX2_share_44 rfl ?_
      refine xr_irem E dX2_share_45 ⟨by omega, by omega⟩ ⟨by omega, by omega⟩ (by omega) (by omega) ?_
      refine xr_istore (lv' := [(4, .int (iI (((tot (t / 4)) * (ind t)) % xInd ind q (t / 4)))), (3, .int (iI (xInd ind q (t / 4)))), (2, .int (iI (t / 4))), (0, .ref hF), (1, .int (iI t))]) E hl dX2_share_46 (by decide) rfl (fun ls hl => ?_)
      refine xr_aload_n E hl 3 rfl dX2_share_48 rfl ?_
      refine xr_get E hX 0 rfl rfl ly_X2 1 (by decide) fl_X2_15 rfl dX2_share_49 ?_
      refine xr_iload_n E hl 2 rfl dX2_share_52 rfl ?_
      refine xr_iald E hX 2 rfl (by omega) (by omega) (by decide) dX2_share_53 ?_
      refine xr_istore (lv' := [(5, .int (iI (tot (t / 4)))), (4, .int (iI (((tot (t / 4)) * (ind t)) % xInd ind q (t / 4)))), (3, .int (iI (xInd ind q (t / 4)))), (2, .int (iI (t / 4))), (0, .ref hF), (1, .int (iI t))]) E hl dX2_share_54 (by decide) rfl (fun ls hl => ?_)
      refine xr_iconst E dX2_share_56 ?_
      refine xr_istore (lv' := [(6, .int (iI 0)), (5, .int (iI (tot (t / 4)))), (4, .int (iI (((tot (t / 4)) * (ind t)) % xInd ind q (t / 4)))), (3, .int (iI (xInd ind q (t / 4)))), (2, .int (iI (t / 4))), (0, .ref hF), (1, .int (iI t))]) E hl dX2_share_57 (by decide) rfl (fun ls hl => ?_)
      refine xr_iconst E dX2_share_59 ?_
      refine xr_iload_n E hl 4 rfl dX2_share_60 rfl ?_
      refine xr_imul E dX2_share_61 ?_
      refine xr_istore (lv' := [(7, .int (iI (4 * (t / 4)))), (6, .int (iI 0)), (5, .int (iI (tot (t / 4)))), (4, .int (iI (((tot (t / 4)) * (ind t)) % xInd ind q (t / 4)))), (3, .int (iI (xInd ind q (t / 4)))), (2, .int (iI (t / 4))), (0, .ref hF), (1, .int (iI t))]) E hl dX2_share_62 (by decide) rfl (fun ls hl => ?_)
      have L_64 : ∀ (nmu : Nat) (n : Nat) (lf : Int) (ah : Int) (u : Int), 4 - n < nmu → (u = 4 * (t / 4) + n) → (lf = tot (t / 4) - sumI (fun u => tot (t / 4) * ind u / xInd ind q (t / 4)) (4 * (t / 4)) n) → (ah = sumI (fun u => if tot (t / 4) * ind u % xInd ind q (t / 4) > tot (t / 4) * ind t % xInd ind q (t / 4) ∨ (tot (t / 4) * ind u % xInd ind q (t / 4) = tot (t / 4) * ind t % xInd ind q (t / 4) ∧ u < t) then 1 else 0) (4 * (t / 4)) n) → (-500000 * (n : Int) ≤ lf ∧ lf ≤ 999 ∧ 0 ≤ ah ∧ ah ≤ n) → (n ≤ 4 ∧ (n = 0 ∨ 4 * (t / 4) + n ≤ q)) → ∀ (H : Heap) (locs : List Loc) (ls : Array Slot), XW D A s.heap (W_F y hF a_ind a_tot a_pri ind tot pri q fr li sh) H locs → lv_has ls 9 [(0, .ref hF), (1, .int (iI t)), (2, .int (iI (t / 4))), (3, .int (iI (xInd ind q (t / 4)))), (4, .int (iI (((tot (t / 4)) * (ind t)) % xInd ind q (t / 4)))), (5, .int (iI lf)), (6, .int (iI ah)), (7, .int (iI u))] → W p l e rm_X2_share s m args below meth c H locs 0 0 Q (F0 m 64 ls []) := by
        intro nmu
        induction nmu with
        | zero =>
          intro n lf ah u hmu
          exact absurd hmu (Nat.not_lt_zero _)
        | succ nmu ih =>
          intro n lf ah u hmu hu hlf hah hb hn H locs ls hX hl
          have ih_64_1 := ih
          clear ih
          refine xr_iload E hl 7 rfl dX2_share_64 ?_
          refine xr_iconst E dX2_share_66 ?_
          refine xr_iload_n E hl 2 rfl dX2_share_67 rfl ?_
          refine xr_iconst E dX2_share_68 ?_
          refine xr_iadd E dX2_share_69 ?_
          refine xr_imul E dX2_share_70 ?_
          refine xr_icmp_ge (tgt := 158) E dX2_share_71 (by decide) ⟨by omega, by omega⟩ ⟨by omega, by omega⟩ (fun c_71 => ?_) (fun c_71 => ?_)
          · have c_71 := c_71
            refine xr_aload_n E hl 0 rfl dX2_share_158 rfl ?_
            refine xr_get E hX 0 rfl rfl ly_X2 1 (by decide) fl_X2_15 rfl dX2_share_159 ?_
            refine xr_iload_n E hl 2 rfl dX2_share_162 rfl ?_
            refine xr_iald E hX 2 rfl (by omega) (by omega) (by decide) dX2_share_163 ?_
            refine xr_aload_n E hl 0 rfl dX2_share_164 rfl ?_
            refine xr_get E hX 0 rfl rfl ly_X2 0 (by decide) fl_X2_9 rfl dX2_share_165 ?_
            refine xr_iload_n E hl 1 rfl dX2_share_168 rfl ?_
            refine xr_iald E hX 1 rfl (by omega) (by omega) (by decide) dX2_share_169 ?_
            refine xr_imul E dX2_share_170 ?_
            refine xr_iload_n E hl 3 rfl dX2_share_171 rfl ?_
            refine xr_idiv E dX2_share_172 ⟨by omega, by omega⟩ ⟨by omega, by omega⟩ (by omega) (by omega) ?_
            refine xr_iload E hl 6 rfl dX2_share_173 ?_
            refine xr_iload E hl 5 rfl dX2_share_175 ?_
            refine xr_icmp_ge (tgt := 184) E dX2_share_177 (by decide) ⟨by omega, by omega⟩ ⟨by omega, by omega⟩ (fun c_177 => ?_) (fun c_177 => ?_)
            · have c_177 := c_177
              refine xr_iconst E dX2_share_184 ?_
              refine xr_iadd E dX2_share_185 ?_
              exact xr_iret E hX hQ () hr (by unfold xShare; rw [if_neg (by omega), show yN q (t / 4) = n by unfold yN; split <;> omega, ← hah, show tot (t / 4) - sumI (fun u => tot (t / 4) * ind u / xInd ind q (t / 4)) (4 * (t / 4)) n = lf by omega]; split <;> first | rfl | (exfalso; omega)) rfl dX2_share_186
            · have c_177 := c_177
              refine xr_iconst E dX2_share_180 ?_
              refine xr_goto (tgt := 185) E dX2_share_181 (by decide) ?_
              refine xr_iadd E dX2_share_185 ?_
              exact xr_iret E hX hQ () hr (by unfold xShare; rw [if_neg (by omega), show yN q (t / 4) = n by unfold yN; split <;> omega, ← hah, show tot (t / 4) - sumI (fun u => tot (t / 4) * ind u / xInd ind q (t / 4)) (4 * (t / 4)) n = lf by omega]; split <;> first | rfl | (exfalso; omega)) rfl dX2_share_186
          · have c_71 := c_71
            refine xr_iload E hl 7 rfl dX2_share_74 ?_
            refine xr_aload_n E hl 0 rfl dX2_share_76 rfl ?_
            refine xr_get E hX 0 rfl rfl ly_X2 3 (by decide) fl_X2_21 rfl dX2_share_77 ?_
            refine xr_icmp_ge (tgt := 158) E dX2_share_80 (by decide) ⟨by omega, by omega⟩ ⟨by omega, by omega⟩ (fun c_80 => ?_) (fun c_80 => ?_)
            · have c_80 := c_80
              refine xr_aload_n E hl 0 rfl dX2_share_158 rfl ?_
              refine xr_get E hX 0 rfl rfl ly_X2 1 (by decide) fl_X2_15 rfl dX2_share_159 ?_
              refine xr_iload_n E hl 2 rfl dX2_share_162 rfl ?_
              refine xr_iald E hX 2 rfl (by omega) (by omega) (by decide) dX2_share_163 ?_
              refine xr_aload_n E hl 0 rfl dX2_share_164 rfl ?_
              refine xr_get E hX 0 rfl rfl ly_X2 0 (by decide) fl_X2_9 rfl dX2_share_165 ?_
              refine xr_iload_n E hl 1 rfl dX2_share_168 rfl ?_
              refine xr_iald E hX 1 rfl (by omega) (by omega) (by decide) dX2_share_169 ?_
              refine xr_imul E dX2_share_170 ?_
              refine xr_iload_n E hl 3 rfl dX2_share_171 rfl ?_
              refine xr_idiv E dX2_share_172 ⟨by omega, by omega⟩ ⟨by omega, by omega⟩ (by omega) (by omega) ?_
              refine xr_iload E hl 6 rfl dX2_share_173 ?_
              refine xr_iload E hl 5 rfl dX2_share_175 ?_
              refine xr_icmp_ge (tgt := 184) E dX2_share_177 (by decide) ⟨by omega, by omega⟩ ⟨by omega, by omega⟩ (fun c_177 => ?_) (fun c_177 => ?_)
              · have c_177 := c_177
                refine xr_iconst E dX2_share_184 ?_
                refine xr_iadd E dX2_share_185 ?_
                exact xr_iret E hX hQ () hr (by unfold xShare; rw [if_neg (by omega), show yN q (t / 4) = n by unfold yN; split <;> omega, ← hah, show tot (t / 4) - sumI (fun u => tot (t / 4) * ind u / xInd ind q (t / 4)) (4 * (t / 4)) n = lf by omega]; split <;> first | rfl | (exfalso; omega)) rfl dX2_share_186
              · have c_177 := c_177
                refine xr_iconst E dX2_share_180 ?_
                refine xr_goto (tgt := 185) E dX2_share_181 (by decide) ?_
                refine xr_iadd E dX2_share_185 ?_
                exact xr_iret E hX hQ () hr (by unfold xShare; rw [if_neg (by omega), show yN q (t / 4) = n by unfold yN; split <;> omega, ← hah, show tot (t / 4) - sumI (fun u => tot (t / 4) * ind u / xInd ind q (t / 4)) (4 * (t / 4)) n = lf by omega]; split <;> first | rfl | (exfalso; omega)) rfl dX2_share_186
            · have c_80 := c_80
              have hiu := H_I.ind (t := u) (by omega) (by omega)
              have hmu1 := mul_bd (a := tot (t / 4)) (b := ind u) (A := 999) (B := 99) (by omega) (by omega) (by omega) (by omega)
              have hu1 := Int.emod_nonneg (tot (t / 4) * ind u) (show xInd ind q (t / 4) ≠ 0 by omega)
              have hu2 := Int.emod_lt_of_pos (tot (t / 4) * ind u) (show 0 < xInd ind q (t / 4) by omega)
              have hd1 := Int.ediv_nonneg hmu1.1 (show 0 ≤ xInd ind q (t / 4) by omega)
              have hd2 := Int.ediv_le_self (xInd ind q (t / 4)) hmu1.1
              refine xr_aload_n E hl 0 rfl dX2_share_83 rfl ?_
              refine xr_get E hX 0 rfl rfl ly_X2 1 (by decide) fl_X2_15 rfl dX2_share_84 ?_
              refine xr_iload_n E hl 2 rfl dX2_share_87 rfl ?_
              refine xr_iald E hX 2 rfl (by omega) (by omega) (by decide) dX2_share_88 ?_
              refine xr_aload_n E hl 0 rfl dX2_share_89 rfl ?_
              refine xr_get E hX 0 rfl rfl ly_X2 0 (by decide) fl_X2_9 rfl dX2_share_90 ?_
              refine xr_iload E hl 7 rfl dX2_share_93 ?_
              refine xr_iald E hX 1 rfl (by omega) (by omega) (by decide) dX2_share_95 ?_
              refine xr_imul E dX2_share_96 ?_
              refine xr_iload_n E hl 3 rfl dX2_share_97 rfl ?_
              refine xr_irem E dX2_share_98 ⟨by omega, by omega⟩ ⟨by omega, by omega⟩ (by omega) (by omega) ?_
              refine xr_istore (lv' := [(8, .int (iI (((tot (t / 4)) * (ind u)) % xInd ind q (t / 4)))), (0, .ref hF), (1, .int (iI t)), (2, .int (iI (t / 4))), (3, .int (iI (xInd ind q (t / 4)))), (4, .int (iI (((tot (t / 4)) * (ind t)) % xInd ind q (t / 4)))), (5, .int (iI lf)), (6, .int (iI ah)), (7, .int (iI u))]) E hl dX2_share_99 (by decide) rfl (fun ls hl => ?_)
              refine xr_iload E hl 6 rfl dX2_share_101 ?_
              refine xr_aload_n E hl 1 rfl dX2_share_103 rfl ?_
              refine xr_get E hX 0 rfl rfl ly_X2 1 (by decide) fl_X2_15 rfl dX2_share_104 ?_
              refine xr_iload_n E hl 3 rfl dX2_share_107 rfl ?_
              refine xr_iald E hX 2 rfl (by omega) (by omega) (by decide) dX2_share_108 ?_
              refine xr_aload_n E hl 1 rfl dX2_share_109 rfl ?_
              refine xr_get E hX 0 rfl rfl ly_X2 0 (by decide) fl_X2_9 rfl dX2_share_110 ?_
              refine xr_iload E hl 8 rfl dX2_share_113 ?_
              refine xr_iald E hX 1 rfl (by omega) (by omega) (by decide) dX2_share_115 ?_
              refine xr_imul E dX2_share_116 ?_
              refine xr_iload_n E hl 4 rfl dX2_share_117 rfl ?_
              refine xr_idiv E dX2_share_118 ⟨by omega, by omega⟩ ⟨by omega, by omega⟩ (by omega) (by omega) ?_
              refine xr_isub E dX2_share_119 ?_
              refine xr_istore (lv' := [(5, .int (iI (lf - (((tot (t / 4)) * (ind u)) / xInd ind q (t / 4))))), (8, .int (iI (((tot (t / 4)) * (ind u)) % xInd ind q (t / 4)))), (0, .ref hF), (1, .int (iI t)), (2, .int (iI (t / 4))), (3, .int (iI (xInd ind q (t / 4)))), (4, .int (iI (((tot (t / 4)) * (ind t)) % xInd ind q (t / 4)))), (6, .int (iI ah)), (7, .int (iI u))]) E hl dX2_share_120 (by decide) rfl (fun ls hl => ?_)
              refine xr_iload E hl 7 rfl dX2_share_122 ?_
              refine xr_iload E hl 1 rfl dX2_share_124 ?_
              refine xr_iload E hl 6 rfl dX2_share_126 ?_
              refine xr_icmp_gt (tgt := 144) E dX2_share_128 (by decide) ⟨by omega, by omega⟩ ⟨by omega, by omega⟩ (fun c_128 => ?_) (fun c_128 => ?_)
              · have c_128 := c_128
                refine xr_iconst E dX2_share_144 ?_
                refine xr_goto (tgt := 149) E dX2_share_145 (by decide) ?_
                refine xr_iadd E dX2_share_149 ?_
                refine xr_istore (lv' := [(6, .int (iI (ah + 1))), (5, .int (iI (lf - (((tot (t / 4)) * (ind u)) / xInd ind q (t / 4))))), (8, .int (iI (((tot (t / 4)) * (ind u)) % xInd ind q (t / 4)))), (0, .ref hF), (1, .int (iI t)), (2, .int (iI (t / 4))), (3, .int (iI (xInd ind q (t / 4)))), (4, .int (iI (((tot (t / 4)) * (ind t)) % xInd ind q (t / 4)))), (7, .int (iI u))]) E hl dX2_share_150 (by decide) rfl (fun ls hl => ?_)
                refine xr_iinc (k := 8) (lv' := [(7, .int (iI (u + 1))), (6, .int (iI (ah + 1))), (5, .int (iI (lf - (((tot (t / 4)) * (ind u)) / xInd ind q (t / 4))))), (8, .int (iI (((tot (t / 4)) * (ind u)) % xInd ind q (t / 4)))), (0, .ref hF), (1, .int (iI t)), (2, .int (iI (t / 4))), (3, .int (iI (xInd ind q (t / 4)))), (4, .int (iI (((tot (t / 4)) * (ind t)) % xInd ind q (t / 4))))]) E hl rfl dX2_share_152 (by decide) rfl (fun ls hl => ?_)
                refine xr_goto (tgt := 64) E dX2_share_155 (by decide) ?_
                exact ih_64_1 (n + 1) (lf - (((tot (t / 4)) * (ind u)) / xInd ind q (t / 4))) (ah + 1) (u + 1) (by omega) (by omega) (by rw [sumI_s, ← hu, hlf]; omega) (by rw [sumI_s, ← hah, ← hu]; (repeat' split) <;> omega) (by omega) (by omega) _ _ _ hX (lv_sub hl [4, 5, 6, 7, 8, 2, 1, 0] rfl)
              · have c_128 := c_128
                refine xr_iload E hl 1 rfl dX2_share_131 ?_
                refine xr_iload E hl 6 rfl dX2_share_133 ?_
                refine xr_icmp_ne (tgt := 148) E dX2_share_135 (by decide) ⟨by omega, by omega⟩ ⟨by omega, by omega⟩ (fun c_135 => ?_) (fun c_135 => ?_)
                · have c_135 := c_135
                  refine xr_iconst E dX2_share_148 ?_
                  refine xr_iadd E dX2_share_149 ?_
                  refine xr_istore (lv' := [(6, .int (iI (ah + 0))), (5, .int (iI (lf - (((tot (t / 4)) * (ind u)) / xInd ind q (t / 4))))), (8, .int (iI (((tot (t / 4)) * (ind u)) % xInd ind q (t / 4)))), (0, .ref hF), (1, .int (iI t)), (2, .int (iI (t / 4))), (3, .int (iI (xInd ind q (t / 4)))), (4, .int (iI (((tot (t / 4)) * (ind t)) % xInd ind q (t / 4)))), (7, .int (iI u))]) E hl dX2_share_150 (by decide) rfl (fun ls hl => ?_)
                  refine xr_iinc (k := 8) (lv' := [(7, .int (iI (u + 1))), (6, .int (iI (ah + 0))), (5, .int (iI (lf - (((tot (t / 4)) * (ind u)) / xInd ind q (t / 4))))), (8, .int (iI (((tot (t / 4)) * (ind u)) % xInd ind q (t / 4)))), (0, .ref hF), (1, .int (iI t)), (2, .int (iI (t / 4))), (3, .int (iI (xInd ind q (t / 4)))), (4, .int (iI (((tot (t / 4)) * (ind t)) % xInd ind q (t / 4))))]) E hl rfl dX2_share_152 (by decide) rfl (fun ls hl => ?_)
                  refine xr_goto (tgt := 64) E dX2_share_155 (by decide) ?_
                  exact ih_64_1 (n + 1) (lf - (((tot (t / 4)) * (ind u)) / xInd ind q (t / 4))) (ah + 0) (u + 1) (by omega) (by omega) (by rw [sumI_s, ← hu, hlf]; omega) (by rw [sumI_s, ← hah, ← hu]; (repeat' split) <;> omega) (by omega) (by omega) _ _ _ hX (lv_sub hl [4, 5, 6, 7, 8, 2, 1, 0] rfl)
                · have c_135 := c_135
                  refine xr_iload E hl 8 rfl dX2_share_138 ?_
                  refine xr_iload_n E hl 3 rfl dX2_share_140 rfl ?_
                  refine xr_icmp_ge (tgt := 148) E dX2_share_141 (by decide) ⟨by omega, by omega⟩ ⟨by omega, by omega⟩ (fun c_141 => ?_) (fun c_141 => ?_)
                  · have c_141 := c_141
                    refine xr_iconst E dX2_share_148 ?_
                    refine xr_iadd E dX2_share_149 ?_
                    refine xr_istore (lv' := [(6, .int (iI (ah + 0))), (5, .int (iI (lf - (((tot (t / 4)) * (ind u)) / xInd ind q (t / 4))))), (8, .int (iI (((tot (t / 4)) * (ind u)) % xInd ind q (t / 4)))), (0, .ref hF), (1, .int (iI t)), (2, .int (iI (t / 4))), (3, .int (iI (xInd ind q (t / 4)))), (4, .int (iI (((tot (t / 4)) * (ind t)) % xInd ind q (t / 4)))), (7, .int (iI u))]) E hl dX2_share_150 (by decide) rfl (fun ls hl => ?_)
                    refine xr_iinc (k := 8) (lv' := [(7, .int (iI (u + 1))), (6, .int (iI (ah + 0))), (5, .int (iI (lf - (((tot (t / 4)) * (ind u)) / xInd ind q (t / 4))))), (8, .int (iI (((tot (t / 4)) * (ind u)) % xInd ind q (t / 4)))), (0, .ref hF), (1, .int (iI t)), (2, .int (iI (t / 4))), (3, .int (iI (xInd ind q (t / 4)))), (4, .int (iI (((tot (t / 4)) * (ind t)) % xInd ind q (t / 4))))]) E hl rfl dX2_share_152 (by decide) rfl (fun ls hl => ?_)
                    refine xr_goto (tgt := 64) E dX2_share_155 (by decide) ?_
                    exact ih_64_1 (n + 1) (lf - (((tot (t / 4)) * (ind u)) / xInd ind q (t / 4))) (ah + 0) (u + 1) (by omega) (by omega) (by rw [sumI_s, ← hu, hlf]; omega) (by rw [sumI_s, ← hah, ← hu]; (repeat' split) <;> omega) (by omega) (by omega) _ _ _ hX (lv_sub hl [4, 5, 6, 7, 8, 2, 1, 0] rfl)
                  · have c_141 := c_141
                    refine xr_iconst E dX2_share_144 ?_
                    refine xr_goto (tgt := 149) E dX2_share_145 (by decide) ?_
                    refine xr_iadd E dX2_share_149 ?_
                    refine xr_istore (lv' := [(6, .int (iI (ah + 1))), (5, .int (iI (lf - (((tot (t / 4)) * (ind u)) / xInd ind q (t / 4))))), (8, .int (iI (((tot (t / 4)) * (ind u)) % xInd ind q (t / 4)))), (0, .ref hF), (1, .int (iI t)), (2, .int (iI (t / 4))), (3, .int (iI (xInd ind q (t / 4)))), (4, .int (iI (((tot (t / 4)) * (ind t)) % xInd ind q (t / 4)))), (7, .int (iI u))]) E hl dX2_share_150 (by decide) rfl (fun ls hl => ?_)
                    refine xr_iinc (k := 8) (lv' := [(7, .int (iI (u + 1))), (6, .int (iI (ah + 1))), (5, .int (iI (lf - (((tot (t / 4)) * (ind u)) / xInd ind q (t / 4))))), (8, .int (iI (((tot (t / 4)) * (ind u)) % xInd ind q (t / 4)))), (0, .ref hF), (1, .int (iI t)), (2, .int (iI (t / 4))), (3, .int (iI (xInd ind q (t / 4)))), (4, .int (iI (((tot (t / 4)) * (ind t)) % xInd ind q (t / 4))))]) E hl rfl dX2_share_152 (by decide) rfl (fun ls hl => ?_)
                    refine xr_goto (tgt := 64) E dX2_share_155 (by decide) ?_
                    exact ih_64_1 (n + 1) (lf - (((tot (t / 4)) * (ind u)) / xInd ind q (t / 4))) (ah + 1) (u + 1) (by omega) (by omega) (by rw [sumI_s, ← hu, hlf]; omega) (by rw [sumI_s, ← hah, ← hu]; (repeat' split) <;> omega) (by omega) (by omega) _ _ _ hX (lv_sub hl [4, 5, 6, 7, 8, 2, 1, 0] rfl)
      exact L_64 _ 0 (tot (t / 4)) 0 (4 * (t / 4)) (Nat.lt_succ_self _) (by omega) (by rw [sumI_0]; omega) (sumI_0 _ _).symm (by omega) (by omega) _ _ _ hX (lv_sub hl [6, 7, 5, 4, 3, 2, 1, 0] rfl)
    · have c_21 := c_21
      refine xr_aload_n E hl 2 rfl dX2_share_24 rfl ?_
      refine xr_get E hX 0 rfl rfl ly_X2 0 (by decide) fl_X2_9 rfl dX2_share_25 ?_
      refine xr_iload_n E hl 3 rfl dX2_share_28 rfl ?_
      refine xr_iald E hX 1 rfl (by omega) (by omega) (by decide) dX2_share_29 ?_
      exact xr_iret E hX hQ () hr (by unfold xShare; rw [if_pos (by omega)]) rfl dX2_share_30
theorem mul_bd2 {a b : Int} (h0 : -2000 ≤ a) (h1 : a ≤ 2000) (h2 : 0 ≤ b) (h3 : b ≤ 99) : -198000 ≤ a * b ∧ a * b ≤ 198000 := by
  have e1 : (a + 2000) * b = a * b + 2000 * b := Int.add_mul _ _ _
  have e2 : (2000 - a) * b = 2000 * b - a * b := Int.sub_mul _ _ _
  have q1 := Int.mul_nonneg (show 0 ≤ a + 2000 by omega) h2
  have q2 := Int.mul_nonneg (show 0 ≤ 2000 - a by omega) h2
  omega
abbrev rm_X2_movement : Room := { frames := 0, cells := 0, slots := 0, locals := 0 }
set_option maxHeartbeats 4000000 in
set_option maxRecDepth 100000 in
theorem c_X2_movement (l : Launch) (D : va_G) (y : CY) (z sz : Nat) (hF a_ind a_tot a_pri a_x : Nat) (ind : Int → Int) (tot : Int → Int) (pri : Int → Int) (q : Int) (fr : Int) (li : Int) (sh : Int) (x : Int → Int) (k : Int) (H_I : FI ind tot pri q fr li sh) (hx : ∀ t : Int, 0 ≤ t → t < q → -2000 ≤ x t ∧ x t ≤ 2000) (hk : sm k) : Met l yX2_movement (Cond.code yX2_movement cX2_movement 8 (some .long) :: TW) rm_X2_movement (va_Pc [.ref hF, .ref a_x, .int (iI k)] (PX D y z (W_Fx y hF a_ind a_tot a_pri a_x ind tot pri q fr li sh x) sz)) (va_Ql (fun (r : Int64) (u : Unit) => r = lI (xMoved ind x q k)) (fun u t => BX D (W_Fx y hF a_ind a_tot a_pri a_x ind tot pri q fr li sh x) (va_A (W_Fx y hF a_ind a_tot a_pri a_x ind tot pri q fr li sh x) sz) t) (va_A (W_Fx y hF a_ind a_tot a_pri a_x ind tot pri q fr li sh x) sz)) 0 0 (va_A (W_Fx y hF a_ind a_tot a_pri a_x ind tot pri q fr li sh x) sz) := by
  refine xm_l (by decide) (Nat.le_of_ble_eq_true rfl) (fun p e s m args below meth c ls A Q E hr hnm hX hl hQ => ?_)
  have hl : lv_has ls 8 [(0, .ref hF), (1, .ref a_x), (2, .int (iI k))] := hl
  have hq := H_I.q
  have hfr := H_I.fr
  have hli := H_I.li
  have hsh := H_I.sh
  refine xr_lconst (v := 0) E dX2_movement_0 (by decide) ?_
  refine xr_lstore_n (lv' := [(3, .long (lI 0)), (0, .ref hF), (1, .ref a_x), (2, .int (iI k))]) E hl dX2_movement_1 rfl (by decide) rfl (fun ls hl => ?_)
  refine xr_iconst E dX2_movement_2 ?_
  refine xr_istore (lv' := [(5, .int (iI 1)), (3, .long (lI 0)), (0, .ref hF), (1, .ref a_x), (2, .int (iI k))]) E hl dX2_movement_3 (by decide) rfl (fun ls hl => ?_)
  have L_5 : ∀ (nmu : Nat) (n : Nat) (acc : Int) (t : Int), 12 - n < nmu → (t = 1 + n) → (acc = sumI (fun t => mvI ind x k t * mvI ind x k t) 1 n) → ((n : Int) ≤ q ∧ (n = 0 ∨ (n : Int) + 1 ≤ q)) → ∀ (H : Heap) (locs : List Loc) (ls : Array Slot), XW D A s.heap (W_Fx y hF a_ind a_tot a_pri a_x ind tot pri q fr li sh x) H locs → lv_has ls 8 [(0, .ref hF), (1, .ref a_x), (2, .int (iI k)), (3, .long (lI acc)), (5, .int (iI t))] → W p l e rm_X2_movement s m args below meth c H locs 0 0 Q (F0 m 5 ls []) := by
    intro nmu
    induction nmu with
    | zero =>
      intro n acc t hmu
      exact absurd hmu (Nat.not_lt_zero _)
    | succ nmu ih =>
      intro n acc t hmu ht ha hn H locs ls hX hl
      have ih_5_1 := ih
      clear ih
      refine xr_iload E hl 4 rfl dX2_movement_5 ?_
      refine xr_aload_n E hl 0 rfl dX2_movement_7 rfl ?_
      refine xr_get E hX 0 rfl rfl ly_X2 3 (by decide) fl_X2_21 rfl dX2_movement_8 ?_
      refine xr_icmp_ge (tgt := 104) E dX2_movement_11 (by decide) ⟨by omega, by omega⟩ ⟨by omega, by omega⟩ (fun c_11 => ?_) (fun c_11 => ?_)
      · have c_11 := c_11
        refine xr_lload_n E hl 3 rfl dX2_movement_104 rfl ?_
        exact xr_lret E hX hQ () hr (by rw [ha, xMoved, show (q - 1).toNat = n by omega]) rfl dX2_movement_105
      · have c_11 := c_11
        refine xr_iload E hl 4 rfl dX2_movement_14 ?_
        refine xr_aload_n E hl 1 rfl dX2_movement_16 rfl ?_
        refine xr_alen (v := 12) E hX 4 0 rfl rfl rfl dX2_movement_17 ?_
        refine xr_icmp_ge (tgt := 104) E dX2_movement_18 (by decide) ⟨by omega, by omega⟩ (by decide) (fun c_18 => ?_) (fun c_18 => ?_)
        · have c_18 := c_18
          refine xr_lload_n E hl 3 rfl dX2_movement_104 rfl ?_
          exact xr_lret E hX hQ () hr (by rw [ha, xMoved, show (q - 1).toNat = n by omega]) rfl dX2_movement_105
        · have c_18 := c_18
          have hx1 := hx t (by omega) (by omega)
          have hx2 := hx (t - 1) (by omega) (by omega)
          have hi1 := H_I.ind (t := t) (by omega) (by omega)
          have hi2 := H_I.ind (t := t - 1) (by omega) (by omega)
          have hp1 := mul_bd2 (a := x t) (b := ind (t - 1)) (by omega) (by omega) (by omega) (by omega)
          have hp2 := mul_bd2 (a := x (t - 1)) (b := ind t) (by omega) (by omega) (by omega) (by omega)
          refine xr_iload_n E hl 2 rfl dX2_movement_21 rfl ?_
          refine xr_if_ne (tgt := 58) E dX2_movement_22 (by decide) ⟨by omega, by omega⟩ (fun c_22 => ?_) (fun c_22 => ?_)
          · have c_22 := c_22
            refine xr_aload_n E hl 1 rfl dX2_movement_58 rfl ?_
            refine xr_iload E hl 4 rfl dX2_movement_59 ?_
            refine xr_iald E hX 4 rfl (by omega) (by omega) (by decide) dX2_movement_61 ?_
            refine xr_aload_n E hl 0 rfl dX2_movement_62 rfl ?_
            refine xr_get E hX 0 rfl rfl ly_X2 0 (by decide) fl_X2_9 rfl dX2_movement_63 ?_
            refine xr_iload E hl 4 rfl dX2_movement_66 ?_
            refine xr_iconst E dX2_movement_68 ?_
            refine xr_isub E dX2_movement_69 ?_
            refine xr_iald E hX 1 rfl (by omega) (by omega) (by decide) dX2_movement_70 ?_
            refine xr_imul E dX2_movement_71 ?_
            refine xr_aload_n E hl 1 rfl dX2_movement_72 rfl ?_
            refine xr_iload E hl 4 rfl dX2_movement_73 ?_
            refine xr_iconst E dX2_movement_75 ?_
            refine xr_isub E dX2_movement_76 ?_
            refine xr_iald E hX 4 rfl (by omega) (by omega) (by decide) dX2_movement_77 ?_
            refine xr_aload_n E hl 0 rfl dX2_movement_78 rfl ?_
            refine xr_get E hX 0 rfl rfl ly_X2 0 (by decide) fl_X2_9 rfl dX2_movement_79 ?_
            refine xr_iload E hl 4 rfl dX2_movement_82 ?_
            refine xr_iald E hX 1 rfl (by omega) (by omega) (by decide) dX2_movement_84 ?_
            refine xr_imul E dX2_movement_85 ?_
            refine xr_isub E dX2_movement_86 ?_
            refine xr_i2l E dX2_movement_87 ⟨by omega, by omega⟩ ?_
            refine xr_lstore (lv' := [(6, .long (lI (((x t) * (ind (t - 1))) - ((x (t - 1)) * (ind t))))), (0, .ref hF), (1, .ref a_x), (2, .int (iI k)), (3, .long (lI acc)), (5, .int (iI t))]) E hl dX2_movement_88 (by decide) rfl (fun ls hl => ?_)
            refine xr_lload_n E hl 4 rfl dX2_movement_90 rfl ?_
            refine xr_lload E hl 0 rfl dX2_movement_91 ?_
            refine xr_lload E hl 0 rfl dX2_movement_93 ?_
            refine xr_lmul E dX2_movement_95 ?_
            refine xr_ladd E dX2_movement_96 ?_
            refine xr_lstore_n (lv' := [(3, .long (lI (acc + ((((x t) * (ind (t - 1))) - ((x (t - 1)) * (ind t))) * (((x t) * (ind (t - 1))) - ((x (t - 1)) * (ind t))))))), (6, .long (lI (((x t) * (ind (t - 1))) - ((x (t - 1)) * (ind t))))), (0, .ref hF), (1, .ref a_x), (2, .int (iI k)), (5, .int (iI t))]) E hl dX2_movement_97 rfl (by decide) rfl (fun ls hl => ?_)
            refine xr_iinc (k := 5) (lv' := [(5, .int (iI (t + 1))), (3, .long (lI (acc + ((((x t) * (ind (t - 1))) - ((x (t - 1)) * (ind t))) * (((x t) * (ind (t - 1))) - ((x (t - 1)) * (ind t))))))), (6, .long (lI (((x t) * (ind (t - 1))) - ((x (t - 1)) * (ind t))))), (0, .ref hF), (1, .ref a_x), (2, .int (iI k))]) E hl rfl dX2_movement_98 (by decide) rfl (fun ls hl => ?_)
            refine xr_goto (tgt := 5) E dX2_movement_101 (by decide) ?_
            exact ih_5_1 (n + 1) (acc + ((((x t) * (ind (t - 1))) - ((x (t - 1)) * (ind t))) * (((x t) * (ind (t - 1))) - ((x (t - 1)) * (ind t))))) (t + 1) (by omega) (by omega) (by rw [sumI_s, ← ha, ← ht]; unfold mvI; first | rw [if_pos c_22] | rw [if_neg c_22]) (by omega) _ _ _ hX (lv_sub hl [3, 4, 5, 1, 0] rfl)
          · have c_22 := c_22
            refine xr_aload_n E hl 1 rfl dX2_movement_25 rfl ?_
            refine xr_iload E hl 4 rfl dX2_movement_26 ?_
            refine xr_iald E hX 4 rfl (by omega) (by omega) (by decide) dX2_movement_28 ?_
            refine xr_aload_n E hl 0 rfl dX2_movement_29 rfl ?_
            refine xr_get E hX 0 rfl rfl ly_X2 0 (by decide) fl_X2_9 rfl dX2_movement_30 ?_
            refine xr_iload E hl 4 rfl dX2_movement_33 ?_
            refine xr_iald E hX 1 rfl (by omega) (by omega) (by decide) dX2_movement_35 ?_
            refine xr_isub E dX2_movement_36 ?_
            refine xr_aload_n E hl 1 rfl dX2_movement_37 rfl ?_
            refine xr_iload E hl 4 rfl dX2_movement_38 ?_
            refine xr_iconst E dX2_movement_40 ?_
            refine xr_isub E dX2_movement_41 ?_
            refine xr_iald E hX 4 rfl (by omega) (by omega) (by decide) dX2_movement_42 ?_
            refine xr_aload_n E hl 0 rfl dX2_movement_43 rfl ?_
            refine xr_get E hX 0 rfl rfl ly_X2 0 (by decide) fl_X2_9 rfl dX2_movement_44 ?_
            refine xr_iload E hl 4 rfl dX2_movement_47 ?_
            refine xr_iconst E dX2_movement_49 ?_
            refine xr_isub E dX2_movement_50 ?_
            refine xr_iald E hX 1 rfl (by omega) (by omega) (by decide) dX2_movement_51 ?_
            refine xr_isub E dX2_movement_52 ?_
            refine xr_isub E dX2_movement_53 ?_
            refine xr_i2l E dX2_movement_54 ⟨by omega, by omega⟩ ?_
            refine xr_goto (tgt := 88) E dX2_movement_55 (by decide) ?_
            refine xr_lstore (lv' := [(6, .long (lI (((x t) - (ind t)) - ((x (t - 1)) - (ind (t - 1)))))), (0, .ref hF), (1, .ref a_x), (2, .int (iI k)), (3, .long (lI acc)), (5, .int (iI t))]) E hl dX2_movement_88 (by decide) rfl (fun ls hl => ?_)
            refine xr_lload_n E hl 4 rfl dX2_movement_90 rfl ?_
            refine xr_lload E hl 0 rfl dX2_movement_91 ?_
            refine xr_lload E hl 0 rfl dX2_movement_93 ?_
            refine xr_lmul E dX2_movement_95 ?_
            refine xr_ladd E dX2_movement_96 ?_
            refine xr_lstore_n (lv' := [(3, .long (lI (acc + ((((x t) - (ind t)) - ((x (t - 1)) - (ind (t - 1)))) * (((x t) - (ind t)) - ((x (t - 1)) - (ind (t - 1)))))))), (6, .long (lI (((x t) - (ind t)) - ((x (t - 1)) - (ind (t - 1)))))), (0, .ref hF), (1, .ref a_x), (2, .int (iI k)), (5, .int (iI t))]) E hl dX2_movement_97 rfl (by decide) rfl (fun ls hl => ?_)
            refine xr_iinc (k := 5) (lv' := [(5, .int (iI (t + 1))), (3, .long (lI (acc + ((((x t) - (ind t)) - ((x (t - 1)) - (ind (t - 1)))) * (((x t) - (ind t)) - ((x (t - 1)) - (ind (t - 1)))))))), (6, .long (lI (((x t) - (ind t)) - ((x (t - 1)) - (ind (t - 1)))))), (0, .ref hF), (1, .ref a_x), (2, .int (iI k))]) E hl rfl dX2_movement_98 (by decide) rfl (fun ls hl => ?_)
            refine xr_goto (tgt := 5) E dX2_movement_101 (by decide) ?_
            exact ih_5_1 (n + 1) (acc + ((((x t) - (ind t)) - ((x (t - 1)) - (ind (t - 1)))) * (((x t) - (ind t)) - ((x (t - 1)) - (ind (t - 1)))))) (t + 1) (by omega) (by omega) (by rw [sumI_s, ← ha, ← ht]; unfold mvI; first | rw [if_pos c_22] | rw [if_neg c_22]) (by omega) _ _ _ hX (lv_sub hl [3, 4, 5, 1, 0] rfl)
  exact L_5 _ 0 0 1 (Nat.lt_succ_self _) (by omega) (sumI_0 _ _).symm (by omega) _ _ _ hX (lv_sub hl [2, 3, 4, 1, 0] rfl)
abbrev rm_X2_becomes : Room := { frames := 1, cells := 0, slots := 0, locals := 60 }
set_option maxHeartbeats 4000000 in
set_option maxRecDepth 100000 in
theorem c_X2_becomes (l : Launch) (D : va_G) (y : CY) (z sz : Nat) (hF a_ind a_tot a_pri ohF oa_ind oa_tot oa_pri : Nat) (ind : Int → Int) (tot : Int → Int) (pri : Int → Int) (q : Int) (fr : Int) (li : Int) (sh : Int) (oind : Int → Int) (otot : Int → Int) (opri : Int → Int) (oq : Int) (ofr : Int) (oli : Int) (osh : Int) : Met l yX2_becomes (Cond.code yX2_becomes cX2_becomes 2 none :: TW) rm_X2_becomes (va_Pc [.ref hF, .ref ohF] (PX D y z (W_FF y hF a_ind a_tot a_pri ohF oa_ind oa_tot oa_pri ind tot pri q fr li sh oind otot opri oq ofr oli osh) sz)) (va_Qv (fun (u : (Int → Int) × (Int → Int) × (Int → Int) × (Int) × (Int) × (Int) × (Int)) => u = (oind, otot, opri, oq, ofr, oli, osh)) (fun u t => BX D (W_FF y hF a_ind a_tot a_pri ohF oa_ind oa_tot oa_pri u.1 u.2.1 u.2.2.1 u.2.2.2.1 u.2.2.2.2.1 u.2.2.2.2.2.1 u.2.2.2.2.2.2 oind otot opri oq ofr oli osh) (va_A (W_FF y hF a_ind a_tot a_pri ohF oa_ind oa_tot oa_pri ind tot pri q fr li sh oind otot opri oq ofr oli osh) sz) t) (va_A (W_FF y hF a_ind a_tot a_pri ohF oa_ind oa_tot oa_pri ind tot pri q fr li sh oind otot opri oq ofr oli osh) sz)) 0 0 (va_A (W_FF y hF a_ind a_tot a_pri ohF oa_ind oa_tot oa_pri ind tot pri q fr li sh oind otot opri oq ofr oli osh) sz) := by
  refine xm_v (by decide) (Nat.le_of_ble_eq_true rfl) (fun p e s m args below meth c ls A Q E hr hnm hX hl hQ => ?_)
  have hl : lv_has ls 2 [(0, .ref hF), (1, .ref ohF)] := hl
  refine xr_aload_n E hl 1 rfl dX2_becomes_0 rfl ?_
  refine xr_get E hX 4 rfl rfl ly_X2 0 (by decide) fl_X2_9 rfl dX2_becomes_1 ?_
  refine xr_iconst E dX2_becomes_4 ?_
  refine xr_aload_n E hl 0 rfl dX2_becomes_5 rfl ?_
  refine xr_get E hX 0 rfl rfl ly_X2 0 (by decide) fl_X2_9 rfl dX2_becomes_6 ?_
  refine xr_iconst E dX2_becomes_9 ?_
  refine xr_bipush E dX2_becomes_10 (by decide) ?_
  refine xr_copy (W1 := (W_FF y hF a_ind a_tot a_pri ohF oa_ind oa_tot oa_pri oind tot pri q fr li sh oind otot opri oq ofr oli osh)) E hX hl ml_X2_34 5 1 rfl rfl rfl (by decide) rfl (by decide) dX2_becomes_12 (fun H locs hX => ?_)
  refine xr_aload_n E hl 1 rfl dX2_becomes_15 rfl ?_
  refine xr_get E hX 4 rfl rfl ly_X2 1 (by decide) fl_X2_15 rfl dX2_becomes_16 ?_
  refine xr_iconst E dX2_becomes_19 ?_
  refine xr_aload_n E hl 0 rfl dX2_becomes_20 rfl ?_
  refine xr_get E hX 0 rfl rfl ly_X2 1 (by decide) fl_X2_15 rfl dX2_becomes_21 ?_
  refine xr_iconst E dX2_becomes_24 ?_
  refine xr_iconst E dX2_becomes_25 ?_
  refine xr_copy (W1 := (W_FF y hF a_ind a_tot a_pri ohF oa_ind oa_tot oa_pri oind otot pri q fr li sh oind otot opri oq ofr oli osh)) E hX hl ml_X2_34 6 2 rfl rfl rfl (by decide) rfl (by decide) dX2_becomes_26 (fun H locs hX => ?_)
  refine xr_aload_n E hl 1 rfl dX2_becomes_29 rfl ?_
  refine xr_get E hX 4 rfl rfl ly_X2 2 (by decide) fl_X2_18 rfl dX2_becomes_30 ?_
  refine xr_iconst E dX2_becomes_33 ?_
  refine xr_aload_n E hl 0 rfl dX2_becomes_34 rfl ?_
  refine xr_get E hX 0 rfl rfl ly_X2 2 (by decide) fl_X2_18 rfl dX2_becomes_35 ?_
  refine xr_iconst E dX2_becomes_38 ?_
  refine xr_bipush E dX2_becomes_39 (by decide) ?_
  refine xr_copy (W1 := (W_FF y hF a_ind a_tot a_pri ohF oa_ind oa_tot oa_pri oind otot opri q fr li sh oind otot opri oq ofr oli osh)) E hX hl ml_X2_34 7 3 rfl rfl rfl (by decide) rfl (by decide) dX2_becomes_41 (fun H locs hX => ?_)
  refine xr_aload_n E hl 0 rfl dX2_becomes_44 rfl ?_
  refine xr_aload_n E hl 1 rfl dX2_becomes_45 rfl ?_
  refine xr_get E hX 4 rfl rfl ly_X2 3 (by decide) fl_X2_21 rfl dX2_becomes_46 ?_
  refine xr_put (W1 := (W_FF y hF a_ind a_tot a_pri ohF oa_ind oa_tot oa_pri oind otot opri oq fr li sh oind otot opri oq ofr oli osh)) E hX 0 rfl rfl ly_X2 tyX2_ok nmX2 3 (by decide) fl_X2_21 rfl rfl rfl (Nat.le_of_ble_eq_true rfl) rfl dX2_becomes_49 (fun H locs hX => ?_)
  refine xr_aload_n E hl 0 rfl dX2_becomes_52 rfl ?_
  refine xr_aload_n E hl 1 rfl dX2_becomes_53 rfl ?_
  refine xr_get E hX 4 rfl rfl ly_X2 4 (by decide) fl_X2_25 rfl dX2_becomes_54 ?_
  refine xr_put (W1 := (W_FF y hF a_ind a_tot a_pri ohF oa_ind oa_tot oa_pri oind otot opri oq ofr li sh oind otot opri oq ofr oli osh)) E hX 0 rfl rfl ly_X2 tyX2_ok nmX2 4 (by decide) fl_X2_25 rfl rfl rfl (Nat.le_of_ble_eq_true rfl) rfl dX2_becomes_57 (fun H locs hX => ?_)
  refine xr_aload_n E hl 0 rfl dX2_becomes_60 rfl ?_
  refine xr_aload_n E hl 1 rfl dX2_becomes_61 rfl ?_
  refine xr_get E hX 4 rfl rfl ly_X2 5 (by decide) fl_X2_28 rfl dX2_becomes_62 ?_
  refine xr_put (W1 := (W_FF y hF a_ind a_tot a_pri ohF oa_ind oa_tot oa_pri oind otot opri oq ofr oli sh oind otot opri oq ofr oli osh)) E hX 0 rfl rfl ly_X2 tyX2_ok nmX2 5 (by decide) fl_X2_28 rfl rfl rfl (Nat.le_of_ble_eq_true rfl) rfl dX2_becomes_65 (fun H locs hX => ?_)
  refine xr_aload_n E hl 0 rfl dX2_becomes_68 rfl ?_
  refine xr_aload_n E hl 1 rfl dX2_becomes_69 rfl ?_
  refine xr_get E hX 4 rfl rfl ly_X2 6 (by decide) fl_X2_31 rfl dX2_becomes_70 ?_
  refine xr_put (W1 := (W_FF y hF a_ind a_tot a_pri ohF oa_ind oa_tot oa_pri oind otot opri oq ofr oli osh oind otot opri oq ofr oli osh)) E hX 0 rfl rfl ly_X2 tyX2_ok nmX2 6 (by decide) fl_X2_31 rfl rfl rfl (Nat.le_of_ble_eq_true rfl) rfl dX2_becomes_73 (fun H locs hX => ?_)
  exact xr_vret E hX hQ (oind, otot, opri, oq, ofr, oli, osh) hr rfl rfl dX2_becomes_76
end
section
/-! Past -/
abbrev W_P0 (y : CY) (hP a_ring : Nat) (top : Int) (sts : Int) : va_W := [(hP, .inr (3, [.ref a_ring, .int (iI top), .int (iI sts)]))]
abbrev W_PF (y : CY) (hP a_ring p0hF p0a_ind p0a_tot p0a_pri p1hF p1a_ind p1a_tot p1a_pri p2hF p2a_ind p2a_tot p2a_pri p3hF p3a_ind p3a_tot p3a_pri p4hF p4a_ind p4a_tot p4a_pri p5hF p5a_ind p5a_tot p5a_pri hF a_ind a_tot a_pri : Nat) (rind : Int → Int → Int) (rtot : Int → Int → Int) (rpri : Int → Int → Int) (rq : Int → Int) (rfr : Int → Int) (rli : Int → Int) (rsh : Int → Int) (top : Int) (sts : Int) (ind : Int → Int) (tot : Int → Int) (pri : Int → Int) (q : Int) (fr : Int) (li : Int) (sh : Int) : va_W := [(hP, .inr (3, [.ref a_ring, .int (iI top), .int (iI sts)])), (a_ring, .inl (y.2.2.2, 6, .inr (.inr (.inr (.inr (fun k => if k = 0 then some p0hF else if k = 1 then some p1hF else if k = 2 then some p2hF else if k = 3 then some p3hF else if k = 4 then some p4hF else if k = 5 then some p5hF else none)))))), (p0hF, .inr (2, [.ref p0a_ind, .ref p0a_tot, .ref p0a_pri, .int (iI (rq 0)), .int (iI (rfr 0)), .int (iI (rli 0)), .int (iI (rsh 0))])), (p0a_ind, .inl (y.1, 12, .inl (ia (rind 0)))), (p0a_tot, .inl (y.1, 3, .inl (ia (rtot 0)))), (p0a_pri, .inl (y.1, 12, .inl (ia (rpri 0)))), (p1hF, .inr (2, [.ref p1a_ind, .ref p1a_tot, .ref p1a_pri, .int (iI (rq 1)), .int (iI (rfr 1)), .int (iI (rli 1)), .int (iI (rsh 1))])), (p1a_ind, .inl (y.1, 12, .inl (ia (rind 1)))), (p1a_tot, .inl (y.1, 3, .inl (ia (rtot 1)))), (p1a_pri, .inl (y.1, 12, .inl (ia (rpri 1)))), (p2hF, .inr (2, [.ref p2a_ind, .ref p2a_tot, .ref p2a_pri, .int (iI (rq 2)), .int (iI (rfr 2)), .int (iI (rli 2)), .int (iI (rsh 2))])), (p2a_ind, .inl (y.1, 12, .inl (ia (rind 2)))), (p2a_tot, .inl (y.1, 3, .inl (ia (rtot 2)))), (p2a_pri, .inl (y.1, 12, .inl (ia (rpri 2)))), (p3hF, .inr (2, [.ref p3a_ind, .ref p3a_tot, .ref p3a_pri, .int (iI (rq 3)), .int (iI (rfr 3)), .int (iI (rli 3)), .int (iI (rsh 3))])), (p3a_ind, .inl (y.1, 12, .inl (ia (rind 3)))), (p3a_tot, .inl (y.1, 3, .inl (ia (rtot 3)))), (p3a_pri, .inl (y.1, 12, .inl (ia (rpri 3)))), (p4hF, .inr (2, [.ref p4a_ind, .ref p4a_tot, .ref p4a_pri, .int (iI (rq 4)), .int (iI (rfr 4)), .int (iI (rli 4)), .int (iI (rsh 4))])), (p4a_ind, .inl (y.1, 12, .inl (ia (rind 4)))), (p4a_tot, .inl (y.1, 3, .inl (ia (rtot 4)))), (p4a_pri, .inl (y.1, 12, .inl (ia (rpri 4)))), (p5hF, .inr (2, [.ref p5a_ind, .ref p5a_tot, .ref p5a_pri, .int (iI (rq 5)), .int (iI (rfr 5)), .int (iI (rli 5)), .int (iI (rsh 5))])), (p5a_ind, .inl (y.1, 12, .inl (ia (rind 5)))), (p5a_tot, .inl (y.1, 3, .inl (ia (rtot 5)))), (p5a_pri, .inl (y.1, 12, .inl (ia (rpri 5)))), (hF, .inr (2, [.ref a_ind, .ref a_tot, .ref a_pri, .int (iI q), .int (iI fr), .int (iI li), .int (iI sh)])), (a_ind, .inl (y.1, 12, .inl (ia ind))), (a_tot, .inl (y.1, 3, .inl (ia tot))), (a_pri, .inl (y.1, 12, .inl (ia pri)))]
def tUp (top : Int) : Int := if top = 5 then 0 else top + 1
def tDn (top : Int) : Int := if top = 0 then 5 else top - 1
def sUp (sts : Int) : Int := if sts + 1 < 5 then sts + 1 else 5
abbrev rm_X3_keeps : Room := { frames := 1, cells := 0, slots := 0, locals := 30 }
set_option maxHeartbeats 4000000 in
set_option maxRecDepth 100000 in
theorem c_X3_keeps (l : Launch) (D : va_G) (y : CY) (z sz : Nat) (hP a_ring : Nat) (top : Int) (sts : Int) (htop : 0 ≤ top ∧ top ≤ 5) (hsts : 0 ≤ sts ∧ sts ≤ 5) : Met l yX3_keeps (Cond.code yX3_keeps cX3_keeps 1 none :: TW) rm_X3_keeps (va_Pc [.ref hP] (PX D y z (W_P0 y hP a_ring top sts) sz)) (va_Qv (fun (u : (Int) × (Int)) => u = (tUp top, sUp sts)) (fun u t => BX D (W_P0 y hP a_ring u.1 u.2) (va_A (W_P0 y hP a_ring top sts) sz) t) (va_A (W_P0 y hP a_ring top sts) sz)) 0 0 (va_A (W_P0 y hP a_ring top sts) sz) := by
  refine xm_v (by decide) (Nat.le_of_ble_eq_true rfl) (fun p e s m args below meth c ls A Q E hr hnm hX hl hQ => ?_)
  have hl : lv_has ls 1 [(0, .ref hP)] := hl
  refine xr_aload_n E hl 0 rfl dX3_keeps_0 rfl ?_
  refine xr_aload_n E hl 0 rfl dX3_keeps_1 rfl ?_
  refine xr_get E hX 0 rfl rfl ly_X3 1 (by decide) fl_X3_17 rfl dX3_keeps_2 ?_
  refine xr_iconst E dX3_keeps_5 ?_
  refine xr_icmp_ne (tgt := 13) E dX3_keeps_6 (by decide) ⟨by omega, by omega⟩ (by decide) (fun c_6 => ?_) (fun c_6 => ?_)
  · have c_6 := c_6
    refine xr_aload_n E hl 0 rfl dX3_keeps_13 rfl ?_
    refine xr_get E hX 0 rfl rfl ly_X3 1 (by decide) fl_X3_17 rfl dX3_keeps_14 ?_
    refine xr_iconst E dX3_keeps_17 ?_
    refine xr_iadd E dX3_keeps_18 ?_
    refine xr_put (W1 := (W_P0 y hP a_ring (top + 1) sts)) E hX 0 rfl rfl ly_X3 tyX3_ok nmX3 1 (by decide) fl_X3_17 rfl rfl rfl (Nat.le_of_ble_eq_true rfl) rfl dX3_keeps_19 (fun H locs hX => ?_)
    refine xr_aload_n E hl 0 rfl dX3_keeps_22 rfl ?_
    refine xr_iconst E dX3_keeps_23 ?_
    refine xr_aload_n E hl 0 rfl dX3_keeps_24 rfl ?_
    refine xr_get E hX 0 rfl rfl ly_X3 2 (by decide) fl_X3_21 rfl dX3_keeps_25 ?_
    refine xr_iconst E dX3_keeps_28 ?_
    refine xr_iadd E dX3_keeps_29 ?_
    refine xr_min E hl ml_X3_29 dX3_keeps_30 ⟨Nat.le_of_ble_eq_true rfl, Nat.le_of_ble_eq_true rfl, Nat.zero_le _, Nat.zero_le _⟩ (by decide) ⟨by omega, by omega⟩ ?_
    refine xr_put (W1 := (W_P0 y hP a_ring (top + 1) (if (sts + 1) < 5 then (sts + 1) else 5))) E hX 0 rfl rfl ly_X3 tyX3_ok nmX3 2 (by decide) fl_X3_21 rfl rfl rfl (Nat.le_of_ble_eq_true rfl) rfl dX3_keeps_33 (fun H locs hX => ?_)
    exact xr_vret E hX hQ ((top + 1), (if (sts + 1) < 5 then (sts + 1) else 5)) hr (by unfold tUp sUp; (repeat' split) <;> first | (exfalso; omega) | rfl | (congr 1; omega) | (congr 2; omega)) rfl dX3_keeps_36
  · have c_6 := c_6
    refine xr_iconst E dX3_keeps_9 ?_
    refine xr_goto (tgt := 19) E dX3_keeps_10 (by decide) ?_
    refine xr_put (W1 := (W_P0 y hP a_ring 0 sts)) E hX 0 rfl rfl ly_X3 tyX3_ok nmX3 1 (by decide) fl_X3_17 rfl rfl rfl (Nat.le_of_ble_eq_true rfl) rfl dX3_keeps_19 (fun H locs hX => ?_)
    refine xr_aload_n E hl 0 rfl dX3_keeps_22 rfl ?_
    refine xr_iconst E dX3_keeps_23 ?_
    refine xr_aload_n E hl 0 rfl dX3_keeps_24 rfl ?_
    refine xr_get E hX 0 rfl rfl ly_X3 2 (by decide) fl_X3_21 rfl dX3_keeps_25 ?_
    refine xr_iconst E dX3_keeps_28 ?_
    refine xr_iadd E dX3_keeps_29 ?_
    refine xr_min E hl ml_X3_29 dX3_keeps_30 ⟨Nat.le_of_ble_eq_true rfl, Nat.le_of_ble_eq_true rfl, Nat.zero_le _, Nat.zero_le _⟩ (by decide) ⟨by omega, by omega⟩ ?_
    refine xr_put (W1 := (W_P0 y hP a_ring 0 (if (sts + 1) < 5 then (sts + 1) else 5))) E hX 0 rfl rfl ly_X3 tyX3_ok nmX3 2 (by decide) fl_X3_21 rfl rfl rfl (Nat.le_of_ble_eq_true rfl) rfl dX3_keeps_33 (fun H locs hX => ?_)
    exact xr_vret E hX hQ (0, (if (sts + 1) < 5 then (sts + 1) else 5)) hr (by unfold tUp sUp; (repeat' split) <;> first | (exfalso; omega) | rfl | (congr 1; omega) | (congr 2; omega)) rfl dX3_keeps_36
abbrev rm_X3_holds : Room := { frames := 2, cells := 0, slots := 0, locals := 81 }
set_option maxHeartbeats 4000000 in
set_option maxRecDepth 100000 in
theorem c_X3_holds (l : Launch) (D : va_G) (y : CY) (z sz : Nat) (hP a_ring p0hF p0a_ind p0a_tot p0a_pri p1hF p1a_ind p1a_tot p1a_pri p2hF p2a_ind p2a_tot p2a_pri p3hF p3a_ind p3a_tot p3a_pri p4hF p4a_ind p4a_tot p4a_pri p5hF p5a_ind p5a_tot p5a_pri hF a_ind a_tot a_pri : Nat) (rind : Int → Int → Int) (rtot : Int → Int → Int) (rpri : Int → Int → Int) (rq : Int → Int) (rfr : Int → Int) (rli : Int → Int) (rsh : Int → Int) (top : Int) (sts : Int) (ind : Int → Int) (tot : Int → Int) (pri : Int → Int) (q : Int) (fr : Int) (li : Int) (sh : Int) (htop : 0 ≤ top ∧ top ≤ 5) : Met l yX3_holds (Cond.code yX3_holds cX3_holds 2 none :: TW) rm_X3_holds (va_Pc [.ref hP, .ref hF] (PX D y z (W_PF y hP a_ring p0hF p0a_ind p0a_tot p0a_pri p1hF p1a_ind p1a_tot p1a_pri p2hF p2a_ind p2a_tot p2a_pri p3hF p3a_ind p3a_tot p3a_pri p4hF p4a_ind p4a_tot p4a_pri p5hF p5a_ind p5a_tot p5a_pri hF a_ind a_tot a_pri rind rtot rpri rq rfr rli rsh top sts ind tot pri q fr li sh) sz)) (va_Qv (fun (u : (Int → Int → Int) × (Int → Int → Int) × (Int → Int → Int) × (Int → Int) × (Int → Int) × (Int → Int) × (Int → Int)) => u = (up rind top ind, up rtot top tot, up rpri top pri, up rq top q, up rfr top fr, up rli top li, up rsh top sh)) (fun u t => BX D (W_PF y hP a_ring p0hF p0a_ind p0a_tot p0a_pri p1hF p1a_ind p1a_tot p1a_pri p2hF p2a_ind p2a_tot p2a_pri p3hF p3a_ind p3a_tot p3a_pri p4hF p4a_ind p4a_tot p4a_pri p5hF p5a_ind p5a_tot p5a_pri hF a_ind a_tot a_pri u.1 u.2.1 u.2.2.1 u.2.2.2.1 u.2.2.2.2.1 u.2.2.2.2.2.1 u.2.2.2.2.2.2 top sts ind tot pri q fr li sh) (va_A (W_PF y hP a_ring p0hF p0a_ind p0a_tot p0a_pri p1hF p1a_ind p1a_tot p1a_pri p2hF p2a_ind p2a_tot p2a_pri p3hF p3a_ind p3a_tot p3a_pri p4hF p4a_ind p4a_tot p4a_pri p5hF p5a_ind p5a_tot p5a_pri hF a_ind a_tot a_pri rind rtot rpri rq rfr rli rsh top sts ind tot pri q fr li sh) sz) t) (va_A (W_PF y hP a_ring p0hF p0a_ind p0a_tot p0a_pri p1hF p1a_ind p1a_tot p1a_pri p2hF p2a_ind p2a_tot p2a_pri p3hF p3a_ind p3a_tot p3a_pri p4hF p4a_ind p4a_tot p4a_pri p5hF p5a_ind p5a_tot p5a_pri hF a_ind a_tot a_pri rind rtot rpri rq rfr rli rsh top sts ind tot pri q fr li sh) sz)) 0 0 (va_A (W_PF y hP a_ring p0hF p0a_ind p0a_tot p0a_pri p1hF p1a_ind p1a_tot p1a_pri p2hF p2a_ind p2a_tot p2a_pri p3hF p3a_ind p3a_tot p3a_pri p4hF p4a_ind p4a_tot p4a_pri p5hF p5a_ind p5a_tot p5a_pri hF a_ind a_tot a_pri rind rtot rpri rq rfr rli rsh top sts ind tot pri q fr li sh) sz) := by
  refine xm_v (by decide) (Nat.le_of_ble_eq_true rfl) (fun p e s m args below meth c ls A Q E hr hnm hX hl hQ => ?_)
  have hl : lv_has ls 2 [(0, .ref hP), (1, .ref hF)] := hl
  rcases (show top = 0 ∨ top = 1 ∨ top = 2 ∨ top = 3 ∨ top = 4 ∨ top = 5 by omega) with rfl | rfl | rfl | rfl | rfl | rfl
  · refine xr_aload_n E hl 0 rfl dX3_holds_0 rfl ?_
    refine xr_get E hX 0 rfl rfl ly_X3 0 (by decide) fl_X3_11 rfl dX3_holds_1 ?_
    refine xr_aload_n E hl 0 rfl dX3_holds_4 rfl ?_
    refine xr_get E hX 0 rfl rfl ly_X3 1 (by decide) fl_X3_17 rfl dX3_holds_5 ?_
    refine xr_aald E hX 1 rfl (by decide) (by decide) (by decide) rfl dX3_holds_8 ?_
    refine xr_aload_n E hl 1 rfl dX3_holds_9 rfl ?_
    refine xk_v (W2 := fun u => (W_PF y hP a_ring p0hF p0a_ind p0a_tot p0a_pri p1hF p1a_ind p1a_tot p1a_pri p2hF p2a_ind p2a_tot p2a_pri p3hF p3a_ind p3a_tot p3a_pri p4hF p4a_ind p4a_tot p4a_pri p5hF p5a_ind p5a_tot p5a_pri hF a_ind a_tot a_pri (up rind 0 u.1) (up rtot 0 u.2.1) (up rpri 0 u.2.2.1) (up rq 0 u.2.2.2.1) (up rfr 0 u.2.2.2.2.1) (up rli 0 u.2.2.2.2.2.1) (up rsh 0 u.2.2.2.2.2.2) 0 sts ind tot pri q fr li sh)) E hX [2, 3, 4, 5, 26, 27, 28, 29] rfl (xv_V (As := [.ref hF]) E hX hl (c_X2_becomes l D y z _ p0hF p0a_ind p0a_tot p0a_pri hF a_ind a_tot a_pri (rind 0) (rtot 0) (rpri 0) (rq 0) (rfr 0) (rli 0) (rsh 0) ind tot pri q fr li sh) ml_X3_25 im_X2_becomes se_X2_becomes in_X2 co_X2_becomes 1 (by decide) ⟨rfl, rfl⟩ ⟨Nat.le_of_ble_eq_true rfl, Nat.le_of_ble_eq_true rfl⟩ [2, 3, 4, 5, 26, 27, 28, 29] rfl rfl 2 rfl rfl rfl rfl rfl (Nat.le_of_ble_eq_true rfl) dX3_holds_10 ⟨Nat.le_refl _, Nat.le_refl _⟩) [8, 9, 0, 1, 2, 3, 14, 15, 16, 17, 18, 19, 20, 21, 22, 23, 24, 25, 26, 27, 28, 29, 30, 31, 32, 33, 4, 5, 6, 7] 8 (fun _ => rfl) (fun _ => rfl) (by decide) (by decide) (fun u H locs hw hX => ?_)
    subst hw
    have hX : XW D A s.heap (W_PF y hP a_ring p0hF p0a_ind p0a_tot p0a_pri p1hF p1a_ind p1a_tot p1a_pri p2hF p2a_ind p2a_tot p2a_pri p3hF p3a_ind p3a_tot p3a_pri p4hF p4a_ind p4a_tot p4a_pri p5hF p5a_ind p5a_tot p5a_pri hF a_ind a_tot a_pri (up rind 0 ind) (up rtot 0 tot) (up rpri 0 pri) (up rq 0 q) (up rfr 0 fr) (up rli 0 li) (up rsh 0 sh) 0 sts ind tot pri q fr li sh) H locs := hX
    exact xr_vret E hX hQ ((up rind 0 ind), (up rtot 0 tot), (up rpri 0 pri), (up rq 0 q), (up rfr 0 fr), (up rli 0 li), (up rsh 0 sh)) hr rfl rfl dX3_holds_13
  · refine xr_aload_n E hl 0 rfl dX3_holds_0 rfl ?_
    refine xr_get E hX 0 rfl rfl ly_X3 0 (by decide) fl_X3_11 rfl dX3_holds_1 ?_
    refine xr_aload_n E hl 0 rfl dX3_holds_4 rfl ?_
    refine xr_get E hX 0 rfl rfl ly_X3 1 (by decide) fl_X3_17 rfl dX3_holds_5 ?_
    refine xr_aald E hX 1 rfl (by decide) (by decide) (by decide) rfl dX3_holds_8 ?_
    refine xr_aload_n E hl 1 rfl dX3_holds_9 rfl ?_
    refine xk_v (W2 := fun u => (W_PF y hP a_ring p0hF p0a_ind p0a_tot p0a_pri p1hF p1a_ind p1a_tot p1a_pri p2hF p2a_ind p2a_tot p2a_pri p3hF p3a_ind p3a_tot p3a_pri p4hF p4a_ind p4a_tot p4a_pri p5hF p5a_ind p5a_tot p5a_pri hF a_ind a_tot a_pri (up rind 1 u.1) (up rtot 1 u.2.1) (up rpri 1 u.2.2.1) (up rq 1 u.2.2.2.1) (up rfr 1 u.2.2.2.2.1) (up rli 1 u.2.2.2.2.2.1) (up rsh 1 u.2.2.2.2.2.2) 1 sts ind tot pri q fr li sh)) E hX [6, 7, 8, 9, 26, 27, 28, 29] rfl (xv_V (As := [.ref hF]) E hX hl (c_X2_becomes l D y z _ p1hF p1a_ind p1a_tot p1a_pri hF a_ind a_tot a_pri (rind 1) (rtot 1) (rpri 1) (rq 1) (rfr 1) (rli 1) (rsh 1) ind tot pri q fr li sh) ml_X3_25 im_X2_becomes se_X2_becomes in_X2 co_X2_becomes 1 (by decide) ⟨rfl, rfl⟩ ⟨Nat.le_of_ble_eq_true rfl, Nat.le_of_ble_eq_true rfl⟩ [6, 7, 8, 9, 26, 27, 28, 29] rfl rfl 6 rfl rfl rfl rfl rfl (Nat.le_of_ble_eq_true rfl) dX3_holds_10 ⟨Nat.le_refl _, Nat.le_refl _⟩) [8, 9, 10, 11, 12, 13, 0, 1, 2, 3, 18, 19, 20, 21, 22, 23, 24, 25, 26, 27, 28, 29, 30, 31, 32, 33, 4, 5, 6, 7] 8 (fun _ => rfl) (fun _ => rfl) (by decide) (by decide) (fun u H locs hw hX => ?_)
    subst hw
    have hX : XW D A s.heap (W_PF y hP a_ring p0hF p0a_ind p0a_tot p0a_pri p1hF p1a_ind p1a_tot p1a_pri p2hF p2a_ind p2a_tot p2a_pri p3hF p3a_ind p3a_tot p3a_pri p4hF p4a_ind p4a_tot p4a_pri p5hF p5a_ind p5a_tot p5a_pri hF a_ind a_tot a_pri (up rind 1 ind) (up rtot 1 tot) (up rpri 1 pri) (up rq 1 q) (up rfr 1 fr) (up rli 1 li) (up rsh 1 sh) 1 sts ind tot pri q fr li sh) H locs := hX
    exact xr_vret E hX hQ ((up rind 1 ind), (up rtot 1 tot), (up rpri 1 pri), (up rq 1 q), (up rfr 1 fr), (up rli 1 li), (up rsh 1 sh)) hr rfl rfl dX3_holds_13
  · refine xr_aload_n E hl 0 rfl dX3_holds_0 rfl ?_
    refine xr_get E hX 0 rfl rfl ly_X3 0 (by decide) fl_X3_11 rfl dX3_holds_1 ?_
    refine xr_aload_n E hl 0 rfl dX3_holds_4 rfl ?_
    refine xr_get E hX 0 rfl rfl ly_X3 1 (by decide) fl_X3_17 rfl dX3_holds_5 ?_
    refine xr_aald E hX 1 rfl (by decide) (by decide) (by decide) rfl dX3_holds_8 ?_
    refine xr_aload_n E hl 1 rfl dX3_holds_9 rfl ?_
    refine xk_v (W2 := fun u => (W_PF y hP a_ring p0hF p0a_ind p0a_tot p0a_pri p1hF p1a_ind p1a_tot p1a_pri p2hF p2a_ind p2a_tot p2a_pri p3hF p3a_ind p3a_tot p3a_pri p4hF p4a_ind p4a_tot p4a_pri p5hF p5a_ind p5a_tot p5a_pri hF a_ind a_tot a_pri (up rind 2 u.1) (up rtot 2 u.2.1) (up rpri 2 u.2.2.1) (up rq 2 u.2.2.2.1) (up rfr 2 u.2.2.2.2.1) (up rli 2 u.2.2.2.2.2.1) (up rsh 2 u.2.2.2.2.2.2) 2 sts ind tot pri q fr li sh)) E hX [10, 11, 12, 13, 26, 27, 28, 29] rfl (xv_V (As := [.ref hF]) E hX hl (c_X2_becomes l D y z _ p2hF p2a_ind p2a_tot p2a_pri hF a_ind a_tot a_pri (rind 2) (rtot 2) (rpri 2) (rq 2) (rfr 2) (rli 2) (rsh 2) ind tot pri q fr li sh) ml_X3_25 im_X2_becomes se_X2_becomes in_X2 co_X2_becomes 1 (by decide) ⟨rfl, rfl⟩ ⟨Nat.le_of_ble_eq_true rfl, Nat.le_of_ble_eq_true rfl⟩ [10, 11, 12, 13, 26, 27, 28, 29] rfl rfl 10 rfl rfl rfl rfl rfl (Nat.le_of_ble_eq_true rfl) dX3_holds_10 ⟨Nat.le_refl _, Nat.le_refl _⟩) [8, 9, 10, 11, 12, 13, 14, 15, 16, 17, 0, 1, 2, 3, 22, 23, 24, 25, 26, 27, 28, 29, 30, 31, 32, 33, 4, 5, 6, 7] 8 (fun _ => rfl) (fun _ => rfl) (by decide) (by decide) (fun u H locs hw hX => ?_)
    subst hw
    have hX : XW D A s.heap (W_PF y hP a_ring p0hF p0a_ind p0a_tot p0a_pri p1hF p1a_ind p1a_tot p1a_pri p2hF p2a_ind p2a_tot p2a_pri p3hF p3a_ind p3a_tot p3a_pri p4hF p4a_ind p4a_tot p4a_pri p5hF p5a_ind p5a_tot p5a_pri hF a_ind a_tot a_pri (up rind 2 ind) (up rtot 2 tot) (up rpri 2 pri) (up rq 2 q) (up rfr 2 fr) (up rli 2 li) (up rsh 2 sh) 2 sts ind tot pri q fr li sh) H locs := hX
    exact xr_vret E hX hQ ((up rind 2 ind), (up rtot 2 tot), (up rpri 2 pri), (up rq 2 q), (up rfr 2 fr), (up rli 2 li), (up rsh 2 sh)) hr rfl rfl dX3_holds_13
  · refine xr_aload_n E hl 0 rfl dX3_holds_0 rfl ?_
    refine xr_get E hX 0 rfl rfl ly_X3 0 (by decide) fl_X3_11 rfl dX3_holds_1 ?_
    refine xr_aload_n E hl 0 rfl dX3_holds_4 rfl ?_
    refine xr_get E hX 0 rfl rfl ly_X3 1 (by decide) fl_X3_17 rfl dX3_holds_5 ?_
    refine xr_aald E hX 1 rfl (by decide) (by decide) (by decide) rfl dX3_holds_8 ?_
    refine xr_aload_n E hl 1 rfl dX3_holds_9 rfl ?_
    refine xk_v (W2 := fun u => (W_PF y hP a_ring p0hF p0a_ind p0a_tot p0a_pri p1hF p1a_ind p1a_tot p1a_pri p2hF p2a_ind p2a_tot p2a_pri p3hF p3a_ind p3a_tot p3a_pri p4hF p4a_ind p4a_tot p4a_pri p5hF p5a_ind p5a_tot p5a_pri hF a_ind a_tot a_pri (up rind 3 u.1) (up rtot 3 u.2.1) (up rpri 3 u.2.2.1) (up rq 3 u.2.2.2.1) (up rfr 3 u.2.2.2.2.1) (up rli 3 u.2.2.2.2.2.1) (up rsh 3 u.2.2.2.2.2.2) 3 sts ind tot pri q fr li sh)) E hX [14, 15, 16, 17, 26, 27, 28, 29] rfl (xv_V (As := [.ref hF]) E hX hl (c_X2_becomes l D y z _ p3hF p3a_ind p3a_tot p3a_pri hF a_ind a_tot a_pri (rind 3) (rtot 3) (rpri 3) (rq 3) (rfr 3) (rli 3) (rsh 3) ind tot pri q fr li sh) ml_X3_25 im_X2_becomes se_X2_becomes in_X2 co_X2_becomes 1 (by decide) ⟨rfl, rfl⟩ ⟨Nat.le_of_ble_eq_true rfl, Nat.le_of_ble_eq_true rfl⟩ [14, 15, 16, 17, 26, 27, 28, 29] rfl rfl 14 rfl rfl rfl rfl rfl (Nat.le_of_ble_eq_true rfl) dX3_holds_10 ⟨Nat.le_refl _, Nat.le_refl _⟩) [8, 9, 10, 11, 12, 13, 14, 15, 16, 17, 18, 19, 20, 21, 0, 1, 2, 3, 26, 27, 28, 29, 30, 31, 32, 33, 4, 5, 6, 7] 8 (fun _ => rfl) (fun _ => rfl) (by decide) (by decide) (fun u H locs hw hX => ?_)
    subst hw
    have hX : XW D A s.heap (W_PF y hP a_ring p0hF p0a_ind p0a_tot p0a_pri p1hF p1a_ind p1a_tot p1a_pri p2hF p2a_ind p2a_tot p2a_pri p3hF p3a_ind p3a_tot p3a_pri p4hF p4a_ind p4a_tot p4a_pri p5hF p5a_ind p5a_tot p5a_pri hF a_ind a_tot a_pri (up rind 3 ind) (up rtot 3 tot) (up rpri 3 pri) (up rq 3 q) (up rfr 3 fr) (up rli 3 li) (up rsh 3 sh) 3 sts ind tot pri q fr li sh) H locs := hX
    exact xr_vret E hX hQ ((up rind 3 ind), (up rtot 3 tot), (up rpri 3 pri), (up rq 3 q), (up rfr 3 fr), (up rli 3 li), (up rsh 3 sh)) hr rfl rfl dX3_holds_13
  · refine xr_aload_n E hl 0 rfl dX3_holds_0 rfl ?_
    refine xr_get E hX 0 rfl rfl ly_X3 0 (by decide) fl_X3_11 rfl dX3_holds_1 ?_
    refine xr_aload_n E hl 0 rfl dX3_holds_4 rfl ?_
    refine xr_get E hX 0 rfl rfl ly_X3 1 (by decide) fl_X3_17 rfl dX3_holds_5 ?_
    refine xr_aald E hX 1 rfl (by decide) (by decide) (by decide) rfl dX3_holds_8 ?_
    refine xr_aload_n E hl 1 rfl dX3_holds_9 rfl ?_
    refine xk_v (W2 := fun u => (W_PF y hP a_ring p0hF p0a_ind p0a_tot p0a_pri p1hF p1a_ind p1a_tot p1a_pri p2hF p2a_ind p2a_tot p2a_pri p3hF p3a_ind p3a_tot p3a_pri p4hF p4a_ind p4a_tot p4a_pri p5hF p5a_ind p5a_tot p5a_pri hF a_ind a_tot a_pri (up rind 4 u.1) (up rtot 4 u.2.1) (up rpri 4 u.2.2.1) (up rq 4 u.2.2.2.1) (up rfr 4 u.2.2.2.2.1) (up rli 4 u.2.2.2.2.2.1) (up rsh 4 u.2.2.2.2.2.2) 4 sts ind tot pri q fr li sh)) E hX [18, 19, 20, 21, 26, 27, 28, 29] rfl (xv_V (As := [.ref hF]) E hX hl (c_X2_becomes l D y z _ p4hF p4a_ind p4a_tot p4a_pri hF a_ind a_tot a_pri (rind 4) (rtot 4) (rpri 4) (rq 4) (rfr 4) (rli 4) (rsh 4) ind tot pri q fr li sh) ml_X3_25 im_X2_becomes se_X2_becomes in_X2 co_X2_becomes 1 (by decide) ⟨rfl, rfl⟩ ⟨Nat.le_of_ble_eq_true rfl, Nat.le_of_ble_eq_true rfl⟩ [18, 19, 20, 21, 26, 27, 28, 29] rfl rfl 18 rfl rfl rfl rfl rfl (Nat.le_of_ble_eq_true rfl) dX3_holds_10 ⟨Nat.le_refl _, Nat.le_refl _⟩) [8, 9, 10, 11, 12, 13, 14, 15, 16, 17, 18, 19, 20, 21, 22, 23, 24, 25, 0, 1, 2, 3, 30, 31, 32, 33, 4, 5, 6, 7] 8 (fun _ => rfl) (fun _ => rfl) (by decide) (by decide) (fun u H locs hw hX => ?_)
    subst hw
    have hX : XW D A s.heap (W_PF y hP a_ring p0hF p0a_ind p0a_tot p0a_pri p1hF p1a_ind p1a_tot p1a_pri p2hF p2a_ind p2a_tot p2a_pri p3hF p3a_ind p3a_tot p3a_pri p4hF p4a_ind p4a_tot p4a_pri p5hF p5a_ind p5a_tot p5a_pri hF a_ind a_tot a_pri (up rind 4 ind) (up rtot 4 tot) (up rpri 4 pri) (up rq 4 q) (up rfr 4 fr) (up rli 4 li) (up rsh 4 sh) 4 sts ind tot pri q fr li sh) H locs := hX
    exact xr_vret E hX hQ ((up rind 4 ind), (up rtot 4 tot), (up rpri 4 pri), (up rq 4 q), (up rfr 4 fr), (up rli 4 li), (up rsh 4 sh)) hr rfl rfl dX3_holds_13
  · refine xr_aload_n E hl 0 rfl dX3_holds_0 rfl ?_
    refine xr_get E hX 0 rfl rfl ly_X3 0 (by decide) fl_X3_11 rfl dX3_holds_1 ?_
    refine xr_aload_n E hl 0 rfl dX3_holds_4 rfl ?_
    refine xr_get E hX 0 rfl rfl ly_X3 1 (by decide) fl_X3_17 rfl dX3_holds_5 ?_
    refine xr_aald E hX 1 rfl (by decide) (by decide) (by decide) rfl dX3_holds_8 ?_
    refine xr_aload_n E hl 1 rfl dX3_holds_9 rfl ?_
    refine xk_v (W2 := fun u => (W_PF y hP a_ring p0hF p0a_ind p0a_tot p0a_pri p1hF p1a_ind p1a_tot p1a_pri p2hF p2a_ind p2a_tot p2a_pri p3hF p3a_ind p3a_tot p3a_pri p4hF p4a_ind p4a_tot p4a_pri p5hF p5a_ind p5a_tot p5a_pri hF a_ind a_tot a_pri (up rind 5 u.1) (up rtot 5 u.2.1) (up rpri 5 u.2.2.1) (up rq 5 u.2.2.2.1) (up rfr 5 u.2.2.2.2.1) (up rli 5 u.2.2.2.2.2.1) (up rsh 5 u.2.2.2.2.2.2) 5 sts ind tot pri q fr li sh)) E hX [22, 23, 24, 25, 26, 27, 28, 29] rfl (xv_V (As := [.ref hF]) E hX hl (c_X2_becomes l D y z _ p5hF p5a_ind p5a_tot p5a_pri hF a_ind a_tot a_pri (rind 5) (rtot 5) (rpri 5) (rq 5) (rfr 5) (rli 5) (rsh 5) ind tot pri q fr li sh) ml_X3_25 im_X2_becomes se_X2_becomes in_X2 co_X2_becomes 1 (by decide) ⟨rfl, rfl⟩ ⟨Nat.le_of_ble_eq_true rfl, Nat.le_of_ble_eq_true rfl⟩ [22, 23, 24, 25, 26, 27, 28, 29] rfl rfl 22 rfl rfl rfl rfl rfl (Nat.le_of_ble_eq_true rfl) dX3_holds_10 ⟨Nat.le_refl _, Nat.le_refl _⟩) [8, 9, 10, 11, 12, 13, 14, 15, 16, 17, 18, 19, 20, 21, 22, 23, 24, 25, 26, 27, 28, 29, 0, 1, 2, 3, 4, 5, 6, 7] 8 (fun _ => rfl) (fun _ => rfl) (by decide) (by decide) (fun u H locs hw hX => ?_)
    subst hw
    have hX : XW D A s.heap (W_PF y hP a_ring p0hF p0a_ind p0a_tot p0a_pri p1hF p1a_ind p1a_tot p1a_pri p2hF p2a_ind p2a_tot p2a_pri p3hF p3a_ind p3a_tot p3a_pri p4hF p4a_ind p4a_tot p4a_pri p5hF p5a_ind p5a_tot p5a_pri hF a_ind a_tot a_pri (up rind 5 ind) (up rtot 5 tot) (up rpri 5 pri) (up rq 5 q) (up rfr 5 fr) (up rli 5 li) (up rsh 5 sh) 5 sts ind tot pri q fr li sh) H locs := hX
    exact xr_vret E hX hQ ((up rind 5 ind), (up rtot 5 tot), (up rpri 5 pri), (up rq 5 q), (up rfr 5 fr), (up rli 5 li), (up rsh 5 sh)) hr rfl rfl dX3_holds_13
abbrev rm_X3_restores : Room := { frames := 2, cells := 0, slots := 0, locals := 81 }
set_option maxHeartbeats 4000000 in
set_option maxRecDepth 100000 in
theorem c_X3_restores (l : Launch) (D : va_G) (y : CY) (z sz : Nat) (hP a_ring p0hF p0a_ind p0a_tot p0a_pri p1hF p1a_ind p1a_tot p1a_pri p2hF p2a_ind p2a_tot p2a_pri p3hF p3a_ind p3a_tot p3a_pri p4hF p4a_ind p4a_tot p4a_pri p5hF p5a_ind p5a_tot p5a_pri hF a_ind a_tot a_pri : Nat) (rind : Int → Int → Int) (rtot : Int → Int → Int) (rpri : Int → Int → Int) (rq : Int → Int) (rfr : Int → Int) (rli : Int → Int) (rsh : Int → Int) (top : Int) (sts : Int) (ind : Int → Int) (tot : Int → Int) (pri : Int → Int) (q : Int) (fr : Int) (li : Int) (sh : Int) (htop : 0 ≤ top ∧ top ≤ 5) : Met l yX3_restores (Cond.code yX3_restores cX3_restores 2 none :: TW) rm_X3_restores (va_Pc [.ref hP, .ref hF] (PX D y z (W_PF y hP a_ring p0hF p0a_ind p0a_tot p0a_pri p1hF p1a_ind p1a_tot p1a_pri p2hF p2a_ind p2a_tot p2a_pri p3hF p3a_ind p3a_tot p3a_pri p4hF p4a_ind p4a_tot p4a_pri p5hF p5a_ind p5a_tot p5a_pri hF a_ind a_tot a_pri rind rtot rpri rq rfr rli rsh top sts ind tot pri q fr li sh) sz)) (va_Qv (fun (u : (Int → Int) × (Int → Int) × (Int → Int) × (Int) × (Int) × (Int) × (Int)) => u = (rind top, rtot top, rpri top, rq top, rfr top, rli top, rsh top)) (fun u t => BX D (W_PF y hP a_ring p0hF p0a_ind p0a_tot p0a_pri p1hF p1a_ind p1a_tot p1a_pri p2hF p2a_ind p2a_tot p2a_pri p3hF p3a_ind p3a_tot p3a_pri p4hF p4a_ind p4a_tot p4a_pri p5hF p5a_ind p5a_tot p5a_pri hF a_ind a_tot a_pri rind rtot rpri rq rfr rli rsh top sts u.1 u.2.1 u.2.2.1 u.2.2.2.1 u.2.2.2.2.1 u.2.2.2.2.2.1 u.2.2.2.2.2.2) (va_A (W_PF y hP a_ring p0hF p0a_ind p0a_tot p0a_pri p1hF p1a_ind p1a_tot p1a_pri p2hF p2a_ind p2a_tot p2a_pri p3hF p3a_ind p3a_tot p3a_pri p4hF p4a_ind p4a_tot p4a_pri p5hF p5a_ind p5a_tot p5a_pri hF a_ind a_tot a_pri rind rtot rpri rq rfr rli rsh top sts ind tot pri q fr li sh) sz) t) (va_A (W_PF y hP a_ring p0hF p0a_ind p0a_tot p0a_pri p1hF p1a_ind p1a_tot p1a_pri p2hF p2a_ind p2a_tot p2a_pri p3hF p3a_ind p3a_tot p3a_pri p4hF p4a_ind p4a_tot p4a_pri p5hF p5a_ind p5a_tot p5a_pri hF a_ind a_tot a_pri rind rtot rpri rq rfr rli rsh top sts ind tot pri q fr li sh) sz)) 0 0 (va_A (W_PF y hP a_ring p0hF p0a_ind p0a_tot p0a_pri p1hF p1a_ind p1a_tot p1a_pri p2hF p2a_ind p2a_tot p2a_pri p3hF p3a_ind p3a_tot p3a_pri p4hF p4a_ind p4a_tot p4a_pri p5hF p5a_ind p5a_tot p5a_pri hF a_ind a_tot a_pri rind rtot rpri rq rfr rli rsh top sts ind tot pri q fr li sh) sz) := by
  refine xm_v (by decide) (Nat.le_of_ble_eq_true rfl) (fun p e s m args below meth c ls A Q E hr hnm hX hl hQ => ?_)
  have hl : lv_has ls 2 [(0, .ref hP), (1, .ref hF)] := hl
  rcases (show top = 0 ∨ top = 1 ∨ top = 2 ∨ top = 3 ∨ top = 4 ∨ top = 5 by omega) with rfl | rfl | rfl | rfl | rfl | rfl
  · refine xr_aload_n E hl 1 rfl dX3_restores_0 rfl ?_
    refine xr_aload_n E hl 0 rfl dX3_restores_1 rfl ?_
    refine xr_get E hX 0 rfl rfl ly_X3 0 (by decide) fl_X3_11 rfl dX3_restores_2 ?_
    refine xr_aload_n E hl 0 rfl dX3_restores_5 rfl ?_
    refine xr_get E hX 0 rfl rfl ly_X3 1 (by decide) fl_X3_17 rfl dX3_restores_6 ?_
    refine xr_aald E hX 1 rfl (by decide) (by decide) (by decide) rfl dX3_restores_9 ?_
    refine xk_v (W2 := fun u => (W_PF y hP a_ring p0hF p0a_ind p0a_tot p0a_pri p1hF p1a_ind p1a_tot p1a_pri p2hF p2a_ind p2a_tot p2a_pri p3hF p3a_ind p3a_tot p3a_pri p4hF p4a_ind p4a_tot p4a_pri p5hF p5a_ind p5a_tot p5a_pri hF a_ind a_tot a_pri rind rtot rpri rq rfr rli rsh 0 sts u.1 u.2.1 u.2.2.1 u.2.2.2.1 u.2.2.2.2.1 u.2.2.2.2.2.1 u.2.2.2.2.2.2)) E hX [26, 27, 28, 29, 2, 3, 4, 5] rfl (xv_V (As := [.ref p0hF]) E hX hl (c_X2_becomes l D y z _ hF a_ind a_tot a_pri p0hF p0a_ind p0a_tot p0a_pri ind tot pri q fr li sh (rind 0) (rtot 0) (rpri 0) (rq 0) (rfr 0) (rli 0) (rsh 0)) ml_X3_25 im_X2_becomes se_X2_becomes in_X2 co_X2_becomes 1 (by decide) ⟨rfl, rfl⟩ ⟨Nat.le_of_ble_eq_true rfl, Nat.le_of_ble_eq_true rfl⟩ [26, 27, 28, 29, 2, 3, 4, 5] rfl rfl 26 rfl rfl rfl rfl rfl (Nat.le_of_ble_eq_true rfl) dX3_restores_10 ⟨Nat.le_refl _, Nat.le_refl _⟩) [8, 9, 4, 5, 6, 7, 14, 15, 16, 17, 18, 19, 20, 21, 22, 23, 24, 25, 26, 27, 28, 29, 30, 31, 32, 33, 0, 1, 2, 3] 8 (fun _ => rfl) (fun _ => rfl) (by decide) (by decide) (fun u H locs hw hX => ?_)
    subst hw
    have hX : XW D A s.heap (W_PF y hP a_ring p0hF p0a_ind p0a_tot p0a_pri p1hF p1a_ind p1a_tot p1a_pri p2hF p2a_ind p2a_tot p2a_pri p3hF p3a_ind p3a_tot p3a_pri p4hF p4a_ind p4a_tot p4a_pri p5hF p5a_ind p5a_tot p5a_pri hF a_ind a_tot a_pri rind rtot rpri rq rfr rli rsh 0 sts (rind 0) (rtot 0) (rpri 0) (rq 0) (rfr 0) (rli 0) (rsh 0)) H locs := hX
    exact xr_vret E hX hQ ((rind 0), (rtot 0), (rpri 0), (rq 0), (rfr 0), (rli 0), (rsh 0)) hr rfl rfl dX3_restores_13
  · refine xr_aload_n E hl 1 rfl dX3_restores_0 rfl ?_
    refine xr_aload_n E hl 0 rfl dX3_restores_1 rfl ?_
    refine xr_get E hX 0 rfl rfl ly_X3 0 (by decide) fl_X3_11 rfl dX3_restores_2 ?_
    refine xr_aload_n E hl 0 rfl dX3_restores_5 rfl ?_
    refine xr_get E hX 0 rfl rfl ly_X3 1 (by decide) fl_X3_17 rfl dX3_restores_6 ?_
    refine xr_aald E hX 1 rfl (by decide) (by decide) (by decide) rfl dX3_restores_9 ?_
    refine xk_v (W2 := fun u => (W_PF y hP a_ring p0hF p0a_ind p0a_tot p0a_pri p1hF p1a_ind p1a_tot p1a_pri p2hF p2a_ind p2a_tot p2a_pri p3hF p3a_ind p3a_tot p3a_pri p4hF p4a_ind p4a_tot p4a_pri p5hF p5a_ind p5a_tot p5a_pri hF a_ind a_tot a_pri rind rtot rpri rq rfr rli rsh 1 sts u.1 u.2.1 u.2.2.1 u.2.2.2.1 u.2.2.2.2.1 u.2.2.2.2.2.1 u.2.2.2.2.2.2)) E hX [26, 27, 28, 29, 6, 7, 8, 9] rfl (xv_V (As := [.ref p1hF]) E hX hl (c_X2_becomes l D y z _ hF a_ind a_tot a_pri p1hF p1a_ind p1a_tot p1a_pri ind tot pri q fr li sh (rind 1) (rtot 1) (rpri 1) (rq 1) (rfr 1) (rli 1) (rsh 1)) ml_X3_25 im_X2_becomes se_X2_becomes in_X2 co_X2_becomes 1 (by decide) ⟨rfl, rfl⟩ ⟨Nat.le_of_ble_eq_true rfl, Nat.le_of_ble_eq_true rfl⟩ [26, 27, 28, 29, 6, 7, 8, 9] rfl rfl 26 rfl rfl rfl rfl rfl (Nat.le_of_ble_eq_true rfl) dX3_restores_10 ⟨Nat.le_refl _, Nat.le_refl _⟩) [8, 9, 10, 11, 12, 13, 4, 5, 6, 7, 18, 19, 20, 21, 22, 23, 24, 25, 26, 27, 28, 29, 30, 31, 32, 33, 0, 1, 2, 3] 8 (fun _ => rfl) (fun _ => rfl) (by decide) (by decide) (fun u H locs hw hX => ?_)
    subst hw
    have hX : XW D A s.heap (W_PF y hP a_ring p0hF p0a_ind p0a_tot p0a_pri p1hF p1a_ind p1a_tot p1a_pri p2hF p2a_ind p2a_tot p2a_pri p3hF p3a_ind p3a_tot p3a_pri p4hF p4a_ind p4a_tot p4a_pri p5hF p5a_ind p5a_tot p5a_pri hF a_ind a_tot a_pri rind rtot rpri rq rfr rli rsh 1 sts (rind 1) (rtot 1) (rpri 1) (rq 1) (rfr 1) (rli 1) (rsh 1)) H locs := hX
    exact xr_vret E hX hQ ((rind 1), (rtot 1), (rpri 1), (rq 1), (rfr 1), (rli 1), (rsh 1)) hr rfl rfl dX3_restores_13
  · refine xr_aload_n E hl 1 rfl dX3_restores_0 rfl ?_
    refine xr_aload_n E hl 0 rfl dX3_restores_1 rfl ?_
    refine xr_get E hX 0 rfl rfl ly_X3 0 (by decide) fl_X3_11 rfl dX3_restores_2 ?_
    refine xr_aload_n E hl 0 rfl dX3_restores_5 rfl ?_
    refine xr_get E hX 0 rfl rfl ly_X3 1 (by decide) fl_X3_17 rfl dX3_restores_6 ?_
    refine xr_aald E hX 1 rfl (by decide) (by decide) (by decide) rfl dX3_restores_9 ?_
    refine xk_v (W2 := fun u => (W_PF y hP a_ring p0hF p0a_ind p0a_tot p0a_pri p1hF p1a_ind p1a_tot p1a_pri p2hF p2a_ind p2a_tot p2a_pri p3hF p3a_ind p3a_tot p3a_pri p4hF p4a_ind p4a_tot p4a_pri p5hF p5a_ind p5a_tot p5a_pri hF a_ind a_tot a_pri rind rtot rpri rq rfr rli rsh 2 sts u.1 u.2.1 u.2.2.1 u.2.2.2.1 u.2.2.2.2.1 u.2.2.2.2.2.1 u.2.2.2.2.2.2)) E hX [26, 27, 28, 29, 10, 11, 12, 13] rfl (xv_V (As := [.ref p2hF]) E hX hl (c_X2_becomes l D y z _ hF a_ind a_tot a_pri p2hF p2a_ind p2a_tot p2a_pri ind tot pri q fr li sh (rind 2) (rtot 2) (rpri 2) (rq 2) (rfr 2) (rli 2) (rsh 2)) ml_X3_25 im_X2_becomes se_X2_becomes in_X2 co_X2_becomes 1 (by decide) ⟨rfl, rfl⟩ ⟨Nat.le_of_ble_eq_true rfl, Nat.le_of_ble_eq_true rfl⟩ [26, 27, 28, 29, 10, 11, 12, 13] rfl rfl 26 rfl rfl rfl rfl rfl (Nat.le_of_ble_eq_true rfl) dX3_restores_10 ⟨Nat.le_refl _, Nat.le_refl _⟩) [8, 9, 10, 11, 12, 13, 14, 15, 16, 17, 4, 5, 6, 7, 22, 23, 24, 25, 26, 27, 28, 29, 30, 31, 32, 33, 0, 1, 2, 3] 8 (fun _ => rfl) (fun _ => rfl) (by decide) (by decide) (fun u H locs hw hX => ?_)
    subst hw
    have hX : XW D A s.heap (W_PF y hP a_ring p0hF p0a_ind p0a_tot p0a_pri p1hF p1a_ind p1a_tot p1a_pri p2hF p2a_ind p2a_tot p2a_pri p3hF p3a_ind p3a_tot p3a_pri p4hF p4a_ind p4a_tot p4a_pri p5hF p5a_ind p5a_tot p5a_pri hF a_ind a_tot a_pri rind rtot rpri rq rfr rli rsh 2 sts (rind 2) (rtot 2) (rpri 2) (rq 2) (rfr 2) (rli 2) (rsh 2)) H locs := hX
    exact xr_vret E hX hQ ((rind 2), (rtot 2), (rpri 2), (rq 2), (rfr 2), (rli 2), (rsh 2)) hr rfl rfl dX3_restores_13
  · refine xr_aload_n E hl 1 rfl dX3_restores_0 rfl ?_
    refine xr_aload_n E hl 0 rfl dX3_restores_1 rfl ?_
    refine xr_get E hX 0 rfl rfl ly_X3 0 (by decide) fl_X3_11 rfl dX3_restores_2 ?_
    refine xr_aload_n E hl 0 rfl dX3_restores_5 rfl ?_
    refine xr_get E hX 0 rfl rfl ly_X3 1 (by decide) fl_X3_17 rfl dX3_restores_6 ?_
    refine xr_aald E hX 1 rfl (by decide) (by decide) (by decide) rfl dX3_restores_9 ?_
    refine xk_v (W2 := fun u => (W_PF y hP a_ring p0hF p0a_ind p0a_tot p0a_pri p1hF p1a_ind p1a_tot p1a_pri p2hF p2a_ind p2a_tot p2a_pri p3hF p3a_ind p3a_tot p3a_pri p4hF p4a_ind p4a_tot p4a_pri p5hF p5a_ind p5a_tot p5a_pri hF a_ind a_tot a_pri rind rtot rpri rq rfr rli rsh 3 sts u.1 u.2.1 u.2.2.1 u.2.2.2.1 u.2.2.2.2.1 u.2.2.2.2.2.1 u.2.2.2.2.2.2)) E hX [26, 27, 28, 29, 14, 15, 16, 17] rfl (xv_V (As := [.ref p3hF]) E hX hl (c_X2_becomes l D y z _ hF a_ind a_tot a_pri p3hF p3a_ind p3a_tot p3a_pri ind tot pri q fr li sh (rind 3) (rtot 3) (rpri 3) (rq 3) (rfr 3) (rli 3) (rsh 3)) ml_X3_25 im_X2_becomes se_X2_becomes in_X2 co_X2_becomes 1 (by decide) ⟨rfl, rfl⟩ ⟨Nat.le_of_ble_eq_true rfl, Nat.le_of_ble_eq_true rfl⟩ [26, 27, 28, 29, 14, 15, 16, 17] rfl rfl 26 rfl rfl rfl rfl rfl (Nat.le_of_ble_eq_true rfl) dX3_restores_10 ⟨Nat.le_refl _, Nat.le_refl _⟩) [8, 9, 10, 11, 12, 13, 14, 15, 16, 17, 18, 19, 20, 21, 4, 5, 6, 7, 26, 27, 28, 29, 30, 31, 32, 33, 0, 1, 2, 3] 8 (fun _ => rfl) (fun _ => rfl) (by decide) (by decide) (fun u H locs hw hX => ?_)
    subst hw
    have hX : XW D A s.heap (W_PF y hP a_ring p0hF p0a_ind p0a_tot p0a_pri p1hF p1a_ind p1a_tot p1a_pri p2hF p2a_ind p2a_tot p2a_pri p3hF p3a_ind p3a_tot p3a_pri p4hF p4a_ind p4a_tot p4a_pri p5hF p5a_ind p5a_tot p5a_pri hF a_ind a_tot a_pri rind rtot rpri rq rfr rli rsh 3 sts (rind 3) (rtot 3) (rpri 3) (rq 3) (rfr 3) (rli 3) (rsh 3)) H locs := hX
    exact xr_vret E hX hQ ((rind 3), (rtot 3), (rpri 3), (rq 3), (rfr 3), (rli 3), (rsh 3)) hr rfl rfl dX3_restores_13
  · refine xr_aload_n E hl 1 rfl dX3_restores_0 rfl ?_
    refine xr_aload_n E hl 0 rfl dX3_restores_1 rfl ?_
    refine xr_get E hX 0 rfl rfl ly_X3 0 (by decide) fl_X3_11 rfl dX3_restores_2 ?_
    refine xr_aload_n E hl 0 rfl dX3_restores_5 rfl ?_
    refine xr_get E hX 0 rfl rfl ly_X3 1 (by decide) fl_X3_17 rfl dX3_restores_6 ?_
    refine xr_aald E hX 1 rfl (by decide) (by decide) (by decide) rfl dX3_restores_9 ?_
    refine xk_v (W2 := fun u => (W_PF y hP a_ring p0hF p0a_ind p0a_tot p0a_pri p1hF p1a_ind p1a_tot p1a_pri p2hF p2a_ind p2a_tot p2a_pri p3hF p3a_ind p3a_tot p3a_pri p4hF p4a_ind p4a_tot p4a_pri p5hF p5a_ind p5a_tot p5a_pri hF a_ind a_tot a_pri rind rtot rpri rq rfr rli rsh 4 sts u.1 u.2.1 u.2.2.1 u.2.2.2.1 u.2.2.2.2.1 u.2.2.2.2.2.1 u.2.2.2.2.2.2)) E hX [26, 27, 28, 29, 18, 19, 20, 21] rfl (xv_V (As := [.ref p4hF]) E hX hl (c_X2_becomes l D y z _ hF a_ind a_tot a_pri p4hF p4a_ind p4a_tot p4a_pri ind tot pri q fr li sh (rind 4) (rtot 4) (rpri 4) (rq 4) (rfr 4) (rli 4) (rsh 4)) ml_X3_25 im_X2_becomes se_X2_becomes in_X2 co_X2_becomes 1 (by decide) ⟨rfl, rfl⟩ ⟨Nat.le_of_ble_eq_true rfl, Nat.le_of_ble_eq_true rfl⟩ [26, 27, 28, 29, 18, 19, 20, 21] rfl rfl 26 rfl rfl rfl rfl rfl (Nat.le_of_ble_eq_true rfl) dX3_restores_10 ⟨Nat.le_refl _, Nat.le_refl _⟩) [8, 9, 10, 11, 12, 13, 14, 15, 16, 17, 18, 19, 20, 21, 22, 23, 24, 25, 4, 5, 6, 7, 30, 31, 32, 33, 0, 1, 2, 3] 8 (fun _ => rfl) (fun _ => rfl) (by decide) (by decide) (fun u H locs hw hX => ?_)
    subst hw
    have hX : XW D A s.heap (W_PF y hP a_ring p0hF p0a_ind p0a_tot p0a_pri p1hF p1a_ind p1a_tot p1a_pri p2hF p2a_ind p2a_tot p2a_pri p3hF p3a_ind p3a_tot p3a_pri p4hF p4a_ind p4a_tot p4a_pri p5hF p5a_ind p5a_tot p5a_pri hF a_ind a_tot a_pri rind rtot rpri rq rfr rli rsh 4 sts (rind 4) (rtot 4) (rpri 4) (rq 4) (rfr 4) (rli 4) (rsh 4)) H locs := hX
    exact xr_vret E hX hQ ((rind 4), (rtot 4), (rpri 4), (rq 4), (rfr 4), (rli 4), (rsh 4)) hr rfl rfl dX3_restores_13
  · refine xr_aload_n E hl 1 rfl dX3_restores_0 rfl ?_
    refine xr_aload_n E hl 0 rfl dX3_restores_1 rfl ?_
    refine xr_get E hX 0 rfl rfl ly_X3 0 (by decide) fl_X3_11 rfl dX3_restores_2 ?_
    refine xr_aload_n E hl 0 rfl dX3_restores_5 rfl ?_
    refine xr_get E hX 0 rfl rfl ly_X3 1 (by decide) fl_X3_17 rfl dX3_restores_6 ?_
    refine xr_aald E hX 1 rfl (by decide) (by decide) (by decide) rfl dX3_restores_9 ?_
    refine xk_v (W2 := fun u => (W_PF y hP a_ring p0hF p0a_ind p0a_tot p0a_pri p1hF p1a_ind p1a_tot p1a_pri p2hF p2a_ind p2a_tot p2a_pri p3hF p3a_ind p3a_tot p3a_pri p4hF p4a_ind p4a_tot p4a_pri p5hF p5a_ind p5a_tot p5a_pri hF a_ind a_tot a_pri rind rtot rpri rq rfr rli rsh 5 sts u.1 u.2.1 u.2.2.1 u.2.2.2.1 u.2.2.2.2.1 u.2.2.2.2.2.1 u.2.2.2.2.2.2)) E hX [26, 27, 28, 29, 22, 23, 24, 25] rfl (xv_V (As := [.ref p5hF]) E hX hl (c_X2_becomes l D y z _ hF a_ind a_tot a_pri p5hF p5a_ind p5a_tot p5a_pri ind tot pri q fr li sh (rind 5) (rtot 5) (rpri 5) (rq 5) (rfr 5) (rli 5) (rsh 5)) ml_X3_25 im_X2_becomes se_X2_becomes in_X2 co_X2_becomes 1 (by decide) ⟨rfl, rfl⟩ ⟨Nat.le_of_ble_eq_true rfl, Nat.le_of_ble_eq_true rfl⟩ [26, 27, 28, 29, 22, 23, 24, 25] rfl rfl 26 rfl rfl rfl rfl rfl (Nat.le_of_ble_eq_true rfl) dX3_restores_10 ⟨Nat.le_refl _, Nat.le_refl _⟩) [8, 9, 10, 11, 12, 13, 14, 15, 16, 17, 18, 19, 20, 21, 22, 23, 24, 25, 26, 27, 28, 29, 4, 5, 6, 7, 0, 1, 2, 3] 8 (fun _ => rfl) (fun _ => rfl) (by decide) (by decide) (fun u H locs hw hX => ?_)
    subst hw
    have hX : XW D A s.heap (W_PF y hP a_ring p0hF p0a_ind p0a_tot p0a_pri p1hF p1a_ind p1a_tot p1a_pri p2hF p2a_ind p2a_tot p2a_pri p3hF p3a_ind p3a_tot p3a_pri p4hF p4a_ind p4a_tot p4a_pri p5hF p5a_ind p5a_tot p5a_pri hF a_ind a_tot a_pri rind rtot rpri rq rfr rli rsh 5 sts (rind 5) (rtot 5) (rpri 5) (rq 5) (rfr 5) (rli 5) (rsh 5)) H locs := hX
    exact xr_vret E hX hQ ((rind 5), (rtot 5), (rpri 5), (rq 5), (rfr 5), (rli 5), (rsh 5)) hr rfl rfl dX3_restores_13
abbrev rm_X3_returns : Room := { frames := 2, cells := 0, slots := 0, locals := 81 }
set_option maxHeartbeats 4000000 in
set_option maxRecDepth 100000 in
theorem c_X3_returns (l : Launch) (D : va_G) (y : CY) (z sz : Nat) (hP a_ring p0hF p0a_ind p0a_tot p0a_pri p1hF p1a_ind p1a_tot p1a_pri p2hF p2a_ind p2a_tot p2a_pri p3hF p3a_ind p3a_tot p3a_pri p4hF p4a_ind p4a_tot p4a_pri p5hF p5a_ind p5a_tot p5a_pri hF a_ind a_tot a_pri : Nat) (rind : Int → Int → Int) (rtot : Int → Int → Int) (rpri : Int → Int → Int) (rq : Int → Int) (rfr : Int → Int) (rli : Int → Int) (rsh : Int → Int) (top : Int) (sts : Int) (ind : Int → Int) (tot : Int → Int) (pri : Int → Int) (q : Int) (fr : Int) (li : Int) (sh : Int) (htop : 0 ≤ top ∧ top ≤ 5) (hsts : 0 < sts ∧ sts ≤ 5) : Met l yX3_returns (Cond.code yX3_returns cX3_returns 2 none :: TW) rm_X3_returns (va_Pc [.ref hP, .ref hF] (PX D y z (W_PF y hP a_ring p0hF p0a_ind p0a_tot p0a_pri p1hF p1a_ind p1a_tot p1a_pri p2hF p2a_ind p2a_tot p2a_pri p3hF p3a_ind p3a_tot p3a_pri p4hF p4a_ind p4a_tot p4a_pri p5hF p5a_ind p5a_tot p5a_pri hF a_ind a_tot a_pri rind rtot rpri rq rfr rli rsh top sts ind tot pri q fr li sh) sz)) (va_Qv (fun (u : (Int) × (Int) × (Int → Int) × (Int → Int) × (Int → Int) × (Int) × (Int) × (Int) × (Int)) => u = (tDn top, sts - 1, rind (tDn top), rtot (tDn top), rpri (tDn top), rq (tDn top), rfr (tDn top), rli (tDn top), rsh (tDn top))) (fun u t => BX D (W_PF y hP a_ring p0hF p0a_ind p0a_tot p0a_pri p1hF p1a_ind p1a_tot p1a_pri p2hF p2a_ind p2a_tot p2a_pri p3hF p3a_ind p3a_tot p3a_pri p4hF p4a_ind p4a_tot p4a_pri p5hF p5a_ind p5a_tot p5a_pri hF a_ind a_tot a_pri rind rtot rpri rq rfr rli rsh u.1 u.2.1 u.2.2.1 u.2.2.2.1 u.2.2.2.2.1 u.2.2.2.2.2.1 u.2.2.2.2.2.2.1 u.2.2.2.2.2.2.2.1 u.2.2.2.2.2.2.2.2) (va_A (W_PF y hP a_ring p0hF p0a_ind p0a_tot p0a_pri p1hF p1a_ind p1a_tot p1a_pri p2hF p2a_ind p2a_tot p2a_pri p3hF p3a_ind p3a_tot p3a_pri p4hF p4a_ind p4a_tot p4a_pri p5hF p5a_ind p5a_tot p5a_pri hF a_ind a_tot a_pri rind rtot rpri rq rfr rli rsh top sts ind tot pri q fr li sh) sz) t) (va_A (W_PF y hP a_ring p0hF p0a_ind p0a_tot p0a_pri p1hF p1a_ind p1a_tot p1a_pri p2hF p2a_ind p2a_tot p2a_pri p3hF p3a_ind p3a_tot p3a_pri p4hF p4a_ind p4a_tot p4a_pri p5hF p5a_ind p5a_tot p5a_pri hF a_ind a_tot a_pri rind rtot rpri rq rfr rli rsh top sts ind tot pri q fr li sh) sz)) 0 0 (va_A (W_PF y hP a_ring p0hF p0a_ind p0a_tot p0a_pri p1hF p1a_ind p1a_tot p1a_pri p2hF p2a_ind p2a_tot p2a_pri p3hF p3a_ind p3a_tot p3a_pri p4hF p4a_ind p4a_tot p4a_pri p5hF p5a_ind p5a_tot p5a_pri hF a_ind a_tot a_pri rind rtot rpri rq rfr rli rsh top sts ind tot pri q fr li sh) sz) := by
  refine xm_v (by decide) (Nat.le_of_ble_eq_true rfl) (fun p e s m args below meth c ls A Q E hr hnm hX hl hQ => ?_)
  have hl : lv_has ls 2 [(0, .ref hP), (1, .ref hF)] := hl
  rcases (show top = 0 ∨ top = 1 ∨ top = 2 ∨ top = 3 ∨ top = 4 ∨ top = 5 by omega) with rfl | rfl | rfl | rfl | rfl | rfl
  · refine xr_aload_n E hl 0 rfl dX3_returns_0 rfl ?_
    refine xr_get E hX 0 rfl rfl ly_X3 2 (by decide) fl_X3_21 rfl dX3_returns_1 ?_
    refine xr_if_le (tgt := 51) E dX3_returns_4 (by decide) ⟨by omega, by omega⟩ (fun c_4 => ?_) (fun c_4 => ?_)
    · have c_4 := c_4
      exact xr_vret E hX hQ (0, sts, ind, tot, pri, q, fr, li, sh) hr (by first | rfl | (exfalso; omega)) rfl dX3_returns_51
    · have c_4 := c_4
      refine xr_aload_n E hl 0 rfl dX3_returns_7 rfl ?_
      refine xr_aload_n E hl 0 rfl dX3_returns_8 rfl ?_
      refine xr_get E hX 0 rfl rfl ly_X3 1 (by decide) fl_X3_17 rfl dX3_returns_9 ?_
      refine xr_if_ne (tgt := 19) E dX3_returns_12 (by decide) (by decide) (fun c_12 => ?_) (fun c_12 => ?_)
      · exact absurd c_12 (by decide)
      · have c_12 := c_12
        refine xr_iconst E dX3_returns_15 ?_
        refine xr_goto (tgt := 25) E dX3_returns_16 (by decide) ?_
        refine xr_put (W1 := (W_PF y hP a_ring p0hF p0a_ind p0a_tot p0a_pri p1hF p1a_ind p1a_tot p1a_pri p2hF p2a_ind p2a_tot p2a_pri p3hF p3a_ind p3a_tot p3a_pri p4hF p4a_ind p4a_tot p4a_pri p5hF p5a_ind p5a_tot p5a_pri hF a_ind a_tot a_pri rind rtot rpri rq rfr rli rsh 5 sts ind tot pri q fr li sh)) E hX 0 rfl rfl ly_X3 tyX3_ok nmX3 1 (by decide) fl_X3_17 rfl rfl rfl (Nat.le_of_ble_eq_true rfl) rfl dX3_returns_25 (fun H locs hX => ?_)
        refine xr_aload_n E hl 0 rfl dX3_returns_28 rfl ?_
        refine xr_dup E dX3_returns_29 rfl ?_
        refine xr_get E hX 0 rfl rfl ly_X3 2 (by decide) fl_X3_21 rfl dX3_returns_30 ?_
        refine xr_iconst E dX3_returns_33 ?_
        refine xr_isub E dX3_returns_34 ?_
        refine xr_put (W1 := (W_PF y hP a_ring p0hF p0a_ind p0a_tot p0a_pri p1hF p1a_ind p1a_tot p1a_pri p2hF p2a_ind p2a_tot p2a_pri p3hF p3a_ind p3a_tot p3a_pri p4hF p4a_ind p4a_tot p4a_pri p5hF p5a_ind p5a_tot p5a_pri hF a_ind a_tot a_pri rind rtot rpri rq rfr rli rsh 5 (sts - 1) ind tot pri q fr li sh)) E hX 0 rfl rfl ly_X3 tyX3_ok nmX3 2 (by decide) fl_X3_21 rfl rfl rfl (Nat.le_of_ble_eq_true rfl) rfl dX3_returns_35 (fun H locs hX => ?_)
        refine xr_aload_n E hl 1 rfl dX3_returns_38 rfl ?_
        refine xr_aload_n E hl 0 rfl dX3_returns_39 rfl ?_
        refine xr_get E hX 0 rfl rfl ly_X3 0 (by decide) fl_X3_11 rfl dX3_returns_40 ?_
        refine xr_aload_n E hl 0 rfl dX3_returns_43 rfl ?_
        refine xr_get E hX 0 rfl rfl ly_X3 1 (by decide) fl_X3_17 rfl dX3_returns_44 ?_
        refine xr_aald E hX 1 rfl (by decide) (by decide) (by decide) rfl dX3_returns_47 ?_
        refine xk_v (W2 := fun u => (W_PF y hP a_ring p0hF p0a_ind p0a_tot p0a_pri p1hF p1a_ind p1a_tot p1a_pri p2hF p2a_ind p2a_tot p2a_pri p3hF p3a_ind p3a_tot p3a_pri p4hF p4a_ind p4a_tot p4a_pri p5hF p5a_ind p5a_tot p5a_pri hF a_ind a_tot a_pri rind rtot rpri rq rfr rli rsh 5 (sts - 1) u.1 u.2.1 u.2.2.1 u.2.2.2.1 u.2.2.2.2.1 u.2.2.2.2.2.1 u.2.2.2.2.2.2)) E hX [26, 27, 28, 29, 22, 23, 24, 25] rfl (xv_V (As := [.ref p5hF]) E hX hl (c_X2_becomes l D y z _ hF a_ind a_tot a_pri p5hF p5a_ind p5a_tot p5a_pri ind tot pri q fr li sh (rind 5) (rtot 5) (rpri 5) (rq 5) (rfr 5) (rli 5) (rsh 5)) ml_X3_25 im_X2_becomes se_X2_becomes in_X2 co_X2_becomes 1 (by decide) ⟨rfl, rfl⟩ ⟨Nat.le_of_ble_eq_true rfl, Nat.le_of_ble_eq_true rfl⟩ [26, 27, 28, 29, 22, 23, 24, 25] rfl rfl 26 rfl rfl rfl rfl rfl (Nat.le_of_ble_eq_true rfl) dX3_returns_48 ⟨Nat.le_refl _, Nat.le_refl _⟩) [8, 9, 10, 11, 12, 13, 14, 15, 16, 17, 18, 19, 20, 21, 22, 23, 24, 25, 26, 27, 28, 29, 4, 5, 6, 7, 0, 1, 2, 3] 8 (fun _ => rfl) (fun _ => rfl) (by decide) (by decide) (fun u H locs hw hX => ?_)
        subst hw
        have hX : XW D A s.heap (W_PF y hP a_ring p0hF p0a_ind p0a_tot p0a_pri p1hF p1a_ind p1a_tot p1a_pri p2hF p2a_ind p2a_tot p2a_pri p3hF p3a_ind p3a_tot p3a_pri p4hF p4a_ind p4a_tot p4a_pri p5hF p5a_ind p5a_tot p5a_pri hF a_ind a_tot a_pri rind rtot rpri rq rfr rli rsh 5 (sts - 1) (rind 5) (rtot 5) (rpri 5) (rq 5) (rfr 5) (rli 5) (rsh 5)) H locs := hX
        exact xr_vret E hX hQ (5, (sts - 1), (rind 5), (rtot 5), (rpri 5), (rq 5), (rfr 5), (rli 5), (rsh 5)) hr (by first | rfl | (exfalso; omega)) rfl dX3_returns_51
  · refine xr_aload_n E hl 0 rfl dX3_returns_0 rfl ?_
    refine xr_get E hX 0 rfl rfl ly_X3 2 (by decide) fl_X3_21 rfl dX3_returns_1 ?_
    refine xr_if_le (tgt := 51) E dX3_returns_4 (by decide) ⟨by omega, by omega⟩ (fun c_4 => ?_) (fun c_4 => ?_)
    · have c_4 := c_4
      exact xr_vret E hX hQ (1, sts, ind, tot, pri, q, fr, li, sh) hr (by first | rfl | (exfalso; omega)) rfl dX3_returns_51
    · have c_4 := c_4
      refine xr_aload_n E hl 0 rfl dX3_returns_7 rfl ?_
      refine xr_aload_n E hl 0 rfl dX3_returns_8 rfl ?_
      refine xr_get E hX 0 rfl rfl ly_X3 1 (by decide) fl_X3_17 rfl dX3_returns_9 ?_
      refine xr_if_ne (tgt := 19) E dX3_returns_12 (by decide) (by decide) (fun c_12 => ?_) (fun c_12 => ?_)
      · have c_12 := c_12
        refine xr_aload_n E hl 0 rfl dX3_returns_19 rfl ?_
        refine xr_get E hX 0 rfl rfl ly_X3 1 (by decide) fl_X3_17 rfl dX3_returns_20 ?_
        refine xr_iconst E dX3_returns_23 ?_
        refine xr_isub E dX3_returns_24 ?_
        refine xr_put (W1 := (W_PF y hP a_ring p0hF p0a_ind p0a_tot p0a_pri p1hF p1a_ind p1a_tot p1a_pri p2hF p2a_ind p2a_tot p2a_pri p3hF p3a_ind p3a_tot p3a_pri p4hF p4a_ind p4a_tot p4a_pri p5hF p5a_ind p5a_tot p5a_pri hF a_ind a_tot a_pri rind rtot rpri rq rfr rli rsh 0 sts ind tot pri q fr li sh)) E hX 0 rfl rfl ly_X3 tyX3_ok nmX3 1 (by decide) fl_X3_17 rfl rfl rfl (Nat.le_of_ble_eq_true rfl) rfl dX3_returns_25 (fun H locs hX => ?_)
        refine xr_aload_n E hl 0 rfl dX3_returns_28 rfl ?_
        refine xr_dup E dX3_returns_29 rfl ?_
        refine xr_get E hX 0 rfl rfl ly_X3 2 (by decide) fl_X3_21 rfl dX3_returns_30 ?_
        refine xr_iconst E dX3_returns_33 ?_
        refine xr_isub E dX3_returns_34 ?_
        refine xr_put (W1 := (W_PF y hP a_ring p0hF p0a_ind p0a_tot p0a_pri p1hF p1a_ind p1a_tot p1a_pri p2hF p2a_ind p2a_tot p2a_pri p3hF p3a_ind p3a_tot p3a_pri p4hF p4a_ind p4a_tot p4a_pri p5hF p5a_ind p5a_tot p5a_pri hF a_ind a_tot a_pri rind rtot rpri rq rfr rli rsh 0 (sts - 1) ind tot pri q fr li sh)) E hX 0 rfl rfl ly_X3 tyX3_ok nmX3 2 (by decide) fl_X3_21 rfl rfl rfl (Nat.le_of_ble_eq_true rfl) rfl dX3_returns_35 (fun H locs hX => ?_)
        refine xr_aload_n E hl 1 rfl dX3_returns_38 rfl ?_
        refine xr_aload_n E hl 0 rfl dX3_returns_39 rfl ?_
        refine xr_get E hX 0 rfl rfl ly_X3 0 (by decide) fl_X3_11 rfl dX3_returns_40 ?_
        refine xr_aload_n E hl 0 rfl dX3_returns_43 rfl ?_
        refine xr_get E hX 0 rfl rfl ly_X3 1 (by decide) fl_X3_17 rfl dX3_returns_44 ?_
        refine xr_aald E hX 1 rfl (by decide) (by decide) (by decide) rfl dX3_returns_47 ?_
        refine xk_v (W2 := fun u => (W_PF y hP a_ring p0hF p0a_ind p0a_tot p0a_pri p1hF p1a_ind p1a_tot p1a_pri p2hF p2a_ind p2a_tot p2a_pri p3hF p3a_ind p3a_tot p3a_pri p4hF p4a_ind p4a_tot p4a_pri p5hF p5a_ind p5a_tot p5a_pri hF a_ind a_tot a_pri rind rtot rpri rq rfr rli rsh 0 (sts - 1) u.1 u.2.1 u.2.2.1 u.2.2.2.1 u.2.2.2.2.1 u.2.2.2.2.2.1 u.2.2.2.2.2.2)) E hX [26, 27, 28, 29, 2, 3, 4, 5] rfl (xv_V (As := [.ref p0hF]) E hX hl (c_X2_becomes l D y z _ hF a_ind a_tot a_pri p0hF p0a_ind p0a_tot p0a_pri ind tot pri q fr li sh (rind 0) (rtot 0) (rpri 0) (rq 0) (rfr 0) (rli 0) (rsh 0)) ml_X3_25 im_X2_becomes se_X2_becomes in_X2 co_X2_becomes 1 (by decide) ⟨rfl, rfl⟩ ⟨Nat.le_of_ble_eq_true rfl, Nat.le_of_ble_eq_true rfl⟩ [26, 27, 28, 29, 2, 3, 4, 5] rfl rfl 26 rfl rfl rfl rfl rfl (Nat.le_of_ble_eq_true rfl) dX3_returns_48 ⟨Nat.le_refl _, Nat.le_refl _⟩) [8, 9, 4, 5, 6, 7, 14, 15, 16, 17, 18, 19, 20, 21, 22, 23, 24, 25, 26, 27, 28, 29, 30, 31, 32, 33, 0, 1, 2, 3] 8 (fun _ => rfl) (fun _ => rfl) (by decide) (by decide) (fun u H locs hw hX => ?_)
        subst hw
        have hX : XW D A s.heap (W_PF y hP a_ring p0hF p0a_ind p0a_tot p0a_pri p1hF p1a_ind p1a_tot p1a_pri p2hF p2a_ind p2a_tot p2a_pri p3hF p3a_ind p3a_tot p3a_pri p4hF p4a_ind p4a_tot p4a_pri p5hF p5a_ind p5a_tot p5a_pri hF a_ind a_tot a_pri rind rtot rpri rq rfr rli rsh 0 (sts - 1) (rind 0) (rtot 0) (rpri 0) (rq 0) (rfr 0) (rli 0) (rsh 0)) H locs := hX
        exact xr_vret E hX hQ (0, (sts - 1), (rind 0), (rtot 0), (rpri 0), (rq 0), (rfr 0), (rli 0), (rsh 0)) hr (by first | rfl | (exfalso; omega)) rfl dX3_returns_51
      · exact absurd c_12 (by decide)
  · refine xr_aload_n E hl 0 rfl dX3_returns_0 rfl ?_
    refine xr_get E hX 0 rfl rfl ly_X3 2 (by decide) fl_X3_21 rfl dX3_returns_1 ?_
    refine xr_if_le (tgt := 51) E dX3_returns_4 (by decide) ⟨by omega, by omega⟩ (fun c_4 => ?_) (fun c_4 => ?_)
    · have c_4 := c_4
      exact xr_vret E hX hQ (2, sts, ind, tot, pri, q, fr, li, sh) hr (by first | rfl | (exfalso; omega)) rfl dX3_returns_51
    · have c_4 := c_4
      refine xr_aload_n E hl 0 rfl dX3_returns_7 rfl ?_
      refine xr_aload_n E hl 0 rfl dX3_returns_8 rfl ?_
      refine xr_get E hX 0 rfl rfl ly_X3 1 (by decide) fl_X3_17 rfl dX3_returns_9 ?_
      refine xr_if_ne (tgt := 19) E dX3_returns_12 (by decide) (by decide) (fun c_12 => ?_) (fun c_12 => ?_)
      · have c_12 := c_12
        refine xr_aload_n E hl 0 rfl dX3_returns_19 rfl ?_
        refine xr_get E hX 0 rfl rfl ly_X3 1 (by decide) fl_X3_17 rfl dX3_returns_20 ?_
        refine xr_iconst E dX3_returns_23 ?_
        refine xr_isub E dX3_returns_24 ?_
        refine xr_put (W1 := (W_PF y hP a_ring p0hF p0a_ind p0a_tot p0a_pri p1hF p1a_ind p1a_tot p1a_pri p2hF p2a_ind p2a_tot p2a_pri p3hF p3a_ind p3a_tot p3a_pri p4hF p4a_ind p4a_tot p4a_pri p5hF p5a_ind p5a_tot p5a_pri hF a_ind a_tot a_pri rind rtot rpri rq rfr rli rsh 1 sts ind tot pri q fr li sh)) E hX 0 rfl rfl ly_X3 tyX3_ok nmX3 1 (by decide) fl_X3_17 rfl rfl rfl (Nat.le_of_ble_eq_true rfl) rfl dX3_returns_25 (fun H locs hX => ?_)
        refine xr_aload_n E hl 0 rfl dX3_returns_28 rfl ?_
        refine xr_dup E dX3_returns_29 rfl ?_
        refine xr_get E hX 0 rfl rfl ly_X3 2 (by decide) fl_X3_21 rfl dX3_returns_30 ?_
        refine xr_iconst E dX3_returns_33 ?_
        refine xr_isub E dX3_returns_34 ?_
        refine xr_put (W1 := (W_PF y hP a_ring p0hF p0a_ind p0a_tot p0a_pri p1hF p1a_ind p1a_tot p1a_pri p2hF p2a_ind p2a_tot p2a_pri p3hF p3a_ind p3a_tot p3a_pri p4hF p4a_ind p4a_tot p4a_pri p5hF p5a_ind p5a_tot p5a_pri hF a_ind a_tot a_pri rind rtot rpri rq rfr rli rsh 1 (sts - 1) ind tot pri q fr li sh)) E hX 0 rfl rfl ly_X3 tyX3_ok nmX3 2 (by decide) fl_X3_21 rfl rfl rfl (Nat.le_of_ble_eq_true rfl) rfl dX3_returns_35 (fun H locs hX => ?_)
        refine xr_aload_n E hl 1 rfl dX3_returns_38 rfl ?_
        refine xr_aload_n E hl 0 rfl dX3_returns_39 rfl ?_
        refine xr_get E hX 0 rfl rfl ly_X3 0 (by decide) fl_X3_11 rfl dX3_returns_40 ?_
        refine xr_aload_n E hl 0 rfl dX3_returns_43 rfl ?_
        refine xr_get E hX 0 rfl rfl ly_X3 1 (by decide) fl_X3_17 rfl dX3_returns_44 ?_
        refine xr_aald E hX 1 rfl (by decide) (by decide) (by decide) rfl dX3_returns_47 ?_
        refine xk_v (W2 := fun u => (W_PF y hP a_ring p0hF p0a_ind p0a_tot p0a_pri p1hF p1a_ind p1a_tot p1a_pri p2hF p2a_ind p2a_tot p2a_pri p3hF p3a_ind p3a_tot p3a_pri p4hF p4a_ind p4a_tot p4a_pri p5hF p5a_ind p5a_tot p5a_pri hF a_ind a_tot a_pri rind rtot rpri rq rfr rli rsh 1 (sts - 1) u.1 u.2.1 u.2.2.1 u.2.2.2.1 u.2.2.2.2.1 u.2.2.2.2.2.1 u.2.2.2.2.2.2)) E hX [26, 27, 28, 29, 6, 7, 8, 9] rfl (xv_V (As := [.ref p1hF]) E hX hl (c_X2_becomes l D y z _ hF a_ind a_tot a_pri p1hF p1a_ind p1a_tot p1a_pri ind tot pri q fr li sh (rind 1) (rtot 1) (rpri 1) (rq 1) (rfr 1) (rli 1) (rsh 1)) ml_X3_25 im_X2_becomes se_X2_becomes in_X2 co_X2_becomes 1 (by decide) ⟨rfl, rfl⟩ ⟨Nat.le_of_ble_eq_true rfl, Nat.le_of_ble_eq_true rfl⟩ [26, 27, 28, 29, 6, 7, 8, 9] rfl rfl 26 rfl rfl rfl rfl rfl (Nat.le_of_ble_eq_true rfl) dX3_returns_48 ⟨Nat.le_refl _, Nat.le_refl _⟩) [8, 9, 10, 11, 12, 13, 4, 5, 6, 7, 18, 19, 20, 21, 22, 23, 24, 25, 26, 27, 28, 29, 30, 31, 32, 33, 0, 1, 2, 3] 8 (fun _ => rfl) (fun _ => rfl) (by decide) (by decide) (fun u H locs hw hX => ?_)
        subst hw
        have hX : XW D A s.heap (W_PF y hP a_ring p0hF p0a_ind p0a_tot p0a_pri p1hF p1a_ind p1a_tot p1a_pri p2hF p2a_ind p2a_tot p2a_pri p3hF p3a_ind p3a_tot p3a_pri p4hF p4a_ind p4a_tot p4a_pri p5hF p5a_ind p5a_tot p5a_pri hF a_ind a_tot a_pri rind rtot rpri rq rfr rli rsh 1 (sts - 1) (rind 1) (rtot 1) (rpri 1) (rq 1) (rfr 1) (rli 1) (rsh 1)) H locs := hX
        exact xr_vret E hX hQ (1, (sts - 1), (rind 1), (rtot 1), (rpri 1), (rq 1), (rfr 1), (rli 1), (rsh 1)) hr (by first | rfl | (exfalso; omega)) rfl dX3_returns_51
      · exact absurd c_12 (by decide)
  · refine xr_aload_n E hl 0 rfl dX3_returns_0 rfl ?_
    refine xr_get E hX 0 rfl rfl ly_X3 2 (by decide) fl_X3_21 rfl dX3_returns_1 ?_
    refine xr_if_le (tgt := 51) E dX3_returns_4 (by decide) ⟨by omega, by omega⟩ (fun c_4 => ?_) (fun c_4 => ?_)
    · have c_4 := c_4
      exact xr_vret E hX hQ (3, sts, ind, tot, pri, q, fr, li, sh) hr (by first | rfl | (exfalso; omega)) rfl dX3_returns_51
    · have c_4 := c_4
      refine xr_aload_n E hl 0 rfl dX3_returns_7 rfl ?_
      refine xr_aload_n E hl 0 rfl dX3_returns_8 rfl ?_
      refine xr_get E hX 0 rfl rfl ly_X3 1 (by decide) fl_X3_17 rfl dX3_returns_9 ?_
      refine xr_if_ne (tgt := 19) E dX3_returns_12 (by decide) (by decide) (fun c_12 => ?_) (fun c_12 => ?_)
      · have c_12 := c_12
        refine xr_aload_n E hl 0 rfl dX3_returns_19 rfl ?_
        refine xr_get E hX 0 rfl rfl ly_X3 1 (by decide) fl_X3_17 rfl dX3_returns_20 ?_
        refine xr_iconst E dX3_returns_23 ?_
        refine xr_isub E dX3_returns_24 ?_
        refine xr_put (W1 := (W_PF y hP a_ring p0hF p0a_ind p0a_tot p0a_pri p1hF p1a_ind p1a_tot p1a_pri p2hF p2a_ind p2a_tot p2a_pri p3hF p3a_ind p3a_tot p3a_pri p4hF p4a_ind p4a_tot p4a_pri p5hF p5a_ind p5a_tot p5a_pri hF a_ind a_tot a_pri rind rtot rpri rq rfr rli rsh 2 sts ind tot pri q fr li sh)) E hX 0 rfl rfl ly_X3 tyX3_ok nmX3 1 (by decide) fl_X3_17 rfl rfl rfl (Nat.le_of_ble_eq_true rfl) rfl dX3_returns_25 (fun H locs hX => ?_)
        refine xr_aload_n E hl 0 rfl dX3_returns_28 rfl ?_
        refine xr_dup E dX3_returns_29 rfl ?_
        refine xr_get E hX 0 rfl rfl ly_X3 2 (by decide) fl_X3_21 rfl dX3_returns_30 ?_
        refine xr_iconst E dX3_returns_33 ?_
        refine xr_isub E dX3_returns_34 ?_
        refine xr_put (W1 := (W_PF y hP a_ring p0hF p0a_ind p0a_tot p0a_pri p1hF p1a_ind p1a_tot p1a_pri p2hF p2a_ind p2a_tot p2a_pri p3hF p3a_ind p3a_tot p3a_pri p4hF p4a_ind p4a_tot p4a_pri p5hF p5a_ind p5a_tot p5a_pri hF a_ind a_tot a_pri rind rtot rpri rq rfr rli rsh 2 (sts - 1) ind tot pri q fr li sh)) E hX 0 rfl rfl ly_X3 tyX3_ok nmX3 2 (by decide) fl_X3_21 rfl rfl rfl (Nat.le_of_ble_eq_true rfl) rfl dX3_returns_35 (fun H locs hX => ?_)
        refine xr_aload_n E hl 1 rfl dX3_returns_38 rfl ?_
        refine xr_aload_n E hl 0 rfl dX3_returns_39 rfl ?_
        refine xr_get E hX 0 rfl rfl ly_X3 0 (by decide) fl_X3_11 rfl dX3_returns_40 ?_
        refine xr_aload_n E hl 0 rfl dX3_returns_43 rfl ?_
        refine xr_get E hX 0 rfl rfl ly_X3 1 (by decide) fl_X3_17 rfl dX3_returns_44 ?_
        refine xr_aald E hX 1 rfl (by decide) (by decide) (by decide) rfl dX3_returns_47 ?_
        refine xk_v (W2 := fun u => (W_PF y hP a_ring p0hF p0a_ind p0a_tot p0a_pri p1hF p1a_ind p1a_tot p1a_pri p2hF p2a_ind p2a_tot p2a_pri p3hF p3a_ind p3a_tot p3a_pri p4hF p4a_ind p4a_tot p4a_pri p5hF p5a_ind p5a_tot p5a_pri hF a_ind a_tot a_pri rind rtot rpri rq rfr rli rsh 2 (sts - 1) u.1 u.2.1 u.2.2.1 u.2.2.2.1 u.2.2.2.2.1 u.2.2.2.2.2.1 u.2.2.2.2.2.2)) E hX [26, 27, 28, 29, 10, 11, 12, 13] rfl (xv_V (As := [.ref p2hF]) E hX hl (c_X2_becomes l D y z _ hF a_ind a_tot a_pri p2hF p2a_ind p2a_tot p2a_pri ind tot pri q fr li sh (rind 2) (rtot 2) (rpri 2) (rq 2) (rfr 2) (rli 2) (rsh 2)) ml_X3_25 im_X2_becomes se_X2_becomes in_X2 co_X2_becomes 1 (by decide) ⟨rfl, rfl⟩ ⟨Nat.le_of_ble_eq_true rfl, Nat.le_of_ble_eq_true rfl⟩ [26, 27, 28, 29, 10, 11, 12, 13] rfl rfl 26 rfl rfl rfl rfl rfl (Nat.le_of_ble_eq_true rfl) dX3_returns_48 ⟨Nat.le_refl _, Nat.le_refl _⟩) [8, 9, 10, 11, 12, 13, 14, 15, 16, 17, 4, 5, 6, 7, 22, 23, 24, 25, 26, 27, 28, 29, 30, 31, 32, 33, 0, 1, 2, 3] 8 (fun _ => rfl) (fun _ => rfl) (by decide) (by decide) (fun u H locs hw hX => ?_)
        subst hw
        have hX : XW D A s.heap (W_PF y hP a_ring p0hF p0a_ind p0a_tot p0a_pri p1hF p1a_ind p1a_tot p1a_pri p2hF p2a_ind p2a_tot p2a_pri p3hF p3a_ind p3a_tot p3a_pri p4hF p4a_ind p4a_tot p4a_pri p5hF p5a_ind p5a_tot p5a_pri hF a_ind a_tot a_pri rind rtot rpri rq rfr rli rsh 2 (sts - 1) (rind 2) (rtot 2) (rpri 2) (rq 2) (rfr 2) (rli 2) (rsh 2)) H locs := hX
        exact xr_vret E hX hQ (2, (sts - 1), (rind 2), (rtot 2), (rpri 2), (rq 2), (rfr 2), (rli 2), (rsh 2)) hr (by first | rfl | (exfalso; omega)) rfl dX3_returns_51
      · exact absurd c_12 (by decide)
  · refine xr_aload_n E hl 0 rfl dX3_returns_0 rfl ?_
    refine xr_get E hX 0 rfl rfl ly_X3 2 (by decide) fl_X3_21 rfl dX3_returns_1 ?_
    refine xr_if_le (tgt := 51) E dX3_returns_4 (by decide) ⟨by omega, by omega⟩ (fun c_4 => ?_) (fun c_4 => ?_)
    · have c_4 := c_4
      exact xr_vret E hX hQ (4, sts, ind, tot, pri, q, fr, li, sh) hr (by first | rfl | (exfalso; omega)) rfl dX3_returns_51
    · have c_4 := c_4
      refine xr_aload_n E hl 0 rfl dX3_returns_7 rfl ?_
      refine xr_aload_n E hl 0 rfl dX3_returns_8 rfl ?_
      refine xr_get E hX 0 rfl rfl ly_X3 1 (by decide) fl_X3_17 rfl dX3_returns_9 ?_
      refine xr_if_ne (tgt := 19) E dX3_returns_12 (by decide) (by decide) (fun c_12 => ?_) (fun c_12 => ?_)
      · have c_12 := c_12
        refine xr_aload_n E hl 0 rfl dX3_returns_19 rfl ?_
        refine xr_get E hX 0 rfl rfl ly_X3 1 (by decide) fl_X3_17 rfl dX3_returns_20 ?_
        refine xr_iconst E dX3_returns_23 ?_
        refine xr_isub E dX3_returns_24 ?_
        refine xr_put (W1 := (W_PF y hP a_ring p0hF p0a_ind p0a_tot p0a_pri p1hF p1a_ind p1a_tot p1a_pri p2hF p2a_ind p2a_tot p2a_pri p3hF p3a_ind p3a_tot p3a_pri p4hF p4a_ind p4a_tot p4a_pri p5hF p5a_ind p5a_tot p5a_pri hF a_ind a_tot a_pri rind rtot rpri rq rfr rli rsh 3 sts ind tot pri q fr li sh)) E hX 0 rfl rfl ly_X3 tyX3_ok nmX3 1 (by decide) fl_X3_17 rfl rfl rfl (Nat.le_of_ble_eq_true rfl) rfl dX3_returns_25 (fun H locs hX => ?_)
        refine xr_aload_n E hl 0 rfl dX3_returns_28 rfl ?_
        refine xr_dup E dX3_returns_29 rfl ?_
        refine xr_get E hX 0 rfl rfl ly_X3 2 (by decide) fl_X3_21 rfl dX3_returns_30 ?_
        refine xr_iconst E dX3_returns_33 ?_
        refine xr_isub E dX3_returns_34 ?_
        refine xr_put (W1 := (W_PF y hP a_ring p0hF p0a_ind p0a_tot p0a_pri p1hF p1a_ind p1a_tot p1a_pri p2hF p2a_ind p2a_tot p2a_pri p3hF p3a_ind p3a_tot p3a_pri p4hF p4a_ind p4a_tot p4a_pri p5hF p5a_ind p5a_tot p5a_pri hF a_ind a_tot a_pri rind rtot rpri rq rfr rli rsh 3 (sts - 1) ind tot pri q fr li sh)) E hX 0 rfl rfl ly_X3 tyX3_ok nmX3 2 (by decide) fl_X3_21 rfl rfl rfl (Nat.le_of_ble_eq_true rfl) rfl dX3_returns_35 (fun H locs hX => ?_)
        refine xr_aload_n E hl 1 rfl dX3_returns_38 rfl ?_
        refine xr_aload_n E hl 0 rfl dX3_returns_39 rfl ?_
        refine xr_get E hX 0 rfl rfl ly_X3 0 (by decide) fl_X3_11 rfl dX3_returns_40 ?_
        refine xr_aload_n E hl 0 rfl dX3_returns_43 rfl ?_
        refine xr_get E hX 0 rfl rfl ly_X3 1 (by decide) fl_X3_17 rfl dX3_returns_44 ?_
        refine xr_aald E hX 1 rfl (by decide) (by decide) (by decide) rfl dX3_returns_47 ?_
        refine xk_v (W2 := fun u => (W_PF y hP a_ring p0hF p0a_ind p0a_tot p0a_pri p1hF p1a_ind p1a_tot p1a_pri p2hF p2a_ind p2a_tot p2a_pri p3hF p3a_ind p3a_tot p3a_pri p4hF p4a_ind p4a_tot p4a_pri p5hF p5a_ind p5a_tot p5a_pri hF a_ind a_tot a_pri rind rtot rpri rq rfr rli rsh 3 (sts - 1) u.1 u.2.1 u.2.2.1 u.2.2.2.1 u.2.2.2.2.1 u.2.2.2.2.2.1 u.2.2.2.2.2.2)) E hX [26, 27, 28, 29, 14, 15, 16, 17] rfl (xv_V (As := [.ref p3hF]) E hX hl (c_X2_becomes l D y z _ hF a_ind a_tot a_pri p3hF p3a_ind p3a_tot p3a_pri ind tot pri q fr li sh (rind 3) (rtot 3) (rpri 3) (rq 3) (rfr 3) (rli 3) (rsh 3)) ml_X3_25 im_X2_becomes se_X2_becomes in_X2 co_X2_becomes 1 (by decide) ⟨rfl, rfl⟩ ⟨Nat.le_of_ble_eq_true rfl, Nat.le_of_ble_eq_true rfl⟩ [26, 27, 28, 29, 14, 15, 16, 17] rfl rfl 26 rfl rfl rfl rfl rfl (Nat.le_of_ble_eq_true rfl) dX3_returns_48 ⟨Nat.le_refl _, Nat.le_refl _⟩) [8, 9, 10, 11, 12, 13, 14, 15, 16, 17, 18, 19, 20, 21, 4, 5, 6, 7, 26, 27, 28, 29, 30, 31, 32, 33, 0, 1, 2, 3] 8 (fun _ => rfl) (fun _ => rfl) (by decide) (by decide) (fun u H locs hw hX => ?_)
        subst hw
        have hX : XW D A s.heap (W_PF y hP a_ring p0hF p0a_ind p0a_tot p0a_pri p1hF p1a_ind p1a_tot p1a_pri p2hF p2a_ind p2a_tot p2a_pri p3hF p3a_ind p3a_tot p3a_pri p4hF p4a_ind p4a_tot p4a_pri p5hF p5a_ind p5a_tot p5a_pri hF a_ind a_tot a_pri rind rtot rpri rq rfr rli rsh 3 (sts - 1) (rind 3) (rtot 3) (rpri 3) (rq 3) (rfr 3) (rli 3) (rsh 3)) H locs := hX
        exact xr_vret E hX hQ (3, (sts - 1), (rind 3), (rtot 3), (rpri 3), (rq 3), (rfr 3), (rli 3), (rsh 3)) hr (by first | rfl | (exfalso; omega)) rfl dX3_returns_51
      · exact absurd c_12 (by decide)
  · refine xr_aload_n E hl 0 rfl dX3_returns_0 rfl ?_
    refine xr_get E hX 0 rfl rfl ly_X3 2 (by decide) fl_X3_21 rfl dX3_returns_1 ?_
    refine xr_if_le (tgt := 51) E dX3_returns_4 (by decide) ⟨by omega, by omega⟩ (fun c_4 => ?_) (fun c_4 => ?_)
    · have c_4 := c_4
      exact xr_vret E hX hQ (5, sts, ind, tot, pri, q, fr, li, sh) hr (by first | rfl | (exfalso; omega)) rfl dX3_returns_51
    · have c_4 := c_4
      refine xr_aload_n E hl 0 rfl dX3_returns_7 rfl ?_
      refine xr_aload_n E hl 0 rfl dX3_returns_8 rfl ?_
      refine xr_get E hX 0 rfl rfl ly_X3 1 (by decide) fl_X3_17 rfl dX3_returns_9 ?_
      refine xr_if_ne (tgt := 19) E dX3_returns_12 (by decide) (by decide) (fun c_12 => ?_) (fun c_12 => ?_)
      · have c_12 := c_12
        refine xr_aload_n E hl 0 rfl dX3_returns_19 rfl ?_
        refine xr_get E hX 0 rfl rfl ly_X3 1 (by decide) fl_X3_17 rfl dX3_returns_20 ?_
        refine xr_iconst E dX3_returns_23 ?_
        refine xr_isub E dX3_returns_24 ?_
        refine xr_put (W1 := (W_PF y hP a_ring p0hF p0a_ind p0a_tot p0a_pri p1hF p1a_ind p1a_tot p1a_pri p2hF p2a_ind p2a_tot p2a_pri p3hF p3a_ind p3a_tot p3a_pri p4hF p4a_ind p4a_tot p4a_pri p5hF p5a_ind p5a_tot p5a_pri hF a_ind a_tot a_pri rind rtot rpri rq rfr rli rsh 4 sts ind tot pri q fr li sh)) E hX 0 rfl rfl ly_X3 tyX3_ok nmX3 1 (by decide) fl_X3_17 rfl rfl rfl (Nat.le_of_ble_eq_true rfl) rfl dX3_returns_25 (fun H locs hX => ?_)
        refine xr_aload_n E hl 0 rfl dX3_returns_28 rfl ?_
        refine xr_dup E dX3_returns_29 rfl ?_
        refine xr_get E hX 0 rfl rfl ly_X3 2 (by decide) fl_X3_21 rfl dX3_returns_30 ?_
        refine xr_iconst E dX3_returns_33 ?_
        refine xr_isub E dX3_returns_34 ?_
        refine xr_put (W1 := (W_PF y hP a_ring p0hF p0a_ind p0a_tot p0a_pri p1hF p1a_ind p1a_tot p1a_pri p2hF p2a_ind p2a_tot p2a_pri p3hF p3a_ind p3a_tot p3a_pri p4hF p4a_ind p4a_tot p4a_pri p5hF p5a_ind p5a_tot p5a_pri hF a_ind a_tot a_pri rind rtot rpri rq rfr rli rsh 4 (sts - 1) ind tot pri q fr li sh)) E hX 0 rfl rfl ly_X3 tyX3_ok nmX3 2 (by decide) fl_X3_21 rfl rfl rfl (Nat.le_of_ble_eq_true rfl) rfl dX3_returns_35 (fun H locs hX => ?_)
        refine xr_aload_n E hl 1 rfl dX3_returns_38 rfl ?_
        refine xr_aload_n E hl 0 rfl dX3_returns_39 rfl ?_
        refine xr_get E hX 0 rfl rfl ly_X3 0 (by decide) fl_X3_11 rfl dX3_returns_40 ?_
        refine xr_aload_n E hl 0 rfl dX3_returns_43 rfl ?_
        refine xr_get E hX 0 rfl rfl ly_X3 1 (by decide) fl_X3_17 rfl dX3_returns_44 ?_
        refine xr_aald E hX 1 rfl (by decide) (by decide) (by decide) rfl dX3_returns_47 ?_
        refine xk_v (W2 := fun u => (W_PF y hP a_ring p0hF p0a_ind p0a_tot p0a_pri p1hF p1a_ind p1a_tot p1a_pri p2hF p2a_ind p2a_tot p2a_pri p3hF p3a_ind p3a_tot p3a_pri p4hF p4a_ind p4a_tot p4a_pri p5hF p5a_ind p5a_tot p5a_pri hF a_ind a_tot a_pri rind rtot rpri rq rfr rli rsh 4 (sts - 1) u.1 u.2.1 u.2.2.1 u.2.2.2.1 u.2.2.2.2.1 u.2.2.2.2.2.1 u.2.2.2.2.2.2)) E hX [26, 27, 28, 29, 18, 19, 20, 21] rfl (xv_V (As := [.ref p4hF]) E hX hl (c_X2_becomes l D y z _ hF a_ind a_tot a_pri p4hF p4a_ind p4a_tot p4a_pri ind tot pri q fr li sh (rind 4) (rtot 4) (rpri 4) (rq 4) (rfr 4) (rli 4) (rsh 4)) ml_X3_25 im_X2_becomes se_X2_becomes in_X2 co_X2_becomes 1 (by decide) ⟨rfl, rfl⟩ ⟨Nat.le_of_ble_eq_true rfl, Nat.le_of_ble_eq_true rfl⟩ [26, 27, 28, 29, 18, 19, 20, 21] rfl rfl 26 rfl rfl rfl rfl rfl (Nat.le_of_ble_eq_true rfl) dX3_returns_48 ⟨Nat.le_refl _, Nat.le_refl _⟩) [8, 9, 10, 11, 12, 13, 14, 15, 16, 17, 18, 19, 20, 21, 22, 23, 24, 25, 4, 5, 6, 7, 30, 31, 32, 33, 0, 1, 2, 3] 8 (fun _ => rfl) (fun _ => rfl) (by decide) (by decide) (fun u H locs hw hX => ?_)
        subst hw
        have hX : XW D A s.heap (W_PF y hP a_ring p0hF p0a_ind p0a_tot p0a_pri p1hF p1a_ind p1a_tot p1a_pri p2hF p2a_ind p2a_tot p2a_pri p3hF p3a_ind p3a_tot p3a_pri p4hF p4a_ind p4a_tot p4a_pri p5hF p5a_ind p5a_tot p5a_pri hF a_ind a_tot a_pri rind rtot rpri rq rfr rli rsh 4 (sts - 1) (rind 4) (rtot 4) (rpri 4) (rq 4) (rfr 4) (rli 4) (rsh 4)) H locs := hX
        exact xr_vret E hX hQ (4, (sts - 1), (rind 4), (rtot 4), (rpri 4), (rq 4), (rfr 4), (rli 4), (rsh 4)) hr (by first | rfl | (exfalso; omega)) rfl dX3_returns_51
      · exact absurd c_12 (by decide)
end
