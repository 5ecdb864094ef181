section
-- ===== PART A: goes FIRST, ahead of the names: the tables' words, and 'selects' of the private methods out of them =====
/-- a private method of a class that the tables say can be made, by its rows of tables_1 -/
def lw_okq (q : MethodName × Nat) : Prop := (q.1.cls ≠ "java/lang/invoke/MethodHandle" ∧ q.1.cls ≠ "java/lang/invoke/VarHandle") ∧ Cond.instantiable q.1.cls q.2 ∈ tables_1 ∧ Cond.privateMethod q.1 ∈ tables_1 ∧ Cond.instanceMethod q.1 ∈ tables_1
theorem lw_p0 : lw_okq (⟨"CartPitches", "recorded", "(I)I"⟩, 6) := ⟨⟨by decide +kernel, by decide +kernel⟩, List.mem_of_getElem? (i := 12) (by decide +kernel), List.mem_of_getElem? (i := 311) (by decide +kernel), List.mem_of_getElem? (i := 312) (by decide +kernel)⟩
theorem lw_p1 : lw_okq (⟨"CartPitches$State", "beginNextDay", "()V"⟩, 15) := ⟨⟨by decide +kernel, by decide +kernel⟩, List.mem_of_getElem? (i := 20) (by decide +kernel), List.mem_of_getElem? (i := 511) (by decide +kernel), List.mem_of_getElem? (i := 512) (by decide +kernel)⟩
theorem lw_p2 : lw_okq (⟨"CartPitches", "aboutCart", "(LCartPitches$Cart;I)I"⟩, 6) := ⟨⟨by decide +kernel, by decide +kernel⟩, List.mem_of_getElem? (i := 12) (by decide +kernel), List.mem_of_getElem? (i := 524) (by decide +kernel), List.mem_of_getElem? (i := 525) (by decide +kernel)⟩
theorem lw_p3 : lw_okq (⟨"CartPitches", "aboutPastOfCart", "(LCartPitches$Cart;I)I"⟩, 6) := ⟨⟨by decide +kernel, by decide +kernel⟩, List.mem_of_getElem? (i := 12) (by decide +kernel), List.mem_of_getElem? (i := 529) (by decide +kernel), List.mem_of_getElem? (i := 530) (by decide +kernel)⟩
theorem lw_p4 : lw_okq (⟨"CartPitches", "pitchOnTrialDay", "(I)I"⟩, 6) := ⟨⟨by decide +kernel, by decide +kernel⟩, List.mem_of_getElem? (i := 12) (by decide +kernel), List.mem_of_getElem? (i := 564) (by decide +kernel), List.mem_of_getElem? (i := 565) (by decide +kernel)⟩
theorem lw_p5 : lw_okq (⟨"CartPitches", "performOrder", "(II)I"⟩, 6) := ⟨⟨by decide +kernel, by decide +kernel⟩, List.mem_of_getElem? (i := 12) (by decide +kernel), List.mem_of_getElem? (i := 639) (by decide +kernel), List.mem_of_getElem? (i := 640) (by decide +kernel)⟩
theorem lw_p6 : lw_okq (⟨"CartPitchesModel", "keep", "()V"⟩, 15) := ⟨⟨by decide +kernel, by decide +kernel⟩, List.mem_of_getElem? (i := 668) (by decide +kernel), List.mem_of_getElem? (i := 734) (by decide +kernel), List.mem_of_getElem? (i := 735) (by decide +kernel)⟩
theorem lw_p7 : lw_okq (⟨"CartPitchesModel", "isPitch", "(I)Z"⟩, 15) := ⟨⟨by decide +kernel, by decide +kernel⟩, List.mem_of_getElem? (i := 668) (by decide +kernel), List.mem_of_getElem? (i := 751) (by decide +kernel), List.mem_of_getElem? (i := 752) (by decide +kernel)⟩
theorem lw_p8 : lw_okq (⟨"CartPitchesModel", "ofP", "(II)I"⟩, 15) := ⟨⟨by decide +kernel, by decide +kernel⟩, List.mem_of_getElem? (i := 668) (by decide +kernel), List.mem_of_getElem? (i := 755) (by decide +kernel), List.mem_of_getElem? (i := 756) (by decide +kernel)⟩
theorem lw_p9 : lw_okq (⟨"CartPitchesModel", "lay", "(III)V"⟩, 15) := ⟨⟨by decide +kernel, by decide +kernel⟩, List.mem_of_getElem? (i := 668) (by decide +kernel), List.mem_of_getElem? (i := 763) (by decide +kernel), List.mem_of_getElem? (i := 764) (by decide +kernel)⟩
theorem lw_p10 : lw_okq (⟨"CartPitchesModel", "tryWish", "(IIIIZ)I"⟩, 15) := ⟨⟨by decide +kernel, by decide +kernel⟩, List.mem_of_getElem? (i := 668) (by decide +kernel), List.mem_of_getElem? (i := 771) (by decide +kernel), List.mem_of_getElem? (i := 772) (by decide +kernel)⟩
theorem lw_p11 : lw_okq (⟨"CartPitchesModel", "isCart", "(I)Z"⟩, 15) := ⟨⟨by decide +kernel, by decide +kernel⟩, List.mem_of_getElem? (i := 668) (by decide +kernel), List.mem_of_getElem? (i := 775) (by decide +kernel), List.mem_of_getElem? (i := 776) (by decide +kernel)⟩
theorem lw_p12 : lw_okq (⟨"CartPitchesModel", "isNumber", "(I)Z"⟩, 15) := ⟨⟨by decide +kernel, by decide +kernel⟩, List.mem_of_getElem? (i := 668) (by decide +kernel), List.mem_of_getElem? (i := 779) (by decide +kernel), List.mem_of_getElem? (i := 780) (by decide +kernel)⟩
theorem lw_p13 : lw_okq (⟨"CartPitchesModel", "keepIf", "(Z)V"⟩, 15) := ⟨⟨by decide +kernel, by decide +kernel⟩, List.mem_of_getElem? (i := 668) (by decide +kernel), List.mem_of_getElem? (i := 783) (by decide +kernel), List.mem_of_getElem? (i := 784) (by decide +kernel)⟩
theorem lw_p14 : lw_okq (⟨"CartPitchesModel", "tryFine", "(IIZ)I"⟩, 15) := ⟨⟨by decide +kernel, by decide +kernel⟩, List.mem_of_getElem? (i := 668) (by decide +kernel), List.mem_of_getElem? (i := 791) (by decide +kernel), List.mem_of_getElem? (i := 792) (by decide +kernel)⟩
theorem lw_p15 : lw_okq (⟨"CartPitchesModel", "give", "(II)V"⟩, 15) := ⟨⟨by decide +kernel, by decide +kernel⟩, List.mem_of_getElem? (i := 668) (by decide +kernel), List.mem_of_getElem? (i := 795) (by decide +kernel), List.mem_of_getElem? (i := 796) (by decide +kernel)⟩
def lw_privs_1 : List (MethodName × Nat) := [(⟨"CartPitches", "recorded", "(I)I"⟩, 6), (⟨"CartPitches$State", "beginNextDay", "()V"⟩, 15), (⟨"CartPitches", "aboutCart", "(LCartPitches$Cart;I)I"⟩, 6), (⟨"CartPitches", "aboutPastOfCart", "(LCartPitches$Cart;I)I"⟩, 6), (⟨"CartPitches", "pitchOnTrialDay", "(I)I"⟩, 6), (⟨"CartPitches", "performOrder", "(II)I"⟩, 6), (⟨"CartPitchesModel", "keep", "()V"⟩, 15), (⟨"CartPitchesModel", "isPitch", "(I)Z"⟩, 15), (⟨"CartPitchesModel", "ofP", "(II)I"⟩, 15), (⟨"CartPitchesModel", "lay", "(III)V"⟩, 15), (⟨"CartPitchesModel", "tryWish", "(IIIIZ)I"⟩, 15), (⟨"CartPitchesModel", "isCart", "(I)Z"⟩, 15), (⟨"CartPitchesModel", "isNumber", "(I)Z"⟩, 15), (⟨"CartPitchesModel", "keepIf", "(Z)V"⟩, 15), (⟨"CartPitchesModel", "tryFine", "(IIZ)I"⟩, 15), (⟨"CartPitchesModel", "give", "(II)V"⟩, 15)]
theorem lw_r1 : ∀ q ∈ lw_privs_1, lw_okq q := List.forall_mem_cons.mpr ⟨lw_p0, List.forall_mem_cons.mpr ⟨lw_p1, List.forall_mem_cons.mpr ⟨lw_p2, List.forall_mem_cons.mpr ⟨lw_p3, List.forall_mem_cons.mpr ⟨lw_p4, List.forall_mem_cons.mpr ⟨lw_p5, List.forall_mem_cons.mpr ⟨lw_p6, List.forall_mem_cons.mpr ⟨lw_p7, List.forall_mem_cons.mpr ⟨lw_p8, List.forall_mem_cons.mpr ⟨lw_p9, List.forall_mem_cons.mpr ⟨lw_p10, List.forall_mem_cons.mpr ⟨lw_p11, List.forall_mem_cons.mpr ⟨lw_p12, List.forall_mem_cons.mpr ⟨lw_p13, List.forall_mem_cons.mpr ⟨lw_p14, List.forall_mem_cons.mpr ⟨lw_p15, fun _ h => absurd h List.not_mem_nil⟩⟩⟩⟩⟩⟩⟩⟩⟩⟩⟩⟩⟩⟩⟩⟩
theorem lw_p16 : lw_okq (⟨"CartPitchesModel", "of", "(II)I"⟩, 15) := ⟨⟨by decide +kernel, by decide +kernel⟩, List.mem_of_getElem? (i := 668) (by decide +kernel), List.mem_of_getElem? (i := 799) (by decide +kernel), List.mem_of_getElem? (i := 800) (by decide +kernel)⟩
theorem lw_p17 : lw_okq (⟨"CartPitchesModel", "pointsAt", "(II)I"⟩, 15) := ⟨⟨by decide +kernel, by decide +kernel⟩, List.mem_of_getElem? (i := 668) (by decide +kernel), List.mem_of_getElem? (i := 803) (by decide +kernel), List.mem_of_getElem? (i := 804) (by decide +kernel)⟩
theorem lw_p18 : lw_okq (⟨"CartPitchesModel", "tryCheck", "(IZ)I"⟩, 15) := ⟨⟨by decide +kernel, by decide +kernel⟩, List.mem_of_getElem? (i := 668) (by decide +kernel), List.mem_of_getElem? (i := 811) (by decide +kernel), List.mem_of_getElem? (i := 812) (by decide +kernel)⟩
theorem lw_p19 : lw_okq (⟨"CartPitchesModel", "waiting", "()I"⟩, 15) := ⟨⟨by decide +kernel, by decide +kernel⟩, List.mem_of_getElem? (i := 668) (by decide +kernel), List.mem_of_getElem? (i := 815) (by decide +kernel), List.mem_of_getElem? (i := 816) (by decide +kernel)⟩
theorem lw_p20 : lw_okq (⟨"CartPitchesModel", "trySwap", "(IIZ)I"⟩, 15) := ⟨⟨by decide +kernel, by decide +kernel⟩, List.mem_of_getElem? (i := 668) (by decide +kernel), List.mem_of_getElem? (i := 823) (by decide +kernel), List.mem_of_getElem? (i := 824) (by decide +kernel)⟩
theorem lw_p21 : lw_okq (⟨"CartPitchesModel", "balance", "(I)I"⟩, 15) := ⟨⟨by decide +kernel, by decide +kernel⟩, List.mem_of_getElem? (i := 668) (by decide +kernel), List.mem_of_getElem? (i := 832) (by decide +kernel), List.mem_of_getElem? (i := 833) (by decide +kernel)⟩
theorem lw_p22 : lw_okq (⟨"CartPitchesModel", "tryDays", "(IZ)I"⟩, 15) := ⟨⟨by decide +kernel, by decide +kernel⟩, List.mem_of_getElem? (i := 668) (by decide +kernel), List.mem_of_getElem? (i := 840) (by decide +kernel), List.mem_of_getElem? (i := 841) (by decide +kernel)⟩
theorem lw_p23 : lw_okq (⟨"CartPitchesModel", "passDay", "()V"⟩, 15) := ⟨⟨by decide +kernel, by decide +kernel⟩, List.mem_of_getElem? (i := 668) (by decide +kernel), List.mem_of_getElem? (i := 844) (by decide +kernel), List.mem_of_getElem? (i := 845) (by decide +kernel)⟩
theorem lw_p24 : lw_okq (⟨"CartPitchesModel", "checkAll", "()V"⟩, 15) := ⟨⟨by decide +kernel, by decide +kernel⟩, List.mem_of_getElem? (i := 668) (by decide +kernel), List.mem_of_getElem? (i := 848) (by decide +kernel), List.mem_of_getElem? (i := 849) (by decide +kernel)⟩
theorem lw_p25 : lw_okq (⟨"CartPitchesModel", "nextToCheck", "()I"⟩, 15) := ⟨⟨by decide +kernel, by decide +kernel⟩, List.mem_of_getElem? (i := 668) (by decide +kernel), List.mem_of_getElem? (i := 852) (by decide +kernel), List.mem_of_getElem? (i := 853) (by decide +kernel)⟩
theorem lw_p26 : lw_okq (⟨"CartPitchesModel", "beginDay", "()V"⟩, 15) := ⟨⟨by decide +kernel, by decide +kernel⟩, List.mem_of_getElem? (i := 668) (by decide +kernel), List.mem_of_getElem? (i := 856) (by decide +kernel), List.mem_of_getElem? (i := 857) (by decide +kernel)⟩
theorem lw_p27 : lw_okq (⟨"CartPitchesModel", "whyOut", "(I)I"⟩, 15) := ⟨⟨by decide +kernel, by decide +kernel⟩, List.mem_of_getElem? (i := 668) (by decide +kernel), List.mem_of_getElem? (i := 860) (by decide +kernel), List.mem_of_getElem? (i := 861) (by decide +kernel)⟩
theorem lw_p28 : lw_okq (⟨"CartPitchesModel", "drawAll", "()V"⟩, 15) := ⟨⟨by decide +kernel, by decide +kernel⟩, List.mem_of_getElem? (i := 668) (by decide +kernel), List.mem_of_getElem? (i := 864) (by decide +kernel), List.mem_of_getElem? (i := 865) (by decide +kernel)⟩
theorem lw_p29 : lw_okq (⟨"CartPitchesModel", "isToDraw", "(I)Z"⟩, 15) := ⟨⟨by decide +kernel, by decide +kernel⟩, List.mem_of_getElem? (i := 668) (by decide +kernel), List.mem_of_getElem? (i := 868) (by decide +kernel), List.mem_of_getElem? (i := 869) (by decide +kernel)⟩
theorem lw_p30 : lw_okq (⟨"CartPitchesModel", "ticketsOf", "(I)I"⟩, 15) := ⟨⟨by decide +kernel, by decide +kernel⟩, List.mem_of_getElem? (i := 668) (by decide +kernel), List.mem_of_getElem? (i := 872) (by decide +kernel), List.mem_of_getElem? (i := 873) (by decide +kernel)⟩
theorem lw_p31 : lw_okq (⟨"CartPitchesModel", "drawOne", "(I)I"⟩, 15) := ⟨⟨by decide +kernel, by decide +kernel⟩, List.mem_of_getElem? (i := 668) (by decide +kernel), List.mem_of_getElem? (i := 876) (by decide +kernel), List.mem_of_getElem? (i := 877) (by decide +kernel)⟩
def lw_privs_2 : List (MethodName × Nat) := [(⟨"CartPitchesModel", "of", "(II)I"⟩, 15), (⟨"CartPitchesModel", "pointsAt", "(II)I"⟩, 15), (⟨"CartPitchesModel", "tryCheck", "(IZ)I"⟩, 15), (⟨"CartPitchesModel", "waiting", "()I"⟩, 15), (⟨"CartPitchesModel", "trySwap", "(IIZ)I"⟩, 15), (⟨"CartPitchesModel", "balance", "(I)I"⟩, 15), (⟨"CartPitchesModel", "tryDays", "(IZ)I"⟩, 15), (⟨"CartPitchesModel", "passDay", "()V"⟩, 15), (⟨"CartPitchesModel", "checkAll", "()V"⟩, 15), (⟨"CartPitchesModel", "nextToCheck", "()I"⟩, 15), (⟨"CartPitchesModel", "beginDay", "()V"⟩, 15), (⟨"CartPitchesModel", "whyOut", "(I)I"⟩, 15), (⟨"CartPitchesModel", "drawAll", "()V"⟩, 15), (⟨"CartPitchesModel", "isToDraw", "(I)Z"⟩, 15), (⟨"CartPitchesModel", "ticketsOf", "(I)I"⟩, 15), (⟨"CartPitchesModel", "drawOne", "(I)I"⟩, 15)]
theorem lw_r2 : ∀ q ∈ lw_privs_2, lw_okq q := List.forall_mem_cons.mpr ⟨lw_p16, List.forall_mem_cons.mpr ⟨lw_p17, List.forall_mem_cons.mpr ⟨lw_p18, List.forall_mem_cons.mpr ⟨lw_p19, List.forall_mem_cons.mpr ⟨lw_p20, List.forall_mem_cons.mpr ⟨lw_p21, List.forall_mem_cons.mpr ⟨lw_p22, List.forall_mem_cons.mpr ⟨lw_p23, List.forall_mem_cons.mpr ⟨lw_p24, List.forall_mem_cons.mpr ⟨lw_p25, List.forall_mem_cons.mpr ⟨lw_p26, List.forall_mem_cons.mpr ⟨lw_p27, List.forall_mem_cons.mpr ⟨lw_p28, List.forall_mem_cons.mpr ⟨lw_p29, List.forall_mem_cons.mpr ⟨lw_p30, List.forall_mem_cons.mpr ⟨lw_p31, fun _ h => absurd h List.not_mem_nil⟩⟩⟩⟩⟩⟩⟩⟩⟩⟩⟩⟩⟩⟩⟩⟩
theorem lw_p32 : lw_okq (⟨"CartPitchesModel", "choose", "(I)V"⟩, 15) := ⟨⟨by decide +kernel, by decide +kernel⟩, List.mem_of_getElem? (i := 668) (by decide +kernel), List.mem_of_getElem? (i := 881) (by decide +kernel), List.mem_of_getElem? (i := 882) (by decide +kernel)⟩
theorem lw_p33 : lw_okq (⟨"CartPitchesModel", "isApart", "(II)Z"⟩, 15) := ⟨⟨by decide +kernel, by decide +kernel⟩, List.mem_of_getElem? (i := 668) (by decide +kernel), List.mem_of_getElem? (i := 885) (by decide +kernel), List.mem_of_getElem? (i := 886) (by decide +kernel)⟩
theorem lw_p34 : lw_okq (⟨"CartPitchesModel", "isKindAt", "(III)Z"⟩, 15) := ⟨⟨by decide +kernel, by decide +kernel⟩, List.mem_of_getElem? (i := 668) (by decide +kernel), List.mem_of_getElem? (i := 889) (by decide +kernel), List.mem_of_getElem? (i := 890) (by decide +kernel)⟩
theorem lw_p35 : lw_okq (⟨"CartPitchesModel", "put", "(II)V"⟩, 15) := ⟨⟨by decide +kernel, by decide +kernel⟩, List.mem_of_getElem? (i := 668) (by decide +kernel), List.mem_of_getElem? (i := 893) (by decide +kernel), List.mem_of_getElem? (i := 894) (by decide +kernel)⟩
theorem lw_p36 : lw_okq (⟨"CartPitchesModel", "cookAll", "()V"⟩, 15) := ⟨⟨by decide +kernel, by decide +kernel⟩, List.mem_of_getElem? (i := 668) (by decide +kernel), List.mem_of_getElem? (i := 897) (by decide +kernel), List.mem_of_getElem? (i := 898) (by decide +kernel)⟩
theorem lw_p37 : lw_okq (⟨"CartPitchesModel", "drawnAt", "(I)I"⟩, 15) := ⟨⟨by decide +kernel, by decide +kernel⟩, List.mem_of_getElem? (i := 668) (by decide +kernel), List.mem_of_getElem? (i := 901) (by decide +kernel), List.mem_of_getElem? (i := 902) (by decide +kernel)⟩
theorem lw_p38 : lw_okq (⟨"CartPitchesModel", "cook", "(I)V"⟩, 15) := ⟨⟨by decide +kernel, by decide +kernel⟩, List.mem_of_getElem? (i := 668) (by decide +kernel), List.mem_of_getElem? (i := 905) (by decide +kernel), List.mem_of_getElem? (i := 906) (by decide +kernel)⟩
theorem lw_p39 : lw_okq (⟨"CartPitchesModel", "swapAll", "()V"⟩, 15) := ⟨⟨by decide +kernel, by decide +kernel⟩, List.mem_of_getElem? (i := 668) (by decide +kernel), List.mem_of_getElem? (i := 909) (by decide +kernel), List.mem_of_getElem? (i := 910) (by decide +kernel)⟩
theorem lw_p40 : lw_okq (⟨"CartPitchesModel", "trade", "()V"⟩, 15) := ⟨⟨by decide +kernel, by decide +kernel⟩, List.mem_of_getElem? (i := 668) (by decide +kernel), List.mem_of_getElem? (i := 913) (by decide +kernel), List.mem_of_getElem? (i := 914) (by decide +kernel)⟩
theorem lw_p41 : lw_okq (⟨"CartPitchesModel", "atPitches", "()I"⟩, 15) := ⟨⟨by decide +kernel, by decide +kernel⟩, List.mem_of_getElem? (i := 668) (by decide +kernel), List.mem_of_getElem? (i := 935) (by decide +kernel), List.mem_of_getElem? (i := 936) (by decide +kernel)⟩
theorem lw_p42 : lw_okq (⟨"CartPitchesModel", "layAside", "()V"⟩, 15) := ⟨⟨by decide +kernel, by decide +kernel⟩, List.mem_of_getElem? (i := 668) (by decide +kernel), List.mem_of_getElem? (i := 947) (by decide +kernel), List.mem_of_getElem? (i := 948) (by decide +kernel)⟩
theorem lw_p43 : lw_okq (⟨"CartPitchesModel", "layBack", "()V"⟩, 15) := ⟨⟨by decide +kernel, by decide +kernel⟩, List.mem_of_getElem? (i := 668) (by decide +kernel), List.mem_of_getElem? (i := 951) (by decide +kernel), List.mem_of_getElem? (i := 952) (by decide +kernel)⟩
theorem lw_p44 : lw_okq (⟨"CartPitchesModel", "takeOrder", "()V"⟩, 15) := ⟨⟨by decide +kernel, by decide +kernel⟩, List.mem_of_getElem? (i := 668) (by decide +kernel), List.mem_of_getElem? (i := 988) (by decide +kernel), List.mem_of_getElem? (i := 989) (by decide +kernel)⟩
theorem lw_p45 : lw_okq (⟨"CartPitchesModel", "next", "()I"⟩, 15) := ⟨⟨by decide +kernel, by decide +kernel⟩, List.mem_of_getElem? (i := 668) (by decide +kernel), List.mem_of_getElem? (i := 992) (by decide +kernel), List.mem_of_getElem? (i := 993) (by decide +kernel)⟩
theorem lw_p46 : lw_okq (⟨"CartPitchesModel", "takeWishes", "()V"⟩, 15) := ⟨⟨by decide +kernel, by decide +kernel⟩, List.mem_of_getElem? (i := 668) (by decide +kernel), List.mem_of_getElem? (i := 996) (by decide +kernel), List.mem_of_getElem? (i := 997) (by decide +kernel)⟩
theorem lw_p47 : lw_okq (⟨"CartPitchesModel", "takeOne", "(III)V"⟩, 15) := ⟨⟨by decide +kernel, by decide +kernel⟩, List.mem_of_getElem? (i := 668) (by decide +kernel), List.mem_of_getElem? (i := 1000) (by decide +kernel), List.mem_of_getElem? (i := 1001) (by decide +kernel)⟩
def lw_privs_3 : List (MethodName × Nat) := [(⟨"CartPitchesModel", "choose", "(I)V"⟩, 15), (⟨"CartPitchesModel", "isApart", "(II)Z"⟩, 15), (⟨"CartPitchesModel", "isKindAt", "(III)Z"⟩, 15), (⟨"CartPitchesModel", "put", "(II)V"⟩, 15), (⟨"CartPitchesModel", "cookAll", "()V"⟩, 15), (⟨"CartPitchesModel", "drawnAt", "(I)I"⟩, 15), (⟨"CartPitchesModel", "cook", "(I)V"⟩, 15), (⟨"CartPitchesModel", "swapAll", "()V"⟩, 15), (⟨"CartPitchesModel", "trade", "()V"⟩, 15), (⟨"CartPitchesModel", "atPitches", "()I"⟩, 15), (⟨"CartPitchesModel", "layAside", "()V"⟩, 15), (⟨"CartPitchesModel", "layBack", "()V"⟩, 15), (⟨"CartPitchesModel", "takeOrder", "()V"⟩, 15), (⟨"CartPitchesModel", "next", "()I"⟩, 15), (⟨"CartPitchesModel", "takeWishes", "()V"⟩, 15), (⟨"CartPitchesModel", "takeOne", "(III)V"⟩, 15)]
theorem lw_r3 : ∀ q ∈ lw_privs_3, lw_okq q := List.forall_mem_cons.mpr ⟨lw_p32, List.forall_mem_cons.mpr ⟨lw_p33, List.forall_mem_cons.mpr ⟨lw_p34, List.forall_mem_cons.mpr ⟨lw_p35, List.forall_mem_cons.mpr ⟨lw_p36, List.forall_mem_cons.mpr ⟨lw_p37, List.forall_mem_cons.mpr ⟨lw_p38, List.forall_mem_cons.mpr ⟨lw_p39, List.forall_mem_cons.mpr ⟨lw_p40, List.forall_mem_cons.mpr ⟨lw_p41, List.forall_mem_cons.mpr ⟨lw_p42, List.forall_mem_cons.mpr ⟨lw_p43, List.forall_mem_cons.mpr ⟨lw_p44, List.forall_mem_cons.mpr ⟨lw_p45, List.forall_mem_cons.mpr ⟨lw_p46, List.forall_mem_cons.mpr ⟨lw_p47, fun _ h => absurd h List.not_mem_nil⟩⟩⟩⟩⟩⟩⟩⟩⟩⟩⟩⟩⟩⟩⟩⟩
theorem lw_p48 : lw_okq (⟨"CartPitchesModel", "takeNumber", "()V"⟩, 15) := ⟨⟨by decide +kernel, by decide +kernel⟩, List.mem_of_getElem? (i := 668) (by decide +kernel), List.mem_of_getElem? (i := 1004) (by decide +kernel), List.mem_of_getElem? (i := 1005) (by decide +kernel)⟩
theorem lw_p49 : lw_okq (⟨"CartPitchesModel", "carry", "(I)I"⟩, 15) := ⟨⟨by decide +kernel, by decide +kernel⟩, List.mem_of_getElem? (i := 668) (by decide +kernel), List.mem_of_getElem? (i := 1013) (by decide +kernel), List.mem_of_getElem? (i := 1014) (by decide +kernel)⟩
def lw_privs_4 : List (MethodName × Nat) := [(⟨"CartPitchesModel", "takeNumber", "()V"⟩, 15), (⟨"CartPitchesModel", "carry", "(I)I"⟩, 15)]
theorem lw_r4 : ∀ q ∈ lw_privs_4, lw_okq q := List.forall_mem_cons.mpr ⟨lw_p48, List.forall_mem_cons.mpr ⟨lw_p49, fun _ h => absurd h List.not_mem_nil⟩⟩
def lw_privs : List (MethodName × Nat) := lw_privs_1 ++ (lw_privs_2 ++ (lw_privs_3 ++ (lw_privs_4)))
def lw_tbl : List Cond := k2_sels lw_privs ++ tables_1
theorem lw_privs_ok : ∀ q ∈ lw_privs, lw_okq q := by
  show ∀ q ∈ lw_privs_1 ++ (lw_privs_2 ++ (lw_privs_3 ++ (lw_privs_4))), lw_okq q
  exact List.forall_mem_append.mpr ⟨lw_r1, List.forall_mem_append.mpr ⟨lw_r2, List.forall_mem_append.mpr ⟨lw_r3, lw_r4⟩⟩⟩
end
section
def RX0 : String := "CartPitches$Cart"
def TX0 : u_T := fun k => match k with
  | 0 => ("CartPitches$Cart", "kind", "I", false)
  | 1 => ("CartPitches$Cart", "hours", "I", false)
  | 2 => ("CartPitches$Cart", "wishCount", "I", false)
  | 3 => ("CartPitches$Cart", "losses", "I", false)
  | 4 => ("CartPitches$Cart", "validUpTo", "I", false)
  | 5 => ("CartPitches$Cart", "waits", "Z", false)
  | 6 => ("CartPitches$Cart", "bannedUpTo", "I", false)
  | 7 => ("CartPitches$Cart", "daysWithPitch", "I", false)
  | 8 => ("CartPitches$Cart", "pitch", "I", false)
  | 9 => ("CartPitches$Cart", "kitchenHour", "I", false)
  | 10 => ("CartPitches$Cart", "reason", "I", false)
  | 11 => ("CartPitches$Cart", "place", "I", false)
  | 12 => ("CartPitches$Cart", "paidIn", "J", false)
  | 13 => ("CartPitches$Cart", "rents", "J", false)
  | 14 => ("CartPitches$Cart", "fines", "J", false)
  | 15 => ("CartPitches$Cart", "swapFees", "J", false)
  | 16 => ("CartPitches$Cart", "wishes", "[I", true)
  | _ => ("CartPitches$Cart", "points", "[I", true)
def tyX0 : Nat → FieldType := fun k => match k with
  | 0 => .int
  | 1 => .int
  | 2 => .int
  | 3 => .int
  | 4 => .int
  | 5 => .boolean
  | 6 => .int
  | 7 => .int
  | 8 => .int
  | 9 => .int
  | 10 => .int
  | 11 => .int
  | 12 => .long
  | 13 => .long
  | 14 => .long
  | 15 => .long
  | 16 => .array .int
  | _ => .array .int
theorem nmX0 : ∀ a, a < 18 → ∀ b, b < 18 → a ≠ b → (TX0 a).2.1 ≠ (TX0 b).2.1 := by decide +kernel
theorem tyX0_ok : ∀ k, k < 18 → parseFieldDescriptor (TX0 k).2.2.1 = some (tyX0 k) := by decide +kernel
abbrev cX0_init : ByteArray := prog_2_method_1_code
def yX0_init : MethodName := ⟨RX0, "<init>", "()V"⟩
abbrev cX0_begin : ByteArray := prog_2_method_2_code
def yX0_begin : MethodName := ⟨RX0, "begin", "(III)V"⟩
abbrev cX0_beginDay : ByteArray := prog_2_method_3_code
def yX0_beginDay : MethodName := ⟨RX0, "beginDay", "()V"⟩
abbrev cX0_copyFrom : ByteArray := prog_2_method_4_code
def yX0_copyFrom : MethodName := ⟨RX0, "copyFrom", "(LCartPitches$Cart;)V"⟩
abbrev cX0_balance : ByteArray := prog_2_method_5_code
def yX0_balance : MethodName := ⟨RX0, "balance", "()J"⟩
abbrev cX0_wishAt : ByteArray := prog_2_method_6_code
def yX0_wishAt : MethodName := ⟨RX0, "wishAt", "(I)I"⟩
abbrev cX0_addPoints : ByteArray := prog_2_method_7_code
def yX0_addPoints : MethodName := ⟨RX0, "addPoints", "(II)V"⟩
abbrev cX0_dropPointsOfSameSpot : ByteArray := prog_2_method_8_code
def yX0_dropPointsOfSameSpot : MethodName := ⟨RX0, "dropPointsOfSameSpot", "(I)V"⟩
abbrev cX0_dropAllPoints : ByteArray := prog_2_method_9_code
def yX0_dropAllPoints : MethodName := ⟨RX0, "dropAllPoints", "()V"⟩
abbrev cX0_pointsLeft : ByteArray := prog_2_method_10_code
def yX0_pointsLeft : MethodName := ⟨RX0, "pointsLeft", "(III)I"⟩
abbrev cX0_reasonBeforeLots : ByteArray := prog_2_method_11_code
def yX0_reasonBeforeLots : MethodName := ⟨RX0, "reasonBeforeLots", "(I)I"⟩
def RX1 : String := "CartPitches$Day"
def TX1 : u_T := fun k => match k with
  | _ => ("", "", "", false)
def tyX1 : Nat → FieldType := fun k => match k with
  | _ => .int
theorem nmX1 : ∀ a, a < 0 → ∀ b, b < 0 → a ≠ b → (TX1 a).2.1 ≠ (TX1 b).2.1 := by decide +kernel
theorem tyX1_ok : ∀ k, k < 0 → parseFieldDescriptor (TX1 k).2.2.1 = some (tyX1 k) := by decide +kernel
abbrev cX1_runChecks : ByteArray := prog_3_method_2_code
def yX1_runChecks : MethodName := ⟨RX1, "runChecks", "(LCartPitches$State;)V"⟩
abbrev cX1_nextToCheck : ByteArray := prog_3_method_3_code
def yX1_nextToCheck : MethodName := ⟨RX1, "nextToCheck", "(LCartPitches$State;)LCartPitches$Cart;"⟩
abbrev cX1_clearLastDay : ByteArray := prog_3_method_4_code
def yX1_clearLastDay : MethodName := ⟨RX1, "clearLastDay", "(LCartPitches$State;)V"⟩
abbrev cX1_drawLots : ByteArray := prog_3_method_5_code
def yX1_drawLots : MethodName := ⟨RX1, "drawLots", "(LCartPitches$State;)V"⟩
abbrev cX1_handOutTickets : ByteArray := prog_3_method_6_code
def yX1_handOutTickets : MethodName := ⟨RX1, "handOutTickets", "(LCartPitches$State;)I"⟩
abbrev cX1_holderOfTicket : ByteArray := prog_3_method_7_code
def yX1_holderOfTicket : MethodName := ⟨RX1, "holderOfTicket", "(LCartPitches$State;I)I"⟩
abbrev cX1_choosePitch : ByteArray := prog_3_method_8_code
def yX1_choosePitch : MethodName := ⟨RX1, "choosePitch", "(LCartPitches$State;I)V"⟩
abbrev cX1_shareKitchens : ByteArray := prog_3_method_9_code
def yX1_shareKitchens : MethodName := ⟨RX1, "shareKitchens", "(LCartPitches$State;)V"⟩
abbrev cX1_makeSwaps : ByteArray := prog_3_method_10_code
def yX1_makeSwaps : MethodName := ⟨RX1, "makeSwaps", "(LCartPitches$State;)V"⟩
abbrev cX1_exchange : ByteArray := prog_3_method_11_code
def yX1_exchange : MethodName := ⟨RX1, "exchange", "(LCartPitches$State;II)Z"⟩
abbrev cX1_trade : ByteArray := prog_3_method_12_code
def yX1_trade : MethodName := ⟨RX1, "trade", "(LCartPitches$State;)V"⟩
def RX2 : String := "CartPitches$History"
def TX2 : u_T := fun k => match k with
  | 0 => ("CartPitches$History", "rows", "[LCartPitches$State;", true)
  | 1 => ("CartPitches$History", "oldest", "I", false)
  | _ => ("CartPitches$History", "kept", "I", false)
def tyX2 : Nat → FieldType := fun k => match k with
  | 0 => .array (.object "CartPitches$State")
  | 1 => .int
  | _ => .int
theorem nmX2 : ∀ a, a < 3 → ∀ b, b < 3 → a ≠ b → (TX2 a).2.1 ≠ (TX2 b).2.1 := by decide +kernel
theorem tyX2_ok : ∀ k, k < 3 → parseFieldDescriptor (TX2 k).2.2.1 = some (tyX2 k) := by decide +kernel
abbrev cX2_init : ByteArray := prog_4_method_1_code
def yX2_init : MethodName := ⟨RX2, "<init>", "()V"⟩
abbrev cX2_prepare : ByteArray := prog_4_method_2_code
def yX2_prepare : MethodName := ⟨RX2, "prepare", "(LCartPitches$State;)V"⟩
abbrev cX2_keepPrepared : ByteArray := prog_4_method_3_code
def yX2_keepPrepared : MethodName := ⟨RX2, "keepPrepared", "()V"⟩
abbrev cX2_takeBack : ByteArray := prog_4_method_4_code
def yX2_takeBack : MethodName := ⟨RX2, "takeBack", "(LCartPitches$State;)V"⟩
def RX3 : String := "CartPitches$Pad"
def TX3 : u_T := fun k => match k with
  | 0 => ("CartPitches$Pad", "signs", "[C", true)
  | _ => ("CartPitches$Pad", "length", "I", false)
def tyX3 : Nat → FieldType := fun k => match k with
  | 0 => .array .char
  | _ => .int
theorem nmX3 : ∀ a, a < 2 → ∀ b, b < 2 → a ≠ b → (TX3 a).2.1 ≠ (TX3 b).2.1 := by decide +kernel
theorem tyX3_ok : ∀ k, k < 2 → parseFieldDescriptor (TX3 k).2.2.1 = some (tyX3 k) := by decide +kernel
abbrev cX3_init : ByteArray := prog_5_method_1_code
def yX3_init : MethodName := ⟨RX3, "<init>", "()V"⟩
abbrev cX3_append : ByteArray := prog_5_method_2_code
def yX3_append : MethodName := ⟨RX3, "append", "(J)I"⟩
abbrev cX3_countGiven : ByteArray := prog_5_method_3_code
def yX3_countGiven : MethodName := ⟨RX3, "countGiven", "(J)I"⟩
abbrev cX3_codeAt : ByteArray := prog_5_method_4_code
def yX3_codeAt : MethodName := ⟨RX3, "codeAt", "(JI)I"⟩
abbrev cX3_signAt : ByteArray := prog_5_method_5_code
def yX3_signAt : MethodName := ⟨RX3, "signAt", "(I)I"⟩
abbrev cX3_findFault : ByteArray := prog_5_method_6_code
def yX3_findFault : MethodName := ⟨RX3, "findFault", "()I"⟩
abbrev cX3_awaitedBehind : ByteArray := prog_5_method_7_code
def yX3_awaitedBehind : MethodName := ⟨RX3, "awaitedBehind", "(II)I"⟩
abbrev cX3_awaitedBehindOrder : ByteArray := prog_5_method_8_code
def yX3_awaitedBehindOrder : MethodName := ⟨RX3, "awaitedBehindOrder", "(I)I"⟩
abbrev cX3_isCart : ByteArray := prog_5_method_9_code
def yX3_isCart : MethodName := ⟨RX3, "isCart", "(I)Z"⟩
abbrev cX3_isDigit : ByteArray := prog_5_method_10_code
def yX3_isDigit : MethodName := ⟨RX3, "isDigit", "(I)Z"⟩
abbrev cX3_endsOrder : ByteArray := prog_5_method_11_code
def yX3_endsOrder : MethodName := ⟨RX3, "endsOrder", "(I)Z"⟩
abbrev cX3_wishAt : ByteArray := prog_5_method_12_code
def yX3_wishAt : MethodName := ⟨RX3, "wishAt", "(II)I"⟩
abbrev cX3_numberAt : ByteArray := prog_5_method_13_code
def yX3_numberAt : MethodName := ⟨RX3, "numberAt", "(II)I"⟩
def RX4 : String := "CartPitches$Pitch"
def TX4 : u_T := fun k => match k with
  | 0 => ("CartPitches$Pitch", "price", "I", false)
  | 1 => ("CartPitches$Pitch", "daysTaken", "I", false)
  | 2 => ("CartPitches$Pitch", "rentsPaid", "I", false)
  | _ => ("CartPitches$Pitch", "holder", "I", false)
def tyX4 : Nat → FieldType := fun k => match k with
  | 0 => .int
  | 1 => .int
  | 2 => .int
  | _ => .int
theorem nmX4 : ∀ a, a < 4 → ∀ b, b < 4 → a ≠ b → (TX4 a).2.1 ≠ (TX4 b).2.1 := by decide +kernel
theorem tyX4_ok : ∀ k, k < 4 → parseFieldDescriptor (TX4 k).2.2.1 = some (tyX4 k) := by decide +kernel
abbrev cX4_init : ByteArray := prog_6_method_1_code
def yX4_init : MethodName := ⟨RX4, "<init>", "()V"⟩
abbrev cX4_begin : ByteArray := prog_6_method_2_code
def yX4_begin : MethodName := ⟨RX4, "begin", "(I)V"⟩
abbrev cX4_copyFrom : ByteArray := prog_6_method_3_code
def yX4_copyFrom : MethodName := ⟨RX4, "copyFrom", "(LCartPitches$Pitch;)V"⟩
def RX5 : String := "CartPitches$State"
def TX5 : u_T := fun k => match k with
  | 0 => ("CartPitches$State", "today", "I", false)
  | 1 => ("CartPitches$State", "lots", "I", false)
  | 2 => ("CartPitches$State", "pitchCount", "I", false)
  | 3 => ("CartPitches$State", "cartCount", "I", false)
  | 4 => ("CartPitches$State", "swapCount", "I", false)
  | 5 => ("CartPitches$State", "swapsDone", "I", false)
  | 6 => ("CartPitches$State", "saved", "Z", false)
  | 7 => ("CartPitches$State", "settings", "[I", true)
  | 8 => ("CartPitches$State", "pitches", "[LCartPitches$Pitch;", true)
  | 9 => ("CartPitches$State", "carts", "[LCartPitches$Cart;", true)
  | 10 => ("CartPitches$State", "swapCart", "[I", true)
  | 11 => ("CartPitches$State", "swapOther", "[I", true)
  | 12 => ("CartPitches$State", "tickets", "[I", true)
  | 13 => ("CartPitches$State", "drawn", "[I", true)
  | _ => ("CartPitches$State", "drawnCount", "I", false)
def tyX5 : Nat → FieldType := fun k => match k with
  | 0 => .int
  | 1 => .int
  | 2 => .int
  | 3 => .int
  | 4 => .int
  | 5 => .int
  | 6 => .boolean
  | 7 => .array .int
  | 8 => .array (.object "CartPitches$Pitch")
  | 9 => .array (.object "CartPitches$Cart")
  | 10 => .array .int
  | 11 => .array .int
  | 12 => .array .int
  | 13 => .array .int
  | _ => .int
theorem nmX5 : ∀ a, a < 15 → ∀ b, b < 15 → a ≠ b → (TX5 a).2.1 ≠ (TX5 b).2.1 := by decide +kernel
theorem tyX5_ok : ∀ k, k < 15 → parseFieldDescriptor (TX5 k).2.2.1 = some (tyX5 k) := by decide +kernel
abbrev cX5_init : ByteArray := prog_7_method_1_code
def yX5_init : MethodName := ⟨RX5, "<init>", "()V"⟩
abbrev cX5_copyFrom : ByteArray := prog_7_method_2_code
def yX5_copyFrom : MethodName := ⟨RX5, "copyFrom", "(LCartPitches$State;)V"⟩
abbrev cX5_hasCart : ByteArray := prog_7_method_3_code
def yX5_hasCart : MethodName := ⟨RX5, "hasCart", "(I)Z"⟩
abbrev cX5_hasPitch : ByteArray := prog_7_method_4_code
def yX5_hasPitch : MethodName := ⟨RX5, "hasPitch", "(I)Z"⟩
abbrev cX5_changeSetting : ByteArray := prog_7_method_5_code
def yX5_changeSetting : MethodName := ⟨RX5, "changeSetting", "(II)I"⟩
abbrev cX5_changeLots : ByteArray := prog_7_method_6_code
def yX5_changeLots : MethodName := ⟨RX5, "changeLots", "(I)I"⟩
abbrev cX5_addPitch : ByteArray := prog_7_method_7_code
def yX5_addPitch : MethodName := ⟨RX5, "addPitch", "(I)I"⟩
abbrev cX5_changeRent : ByteArray := prog_7_method_8_code
def yX5_changeRent : MethodName := ⟨RX5, "changeRent", "(II)I"⟩
abbrev cX5_addCart : ByteArray := prog_7_method_9_code
def yX5_addCart : MethodName := ⟨RX5, "addCart", "(II)I"⟩
abbrev cX5_tellWishes : ByteArray := prog_7_method_10_code
def yX5_tellWishes : MethodName := ⟨RX5, "tellWishes", "(IIII)I"⟩
abbrev cX5_isPitchOrNone : ByteArray := prog_7_method_11_code
def yX5_isPitchOrNone : MethodName := ⟨RX5, "isPitchOrNone", "(I)Z"⟩
abbrev cX5_punish : ByteArray := prog_7_method_12_code
def yX5_punish : MethodName := ⟨RX5, "punish", "(II)I"⟩
abbrev cX5_givePoints : ByteArray := prog_7_method_13_code
def yX5_givePoints : MethodName := ⟨RX5, "givePoints", "(LCartPitches$Cart;I)I"⟩
abbrev cX5_askCheck : ByteArray := prog_7_method_14_code
def yX5_askCheck : MethodName := ⟨RX5, "askCheck", "(I)I"⟩
abbrev cX5_askSwap : ByteArray := prog_7_method_15_code
def yX5_askSwap : MethodName := ⟨RX5, "askSwap", "(II)I"⟩
abbrev cX5_takeMoney : ByteArray := prog_7_method_16_code
def yX5_takeMoney : MethodName := ⟨RX5, "takeMoney", "(II)I"⟩
abbrev cX5_passDays : ByteArray := prog_7_method_17_code
def yX5_passDays : MethodName := ⟨RX5, "passDays", "(I)I"⟩
abbrev cX5_beginNextDay : ByteArray := prog_7_method_18_code
def yX5_beginNextDay : MethodName := ⟨RX5, "beginNextDay", "()V"⟩
abbrev cX5_countWaiting : ByteArray := prog_7_method_19_code
def yX5_countWaiting : MethodName := ⟨RX5, "countWaiting", "()I"⟩
abbrev cX5_countOnPitches : ByteArray := prog_7_method_20_code
def yX5_countOnPitches : MethodName := ⟨RX5, "countOnPitches", "()I"⟩
abbrev cX5_sameKindBeside : ByteArray := prog_7_method_21_code
def yX5_sameKindBeside : MethodName := ⟨RX5, "sameKindBeside", "(II)Z"⟩
abbrev cX5_seat : ByteArray := prog_7_method_22_code
def yX5_seat : MethodName := ⟨RX5, "seat", "(II)V"⟩
abbrev cX5_unseat : ByteArray := prog_7_method_23_code
def yX5_unseat : MethodName := ⟨RX5, "unseat", "(LCartPitches$Cart;)V"⟩
def RX6 : String := "CartPitches"
def TX6 : u_T := fun k => match k with
  | 0 => ("CartPitches", "now", "LCartPitches$State;", true)
  | 1 => ("CartPitches", "trial", "LCartPitches$State;", true)
  | 2 => ("CartPitches", "history", "LCartPitches$History;", true)
  | 3 => ("CartPitches", "firstSlot", "LCartPitches$State;", true)
  | 4 => ("CartPitches", "secondSlot", "LCartPitches$State;", true)
  | _ => ("CartPitches", "pad", "LCartPitches$Pad;", true)
def tyX6 : Nat → FieldType := fun k => match k with
  | 0 => .object "CartPitches$State"
  | 1 => .object "CartPitches$State"
  | 2 => .object "CartPitches$History"
  | 3 => .object "CartPitches$State"
  | 4 => .object "CartPitches$State"
  | _ => .object "CartPitches$Pad"
theorem nmX6 : ∀ a, a < 6 → ∀ b, b < 6 → a ≠ b → (TX6 a).2.1 ≠ (TX6 b).2.1 := by decide +kernel
theorem tyX6_ok : ∀ k, k < 6 → parseFieldDescriptor (TX6 k).2.2.1 = some (tyX6 k) := by decide +kernel
abbrev cX6_init : ByteArray := prog_1_method_1_code
def yX6_init : MethodName := ⟨RX6, "<init>", "()V"⟩
abbrev cX6_set : ByteArray := prog_1_method_2_code
def yX6_set : MethodName := ⟨RX6, "set", "(II)I"⟩
abbrev cX6_seed : ByteArray := prog_1_method_3_code
def yX6_seed : MethodName := ⟨RX6, "seed", "(I)I"⟩
abbrev cX6_pitch : ByteArray := prog_1_method_4_code
def yX6_pitch : MethodName := ⟨RX6, "pitch", "(I)I"⟩
abbrev cX6_rent : ByteArray := prog_1_method_5_code
def yX6_rent : MethodName := ⟨RX6, "rent", "(II)I"⟩
abbrev cX6_cart : ByteArray := prog_1_method_6_code
def yX6_cart : MethodName := ⟨RX6, "cart", "(II)I"⟩
abbrev cX6_wish : ByteArray := prog_1_method_7_code
def yX6_wish : MethodName := ⟨RX6, "wish", "(IIII)I"⟩
abbrev cX6_fine : ByteArray := prog_1_method_8_code
def yX6_fine : MethodName := ⟨RX6, "fine", "(II)I"⟩
abbrev cX6_check : ByteArray := prog_1_method_9_code
def yX6_check : MethodName := ⟨RX6, "check", "(I)I"⟩
abbrev cX6_swap : ByteArray := prog_1_method_10_code
def yX6_swap : MethodName := ⟨RX6, "swap", "(II)I"⟩
abbrev cX6_pay : ByteArray := prog_1_method_11_code
def yX6_pay : MethodName := ⟨RX6, "pay", "(II)I"⟩
abbrev cX6_days : ByteArray := prog_1_method_12_code
def yX6_days : MethodName := ⟨RX6, "days", "(I)I"⟩
abbrev cX6_recorded : ByteArray := prog_1_method_13_code
def yX6_recorded : MethodName := ⟨RX6, "recorded", "(I)I"⟩
abbrev cX6_ofCart : ByteArray := prog_1_method_14_code
def yX6_ofCart : MethodName := ⟨RX6, "ofCart", "(II)I"⟩
abbrev cX6_aboutCart : ByteArray := prog_1_method_15_code
def yX6_aboutCart : MethodName := ⟨RX6, "aboutCart", "(LCartPitches$Cart;I)I"⟩
abbrev cX6_aboutPastOfCart : ByteArray := prog_1_method_16_code
def yX6_aboutPastOfCart : MethodName := ⟨RX6, "aboutPastOfCart", "(LCartPitches$Cart;I)I"⟩
abbrev cX6_money : ByteArray := prog_1_method_17_code
def yX6_money : MethodName := ⟨RX6, "money", "(II)J"⟩
abbrev cX6_ofPitch : ByteArray := prog_1_method_18_code
def yX6_ofPitch : MethodName := ⟨RX6, "ofPitch", "(II)I"⟩
abbrev cX6_count : ByteArray := prog_1_method_19_code
def yX6_count : MethodName := ⟨RX6, "count", "(I)I"⟩
abbrev cX6_pointsOn : ByteArray := prog_1_method_20_code
def yX6_pointsOn : MethodName := ⟨RX6, "pointsOn", "(II)I"⟩
abbrev cX6_wouldHave : ByteArray := prog_1_method_21_code
def yX6_wouldHave : MethodName := ⟨RX6, "wouldHave", "(I)I"⟩
abbrev cX6_ifWished : ByteArray := prog_1_method_22_code
def yX6_ifWished : MethodName := ⟨RX6, "ifWished", "(II)I"⟩
abbrev cX6_firstDay : ByteArray := prog_1_method_23_code
def yX6_firstDay : MethodName := ⟨RX6, "firstDay", "(I)I"⟩
abbrev cX6_daysOf : ByteArray := prog_1_method_24_code
def yX6_daysOf : MethodName := ⟨RX6, "daysOf", "(II)I"⟩
abbrev cX6_luckySeed : ByteArray := prog_1_method_25_code
def yX6_luckySeed : MethodName := ⟨RX6, "luckySeed", "(II)I"⟩
abbrev cX6_whyNot : ByteArray := prog_1_method_26_code
def yX6_whyNot : MethodName := ⟨RX6, "whyNot", "(II)I"⟩
abbrev cX6_pitchOnTrialDay : ByteArray := prog_1_method_27_code
def yX6_pitchOnTrialDay : MethodName := ⟨RX6, "pitchOnTrialDay", "(I)I"⟩
abbrev cX6_put : ByteArray := prog_1_method_28_code
def yX6_put : MethodName := ⟨RX6, "put", "(J)I"⟩
abbrev cX6_wipe : ByteArray := prog_1_method_29_code
def yX6_wipe : MethodName := ⟨RX6, "wipe", "()I"⟩
abbrev cX6_fault : ByteArray := prog_1_method_30_code
def yX6_fault : MethodName := ⟨RX6, "fault", "()I"⟩
abbrev cX6_carryOut : ByteArray := prog_1_method_31_code
def yX6_carryOut : MethodName := ⟨RX6, "carryOut", "()I"⟩
abbrev cX6_performOrder : ByteArray := prog_1_method_32_code
def yX6_performOrder : MethodName := ⟨RX6, "performOrder", "(II)I"⟩
abbrev cX6_undo : ByteArray := prog_1_method_33_code
def yX6_undo : MethodName := ⟨RX6, "undo", "()I"⟩
abbrev cX6_save : ByteArray := prog_1_method_34_code
def yX6_save : MethodName := ⟨RX6, "save", "(I)I"⟩
abbrev cX6_restore : ByteArray := prog_1_method_35_code
def yX6_restore : MethodName := ⟨RX6, "restore", "(I)I"⟩
def RX7 : String := "CartPitchesModel"
def TX7 : u_T := fun k => match k with
  | 0 => ("CartPitchesModel", "at", "[I", true)
  | 1 => ("CartPitchesModel", "past", "[I", true)
  | 2 => ("CartPitchesModel", "pastMany", "I", false)
  | 3 => ("CartPitchesModel", "slots", "[I", true)
  | 4 => ("CartPitchesModel", "isSaved", "[Z", true)
  | 5 => ("CartPitchesModel", "aside", "[I", true)
  | 6 => ("CartPitchesModel", "pad", "[I", true)
  | 7 => ("CartPitchesModel", "padMany", "I", false)
  | 8 => ("CartPitchesModel", "kitchenOne", "I", false)
  | 9 => ("CartPitchesModel", "kitchenTwo", "I", false)
  | 10 => ("CartPitchesModel", "spot", "I", false)
  | 11 => ("CartPitchesModel", "isWrong", "Z", false)
  | 12 => ("CartPitchesModel", "orders", "I", false)
  | 13 => ("CartPitchesModel", "sort", "[I", true)
  | _ => ("CartPitchesModel", "numbers", "[I", true)
def tyX7 : Nat → FieldType := fun k => match k with
  | 0 => .array .int
  | 1 => .array .int
  | 2 => .int
  | 3 => .array .int
  | 4 => .array .boolean
  | 5 => .array .int
  | 6 => .array .int
  | 7 => .int
  | 8 => .int
  | 9 => .int
  | 10 => .int
  | 11 => .boolean
  | 12 => .int
  | 13 => .array .int
  | _ => .array .int
theorem nmX7 : ∀ a, a < 15 → ∀ b, b < 15 → a ≠ b → (TX7 a).2.1 ≠ (TX7 b).2.1 := by decide +kernel
theorem tyX7_ok : ∀ k, k < 15 → parseFieldDescriptor (TX7 k).2.2.1 = some (tyX7 k) := by decide +kernel
abbrev cX7_init : ByteArray := prog_9_method_1_code
def yX7_init : MethodName := ⟨RX7, "<init>", "()V"⟩
abbrev cX7_in : ByteArray := prog_9_method_3_code
def yX7_in : MethodName := ⟨RX7, "in", "(III)Z"⟩
abbrev cX7_of : ByteArray := prog_9_method_4_code
def yX7_of : MethodName := ⟨RX7, "of", "(II)I"⟩
abbrev cX7_lay : ByteArray := prog_9_method_5_code
def yX7_lay : MethodName := ⟨RX7, "lay", "(III)V"⟩
abbrev cX7_ofP : ByteArray := prog_9_method_6_code
def yX7_ofP : MethodName := ⟨RX7, "ofP", "(II)I"⟩
abbrev cX7_isCart : ByteArray := prog_9_method_7_code
def yX7_isCart : MethodName := ⟨RX7, "isCart", "(I)Z"⟩
abbrev cX7_isPitch : ByteArray := prog_9_method_8_code
def yX7_isPitch : MethodName := ⟨RX7, "isPitch", "(I)Z"⟩
abbrev cX7_keep : ByteArray := prog_9_method_9_code
def yX7_keep : MethodName := ⟨RX7, "keep", "()V"⟩
abbrev cX7_keepIf : ByteArray := prog_9_method_10_code
def yX7_keepIf : MethodName := ⟨RX7, "keepIf", "(Z)V"⟩
abbrev cX7_layAside : ByteArray := prog_9_method_11_code
def yX7_layAside : MethodName := ⟨RX7, "layAside", "()V"⟩
abbrev cX7_layBack : ByteArray := prog_9_method_12_code
def yX7_layBack : MethodName := ⟨RX7, "layBack", "()V"⟩
abbrev cX7_least : ByteArray := prog_9_method_13_code
def yX7_least : MethodName := ⟨RX7, "least", "(I)I"⟩
abbrev cX7_greatest : ByteArray := prog_9_method_14_code
def yX7_greatest : MethodName := ⟨RX7, "greatest", "(I)I"⟩
abbrev cX7_set : ByteArray := prog_9_method_15_code
def yX7_set : MethodName := ⟨RX7, "set", "(II)I"⟩
abbrev cX7_seed : ByteArray := prog_9_method_16_code
def yX7_seed : MethodName := ⟨RX7, "seed", "(I)I"⟩
abbrev cX7_pitch : ByteArray := prog_9_method_17_code
def yX7_pitch : MethodName := ⟨RX7, "pitch", "(I)I"⟩
abbrev cX7_rent : ByteArray := prog_9_method_18_code
def yX7_rent : MethodName := ⟨RX7, "rent", "(II)I"⟩
abbrev cX7_cart : ByteArray := prog_9_method_19_code
def yX7_cart : MethodName := ⟨RX7, "cart", "(II)I"⟩
abbrev cX7_pointsAt : ByteArray := prog_9_method_20_code
def yX7_pointsAt : MethodName := ⟨RX7, "pointsAt", "(II)I"⟩
abbrev cX7_give : ByteArray := prog_9_method_21_code
def yX7_give : MethodName := ⟨RX7, "give", "(II)V"⟩
abbrev cX7_isNumber : ByteArray := prog_9_method_22_code
def yX7_isNumber : MethodName := ⟨RX7, "isNumber", "(I)Z"⟩
abbrev cX7_tryWish : ByteArray := prog_9_method_23_code
def yX7_tryWish : MethodName := ⟨RX7, "tryWish", "(IIIIZ)I"⟩
abbrev cX7_wish : ByteArray := prog_9_method_24_code
def yX7_wish : MethodName := ⟨RX7, "wish", "(IIII)I"⟩
abbrev cX7_tryFine : ByteArray := prog_9_method_25_code
def yX7_tryFine : MethodName := ⟨RX7, "tryFine", "(IIZ)I"⟩
abbrev cX7_fine : ByteArray := prog_9_method_26_code
def yX7_fine : MethodName := ⟨RX7, "fine", "(II)I"⟩
abbrev cX7_waiting : ByteArray := prog_9_method_27_code
def yX7_waiting : MethodName := ⟨RX7, "waiting", "()I"⟩
abbrev cX7_tryCheck : ByteArray := prog_9_method_28_code
def yX7_tryCheck : MethodName := ⟨RX7, "tryCheck", "(IZ)I"⟩
abbrev cX7_check : ByteArray := prog_9_method_29_code
def yX7_check : MethodName := ⟨RX7, "check", "(I)I"⟩
abbrev cX7_trySwap : ByteArray := prog_9_method_30_code
def yX7_trySwap : MethodName := ⟨RX7, "trySwap", "(IIZ)I"⟩
abbrev cX7_swap : ByteArray := prog_9_method_31_code
def yX7_swap : MethodName := ⟨RX7, "swap", "(II)I"⟩
abbrev cX7_balance : ByteArray := prog_9_method_32_code
def yX7_balance : MethodName := ⟨RX7, "balance", "(I)I"⟩
abbrev cX7_pay : ByteArray := prog_9_method_33_code
def yX7_pay : MethodName := ⟨RX7, "pay", "(II)I"⟩
abbrev cX7_nextToCheck : ByteArray := prog_9_method_34_code
def yX7_nextToCheck : MethodName := ⟨RX7, "nextToCheck", "()I"⟩
abbrev cX7_checkAll : ByteArray := prog_9_method_35_code
def yX7_checkAll : MethodName := ⟨RX7, "checkAll", "()V"⟩
abbrev cX7_whyOut : ByteArray := prog_9_method_36_code
def yX7_whyOut : MethodName := ⟨RX7, "whyOut", "(I)I"⟩
abbrev cX7_beginDay : ByteArray := prog_9_method_37_code
def yX7_beginDay : MethodName := ⟨RX7, "beginDay", "()V"⟩
abbrev cX7_isKindAt : ByteArray := prog_9_method_38_code
def yX7_isKindAt : MethodName := ⟨RX7, "isKindAt", "(III)Z"⟩
abbrev cX7_isApart : ByteArray := prog_9_method_39_code
def yX7_isApart : MethodName := ⟨RX7, "isApart", "(II)Z"⟩
abbrev cX7_put : ByteArray := prog_9_method_40_code
def yX7_put : MethodName := ⟨RX7, "put", "(II)V"⟩
abbrev cX7_choose : ByteArray := prog_9_method_41_code
def yX7_choose : MethodName := ⟨RX7, "choose", "(I)V"⟩
abbrev cX7_isToDraw : ByteArray := prog_9_method_42_code
def yX7_isToDraw : MethodName := ⟨RX7, "isToDraw", "(I)Z"⟩
abbrev cX7_ticketsOf : ByteArray := prog_9_method_43_code
def yX7_ticketsOf : MethodName := ⟨RX7, "ticketsOf", "(I)I"⟩
abbrev cX7_drawOne : ByteArray := prog_9_method_44_code
def yX7_drawOne : MethodName := ⟨RX7, "drawOne", "(I)I"⟩
abbrev cX7_drawAll : ByteArray := prog_9_method_45_code
def yX7_drawAll : MethodName := ⟨RX7, "drawAll", "()V"⟩
abbrev cX7_drawnAt : ByteArray := prog_9_method_46_code
def yX7_drawnAt : MethodName := ⟨RX7, "drawnAt", "(I)I"⟩
abbrev cX7_cook : ByteArray := prog_9_method_47_code
def yX7_cook : MethodName := ⟨RX7, "cook", "(I)V"⟩
abbrev cX7_cookAll : ByteArray := prog_9_method_48_code
def yX7_cookAll : MethodName := ⟨RX7, "cookAll", "()V"⟩
abbrev cX7_swapAll : ByteArray := prog_9_method_49_code
def yX7_swapAll : MethodName := ⟨RX7, "swapAll", "()V"⟩
abbrev cX7_trade : ByteArray := prog_9_method_50_code
def yX7_trade : MethodName := ⟨RX7, "trade", "()V"⟩
abbrev cX7_passDay : ByteArray := prog_9_method_51_code
def yX7_passDay : MethodName := ⟨RX7, "passDay", "()V"⟩
abbrev cX7_tryDays : ByteArray := prog_9_method_52_code
def yX7_tryDays : MethodName := ⟨RX7, "tryDays", "(IZ)I"⟩
abbrev cX7_days : ByteArray := prog_9_method_53_code
def yX7_days : MethodName := ⟨RX7, "days", "(I)I"⟩
abbrev cX7_ofCart : ByteArray := prog_9_method_54_code
def yX7_ofCart : MethodName := ⟨RX7, "ofCart", "(II)I"⟩
abbrev cX7_money : ByteArray := prog_9_method_55_code
def yX7_money : MethodName := ⟨RX7, "money", "(II)J"⟩
abbrev cX7_ofPitch : ByteArray := prog_9_method_56_code
def yX7_ofPitch : MethodName := ⟨RX7, "ofPitch", "(II)I"⟩
abbrev cX7_atPitches : ByteArray := prog_9_method_57_code
def yX7_atPitches : MethodName := ⟨RX7, "atPitches", "()I"⟩
abbrev cX7_count : ByteArray := prog_9_method_58_code
def yX7_count : MethodName := ⟨RX7, "count", "(I)I"⟩
abbrev cX7_pointsOn : ByteArray := prog_9_method_59_code
def yX7_pointsOn : MethodName := ⟨RX7, "pointsOn", "(II)I"⟩
abbrev cX7_wouldHave : ByteArray := prog_9_method_60_code
def yX7_wouldHave : MethodName := ⟨RX7, "wouldHave", "(I)I"⟩
abbrev cX7_ifWished : ByteArray := prog_9_method_61_code
def yX7_ifWished : MethodName := ⟨RX7, "ifWished", "(II)I"⟩
abbrev cX7_firstDay : ByteArray := prog_9_method_62_code
def yX7_firstDay : MethodName := ⟨RX7, "firstDay", "(I)I"⟩
abbrev cX7_daysOf : ByteArray := prog_9_method_63_code
def yX7_daysOf : MethodName := ⟨RX7, "daysOf", "(II)I"⟩
abbrev cX7_luckySeed : ByteArray := prog_9_method_64_code
def yX7_luckySeed : MethodName := ⟨RX7, "luckySeed", "(II)I"⟩
abbrev cX7_whyNot : ByteArray := prog_9_method_65_code
def yX7_whyNot : MethodName := ⟨RX7, "whyNot", "(II)I"⟩
abbrev cX7_put_ : ByteArray := prog_9_method_66_code
def yX7_put_ : MethodName := ⟨RX7, "put", "(J)I"⟩
abbrev cX7_wipe : ByteArray := prog_9_method_67_code
def yX7_wipe : MethodName := ⟨RX7, "wipe", "()I"⟩
abbrev cX7_next : ByteArray := prog_9_method_68_code
def yX7_next : MethodName := ⟨RX7, "next", "()I"⟩
abbrev cX7_takeOne : ByteArray := prog_9_method_69_code
def yX7_takeOne : MethodName := ⟨RX7, "takeOne", "(III)V"⟩
abbrev cX7_takeNumber : ByteArray := prog_9_method_70_code
def yX7_takeNumber : MethodName := ⟨RX7, "takeNumber", "()V"⟩
abbrev cX7_takeWishes : ByteArray := prog_9_method_71_code
def yX7_takeWishes : MethodName := ⟨RX7, "takeWishes", "()V"⟩
abbrev cX7_takeOrder : ByteArray := prog_9_method_72_code
def yX7_takeOrder : MethodName := ⟨RX7, "takeOrder", "()V"⟩
abbrev cX7_fault : ByteArray := prog_9_method_73_code
def yX7_fault : MethodName := ⟨RX7, "fault", "()I"⟩
abbrev cX7_carry : ByteArray := prog_9_method_74_code
def yX7_carry : MethodName := ⟨RX7, "carry", "(I)I"⟩
abbrev cX7_carryOut : ByteArray := prog_9_method_75_code
def yX7_carryOut : MethodName := ⟨RX7, "carryOut", "()I"⟩
abbrev cX7_undo : ByteArray := prog_9_method_76_code
def yX7_undo : MethodName := ⟨RX7, "undo", "()I"⟩
abbrev cX7_save : ByteArray := prog_9_method_77_code
def yX7_save : MethodName := ⟨RX7, "save", "(I)I"⟩
abbrev cX7_restore : ByteArray := prog_9_method_78_code
def yX7_restore : MethodName := ⟨RX7, "restore", "(I)I"⟩
def RJ9 : String := "java/lang/Math"
def TJ9 : u_T := fun k => match k with
  | _ => ("", "", "", false)
def tyJ9 : Nat → FieldType := fun k => match k with
  | _ => .int
theorem nmJ9 : ∀ a, a < 0 → ∀ b, b < 0 → a ≠ b → (TJ9 a).2.1 ≠ (TJ9 b).2.1 := by decide +kernel
theorem tyJ9_ok : ∀ k, k < 0 → parseFieldDescriptor (TJ9 k).2.2.1 = some (tyJ9 k) := by decide +kernel
abbrev cJ9_min_7cf53 : ByteArray := prog_10_method_69_code
def yJ9_min_7cf53 : MethodName := ⟨RJ9, "min", "(II)I"⟩
def RJ10 : String := "java/lang/System"
def TJ10 : u_T := fun k => match k with
  | _ => ("", "", "", false)
def tyJ10 : Nat → FieldType := fun k => match k with
  | _ => .int
theorem nmJ10 : ∀ a, a < 0 → ∀ b, b < 0 → a ≠ b → (TJ10 a).2.1 ≠ (TJ10 b).2.1 := by decide +kernel
theorem tyJ10_ok : ∀ k, k < 0 → parseFieldDescriptor (TJ10 k).2.2.1 = some (tyJ10 k) := by decide +kernel
def RL : String := "CartPitchesLaw"
abbrev cL_law : ByteArray := code
def yL_law : MethodName := ⟨RL, "law", "([I)Z"⟩
abbrev vwCl : List vw_C := [(RX0, TX0, 18), (RX2, TX2, 3), (RX3, TX3, 2), (RX4, TX4, 4), (RX5, TX5, 15), (RX6, TX6, 6), (RX7, TX7, 15)]
end
section
theorem dX0_init_0 : decode cX0_init 0 = .ok (.aload_n 0, 1) := by decide +kernel
theorem dX0_init_1 : decode cX0_init 1 = .ok (.invokespecial 3, 3) := by decide +kernel
theorem dX0_init_4 : decode cX0_init 4 = .ok (.aload_n 0, 1) := by decide +kernel
theorem dX0_init_5 : decode cX0_init 5 = .ok (.iconst 3, 1) := by decide +kernel
theorem dX0_init_6 : decode cX0_init 6 = .ok (.newarray .int, 2) := by decide +kernel
theorem dX0_init_8 : decode cX0_init 8 = .ok (.putfield 9, 3) := by decide +kernel
theorem dX0_init_11 : decode cX0_init 11 = .ok (.aload_n 0, 1) := by decide +kernel
theorem dX0_init_12 : decode cX0_init 12 = .ok (.sipush 200, 3) := by decide +kernel
theorem dX0_init_15 : decode cX0_init 15 = .ok (.newarray .int, 2) := by decide +kernel
theorem dX0_init_17 : decode cX0_init 17 = .ok (.putfield 15, 3) := by decide +kernel
theorem dX0_init_20 : decode cX0_init 20 = .ok (.return_, 1) := by decide +kernel
theorem dX0_begin_0 : decode cX0_begin 0 = .ok (.aload_n 0, 1) := by decide +kernel
theorem dX0_begin_1 : decode cX0_begin 1 = .ok (.iload_n 1, 1) := by decide +kernel
theorem dX0_begin_2 : decode cX0_begin 2 = .ok (.putfield 18, 3) := by decide +kernel
theorem dX0_begin_5 : decode cX0_begin 5 = .ok (.aload_n 0, 1) := by decide +kernel
theorem dX0_begin_6 : decode cX0_begin 6 = .ok (.iload_n 2, 1) := by decide +kernel
theorem dX0_begin_7 : decode cX0_begin 7 = .ok (.putfield 22, 3) := by decide +kernel
theorem dX0_begin_10 : decode cX0_begin 10 = .ok (.aload_n 0, 1) := by decide +kernel
theorem dX0_begin_11 : decode cX0_begin 11 = .ok (.iload_n 3, 1) := by decide +kernel
theorem dX0_begin_12 : decode cX0_begin 12 = .ok (.putfield 25, 3) := by decide +kernel
theorem dX0_begin_15 : decode cX0_begin 15 = .ok (.aload_n 0, 1) := by decide +kernel
theorem dX0_begin_16 : decode cX0_begin 16 = .ok (.iconst 0, 1) := by decide +kernel
theorem dX0_begin_17 : decode cX0_begin 17 = .ok (.putfield 28, 3) := by decide +kernel
theorem dX0_begin_20 : decode cX0_begin 20 = .ok (.aload_n 0, 1) := by decide +kernel
theorem dX0_begin_21 : decode cX0_begin 21 = .ok (.iconst 0, 1) := by decide +kernel
theorem dX0_begin_22 : decode cX0_begin 22 = .ok (.putfield 31, 3) := by decide +kernel
theorem dX0_begin_25 : decode cX0_begin 25 = .ok (.aload_n 0, 1) := by decide +kernel
theorem dX0_begin_26 : decode cX0_begin 26 = .ok (.iconst 0, 1) := by decide +kernel
theorem dX0_begin_27 : decode cX0_begin 27 = .ok (.putfield 34, 3) := by decide +kernel
theorem dX0_begin_30 : decode cX0_begin 30 = .ok (.aload_n 0, 1) := by decide +kernel
theorem dX0_begin_31 : decode cX0_begin 31 = .ok (.bipush (-6), 2) := by decide +kernel
theorem dX0_begin_33 : decode cX0_begin 33 = .ok (.putfield 38, 3) := by decide +kernel
theorem dX0_begin_36 : decode cX0_begin 36 = .ok (.aload_n 0, 1) := by decide +kernel
theorem dX0_begin_37 : decode cX0_begin 37 = .ok (.iconst 0, 1) := by decide +kernel
theorem dX0_begin_38 : decode cX0_begin 38 = .ok (.putfield 41, 3) := by decide +kernel
theorem dX0_begin_41 : decode cX0_begin 41 = .ok (.aload_n 0, 1) := by decide +kernel
theorem dX0_begin_42 : decode cX0_begin 42 = .ok (.lconst 0, 1) := by decide +kernel
theorem dX0_begin_43 : decode cX0_begin 43 = .ok (.putfield 44, 3) := by decide +kernel
theorem dX0_begin_46 : decode cX0_begin 46 = .ok (.aload_n 0, 1) := by decide +kernel
theorem dX0_begin_47 : decode cX0_begin 47 = .ok (.lconst 0, 1) := by decide +kernel
theorem dX0_begin_48 : decode cX0_begin 48 = .ok (.putfield 48, 3) := by decide +kernel
theorem dX0_begin_51 : decode cX0_begin 51 = .ok (.aload_n 0, 1) := by decide +kernel
theorem dX0_begin_52 : decode cX0_begin 52 = .ok (.lconst 0, 1) := by decide +kernel
theorem dX0_begin_53 : decode cX0_begin 53 = .ok (.putfield 51, 3) := by decide +kernel
theorem dX0_begin_56 : decode cX0_begin 56 = .ok (.aload_n 0, 1) := by decide +kernel
theorem dX0_begin_57 : decode cX0_begin 57 = .ok (.lconst 0, 1) := by decide +kernel
theorem dX0_begin_58 : decode cX0_begin 58 = .ok (.putfield 54, 3) := by decide +kernel
theorem dX0_begin_61 : decode cX0_begin 61 = .ok (.aload_n 0, 1) := by decide +kernel
theorem dX0_begin_62 : decode cX0_begin 62 = .ok (.invokevirtual 57, 3) := by decide +kernel
theorem dX0_begin_65 : decode cX0_begin 65 = .ok (.aload_n 0, 1) := by decide +kernel
theorem dX0_begin_66 : decode cX0_begin 66 = .ok (.invokevirtual 60, 3) := by decide +kernel
theorem dX0_begin_69 : decode cX0_begin 69 = .ok (.return_, 1) := by decide +kernel
theorem dX0_beginDay_0 : decode cX0_beginDay 0 = .ok (.aload_n 0, 1) := by decide +kernel
theorem dX0_beginDay_1 : decode cX0_beginDay 1 = .ok (.bipush (-6), 2) := by decide +kernel
theorem dX0_beginDay_3 : decode cX0_beginDay 3 = .ok (.putfield 63, 3) := by decide +kernel
theorem dX0_beginDay_6 : decode cX0_beginDay 6 = .ok (.aload_n 0, 1) := by decide +kernel
theorem dX0_beginDay_7 : decode cX0_beginDay 7 = .ok (.bipush (-6), 2) := by decide +kernel
theorem dX0_beginDay_9 : decode cX0_beginDay 9 = .ok (.putfield 66, 3) := by decide +kernel
theorem dX0_beginDay_12 : decode cX0_beginDay 12 = .ok (.aload_n 0, 1) := by decide +kernel
theorem dX0_beginDay_13 : decode cX0_beginDay 13 = .ok (.iconst 0, 1) := by decide +kernel
theorem dX0_beginDay_14 : decode cX0_beginDay 14 = .ok (.putfield 69, 3) := by decide +kernel
theorem dX0_beginDay_17 : decode cX0_beginDay 17 = .ok (.aload_n 0, 1) := by decide +kernel
theorem dX0_beginDay_18 : decode cX0_beginDay 18 = .ok (.bipush (-6), 2) := by decide +kernel
theorem dX0_beginDay_20 : decode cX0_beginDay 20 = .ok (.putfield 72, 3) := by decide +kernel
theorem dX0_beginDay_23 : decode cX0_beginDay 23 = .ok (.return_, 1) := by decide +kernel
theorem dX0_copyFrom_0 : decode cX0_copyFrom 0 = .ok (.aload_n 0, 1) := by decide +kernel
theorem dX0_copyFrom_1 : decode cX0_copyFrom 1 = .ok (.aload_n 1, 1) := by decide +kernel
theorem dX0_copyFrom_2 : decode cX0_copyFrom 2 = .ok (.getfield 18, 3) := by decide +kernel
theorem dX0_copyFrom_5 : decode cX0_copyFrom 5 = .ok (.putfield 18, 3) := by decide +kernel
theorem dX0_copyFrom_8 : decode cX0_copyFrom 8 = .ok (.aload_n 0, 1) := by decide +kernel
theorem dX0_copyFrom_9 : decode cX0_copyFrom 9 = .ok (.aload_n 1, 1) := by decide +kernel
theorem dX0_copyFrom_10 : decode cX0_copyFrom 10 = .ok (.getfield 22, 3) := by decide +kernel
theorem dX0_copyFrom_13 : decode cX0_copyFrom 13 = .ok (.putfield 22, 3) := by decide +kernel
theorem dX0_copyFrom_16 : decode cX0_copyFrom 16 = .ok (.aload_n 0, 1) := by decide +kernel
theorem dX0_copyFrom_17 : decode cX0_copyFrom 17 = .ok (.aload_n 1, 1) := by decide +kernel
theorem dX0_copyFrom_18 : decode cX0_copyFrom 18 = .ok (.getfield 28, 3) := by decide +kernel
theorem dX0_copyFrom_21 : decode cX0_copyFrom 21 = .ok (.putfield 28, 3) := by decide +kernel
theorem dX0_copyFrom_24 : decode cX0_copyFrom 24 = .ok (.aload_n 0, 1) := by decide +kernel
theorem dX0_copyFrom_25 : decode cX0_copyFrom 25 = .ok (.aload_n 1, 1) := by decide +kernel
theorem dX0_copyFrom_26 : decode cX0_copyFrom 26 = .ok (.getfield 31, 3) := by decide +kernel
theorem dX0_copyFrom_29 : decode cX0_copyFrom 29 = .ok (.putfield 31, 3) := by decide +kernel
theorem dX0_copyFrom_32 : decode cX0_copyFrom 32 = .ok (.aload_n 0, 1) := by decide +kernel
theorem dX0_copyFrom_33 : decode cX0_copyFrom 33 = .ok (.aload_n 1, 1) := by decide +kernel
theorem dX0_copyFrom_34 : decode cX0_copyFrom 34 = .ok (.getfield 25, 3) := by decide +kernel
theorem dX0_copyFrom_37 : decode cX0_copyFrom 37 = .ok (.putfield 25, 3) := by decide +kernel
theorem dX0_copyFrom_40 : decode cX0_copyFrom 40 = .ok (.aload_n 0, 1) := by decide +kernel
theorem dX0_copyFrom_41 : decode cX0_copyFrom 41 = .ok (.aload_n 1, 1) := by decide +kernel
theorem dX0_copyFrom_42 : decode cX0_copyFrom 42 = .ok (.getfield 34, 3) := by decide +kernel
theorem dX0_copyFrom_45 : decode cX0_copyFrom 45 = .ok (.putfield 34, 3) := by decide +kernel
theorem dX0_copyFrom_48 : decode cX0_copyFrom 48 = .ok (.aload_n 0, 1) := by decide +kernel
theorem dX0_copyFrom_49 : decode cX0_copyFrom 49 = .ok (.aload_n 1, 1) := by decide +kernel
theorem dX0_copyFrom_50 : decode cX0_copyFrom 50 = .ok (.getfield 38, 3) := by decide +kernel
theorem dX0_copyFrom_53 : decode cX0_copyFrom 53 = .ok (.putfield 38, 3) := by decide +kernel
theorem dX0_copyFrom_56 : decode cX0_copyFrom 56 = .ok (.aload_n 0, 1) := by decide +kernel
theorem dX0_copyFrom_57 : decode cX0_copyFrom 57 = .ok (.aload_n 1, 1) := by decide +kernel
theorem dX0_copyFrom_58 : decode cX0_copyFrom 58 = .ok (.getfield 41, 3) := by decide +kernel
theorem dX0_copyFrom_61 : decode cX0_copyFrom 61 = .ok (.putfield 41, 3) := by decide +kernel
theorem dX0_copyFrom_64 : decode cX0_copyFrom 64 = .ok (.aload_n 0, 1) := by decide +kernel
theorem dX0_copyFrom_65 : decode cX0_copyFrom 65 = .ok (.aload_n 1, 1) := by decide +kernel
theorem dX0_copyFrom_66 : decode cX0_copyFrom 66 = .ok (.getfield 63, 3) := by decide +kernel
theorem dX0_copyFrom_69 : decode cX0_copyFrom 69 = .ok (.putfield 63, 3) := by decide +kernel
theorem dX0_copyFrom_72 : decode cX0_copyFrom 72 = .ok (.aload_n 0, 1) := by decide +kernel
theorem dX0_copyFrom_73 : decode cX0_copyFrom 73 = .ok (.aload_n 1, 1) := by decide +kernel
theorem dX0_copyFrom_74 : decode cX0_copyFrom 74 = .ok (.getfield 66, 3) := by decide +kernel
theorem dX0_copyFrom_77 : decode cX0_copyFrom 77 = .ok (.putfield 66, 3) := by decide +kernel
theorem dX0_copyFrom_80 : decode cX0_copyFrom 80 = .ok (.aload_n 0, 1) := by decide +kernel
theorem dX0_copyFrom_81 : decode cX0_copyFrom 81 = .ok (.aload_n 1, 1) := by decide +kernel
theorem dX0_copyFrom_82 : decode cX0_copyFrom 82 = .ok (.getfield 69, 3) := by decide +kernel
theorem dX0_copyFrom_85 : decode cX0_copyFrom 85 = .ok (.putfield 69, 3) := by decide +kernel
theorem dX0_copyFrom_88 : decode cX0_copyFrom 88 = .ok (.aload_n 0, 1) := by decide +kernel
theorem dX0_copyFrom_89 : decode cX0_copyFrom 89 = .ok (.aload_n 1, 1) := by decide +kernel
theorem dX0_copyFrom_90 : decode cX0_copyFrom 90 = .ok (.getfield 72, 3) := by decide +kernel
theorem dX0_copyFrom_93 : decode cX0_copyFrom 93 = .ok (.putfield 72, 3) := by decide +kernel
theorem dX0_copyFrom_96 : decode cX0_copyFrom 96 = .ok (.aload_n 0, 1) := by decide +kernel
theorem dX0_copyFrom_97 : decode cX0_copyFrom 97 = .ok (.aload_n 1, 1) := by decide +kernel
theorem dX0_copyFrom_98 : decode cX0_copyFrom 98 = .ok (.getfield 44, 3) := by decide +kernel
theorem dX0_copyFrom_101 : decode cX0_copyFrom 101 = .ok (.putfield 44, 3) := by decide +kernel
theorem dX0_copyFrom_104 : decode cX0_copyFrom 104 = .ok (.aload_n 0, 1) := by decide +kernel
theorem dX0_copyFrom_105 : decode cX0_copyFrom 105 = .ok (.aload_n 1, 1) := by decide +kernel
theorem dX0_copyFrom_106 : decode cX0_copyFrom 106 = .ok (.getfield 48, 3) := by decide +kernel
theorem dX0_copyFrom_109 : decode cX0_copyFrom 109 = .ok (.putfield 48, 3) := by decide +kernel
theorem dX0_copyFrom_112 : decode cX0_copyFrom 112 = .ok (.aload_n 0, 1) := by decide +kernel
theorem dX0_copyFrom_113 : decode cX0_copyFrom 113 = .ok (.aload_n 1, 1) := by decide +kernel
theorem dX0_copyFrom_114 : decode cX0_copyFrom 114 = .ok (.getfield 51, 3) := by decide +kernel
theorem dX0_copyFrom_117 : decode cX0_copyFrom 117 = .ok (.putfield 51, 3) := by decide +kernel
theorem dX0_copyFrom_120 : decode cX0_copyFrom 120 = .ok (.aload_n 0, 1) := by decide +kernel
theorem dX0_copyFrom_121 : decode cX0_copyFrom 121 = .ok (.aload_n 1, 1) := by decide +kernel
theorem dX0_copyFrom_122 : decode cX0_copyFrom 122 = .ok (.getfield 54, 3) := by decide +kernel
theorem dX0_copyFrom_125 : decode cX0_copyFrom 125 = .ok (.putfield 54, 3) := by decide +kernel
theorem dX0_copyFrom_128 : decode cX0_copyFrom 128 = .ok (.aload_n 1, 1) := by decide +kernel
theorem dX0_copyFrom_129 : decode cX0_copyFrom 129 = .ok (.getfield 9, 3) := by decide +kernel
theorem dX0_copyFrom_132 : decode cX0_copyFrom 132 = .ok (.iconst 0, 1) := by decide +kernel
theorem dX0_copyFrom_133 : decode cX0_copyFrom 133 = .ok (.aload_n 0, 1) := by decide +kernel
theorem dX0_copyFrom_134 : decode cX0_copyFrom 134 = .ok (.getfield 9, 3) := by decide +kernel
theorem dX0_copyFrom_137 : decode cX0_copyFrom 137 = .ok (.iconst 0, 1) := by decide +kernel
theorem dX0_copyFrom_138 : decode cX0_copyFrom 138 = .ok (.iconst 3, 1) := by decide +kernel
theorem dX0_copyFrom_139 : decode cX0_copyFrom 139 = .ok (.invokestatic 75, 3) := by decide +kernel
theorem dX0_copyFrom_142 : decode cX0_copyFrom 142 = .ok (.aload_n 1, 1) := by decide +kernel
theorem dX0_copyFrom_143 : decode cX0_copyFrom 143 = .ok (.getfield 15, 3) := by decide +kernel
theorem dX0_copyFrom_146 : decode cX0_copyFrom 146 = .ok (.iconst 0, 1) := by decide +kernel
theorem dX0_copyFrom_147 : decode cX0_copyFrom 147 = .ok (.aload_n 0, 1) := by decide +kernel
theorem dX0_copyFrom_148 : decode cX0_copyFrom 148 = .ok (.getfield 15, 3) := by decide +kernel
theorem dX0_copyFrom_151 : decode cX0_copyFrom 151 = .ok (.iconst 0, 1) := by decide +kernel
theorem dX0_copyFrom_152 : decode cX0_copyFrom 152 = .ok (.sipush 200, 3) := by decide +kernel
theorem dX0_copyFrom_155 : decode cX0_copyFrom 155 = .ok (.invokestatic 75, 3) := by decide +kernel
theorem dX0_copyFrom_158 : decode cX0_copyFrom 158 = .ok (.return_, 1) := by decide +kernel
theorem dX0_balance_0 : decode cX0_balance 0 = .ok (.aload_n 0, 1) := by decide +kernel
theorem dX0_balance_1 : decode cX0_balance 1 = .ok (.getfield 44, 3) := by decide +kernel
theorem dX0_balance_4 : decode cX0_balance 4 = .ok (.aload_n 0, 1) := by decide +kernel
theorem dX0_balance_5 : decode cX0_balance 5 = .ok (.getfield 48, 3) := by decide +kernel
theorem dX0_balance_8 : decode cX0_balance 8 = .ok (.lsub, 1) := by decide +kernel
theorem dX0_balance_9 : decode cX0_balance 9 = .ok (.aload_n 0, 1) := by decide +kernel
theorem dX0_balance_10 : decode cX0_balance 10 = .ok (.getfield 51, 3) := by decide +kernel
theorem dX0_balance_13 : decode cX0_balance 13 = .ok (.lsub, 1) := by decide +kernel
theorem dX0_balance_14 : decode cX0_balance 14 = .ok (.aload_n 0, 1) := by decide +kernel
theorem dX0_balance_15 : decode cX0_balance 15 = .ok (.getfield 54, 3) := by decide +kernel
theorem dX0_balance_18 : decode cX0_balance 18 = .ok (.lsub, 1) := by decide +kernel
theorem dX0_balance_19 : decode cX0_balance 19 = .ok (.lreturn, 1) := by decide +kernel
theorem dX0_wishAt_0 : decode cX0_wishAt 0 = .ok (.iload_n 1, 1) := by decide +kernel
theorem dX0_wishAt_1 : decode cX0_wishAt 1 = .ok (.ifCond .lt 25, 3) := by decide +kernel
theorem dX0_wishAt_4 : decode cX0_wishAt 4 = .ok (.iload_n 1, 1) := by decide +kernel
theorem dX0_wishAt_5 : decode cX0_wishAt 5 = .ok (.aload_n 0, 1) := by decide +kernel
theorem dX0_wishAt_6 : decode cX0_wishAt 6 = .ok (.getfield 28, 3) := by decide +kernel
theorem dX0_wishAt_9 : decode cX0_wishAt 9 = .ok (.if_icmp .ge 17, 3) := by decide +kernel
theorem dX0_wishAt_12 : decode cX0_wishAt 12 = .ok (.iload_n 1, 1) := by decide +kernel
theorem dX0_wishAt_13 : decode cX0_wishAt 13 = .ok (.iconst 3, 1) := by decide +kernel
theorem dX0_wishAt_14 : decode cX0_wishAt 14 = .ok (.if_icmp .ge 12, 3) := by decide +kernel
theorem dX0_wishAt_17 : decode cX0_wishAt 17 = .ok (.aload_n 0, 1) := by decide +kernel
theorem dX0_wishAt_18 : decode cX0_wishAt 18 = .ok (.getfield 9, 3) := by decide +kernel
theorem dX0_wishAt_21 : decode cX0_wishAt 21 = .ok (.iload_n 1, 1) := by decide +kernel
theorem dX0_wishAt_22 : decode cX0_wishAt 22 = .ok (.iaload, 1) := by decide +kernel
theorem dX0_wishAt_23 : decode cX0_wishAt 23 = .ok (.goto 5, 3) := by decide +kernel
theorem dX0_wishAt_26 : decode cX0_wishAt 26 = .ok (.bipush (-6), 2) := by decide +kernel
theorem dX0_wishAt_28 : decode cX0_wishAt 28 = .ok (.ireturn, 1) := by decide +kernel
theorem dX0_addPoints_0 : decode cX0_addPoints 0 = .ok (.iload_n 1, 1) := by decide +kernel
theorem dX0_addPoints_1 : decode cX0_addPoints 1 = .ok (.sipush 200, 3) := by decide +kernel
theorem dX0_addPoints_4 : decode cX0_addPoints 4 = .ok (.irem, 1) := by decide +kernel
theorem dX0_addPoints_5 : decode cX0_addPoints 5 = .ok (.istore_n 3, 1) := by decide +kernel
theorem dX0_addPoints_6 : decode cX0_addPoints 6 = .ok (.iload_n 3, 1) := by decide +kernel
theorem dX0_addPoints_7 : decode cX0_addPoints 7 = .ok (.ifCond .lt 13, 3) := by decide +kernel
theorem dX0_addPoints_10 : decode cX0_addPoints 10 = .ok (.aload_n 0, 1) := by decide +kernel
theorem dX0_addPoints_11 : decode cX0_addPoints 11 = .ok (.getfield 15, 3) := by decide +kernel
theorem dX0_addPoints_14 : decode cX0_addPoints 14 = .ok (.iload_n 3, 1) := by decide +kernel
theorem dX0_addPoints_15 : decode cX0_addPoints 15 = .ok (.dup2, 1) := by decide +kernel
theorem dX0_addPoints_16 : decode cX0_addPoints 16 = .ok (.iaload, 1) := by decide +kernel
theorem dX0_addPoints_17 : decode cX0_addPoints 17 = .ok (.iload_n 2, 1) := by decide +kernel
theorem dX0_addPoints_18 : decode cX0_addPoints 18 = .ok (.iadd, 1) := by decide +kernel
theorem dX0_addPoints_19 : decode cX0_addPoints 19 = .ok (.iastore, 1) := by decide +kernel
theorem dX0_addPoints_20 : decode cX0_addPoints 20 = .ok (.return_, 1) := by decide +kernel
theorem dX0_dropPointsOfSameSpot_0 : decode cX0_dropPointsOfSameSpot 0 = .ok (.iload_n 1, 1) := by decide +kernel
theorem dX0_dropPointsOfSameSpot_1 : decode cX0_dropPointsOfSameSpot 1 = .ok (.sipush 200, 3) := by decide +kernel
theorem dX0_dropPointsOfSameSpot_4 : decode cX0_dropPointsOfSameSpot 4 = .ok (.irem, 1) := by decide +kernel
theorem dX0_dropPointsOfSameSpot_5 : decode cX0_dropPointsOfSameSpot 5 = .ok (.istore_n 2, 1) := by decide +kernel
theorem dX0_dropPointsOfSameSpot_6 : decode cX0_dropPointsOfSameSpot 6 = .ok (.iload_n 2, 1) := by decide +kernel
theorem dX0_dropPointsOfSameSpot_7 : decode cX0_dropPointsOfSameSpot 7 = .ok (.ifCond .lt 10, 3) := by decide +kernel
theorem dX0_dropPointsOfSameSpot_10 : decode cX0_dropPointsOfSameSpot 10 = .ok (.aload_n 0, 1) := by decide +kernel
theorem dX0_dropPointsOfSameSpot_11 : decode cX0_dropPointsOfSameSpot 11 = .ok (.getfield 15, 3) := by decide +kernel
theorem dX0_dropPointsOfSameSpot_14 : decode cX0_dropPointsOfSameSpot 14 = .ok (.iload_n 2, 1) := by decide +kernel
theorem dX0_dropPointsOfSameSpot_15 : decode cX0_dropPointsOfSameSpot 15 = .ok (.iconst 0, 1) := by decide +kernel
theorem dX0_dropPointsOfSameSpot_16 : decode cX0_dropPointsOfSameSpot 16 = .ok (.iastore, 1) := by decide +kernel
theorem dX0_dropPointsOfSameSpot_17 : decode cX0_dropPointsOfSameSpot 17 = .ok (.return_, 1) := by decide +kernel
theorem dX0_dropAllPoints_0 : decode cX0_dropAllPoints 0 = .ok (.iconst 0, 1) := by decide +kernel
theorem dX0_dropAllPoints_1 : decode cX0_dropAllPoints 1 = .ok (.istore_n 1, 1) := by decide +kernel
theorem dX0_dropAllPoints_2 : decode cX0_dropAllPoints 2 = .ok (.iload_n 1, 1) := by decide +kernel
theorem dX0_dropAllPoints_3 : decode cX0_dropAllPoints 3 = .ok (.sipush 200, 3) := by decide +kernel
theorem dX0_dropAllPoints_6 : decode cX0_dropAllPoints 6 = .ok (.if_icmp .ge 16, 3) := by decide +kernel
theorem dX0_dropAllPoints_9 : decode cX0_dropAllPoints 9 = .ok (.aload_n 0, 1) := by decide +kernel
theorem dX0_dropAllPoints_10 : decode cX0_dropAllPoints 10 = .ok (.getfield 15, 3) := by decide +kernel
theorem dX0_dropAllPoints_13 : decode cX0_dropAllPoints 13 = .ok (.iload_n 1, 1) := by decide +kernel
theorem dX0_dropAllPoints_14 : decode cX0_dropAllPoints 14 = .ok (.iconst 0, 1) := by decide +kernel
theorem dX0_dropAllPoints_15 : decode cX0_dropAllPoints 15 = .ok (.iastore, 1) := by decide +kernel
theorem dX0_dropAllPoints_16 : decode cX0_dropAllPoints 16 = .ok (.iinc 1 1, 3) := by decide +kernel
theorem dX0_dropAllPoints_19 : decode cX0_dropAllPoints 19 = .ok (.goto (-17), 3) := by decide +kernel
theorem dX0_dropAllPoints_22 : decode cX0_dropAllPoints 22 = .ok (.return_, 1) := by decide +kernel
theorem dX0_pointsLeft_0 : decode cX0_pointsLeft 0 = .ok (.iconst 0, 1) := by decide +kernel
theorem dX0_pointsLeft_1 : decode cX0_pointsLeft 1 = .ok (.istore 4, 2) := by decide +kernel
theorem dX0_pointsLeft_3 : decode cX0_pointsLeft 3 = .ok (.iconst 0, 1) := by decide +kernel
theorem dX0_pointsLeft_4 : decode cX0_pointsLeft 4 = .ok (.istore 5, 2) := by decide +kernel
theorem dX0_pointsLeft_6 : decode cX0_pointsLeft 6 = .ok (.iload 5, 2) := by decide +kernel
theorem dX0_pointsLeft_8 : decode cX0_pointsLeft 8 = .ok (.iload_n 3, 1) := by decide +kernel
theorem dX0_pointsLeft_9 : decode cX0_pointsLeft 9 = .ok (.if_icmp .ge 50, 3) := by decide +kernel
theorem dX0_pointsLeft_12 : decode cX0_pointsLeft 12 = .ok (.iload 5, 2) := by decide +kernel
theorem dX0_pointsLeft_14 : decode cX0_pointsLeft 14 = .ok (.sipush 200, 3) := by decide +kernel
theorem dX0_pointsLeft_17 : decode cX0_pointsLeft 17 = .ok (.if_icmp .ge 42, 3) := by decide +kernel
theorem dX0_pointsLeft_20 : decode cX0_pointsLeft 20 = .ok (.iload_n 1, 1) := by decide +kernel
theorem dX0_pointsLeft_21 : decode cX0_pointsLeft 21 = .ok (.iload 5, 2) := by decide +kernel
theorem dX0_pointsLeft_23 : decode cX0_pointsLeft 23 = .ok (.isub, 1) := by decide +kernel
theorem dX0_pointsLeft_24 : decode cX0_pointsLeft 24 = .ok (.istore 6, 2) := by decide +kernel
theorem dX0_pointsLeft_26 : decode cX0_pointsLeft 26 = .ok (.iload 6, 2) := by decide +kernel
theorem dX0_pointsLeft_28 : decode cX0_pointsLeft 28 = .ok (.ifCond .lt 25, 3) := by decide +kernel
theorem dX0_pointsLeft_31 : decode cX0_pointsLeft 31 = .ok (.iload 6, 2) := by decide +kernel
theorem dX0_pointsLeft_33 : decode cX0_pointsLeft 33 = .ok (.iload_n 2, 1) := by decide +kernel
theorem dX0_pointsLeft_34 : decode cX0_pointsLeft 34 = .ok (.if_icmp .gt 19, 3) := by decide +kernel
theorem dX0_pointsLeft_37 : decode cX0_pointsLeft 37 = .ok (.iload 4, 2) := by decide +kernel
theorem dX0_pointsLeft_39 : decode cX0_pointsLeft 39 = .ok (.aload_n 0, 1) := by decide +kernel
theorem dX0_pointsLeft_40 : decode cX0_pointsLeft 40 = .ok (.getfield 15, 3) := by decide +kernel
theorem dX0_pointsLeft_43 : decode cX0_pointsLeft 43 = .ok (.iload 6, 2) := by decide +kernel
theorem dX0_pointsLeft_45 : decode cX0_pointsLeft 45 = .ok (.sipush 200, 3) := by decide +kernel
theorem dX0_pointsLeft_48 : decode cX0_pointsLeft 48 = .ok (.irem, 1) := by decide +kernel
theorem dX0_pointsLeft_49 : decode cX0_pointsLeft 49 = .ok (.iaload, 1) := by decide +kernel
theorem dX0_pointsLeft_50 : decode cX0_pointsLeft 50 = .ok (.iadd, 1) := by decide +kernel
theorem dX0_pointsLeft_51 : decode cX0_pointsLeft 51 = .ok (.istore 4, 2) := by decide +kernel
theorem dX0_pointsLeft_53 : decode cX0_pointsLeft 53 = .ok (.iinc 5 1, 3) := by decide +kernel
theorem dX0_pointsLeft_56 : decode cX0_pointsLeft 56 = .ok (.goto (-50), 3) := by decide +kernel
theorem dX0_pointsLeft_59 : decode cX0_pointsLeft 59 = .ok (.iload 4, 2) := by decide +kernel
theorem dX0_pointsLeft_61 : decode cX0_pointsLeft 61 = .ok (.ireturn, 1) := by decide +kernel
theorem dX0_reasonBeforeLots_0 : decode cX0_reasonBeforeLots 0 = .ok (.aload_n 0, 1) := by decide +kernel
theorem dX0_reasonBeforeLots_1 : decode cX0_reasonBeforeLots 1 = .ok (.getfield 28, 3) := by decide +kernel
theorem dX0_reasonBeforeLots_4 : decode cX0_reasonBeforeLots 4 = .ok (.ifCond .ne 5, 3) := by decide +kernel
theorem dX0_reasonBeforeLots_7 : decode cX0_reasonBeforeLots 7 = .ok (.iconst 1, 1) := by decide +kernel
theorem dX0_reasonBeforeLots_8 : decode cX0_reasonBeforeLots 8 = .ok (.ireturn, 1) := by decide +kernel
theorem dX0_reasonBeforeLots_9 : decode cX0_reasonBeforeLots 9 = .ok (.aload_n 0, 1) := by decide +kernel
theorem dX0_reasonBeforeLots_10 : decode cX0_reasonBeforeLots 10 = .ok (.getfield 25, 3) := by decide +kernel
theorem dX0_reasonBeforeLots_13 : decode cX0_reasonBeforeLots 13 = .ok (.iload_n 1, 1) := by decide +kernel
theorem dX0_reasonBeforeLots_14 : decode cX0_reasonBeforeLots 14 = .ok (.if_icmp .ge 5, 3) := by decide +kernel
theorem dX0_reasonBeforeLots_17 : decode cX0_reasonBeforeLots 17 = .ok (.iconst 2, 1) := by decide +kernel
theorem dX0_reasonBeforeLots_18 : decode cX0_reasonBeforeLots 18 = .ok (.ireturn, 1) := by decide +kernel
theorem dX0_reasonBeforeLots_19 : decode cX0_reasonBeforeLots 19 = .ok (.aload_n 0, 1) := by decide +kernel
theorem dX0_reasonBeforeLots_20 : decode cX0_reasonBeforeLots 20 = .ok (.getfield 38, 3) := by decide +kernel
theorem dX0_reasonBeforeLots_23 : decode cX0_reasonBeforeLots 23 = .ok (.iload_n 1, 1) := by decide +kernel
theorem dX0_reasonBeforeLots_24 : decode cX0_reasonBeforeLots 24 = .ok (.if_icmp .lt 7, 3) := by decide +kernel
theorem dX0_reasonBeforeLots_27 : decode cX0_reasonBeforeLots 27 = .ok (.iconst 3, 1) := by decide +kernel
theorem dX0_reasonBeforeLots_28 : decode cX0_reasonBeforeLots 28 = .ok (.goto 4, 3) := by decide +kernel
theorem dX0_reasonBeforeLots_31 : decode cX0_reasonBeforeLots 31 = .ok (.iconst 4, 1) := by decide +kernel
theorem dX0_reasonBeforeLots_32 : decode cX0_reasonBeforeLots 32 = .ok (.ireturn, 1) := by decide +kernel
theorem dX1_runChecks_0 : decode cX1_runChecks 0 = .ok (.iconst 0, 1) := by decide +kernel
theorem dX1_runChecks_1 : decode cX1_runChecks 1 = .ok (.istore_n 1, 1) := by decide +kernel
theorem dX1_runChecks_2 : decode cX1_runChecks 2 = .ok (.iload_n 1, 1) := by decide +kernel
theorem dX1_runChecks_3 : decode cX1_runChecks 3 = .ok (.aload_n 0, 1) := by decide +kernel
theorem dX1_runChecks_4 : decode cX1_runChecks 4 = .ok (.getfield 9, 3) := by decide +kernel
theorem dX1_runChecks_7 : decode cX1_runChecks 7 = .ok (.iconst 2, 1) := by decide +kernel
theorem dX1_runChecks_8 : decode cX1_runChecks 8 = .ok (.iaload, 1) := by decide +kernel
theorem dX1_runChecks_9 : decode cX1_runChecks 9 = .ok (.if_icmp .ge 39, 3) := by decide +kernel
theorem dX1_runChecks_12 : decode cX1_runChecks 12 = .ok (.aload_n 0, 1) := by decide +kernel
theorem dX1_runChecks_13 : decode cX1_runChecks 13 = .ok (.invokestatic 15, 3) := by decide +kernel
theorem dX1_runChecks_16 : decode cX1_runChecks 16 = .ok (.astore_n 2, 1) := by decide +kernel
theorem dX1_runChecks_17 : decode cX1_runChecks 17 = .ok (.aload_n 2, 1) := by decide +kernel
theorem dX1_runChecks_18 : decode cX1_runChecks 18 = .ok (.ifnonnull 4, 3) := by decide +kernel
theorem dX1_runChecks_21 : decode cX1_runChecks 21 = .ok (.return_, 1) := by decide +kernel
theorem dX1_runChecks_22 : decode cX1_runChecks 22 = .ok (.aload_n 2, 1) := by decide +kernel
theorem dX1_runChecks_23 : decode cX1_runChecks 23 = .ok (.aload_n 0, 1) := by decide +kernel
theorem dX1_runChecks_24 : decode cX1_runChecks 24 = .ok (.getfield 21, 3) := by decide +kernel
theorem dX1_runChecks_27 : decode cX1_runChecks 27 = .ok (.aload_n 0, 1) := by decide +kernel
theorem dX1_runChecks_28 : decode cX1_runChecks 28 = .ok (.getfield 9, 3) := by decide +kernel
theorem dX1_runChecks_31 : decode cX1_runChecks 31 = .ok (.iconst 1, 1) := by decide +kernel
theorem dX1_runChecks_32 : decode cX1_runChecks 32 = .ok (.iaload, 1) := by decide +kernel
theorem dX1_runChecks_33 : decode cX1_runChecks 33 = .ok (.iadd, 1) := by decide +kernel
theorem dX1_runChecks_34 : decode cX1_runChecks 34 = .ok (.putfield 25, 3) := by decide +kernel
theorem dX1_runChecks_37 : decode cX1_runChecks 37 = .ok (.aload_n 2, 1) := by decide +kernel
theorem dX1_runChecks_38 : decode cX1_runChecks 38 = .ok (.iconst 0, 1) := by decide +kernel
theorem dX1_runChecks_39 : decode cX1_runChecks 39 = .ok (.putfield 30, 3) := by decide +kernel
theorem dX1_runChecks_42 : decode cX1_runChecks 42 = .ok (.iinc 1 1, 3) := by decide +kernel
theorem dX1_runChecks_45 : decode cX1_runChecks 45 = .ok (.goto (-43), 3) := by decide +kernel
theorem dX1_runChecks_48 : decode cX1_runChecks 48 = .ok (.return_, 1) := by decide +kernel
theorem dX1_nextToCheck_0 : decode cX1_nextToCheck 0 = .ok (.aconst_null, 1) := by decide +kernel
theorem dX1_nextToCheck_1 : decode cX1_nextToCheck 1 = .ok (.astore_n 1, 1) := by decide +kernel
theorem dX1_nextToCheck_2 : decode cX1_nextToCheck 2 = .ok (.iconst 0, 1) := by decide +kernel
theorem dX1_nextToCheck_3 : decode cX1_nextToCheck 3 = .ok (.istore_n 2, 1) := by decide +kernel
theorem dX1_nextToCheck_4 : decode cX1_nextToCheck 4 = .ok (.iload_n 2, 1) := by decide +kernel
theorem dX1_nextToCheck_5 : decode cX1_nextToCheck 5 = .ok (.aload_n 0, 1) := by decide +kernel
theorem dX1_nextToCheck_6 : decode cX1_nextToCheck 6 = .ok (.getfield 34, 3) := by decide +kernel
theorem dX1_nextToCheck_9 : decode cX1_nextToCheck 9 = .ok (.if_icmp .ge 40, 3) := by decide +kernel
theorem dX1_nextToCheck_12 : decode cX1_nextToCheck 12 = .ok (.aload_n 0, 1) := by decide +kernel
theorem dX1_nextToCheck_13 : decode cX1_nextToCheck 13 = .ok (.getfield 37, 3) := by decide +kernel
theorem dX1_nextToCheck_16 : decode cX1_nextToCheck 16 = .ok (.iload_n 2, 1) := by decide +kernel
theorem dX1_nextToCheck_17 : decode cX1_nextToCheck 17 = .ok (.aaload, 1) := by decide +kernel
theorem dX1_nextToCheck_18 : decode cX1_nextToCheck 18 = .ok (.astore_n 3, 1) := by decide +kernel
theorem dX1_nextToCheck_19 : decode cX1_nextToCheck 19 = .ok (.aload_n 3, 1) := by decide +kernel
theorem dX1_nextToCheck_20 : decode cX1_nextToCheck 20 = .ok (.getfield 30, 3) := by decide +kernel
theorem dX1_nextToCheck_23 : decode cX1_nextToCheck 23 = .ok (.ifCond .eq 20, 3) := by decide +kernel
theorem dX1_nextToCheck_26 : decode cX1_nextToCheck 26 = .ok (.aload_n 1, 1) := by decide +kernel
theorem dX1_nextToCheck_27 : decode cX1_nextToCheck 27 = .ok (.ifnull 14, 3) := by decide +kernel
theorem dX1_nextToCheck_30 : decode cX1_nextToCheck 30 = .ok (.aload_n 3, 1) := by decide +kernel
theorem dX1_nextToCheck_31 : decode cX1_nextToCheck 31 = .ok (.getfield 25, 3) := by decide +kernel
theorem dX1_nextToCheck_34 : decode cX1_nextToCheck 34 = .ok (.aload_n 1, 1) := by decide +kernel
theorem dX1_nextToCheck_35 : decode cX1_nextToCheck 35 = .ok (.getfield 25, 3) := by decide +kernel
theorem dX1_nextToCheck_38 : decode cX1_nextToCheck 38 = .ok (.if_icmp .ge 5, 3) := by decide +kernel
theorem dX1_nextToCheck_41 : decode cX1_nextToCheck 41 = .ok (.aload_n 3, 1) := by decide +kernel
theorem dX1_nextToCheck_42 : decode cX1_nextToCheck 42 = .ok (.astore_n 1, 1) := by decide +kernel
theorem dX1_nextToCheck_43 : decode cX1_nextToCheck 43 = .ok (.iinc 2 1, 3) := by decide +kernel
theorem dX1_nextToCheck_46 : decode cX1_nextToCheck 46 = .ok (.goto (-42), 3) := by decide +kernel
theorem dX1_nextToCheck_49 : decode cX1_nextToCheck 49 = .ok (.aload_n 1, 1) := by decide +kernel
theorem dX1_nextToCheck_50 : decode cX1_nextToCheck 50 = .ok (.areturn, 1) := by decide +kernel
theorem dX1_clearLastDay_0 : decode cX1_clearLastDay 0 = .ok (.iconst 0, 1) := by decide +kernel
theorem dX1_clearLastDay_1 : decode cX1_clearLastDay 1 = .ok (.istore_n 1, 1) := by decide +kernel
theorem dX1_clearLastDay_2 : decode cX1_clearLastDay 2 = .ok (.iload_n 1, 1) := by decide +kernel
theorem dX1_clearLastDay_3 : decode cX1_clearLastDay 3 = .ok (.aload_n 0, 1) := by decide +kernel
theorem dX1_clearLastDay_4 : decode cX1_clearLastDay 4 = .ok (.getfield 41, 3) := by decide +kernel
theorem dX1_clearLastDay_7 : decode cX1_clearLastDay 7 = .ok (.if_icmp .ge 20, 3) := by decide +kernel
theorem dX1_clearLastDay_10 : decode cX1_clearLastDay 10 = .ok (.aload_n 0, 1) := by decide +kernel
theorem dX1_clearLastDay_11 : decode cX1_clearLastDay 11 = .ok (.getfield 44, 3) := by decide +kernel
theorem dX1_clearLastDay_14 : decode cX1_clearLastDay 14 = .ok (.iload_n 1, 1) := by decide +kernel
theorem dX1_clearLastDay_15 : decode cX1_clearLastDay 15 = .ok (.aaload, 1) := by decide +kernel
theorem dX1_clearLastDay_16 : decode cX1_clearLastDay 16 = .ok (.bipush (-6), 2) := by decide +kernel
theorem dX1_clearLastDay_18 : decode cX1_clearLastDay 18 = .ok (.putfield 48, 3) := by decide +kernel
theorem dX1_clearLastDay_21 : decode cX1_clearLastDay 21 = .ok (.iinc 1 1, 3) := by decide +kernel
theorem dX1_clearLastDay_24 : decode cX1_clearLastDay 24 = .ok (.goto (-22), 3) := by decide +kernel
theorem dX1_clearLastDay_27 : decode cX1_clearLastDay 27 = .ok (.iconst 0, 1) := by decide +kernel
theorem dX1_clearLastDay_28 : decode cX1_clearLastDay 28 = .ok (.istore_n 1, 1) := by decide +kernel
theorem dX1_clearLastDay_29 : decode cX1_clearLastDay 29 = .ok (.iload_n 1, 1) := by decide +kernel
theorem dX1_clearLastDay_30 : decode cX1_clearLastDay 30 = .ok (.aload_n 0, 1) := by decide +kernel
theorem dX1_clearLastDay_31 : decode cX1_clearLastDay 31 = .ok (.getfield 34, 3) := by decide +kernel
theorem dX1_clearLastDay_34 : decode cX1_clearLastDay 34 = .ok (.if_icmp .ge 18, 3) := by decide +kernel
theorem dX1_clearLastDay_37 : decode cX1_clearLastDay 37 = .ok (.aload_n 0, 1) := by decide +kernel
theorem dX1_clearLastDay_38 : decode cX1_clearLastDay 38 = .ok (.getfield 37, 3) := by decide +kernel
theorem dX1_clearLastDay_41 : decode cX1_clearLastDay 41 = .ok (.iload_n 1, 1) := by decide +kernel
theorem dX1_clearLastDay_42 : decode cX1_clearLastDay 42 = .ok (.aaload, 1) := by decide +kernel
theorem dX1_clearLastDay_43 : decode cX1_clearLastDay 43 = .ok (.invokevirtual 53, 3) := by decide +kernel
theorem dX1_clearLastDay_46 : decode cX1_clearLastDay 46 = .ok (.iinc 1 1, 3) := by decide +kernel
theorem dX1_clearLastDay_49 : decode cX1_clearLastDay 49 = .ok (.goto (-20), 3) := by decide +kernel
theorem dX1_clearLastDay_52 : decode cX1_clearLastDay 52 = .ok (.return_, 1) := by decide +kernel
theorem dX1_drawLots_0 : decode cX1_drawLots 0 = .ok (.aload_n 0, 1) := by decide +kernel
theorem dX1_drawLots_1 : decode cX1_drawLots 1 = .ok (.invokestatic 56, 3) := by decide +kernel
theorem dX1_drawLots_4 : decode cX1_drawLots 4 = .ok (.istore_n 1, 1) := by decide +kernel
theorem dX1_drawLots_5 : decode cX1_drawLots 5 = .ok (.aload_n 0, 1) := by decide +kernel
theorem dX1_drawLots_6 : decode cX1_drawLots 6 = .ok (.iconst 0, 1) := by decide +kernel
theorem dX1_drawLots_7 : decode cX1_drawLots 7 = .ok (.putfield 60, 3) := by decide +kernel
theorem dX1_drawLots_10 : decode cX1_drawLots 10 = .ok (.iconst 0, 1) := by decide +kernel
theorem dX1_drawLots_11 : decode cX1_drawLots 11 = .ok (.istore_n 2, 1) := by decide +kernel
theorem dX1_drawLots_12 : decode cX1_drawLots 12 = .ok (.iload_n 1, 1) := by decide +kernel
theorem dX1_drawLots_13 : decode cX1_drawLots 13 = .ok (.ifCond .le 99, 3) := by decide +kernel
theorem dX1_drawLots_16 : decode cX1_drawLots 16 = .ok (.iload_n 2, 1) := by decide +kernel
theorem dX1_drawLots_17 : decode cX1_drawLots 17 = .ok (.aload_n 0, 1) := by decide +kernel
theorem dX1_drawLots_18 : decode cX1_drawLots 18 = .ok (.getfield 34, 3) := by decide +kernel
theorem dX1_drawLots_21 : decode cX1_drawLots 21 = .ok (.if_icmp .ge 91, 3) := by decide +kernel
theorem dX1_drawLots_24 : decode cX1_drawLots 24 = .ok (.aload_n 0, 1) := by decide +kernel
theorem dX1_drawLots_25 : decode cX1_drawLots 25 = .ok (.bipush 75, 2) := by decide +kernel
theorem dX1_drawLots_27 : decode cX1_drawLots 27 = .ok (.aload_n 0, 1) := by decide +kernel
theorem dX1_drawLots_28 : decode cX1_drawLots 28 = .ok (.getfield 63, 3) := by decide +kernel
theorem dX1_drawLots_31 : decode cX1_drawLots 31 = .ok (.imul, 1) := by decide +kernel
theorem dX1_drawLots_32 : decode cX1_drawLots 32 = .ok (.bipush 74, 2) := by decide +kernel
theorem dX1_drawLots_34 : decode cX1_drawLots 34 = .ok (.iadd, 1) := by decide +kernel
theorem dX1_drawLots_35 : decode cX1_drawLots 35 = .ok (.ldc 66, 2) := by decide +kernel
theorem dX1_drawLots_37 : decode cX1_drawLots 37 = .ok (.irem, 1) := by decide +kernel
theorem dX1_drawLots_38 : decode cX1_drawLots 38 = .ok (.putfield 63, 3) := by decide +kernel
theorem dX1_drawLots_41 : decode cX1_drawLots 41 = .ok (.aload_n 0, 1) := by decide +kernel
theorem dX1_drawLots_42 : decode cX1_drawLots 42 = .ok (.aload_n 0, 1) := by decide +kernel
theorem dX1_drawLots_43 : decode cX1_drawLots 43 = .ok (.getfield 63, 3) := by decide +kernel
theorem dX1_drawLots_46 : decode cX1_drawLots 46 = .ok (.iload_n 1, 1) := by decide +kernel
theorem dX1_drawLots_47 : decode cX1_drawLots 47 = .ok (.irem, 1) := by decide +kernel
theorem dX1_drawLots_48 : decode cX1_drawLots 48 = .ok (.invokestatic 67, 3) := by decide +kernel
theorem dX1_drawLots_51 : decode cX1_drawLots 51 = .ok (.istore_n 3, 1) := by decide +kernel
theorem dX1_drawLots_52 : decode cX1_drawLots 52 = .ok (.aload_n 0, 1) := by decide +kernel
theorem dX1_drawLots_53 : decode cX1_drawLots 53 = .ok (.iload_n 3, 1) := by decide +kernel
theorem dX1_drawLots_54 : decode cX1_drawLots 54 = .ok (.invokevirtual 71, 3) := by decide +kernel
theorem dX1_drawLots_57 : decode cX1_drawLots 57 = .ok (.ifCond .ne 4, 3) := by decide +kernel
theorem dX1_drawLots_60 : decode cX1_drawLots 60 = .ok (.return_, 1) := by decide +kernel
theorem dX1_drawLots_61 : decode cX1_drawLots 61 = .ok (.iload_n 1, 1) := by decide +kernel
theorem dX1_drawLots_62 : decode cX1_drawLots 62 = .ok (.aload_n 0, 1) := by decide +kernel
theorem dX1_drawLots_63 : decode cX1_drawLots 63 = .ok (.getfield 75, 3) := by decide +kernel
theorem dX1_drawLots_66 : decode cX1_drawLots 66 = .ok (.iload_n 3, 1) := by decide +kernel
theorem dX1_drawLots_67 : decode cX1_drawLots 67 = .ok (.iaload, 1) := by decide +kernel
theorem dX1_drawLots_68 : decode cX1_drawLots 68 = .ok (.isub, 1) := by decide +kernel
theorem dX1_drawLots_69 : decode cX1_drawLots 69 = .ok (.istore_n 1, 1) := by decide +kernel
theorem dX1_drawLots_70 : decode cX1_drawLots 70 = .ok (.aload_n 0, 1) := by decide +kernel
theorem dX1_drawLots_71 : decode cX1_drawLots 71 = .ok (.getfield 75, 3) := by decide +kernel
theorem dX1_drawLots_74 : decode cX1_drawLots 74 = .ok (.iload_n 3, 1) := by decide +kernel
theorem dX1_drawLots_75 : decode cX1_drawLots 75 = .ok (.iconst 0, 1) := by decide +kernel
theorem dX1_drawLots_76 : decode cX1_drawLots 76 = .ok (.iastore, 1) := by decide +kernel
theorem dX1_drawLots_77 : decode cX1_drawLots 77 = .ok (.aload_n 0, 1) := by decide +kernel
theorem dX1_drawLots_78 : decode cX1_drawLots 78 = .ok (.getfield 78, 3) := by decide +kernel
theorem dX1_drawLots_81 : decode cX1_drawLots 81 = .ok (.iload_n 2, 1) := by decide +kernel
theorem dX1_drawLots_82 : decode cX1_drawLots 82 = .ok (.iload_n 3, 1) := by decide +kernel
theorem dX1_drawLots_83 : decode cX1_drawLots 83 = .ok (.iastore, 1) := by decide +kernel
theorem dX1_drawLots_84 : decode cX1_drawLots 84 = .ok (.aload_n 0, 1) := by decide +kernel
theorem dX1_drawLots_85 : decode cX1_drawLots 85 = .ok (.iload_n 2, 1) := by decide +kernel
theorem dX1_drawLots_86 : decode cX1_drawLots 86 = .ok (.iconst 1, 1) := by decide +kernel
theorem dX1_drawLots_87 : decode cX1_drawLots 87 = .ok (.iadd, 1) := by decide +kernel
theorem dX1_drawLots_88 : decode cX1_drawLots 88 = .ok (.putfield 60, 3) := by decide +kernel
theorem dX1_drawLots_91 : decode cX1_drawLots 91 = .ok (.aload_n 0, 1) := by decide +kernel
theorem dX1_drawLots_92 : decode cX1_drawLots 92 = .ok (.getfield 37, 3) := by decide +kernel
theorem dX1_drawLots_95 : decode cX1_drawLots 95 = .ok (.iload_n 3, 1) := by decide +kernel
theorem dX1_drawLots_96 : decode cX1_drawLots 96 = .ok (.aaload, 1) := by decide +kernel
theorem dX1_drawLots_97 : decode cX1_drawLots 97 = .ok (.iload_n 2, 1) := by decide +kernel
theorem dX1_drawLots_98 : decode cX1_drawLots 98 = .ok (.putfield 81, 3) := by decide +kernel
theorem dX1_drawLots_101 : decode cX1_drawLots 101 = .ok (.aload_n 0, 1) := by decide +kernel
theorem dX1_drawLots_102 : decode cX1_drawLots 102 = .ok (.iload_n 3, 1) := by decide +kernel
theorem dX1_drawLots_103 : decode cX1_drawLots 103 = .ok (.invokestatic 84, 3) := by decide +kernel
theorem dX1_drawLots_106 : decode cX1_drawLots 106 = .ok (.iinc 2 1, 3) := by decide +kernel
theorem dX1_drawLots_109 : decode cX1_drawLots 109 = .ok (.goto (-97), 3) := by decide +kernel
theorem dX1_drawLots_112 : decode cX1_drawLots 112 = .ok (.return_, 1) := by decide +kernel
theorem dX1_handOutTickets_0 : decode cX1_handOutTickets 0 = .ok (.iconst 0, 1) := by decide +kernel
theorem dX1_handOutTickets_1 : decode cX1_handOutTickets 1 = .ok (.istore_n 1, 1) := by decide +kernel
theorem dX1_handOutTickets_2 : decode cX1_handOutTickets 2 = .ok (.iconst 0, 1) := by decide +kernel
theorem dX1_handOutTickets_3 : decode cX1_handOutTickets 3 = .ok (.istore_n 2, 1) := by decide +kernel
theorem dX1_handOutTickets_4 : decode cX1_handOutTickets 4 = .ok (.iload_n 2, 1) := by decide +kernel
theorem dX1_handOutTickets_5 : decode cX1_handOutTickets 5 = .ok (.aload_n 0, 1) := by decide +kernel
theorem dX1_handOutTickets_6 : decode cX1_handOutTickets 6 = .ok (.getfield 34, 3) := by decide +kernel
theorem dX1_handOutTickets_9 : decode cX1_handOutTickets 9 = .ok (.if_icmp .ge 82, 3) := by decide +kernel
theorem dX1_handOutTickets_12 : decode cX1_handOutTickets 12 = .ok (.aload_n 0, 1) := by decide +kernel
theorem dX1_handOutTickets_13 : decode cX1_handOutTickets 13 = .ok (.getfield 37, 3) := by decide +kernel
theorem dX1_handOutTickets_16 : decode cX1_handOutTickets 16 = .ok (.iload_n 2, 1) := by decide +kernel
theorem dX1_handOutTickets_17 : decode cX1_handOutTickets 17 = .ok (.aaload, 1) := by decide +kernel
theorem dX1_handOutTickets_18 : decode cX1_handOutTickets 18 = .ok (.astore_n 3, 1) := by decide +kernel
theorem dX1_handOutTickets_19 : decode cX1_handOutTickets 19 = .ok (.aload_n 3, 1) := by decide +kernel
theorem dX1_handOutTickets_20 : decode cX1_handOutTickets 20 = .ok (.aload_n 3, 1) := by decide +kernel
theorem dX1_handOutTickets_21 : decode cX1_handOutTickets 21 = .ok (.aload_n 0, 1) := by decide +kernel
theorem dX1_handOutTickets_22 : decode cX1_handOutTickets 22 = .ok (.getfield 21, 3) := by decide +kernel
theorem dX1_handOutTickets_25 : decode cX1_handOutTickets 25 = .ok (.invokevirtual 88, 3) := by decide +kernel
theorem dX1_handOutTickets_28 : decode cX1_handOutTickets 28 = .ok (.putfield 92, 3) := by decide +kernel
theorem dX1_handOutTickets_31 : decode cX1_handOutTickets 31 = .ok (.aload_n 3, 1) := by decide +kernel
theorem dX1_handOutTickets_32 : decode cX1_handOutTickets 32 = .ok (.getfield 92, 3) := by decide +kernel
theorem dX1_handOutTickets_35 : decode cX1_handOutTickets 35 = .ok (.iconst 4, 1) := by decide +kernel
theorem dX1_handOutTickets_36 : decode cX1_handOutTickets 36 = .ok (.if_icmp .ne 7, 3) := by decide +kernel
theorem dX1_handOutTickets_39 : decode cX1_handOutTickets 39 = .ok (.iconst 1, 1) := by decide +kernel
theorem dX1_handOutTickets_40 : decode cX1_handOutTickets 40 = .ok (.goto 4, 3) := by decide +kernel
theorem dX1_handOutTickets_43 : decode cX1_handOutTickets 43 = .ok (.iconst 0, 1) := by decide +kernel
theorem dX1_handOutTickets_44 : decode cX1_handOutTickets 44 = .ok (.istore 4, 2) := by decide +kernel
theorem dX1_handOutTickets_46 : decode cX1_handOutTickets 46 = .ok (.aload_n 0, 1) := by decide +kernel
theorem dX1_handOutTickets_47 : decode cX1_handOutTickets 47 = .ok (.getfield 75, 3) := by decide +kernel
theorem dX1_handOutTickets_50 : decode cX1_handOutTickets 50 = .ok (.iload_n 2, 1) := by decide +kernel
theorem dX1_handOutTickets_51 : decode cX1_handOutTickets 51 = .ok (.iload 4, 2) := by decide +kernel
theorem dX1_handOutTickets_53 : decode cX1_handOutTickets 53 = .ok (.ifCond .eq 21, 3) := by decide +kernel
theorem dX1_handOutTickets_56 : decode cX1_handOutTickets 56 = .ok (.iconst 1, 1) := by decide +kernel
theorem dX1_handOutTickets_57 : decode cX1_handOutTickets 57 = .ok (.aload_n 3, 1) := by decide +kernel
theorem dX1_handOutTickets_58 : decode cX1_handOutTickets 58 = .ok (.getfield 95, 3) := by decide +kernel
theorem dX1_handOutTickets_61 : decode cX1_handOutTickets 61 = .ok (.iadd, 1) := by decide +kernel
theorem dX1_handOutTickets_62 : decode cX1_handOutTickets 62 = .ok (.aload_n 0, 1) := by decide +kernel
theorem dX1_handOutTickets_63 : decode cX1_handOutTickets 63 = .ok (.getfield 9, 3) := by decide +kernel
theorem dX1_handOutTickets_66 : decode cX1_handOutTickets 66 = .ok (.iconst 0, 1) := by decide +kernel
theorem dX1_handOutTickets_67 : decode cX1_handOutTickets 67 = .ok (.iaload, 1) := by decide +kernel
theorem dX1_handOutTickets_68 : decode cX1_handOutTickets 68 = .ok (.invokestatic 98, 3) := by decide +kernel
theorem dX1_handOutTickets_71 : decode cX1_handOutTickets 71 = .ok (.goto 4, 3) := by decide +kernel
theorem dX1_handOutTickets_74 : decode cX1_handOutTickets 74 = .ok (.iconst 0, 1) := by decide +kernel
theorem dX1_handOutTickets_75 : decode cX1_handOutTickets 75 = .ok (.iastore, 1) := by decide +kernel
theorem dX1_handOutTickets_76 : decode cX1_handOutTickets 76 = .ok (.iload_n 1, 1) := by decide +kernel
theorem dX1_handOutTickets_77 : decode cX1_handOutTickets 77 = .ok (.aload_n 0, 1) := by decide +kernel
theorem dX1_handOutTickets_78 : decode cX1_handOutTickets 78 = .ok (.getfield 75, 3) := by decide +kernel
theorem dX1_handOutTickets_81 : decode cX1_handOutTickets 81 = .ok (.iload_n 2, 1) := by decide +kernel
theorem dX1_handOutTickets_82 : decode cX1_handOutTickets 82 = .ok (.iaload, 1) := by decide +kernel
theorem dX1_handOutTickets_83 : decode cX1_handOutTickets 83 = .ok (.iadd, 1) := by decide +kernel
theorem dX1_handOutTickets_84 : decode cX1_handOutTickets 84 = .ok (.istore_n 1, 1) := by decide +kernel
theorem dX1_handOutTickets_85 : decode cX1_handOutTickets 85 = .ok (.iinc 2 1, 3) := by decide +kernel
theorem dX1_handOutTickets_88 : decode cX1_handOutTickets 88 = .ok (.goto (-84), 3) := by decide +kernel
theorem dX1_handOutTickets_91 : decode cX1_handOutTickets 91 = .ok (.iload_n 1, 1) := by decide +kernel
theorem dX1_handOutTickets_92 : decode cX1_handOutTickets 92 = .ok (.ireturn, 1) := by decide +kernel
theorem dX1_holderOfTicket_0 : decode cX1_holderOfTicket 0 = .ok (.iconst 0, 1) := by decide +kernel
theorem dX1_holderOfTicket_1 : decode cX1_holderOfTicket 1 = .ok (.istore_n 2, 1) := by decide +kernel
theorem dX1_holderOfTicket_2 : decode cX1_holderOfTicket 2 = .ok (.iconst 0, 1) := by decide +kernel
theorem dX1_holderOfTicket_3 : decode cX1_holderOfTicket 3 = .ok (.istore_n 3, 1) := by decide +kernel
theorem dX1_holderOfTicket_4 : decode cX1_holderOfTicket 4 = .ok (.iload_n 3, 1) := by decide +kernel
theorem dX1_holderOfTicket_5 : decode cX1_holderOfTicket 5 = .ok (.aload_n 0, 1) := by decide +kernel
theorem dX1_holderOfTicket_6 : decode cX1_holderOfTicket 6 = .ok (.getfield 34, 3) := by decide +kernel
theorem dX1_holderOfTicket_9 : decode cX1_holderOfTicket 9 = .ok (.if_icmp .ge 25, 3) := by decide +kernel
theorem dX1_holderOfTicket_12 : decode cX1_holderOfTicket 12 = .ok (.iload_n 2, 1) := by decide +kernel
theorem dX1_holderOfTicket_13 : decode cX1_holderOfTicket 13 = .ok (.aload_n 0, 1) := by decide +kernel
theorem dX1_holderOfTicket_14 : decode cX1_holderOfTicket 14 = .ok (.getfield 75, 3) := by decide +kernel
theorem dX1_holderOfTicket_17 : decode cX1_holderOfTicket 17 = .ok (.iload_n 3, 1) := by decide +kernel
theorem dX1_holderOfTicket_18 : decode cX1_holderOfTicket 18 = .ok (.iaload, 1) := by decide +kernel
theorem dX1_holderOfTicket_19 : decode cX1_holderOfTicket 19 = .ok (.iadd, 1) := by decide +kernel
theorem dX1_holderOfTicket_20 : decode cX1_holderOfTicket 20 = .ok (.istore_n 2, 1) := by decide +kernel
theorem dX1_holderOfTicket_21 : decode cX1_holderOfTicket 21 = .ok (.iload_n 1, 1) := by decide +kernel
theorem dX1_holderOfTicket_22 : decode cX1_holderOfTicket 22 = .ok (.iload_n 2, 1) := by decide +kernel
theorem dX1_holderOfTicket_23 : decode cX1_holderOfTicket 23 = .ok (.if_icmp .ge 5, 3) := by decide +kernel
theorem dX1_holderOfTicket_26 : decode cX1_holderOfTicket 26 = .ok (.iload_n 3, 1) := by decide +kernel
theorem dX1_holderOfTicket_27 : decode cX1_holderOfTicket 27 = .ok (.ireturn, 1) := by decide +kernel
theorem dX1_holderOfTicket_28 : decode cX1_holderOfTicket 28 = .ok (.iinc 3 1, 3) := by decide +kernel
theorem dX1_holderOfTicket_31 : decode cX1_holderOfTicket 31 = .ok (.goto (-27), 3) := by decide +kernel
theorem dX1_holderOfTicket_34 : decode cX1_holderOfTicket 34 = .ok (.bipush (-6), 2) := by decide +kernel
theorem dX1_holderOfTicket_36 : decode cX1_holderOfTicket 36 = .ok (.ireturn, 1) := by decide +kernel
theorem dX1_choosePitch_0 : decode cX1_choosePitch 0 = .ok (.aload_n 0, 1) := by decide +kernel
theorem dX1_choosePitch_1 : decode cX1_choosePitch 1 = .ok (.iload_n 1, 1) := by decide +kernel
theorem dX1_choosePitch_2 : decode cX1_choosePitch 2 = .ok (.invokevirtual 71, 3) := by decide +kernel
theorem dX1_choosePitch_5 : decode cX1_choosePitch 5 = .ok (.ifCond .ne 4, 3) := by decide +kernel
theorem dX1_choosePitch_8 : decode cX1_choosePitch 8 = .ok (.return_, 1) := by decide +kernel
theorem dX1_choosePitch_9 : decode cX1_choosePitch 9 = .ok (.aload_n 0, 1) := by decide +kernel
theorem dX1_choosePitch_10 : decode cX1_choosePitch 10 = .ok (.getfield 37, 3) := by decide +kernel
theorem dX1_choosePitch_13 : decode cX1_choosePitch 13 = .ok (.iload_n 1, 1) := by decide +kernel
theorem dX1_choosePitch_14 : decode cX1_choosePitch 14 = .ok (.aaload, 1) := by decide +kernel
theorem dX1_choosePitch_15 : decode cX1_choosePitch 15 = .ok (.astore_n 2, 1) := by decide +kernel
theorem dX1_choosePitch_16 : decode cX1_choosePitch 16 = .ok (.iconst 0, 1) := by decide +kernel
theorem dX1_choosePitch_17 : decode cX1_choosePitch 17 = .ok (.istore_n 3, 1) := by decide +kernel
theorem dX1_choosePitch_18 : decode cX1_choosePitch 18 = .ok (.iload_n 3, 1) := by decide +kernel
theorem dX1_choosePitch_19 : decode cX1_choosePitch 19 = .ok (.aload_n 2, 1) := by decide +kernel
theorem dX1_choosePitch_20 : decode cX1_choosePitch 20 = .ok (.getfield 104, 3) := by decide +kernel
theorem dX1_choosePitch_23 : decode cX1_choosePitch 23 = .ok (.if_icmp .ge 63, 3) := by decide +kernel
theorem dX1_choosePitch_26 : decode cX1_choosePitch 26 = .ok (.aload_n 2, 1) := by decide +kernel
theorem dX1_choosePitch_27 : decode cX1_choosePitch 27 = .ok (.iload_n 3, 1) := by decide +kernel
theorem dX1_choosePitch_28 : decode cX1_choosePitch 28 = .ok (.invokevirtual 107, 3) := by decide +kernel
theorem dX1_choosePitch_31 : decode cX1_choosePitch 31 = .ok (.istore 4, 2) := by decide +kernel
theorem dX1_choosePitch_33 : decode cX1_choosePitch 33 = .ok (.aload_n 0, 1) := by decide +kernel
theorem dX1_choosePitch_34 : decode cX1_choosePitch 34 = .ok (.iload 4, 2) := by decide +kernel
theorem dX1_choosePitch_36 : decode cX1_choosePitch 36 = .ok (.invokevirtual 110, 3) := by decide +kernel
theorem dX1_choosePitch_39 : decode cX1_choosePitch 39 = .ok (.ifCond .eq 41, 3) := by decide +kernel
theorem dX1_choosePitch_42 : decode cX1_choosePitch 42 = .ok (.aload_n 0, 1) := by decide +kernel
theorem dX1_choosePitch_43 : decode cX1_choosePitch 43 = .ok (.getfield 44, 3) := by decide +kernel
theorem dX1_choosePitch_46 : decode cX1_choosePitch 46 = .ok (.iload 4, 2) := by decide +kernel
theorem dX1_choosePitch_48 : decode cX1_choosePitch 48 = .ok (.aaload, 1) := by decide +kernel
theorem dX1_choosePitch_49 : decode cX1_choosePitch 49 = .ok (.getfield 48, 3) := by decide +kernel
theorem dX1_choosePitch_52 : decode cX1_choosePitch 52 = .ok (.bipush (-6), 2) := by decide +kernel
theorem dX1_choosePitch_54 : decode cX1_choosePitch 54 = .ok (.if_icmp .ne 26, 3) := by decide +kernel
theorem dX1_choosePitch_57 : decode cX1_choosePitch 57 = .ok (.aload_n 0, 1) := by decide +kernel
theorem dX1_choosePitch_58 : decode cX1_choosePitch 58 = .ok (.iload_n 1, 1) := by decide +kernel
theorem dX1_choosePitch_59 : decode cX1_choosePitch 59 = .ok (.iload 4, 2) := by decide +kernel
theorem dX1_choosePitch_61 : decode cX1_choosePitch 61 = .ok (.invokevirtual 113, 3) := by decide +kernel
theorem dX1_choosePitch_64 : decode cX1_choosePitch 64 = .ok (.ifCond .ne 16, 3) := by decide +kernel
theorem dX1_choosePitch_67 : decode cX1_choosePitch 67 = .ok (.aload_n 0, 1) := by decide +kernel
theorem dX1_choosePitch_68 : decode cX1_choosePitch 68 = .ok (.iload_n 1, 1) := by decide +kernel
theorem dX1_choosePitch_69 : decode cX1_choosePitch 69 = .ok (.iload 4, 2) := by decide +kernel
theorem dX1_choosePitch_71 : decode cX1_choosePitch 71 = .ok (.invokevirtual 117, 3) := by decide +kernel
theorem dX1_choosePitch_74 : decode cX1_choosePitch 74 = .ok (.aload_n 2, 1) := by decide +kernel
theorem dX1_choosePitch_75 : decode cX1_choosePitch 75 = .ok (.iconst 0, 1) := by decide +kernel
theorem dX1_choosePitch_76 : decode cX1_choosePitch 76 = .ok (.putfield 92, 3) := by decide +kernel
theorem dX1_choosePitch_79 : decode cX1_choosePitch 79 = .ok (.return_, 1) := by decide +kernel
theorem dX1_choosePitch_80 : decode cX1_choosePitch 80 = .ok (.iinc 3 1, 3) := by decide +kernel
theorem dX1_choosePitch_83 : decode cX1_choosePitch 83 = .ok (.goto (-65), 3) := by decide +kernel
theorem dX1_choosePitch_86 : decode cX1_choosePitch 86 = .ok (.return_, 1) := by decide +kernel
theorem dX1_shareKitchens_0 : decode cX1_shareKitchens 0 = .ok (.iconst 0, 1) := by decide +kernel
theorem dX1_shareKitchens_1 : decode cX1_shareKitchens 1 = .ok (.istore_n 1, 1) := by decide +kernel
theorem dX1_shareKitchens_2 : decode cX1_shareKitchens 2 = .ok (.iconst 0, 1) := by decide +kernel
theorem dX1_shareKitchens_3 : decode cX1_shareKitchens 3 = .ok (.istore_n 2, 1) := by decide +kernel
theorem dX1_shareKitchens_4 : decode cX1_shareKitchens 4 = .ok (.iconst 0, 1) := by decide +kernel
theorem dX1_shareKitchens_5 : decode cX1_shareKitchens 5 = .ok (.istore_n 3, 1) := by decide +kernel
theorem dX1_shareKitchens_6 : decode cX1_shareKitchens 6 = .ok (.iload_n 3, 1) := by decide +kernel
theorem dX1_shareKitchens_7 : decode cX1_shareKitchens 7 = .ok (.aload_n 0, 1) := by decide +kernel
theorem dX1_shareKitchens_8 : decode cX1_shareKitchens 8 = .ok (.getfield 60, 3) := by decide +kernel
theorem dX1_shareKitchens_11 : decode cX1_shareKitchens 11 = .ok (.if_icmp .ge 149, 3) := by decide +kernel
theorem dX1_shareKitchens_14 : decode cX1_shareKitchens 14 = .ok (.aload_n 0, 1) := by decide +kernel
theorem dX1_shareKitchens_15 : decode cX1_shareKitchens 15 = .ok (.getfield 78, 3) := by decide +kernel
theorem dX1_shareKitchens_18 : decode cX1_shareKitchens 18 = .ok (.iload_n 3, 1) := by decide +kernel
theorem dX1_shareKitchens_19 : decode cX1_shareKitchens 19 = .ok (.iaload, 1) := by decide +kernel
theorem dX1_shareKitchens_20 : decode cX1_shareKitchens 20 = .ok (.istore 4, 2) := by decide +kernel
theorem dX1_shareKitchens_22 : decode cX1_shareKitchens 22 = .ok (.aload_n 0, 1) := by decide +kernel
theorem dX1_shareKitchens_23 : decode cX1_shareKitchens 23 = .ok (.iload 4, 2) := by decide +kernel
theorem dX1_shareKitchens_25 : decode cX1_shareKitchens 25 = .ok (.invokevirtual 71, 3) := by decide +kernel
theorem dX1_shareKitchens_28 : decode cX1_shareKitchens 28 = .ok (.ifCond .eq 126, 3) := by decide +kernel
theorem dX1_shareKitchens_31 : decode cX1_shareKitchens 31 = .ok (.aload_n 0, 1) := by decide +kernel
theorem dX1_shareKitchens_32 : decode cX1_shareKitchens 32 = .ok (.getfield 37, 3) := by decide +kernel
theorem dX1_shareKitchens_35 : decode cX1_shareKitchens 35 = .ok (.iload 4, 2) := by decide +kernel
theorem dX1_shareKitchens_37 : decode cX1_shareKitchens 37 = .ok (.aaload, 1) := by decide +kernel
theorem dX1_shareKitchens_38 : decode cX1_shareKitchens 38 = .ok (.getfield 121, 3) := by decide +kernel
theorem dX1_shareKitchens_41 : decode cX1_shareKitchens 41 = .ok (.bipush (-6), 2) := by decide +kernel
theorem dX1_shareKitchens_43 : decode cX1_shareKitchens 43 = .ok (.if_icmp .ne 6, 3) := by decide +kernel
theorem dX1_shareKitchens_46 : decode cX1_shareKitchens 46 = .ok (.goto 108, 3) := by decide +kernel
theorem dX1_shareKitchens_49 : decode cX1_shareKitchens 49 = .ok (.aload_n 0, 1) := by decide +kernel
theorem dX1_shareKitchens_50 : decode cX1_shareKitchens 50 = .ok (.getfield 37, 3) := by decide +kernel
theorem dX1_shareKitchens_53 : decode cX1_shareKitchens 53 = .ok (.iload 4, 2) := by decide +kernel
theorem dX1_shareKitchens_55 : decode cX1_shareKitchens 55 = .ok (.aaload, 1) := by decide +kernel
theorem dX1_shareKitchens_56 : decode cX1_shareKitchens 56 = .ok (.astore 5, 2) := by decide +kernel
theorem dX1_shareKitchens_58 : decode cX1_shareKitchens 58 = .ok (.iload_n 1, 1) := by decide +kernel
theorem dX1_shareKitchens_59 : decode cX1_shareKitchens 59 = .ok (.iload_n 2, 1) := by decide +kernel
theorem dX1_shareKitchens_60 : decode cX1_shareKitchens 60 = .ok (.invokestatic 98, 3) := by decide +kernel
theorem dX1_shareKitchens_63 : decode cX1_shareKitchens 63 = .ok (.istore 6, 2) := by decide +kernel
theorem dX1_shareKitchens_65 : decode cX1_shareKitchens 65 = .ok (.iload 6, 2) := by decide +kernel
theorem dX1_shareKitchens_67 : decode cX1_shareKitchens 67 = .ok (.aload 5, 2) := by decide +kernel
theorem dX1_shareKitchens_69 : decode cX1_shareKitchens 69 = .ok (.getfield 124, 3) := by decide +kernel
theorem dX1_shareKitchens_72 : decode cX1_shareKitchens 72 = .ok (.iadd, 1) := by decide +kernel
theorem dX1_shareKitchens_73 : decode cX1_shareKitchens 73 = .ok (.aload_n 0, 1) := by decide +kernel
theorem dX1_shareKitchens_74 : decode cX1_shareKitchens 74 = .ok (.getfield 9, 3) := by decide +kernel
theorem dX1_shareKitchens_77 : decode cX1_shareKitchens 77 = .ok (.bipush 8, 2) := by decide +kernel
theorem dX1_shareKitchens_79 : decode cX1_shareKitchens 79 = .ok (.iaload, 1) := by decide +kernel
theorem dX1_shareKitchens_80 : decode cX1_shareKitchens 80 = .ok (.if_icmp .le 42, 3) := by decide +kernel
theorem dX1_shareKitchens_83 : decode cX1_shareKitchens 83 = .ok (.aload_n 0, 1) := by decide +kernel
theorem dX1_shareKitchens_84 : decode cX1_shareKitchens 84 = .ok (.aload 5, 2) := by decide +kernel
theorem dX1_shareKitchens_86 : decode cX1_shareKitchens 86 = .ok (.invokevirtual 127, 3) := by decide +kernel
theorem dX1_shareKitchens_89 : decode cX1_shareKitchens 89 = .ok (.aload 5, 2) := by decide +kernel
theorem dX1_shareKitchens_91 : decode cX1_shareKitchens 91 = .ok (.iconst 5, 1) := by decide +kernel
theorem dX1_shareKitchens_92 : decode cX1_shareKitchens 92 = .ok (.putfield 92, 3) := by decide +kernel
theorem dX1_shareKitchens_95 : decode cX1_shareKitchens 95 = .ok (.aload_n 0, 1) := by decide +kernel
theorem dX1_shareKitchens_96 : decode cX1_shareKitchens 96 = .ok (.getfield 9, 3) := by decide +kernel
theorem dX1_shareKitchens_99 : decode cX1_shareKitchens 99 = .ok (.bipush 7, 2) := by decide +kernel
theorem dX1_shareKitchens_101 : decode cX1_shareKitchens 101 = .ok (.iaload, 1) := by decide +kernel
theorem dX1_shareKitchens_102 : decode cX1_shareKitchens 102 = .ok (.ifCond .le 52, 3) := by decide +kernel
theorem dX1_shareKitchens_105 : decode cX1_shareKitchens 105 = .ok (.aload_n 0, 1) := by decide +kernel
theorem dX1_shareKitchens_106 : decode cX1_shareKitchens 106 = .ok (.aload 5, 2) := by decide +kernel
theorem dX1_shareKitchens_108 : decode cX1_shareKitchens 108 = .ok (.aload_n 0, 1) := by decide +kernel
theorem dX1_shareKitchens_109 : decode cX1_shareKitchens 109 = .ok (.getfield 9, 3) := by decide +kernel
theorem dX1_shareKitchens_112 : decode cX1_shareKitchens 112 = .ok (.bipush 7, 2) := by decide +kernel
theorem dX1_shareKitchens_114 : decode cX1_shareKitchens 114 = .ok (.iaload, 1) := by decide +kernel
theorem dX1_shareKitchens_115 : decode cX1_shareKitchens 115 = .ok (.invokevirtual 131, 3) := by decide +kernel
theorem dX1_shareKitchens_118 : decode cX1_shareKitchens 118 = .ok (.pop, 1) := by decide +kernel
theorem dX1_shareKitchens_119 : decode cX1_shareKitchens 119 = .ok (.goto 35, 3) := by decide +kernel
theorem dX1_shareKitchens_122 : decode cX1_shareKitchens 122 = .ok (.aload 5, 2) := by decide +kernel
theorem dX1_shareKitchens_124 : decode cX1_shareKitchens 124 = .ok (.iload 6, 2) := by decide +kernel
theorem dX1_shareKitchens_126 : decode cX1_shareKitchens 126 = .ok (.putfield 135, 3) := by decide +kernel
theorem dX1_shareKitchens_129 : decode cX1_shareKitchens 129 = .ok (.iload 6, 2) := by decide +kernel
theorem dX1_shareKitchens_131 : decode cX1_shareKitchens 131 = .ok (.iload_n 1, 1) := by decide +kernel
theorem dX1_shareKitchens_132 : decode cX1_shareKitchens 132 = .ok (.if_icmp .ne 14, 3) := by decide +kernel
theorem dX1_shareKitchens_135 : decode cX1_shareKitchens 135 = .ok (.iload_n 1, 1) := by decide +kernel
theorem dX1_shareKitchens_136 : decode cX1_shareKitchens 136 = .ok (.aload 5, 2) := by decide +kernel
theorem dX1_shareKitchens_138 : decode cX1_shareKitchens 138 = .ok (.getfield 124, 3) := by decide +kernel
theorem dX1_shareKitchens_141 : decode cX1_shareKitchens 141 = .ok (.iadd, 1) := by decide +kernel
theorem dX1_shareKitchens_142 : decode cX1_shareKitchens 142 = .ok (.istore_n 1, 1) := by decide +kernel
theorem dX1_shareKitchens_143 : decode cX1_shareKitchens 143 = .ok (.goto 11, 3) := by decide +kernel
theorem dX1_shareKitchens_146 : decode cX1_shareKitchens 146 = .ok (.iload_n 2, 1) := by decide +kernel
theorem dX1_shareKitchens_147 : decode cX1_shareKitchens 147 = .ok (.aload 5, 2) := by decide +kernel
theorem dX1_shareKitchens_149 : decode cX1_shareKitchens 149 = .ok (.getfield 124, 3) := by decide +kernel
theorem dX1_shareKitchens_152 : decode cX1_shareKitchens 152 = .ok (.iadd, 1) := by decide +kernel
theorem dX1_shareKitchens_153 : decode cX1_shareKitchens 153 = .ok (.istore_n 2, 1) := by decide +kernel
theorem dX1_shareKitchens_154 : decode cX1_shareKitchens 154 = .ok (.iinc 3 1, 3) := by decide +kernel
theorem dX1_shareKitchens_157 : decode cX1_shareKitchens 157 = .ok (.goto (-151), 3) := by decide +kernel
theorem dX1_shareKitchens_160 : decode cX1_shareKitchens 160 = .ok (.return_, 1) := by decide +kernel
theorem dX1_makeSwaps_0 : decode cX1_makeSwaps 0 = .ok (.iconst 0, 1) := by decide +kernel
theorem dX1_makeSwaps_1 : decode cX1_makeSwaps 1 = .ok (.istore_n 1, 1) := by decide +kernel
theorem dX1_makeSwaps_2 : decode cX1_makeSwaps 2 = .ok (.iload_n 1, 1) := by decide +kernel
theorem dX1_makeSwaps_3 : decode cX1_makeSwaps 3 = .ok (.aload_n 0, 1) := by decide +kernel
theorem dX1_makeSwaps_4 : decode cX1_makeSwaps 4 = .ok (.getfield 138, 3) := by decide +kernel
theorem dX1_makeSwaps_7 : decode cX1_makeSwaps 7 = .ok (.if_icmp .ge 86, 3) := by decide +kernel
theorem dX1_makeSwaps_10 : decode cX1_makeSwaps 10 = .ok (.aload_n 0, 1) := by decide +kernel
theorem dX1_makeSwaps_11 : decode cX1_makeSwaps 11 = .ok (.getfield 141, 3) := by decide +kernel
theorem dX1_makeSwaps_14 : decode cX1_makeSwaps 14 = .ok (.iload_n 1, 1) := by decide +kernel
theorem dX1_makeSwaps_15 : decode cX1_makeSwaps 15 = .ok (.iaload, 1) := by decide +kernel
theorem dX1_makeSwaps_16 : decode cX1_makeSwaps 16 = .ok (.istore_n 2, 1) := by decide +kernel
theorem dX1_makeSwaps_17 : decode cX1_makeSwaps 17 = .ok (.aload_n 0, 1) := by decide +kernel
theorem dX1_makeSwaps_18 : decode cX1_makeSwaps 18 = .ok (.getfield 144, 3) := by decide +kernel
theorem dX1_makeSwaps_21 : decode cX1_makeSwaps 21 = .ok (.iload_n 1, 1) := by decide +kernel
theorem dX1_makeSwaps_22 : decode cX1_makeSwaps 22 = .ok (.iaload, 1) := by decide +kernel
theorem dX1_makeSwaps_23 : decode cX1_makeSwaps 23 = .ok (.istore_n 3, 1) := by decide +kernel
theorem dX1_makeSwaps_24 : decode cX1_makeSwaps 24 = .ok (.aload_n 0, 1) := by decide +kernel
theorem dX1_makeSwaps_25 : decode cX1_makeSwaps 25 = .ok (.iload_n 2, 1) := by decide +kernel
theorem dX1_makeSwaps_26 : decode cX1_makeSwaps 26 = .ok (.iload_n 3, 1) := by decide +kernel
theorem dX1_makeSwaps_27 : decode cX1_makeSwaps 27 = .ok (.invokestatic 147, 3) := by decide +kernel
theorem dX1_makeSwaps_30 : decode cX1_makeSwaps 30 = .ok (.ifCond .eq 57, 3) := by decide +kernel
theorem dX1_makeSwaps_33 : decode cX1_makeSwaps 33 = .ok (.aload_n 0, 1) := by decide +kernel
theorem dX1_makeSwaps_34 : decode cX1_makeSwaps 34 = .ok (.getfield 37, 3) := by decide +kernel
theorem dX1_makeSwaps_37 : decode cX1_makeSwaps 37 = .ok (.iload_n 2, 1) := by decide +kernel
theorem dX1_makeSwaps_38 : decode cX1_makeSwaps 38 = .ok (.aaload, 1) := by decide +kernel
theorem dX1_makeSwaps_39 : decode cX1_makeSwaps 39 = .ok (.dup, 1) := by decide +kernel
theorem dX1_makeSwaps_40 : decode cX1_makeSwaps 40 = .ok (.getfield 151, 3) := by decide +kernel
theorem dX1_makeSwaps_43 : decode cX1_makeSwaps 43 = .ok (.aload_n 0, 1) := by decide +kernel
theorem dX1_makeSwaps_44 : decode cX1_makeSwaps 44 = .ok (.getfield 9, 3) := by decide +kernel
theorem dX1_makeSwaps_47 : decode cX1_makeSwaps 47 = .ok (.bipush 9, 2) := by decide +kernel
theorem dX1_makeSwaps_49 : decode cX1_makeSwaps 49 = .ok (.iaload, 1) := by decide +kernel
theorem dX1_makeSwaps_50 : decode cX1_makeSwaps 50 = .ok (.i2l, 1) := by decide +kernel
theorem dX1_makeSwaps_51 : decode cX1_makeSwaps 51 = .ok (.ladd, 1) := by decide +kernel
theorem dX1_makeSwaps_52 : decode cX1_makeSwaps 52 = .ok (.putfield 151, 3) := by decide +kernel
theorem dX1_makeSwaps_55 : decode cX1_makeSwaps 55 = .ok (.aload_n 0, 1) := by decide +kernel
theorem dX1_makeSwaps_56 : decode cX1_makeSwaps 56 = .ok (.getfield 37, 3) := by decide +kernel
theorem dX1_makeSwaps_59 : decode cX1_makeSwaps 59 = .ok (.iload_n 3, 1) := by decide +kernel
theorem dX1_makeSwaps_60 : decode cX1_makeSwaps 60 = .ok (.aaload, 1) := by decide +kernel
theorem dX1_makeSwaps_61 : decode cX1_makeSwaps 61 = .ok (.dup, 1) := by decide +kernel
theorem dX1_makeSwaps_62 : decode cX1_makeSwaps 62 = .ok (.getfield 151, 3) := by decide +kernel
theorem dX1_makeSwaps_65 : decode cX1_makeSwaps 65 = .ok (.aload_n 0, 1) := by decide +kernel
theorem dX1_makeSwaps_66 : decode cX1_makeSwaps 66 = .ok (.getfield 9, 3) := by decide +kernel
theorem dX1_makeSwaps_69 : decode cX1_makeSwaps 69 = .ok (.bipush 9, 2) := by decide +kernel
theorem dX1_makeSwaps_71 : decode cX1_makeSwaps 71 = .ok (.iaload, 1) := by decide +kernel
theorem dX1_makeSwaps_72 : decode cX1_makeSwaps 72 = .ok (.i2l, 1) := by decide +kernel
theorem dX1_makeSwaps_73 : decode cX1_makeSwaps 73 = .ok (.ladd, 1) := by decide +kernel
theorem dX1_makeSwaps_74 : decode cX1_makeSwaps 74 = .ok (.putfield 151, 3) := by decide +kernel
theorem dX1_makeSwaps_77 : decode cX1_makeSwaps 77 = .ok (.aload_n 0, 1) := by decide +kernel
theorem dX1_makeSwaps_78 : decode cX1_makeSwaps 78 = .ok (.dup, 1) := by decide +kernel
theorem dX1_makeSwaps_79 : decode cX1_makeSwaps 79 = .ok (.getfield 155, 3) := by decide +kernel
theorem dX1_makeSwaps_82 : decode cX1_makeSwaps 82 = .ok (.iconst 1, 1) := by decide +kernel
theorem dX1_makeSwaps_83 : decode cX1_makeSwaps 83 = .ok (.iadd, 1) := by decide +kernel
theorem dX1_makeSwaps_84 : decode cX1_makeSwaps 84 = .ok (.putfield 155, 3) := by decide +kernel
theorem dX1_makeSwaps_87 : decode cX1_makeSwaps 87 = .ok (.iinc 1 1, 3) := by decide +kernel
theorem dX1_makeSwaps_90 : decode cX1_makeSwaps 90 = .ok (.goto (-88), 3) := by decide +kernel
theorem dX1_makeSwaps_93 : decode cX1_makeSwaps 93 = .ok (.aload_n 0, 1) := by decide +kernel
theorem dX1_makeSwaps_94 : decode cX1_makeSwaps 94 = .ok (.iconst 0, 1) := by decide +kernel
theorem dX1_makeSwaps_95 : decode cX1_makeSwaps 95 = .ok (.putfield 138, 3) := by decide +kernel
theorem dX1_makeSwaps_98 : decode cX1_makeSwaps 98 = .ok (.return_, 1) := by decide +kernel
theorem dX1_exchange_0 : decode cX1_exchange 0 = .ok (.aload_n 0, 1) := by decide +kernel
theorem dX1_exchange_1 : decode cX1_exchange 1 = .ok (.iload_n 1, 1) := by decide +kernel
theorem dX1_exchange_2 : decode cX1_exchange 2 = .ok (.invokevirtual 71, 3) := by decide +kernel
theorem dX1_exchange_5 : decode cX1_exchange 5 = .ok (.ifCond .eq 11, 3) := by decide +kernel
theorem dX1_exchange_8 : decode cX1_exchange 8 = .ok (.aload_n 0, 1) := by decide +kernel
theorem dX1_exchange_9 : decode cX1_exchange 9 = .ok (.iload_n 2, 1) := by decide +kernel
theorem dX1_exchange_10 : decode cX1_exchange 10 = .ok (.invokevirtual 71, 3) := by decide +kernel
theorem dX1_exchange_13 : decode cX1_exchange 13 = .ok (.ifCond .ne 5, 3) := by decide +kernel
theorem dX1_exchange_16 : decode cX1_exchange 16 = .ok (.iconst 0, 1) := by decide +kernel
theorem dX1_exchange_17 : decode cX1_exchange 17 = .ok (.ireturn, 1) := by decide +kernel
theorem dX1_exchange_18 : decode cX1_exchange 18 = .ok (.aload_n 0, 1) := by decide +kernel
theorem dX1_exchange_19 : decode cX1_exchange 19 = .ok (.getfield 37, 3) := by decide +kernel
theorem dX1_exchange_22 : decode cX1_exchange 22 = .ok (.iload_n 1, 1) := by decide +kernel
theorem dX1_exchange_23 : decode cX1_exchange 23 = .ok (.aaload, 1) := by decide +kernel
theorem dX1_exchange_24 : decode cX1_exchange 24 = .ok (.getfield 121, 3) := by decide +kernel
theorem dX1_exchange_27 : decode cX1_exchange 27 = .ok (.istore_n 3, 1) := by decide +kernel
theorem dX1_exchange_28 : decode cX1_exchange 28 = .ok (.aload_n 0, 1) := by decide +kernel
theorem dX1_exchange_29 : decode cX1_exchange 29 = .ok (.getfield 37, 3) := by decide +kernel
theorem dX1_exchange_32 : decode cX1_exchange 32 = .ok (.iload_n 2, 1) := by decide +kernel
theorem dX1_exchange_33 : decode cX1_exchange 33 = .ok (.aaload, 1) := by decide +kernel
theorem dX1_exchange_34 : decode cX1_exchange 34 = .ok (.getfield 121, 3) := by decide +kernel
theorem dX1_exchange_37 : decode cX1_exchange 37 = .ok (.istore 4, 2) := by decide +kernel
theorem dX1_exchange_39 : decode cX1_exchange 39 = .ok (.aload_n 0, 1) := by decide +kernel
theorem dX1_exchange_40 : decode cX1_exchange 40 = .ok (.iload_n 3, 1) := by decide +kernel
theorem dX1_exchange_41 : decode cX1_exchange 41 = .ok (.invokevirtual 110, 3) := by decide +kernel
theorem dX1_exchange_44 : decode cX1_exchange 44 = .ok (.ifCond .eq 12, 3) := by decide +kernel
theorem dX1_exchange_47 : decode cX1_exchange 47 = .ok (.aload_n 0, 1) := by decide +kernel
theorem dX1_exchange_48 : decode cX1_exchange 48 = .ok (.iload 4, 2) := by decide +kernel
theorem dX1_exchange_50 : decode cX1_exchange 50 = .ok (.invokevirtual 110, 3) := by decide +kernel
theorem dX1_exchange_53 : decode cX1_exchange 53 = .ok (.ifCond .ne 5, 3) := by decide +kernel
theorem dX1_exchange_56 : decode cX1_exchange 56 = .ok (.iconst 0, 1) := by decide +kernel
theorem dX1_exchange_57 : decode cX1_exchange 57 = .ok (.ireturn, 1) := by decide +kernel
theorem dX1_exchange_58 : decode cX1_exchange 58 = .ok (.aload_n 0, 1) := by decide +kernel
theorem dX1_exchange_59 : decode cX1_exchange 59 = .ok (.iload_n 1, 1) := by decide +kernel
theorem dX1_exchange_60 : decode cX1_exchange 60 = .ok (.iload 4, 2) := by decide +kernel
theorem dX1_exchange_62 : decode cX1_exchange 62 = .ok (.invokevirtual 117, 3) := by decide +kernel
theorem dX1_exchange_65 : decode cX1_exchange 65 = .ok (.aload_n 0, 1) := by decide +kernel
theorem dX1_exchange_66 : decode cX1_exchange 66 = .ok (.iload_n 2, 1) := by decide +kernel
theorem dX1_exchange_67 : decode cX1_exchange 67 = .ok (.iload_n 3, 1) := by decide +kernel
theorem dX1_exchange_68 : decode cX1_exchange 68 = .ok (.invokevirtual 117, 3) := by decide +kernel
theorem dX1_exchange_71 : decode cX1_exchange 71 = .ok (.aload_n 0, 1) := by decide +kernel
theorem dX1_exchange_72 : decode cX1_exchange 72 = .ok (.iload_n 1, 1) := by decide +kernel
theorem dX1_exchange_73 : decode cX1_exchange 73 = .ok (.iload 4, 2) := by decide +kernel
theorem dX1_exchange_75 : decode cX1_exchange 75 = .ok (.invokevirtual 113, 3) := by decide +kernel
theorem dX1_exchange_78 : decode cX1_exchange 78 = .ok (.ifCond .ne 12, 3) := by decide +kernel
theorem dX1_exchange_81 : decode cX1_exchange 81 = .ok (.aload_n 0, 1) := by decide +kernel
theorem dX1_exchange_82 : decode cX1_exchange 82 = .ok (.iload_n 2, 1) := by decide +kernel
theorem dX1_exchange_83 : decode cX1_exchange 83 = .ok (.iload_n 3, 1) := by decide +kernel
theorem dX1_exchange_84 : decode cX1_exchange 84 = .ok (.invokevirtual 113, 3) := by decide +kernel
theorem dX1_exchange_87 : decode cX1_exchange 87 = .ok (.ifCond .eq 18, 3) := by decide +kernel
theorem dX1_exchange_90 : decode cX1_exchange 90 = .ok (.aload_n 0, 1) := by decide +kernel
theorem dX1_exchange_91 : decode cX1_exchange 91 = .ok (.iload_n 1, 1) := by decide +kernel
theorem dX1_exchange_92 : decode cX1_exchange 92 = .ok (.iload_n 3, 1) := by decide +kernel
theorem dX1_exchange_93 : decode cX1_exchange 93 = .ok (.invokevirtual 117, 3) := by decide +kernel
theorem dX1_exchange_96 : decode cX1_exchange 96 = .ok (.aload_n 0, 1) := by decide +kernel
theorem dX1_exchange_97 : decode cX1_exchange 97 = .ok (.iload_n 2, 1) := by decide +kernel
theorem dX1_exchange_98 : decode cX1_exchange 98 = .ok (.iload 4, 2) := by decide +kernel
theorem dX1_exchange_100 : decode cX1_exchange 100 = .ok (.invokevirtual 117, 3) := by decide +kernel
theorem dX1_exchange_103 : decode cX1_exchange 103 = .ok (.iconst 0, 1) := by decide +kernel
theorem dX1_exchange_104 : decode cX1_exchange 104 = .ok (.ireturn, 1) := by decide +kernel
theorem dX1_exchange_105 : decode cX1_exchange 105 = .ok (.iconst 1, 1) := by decide +kernel
theorem dX1_exchange_106 : decode cX1_exchange 106 = .ok (.ireturn, 1) := by decide +kernel
theorem dX1_trade_0 : decode cX1_trade 0 = .ok (.iconst 0, 1) := by decide +kernel
theorem dX1_trade_1 : decode cX1_trade 1 = .ok (.istore_n 1, 1) := by decide +kernel
theorem dX1_trade_2 : decode cX1_trade 2 = .ok (.iload_n 1, 1) := by decide +kernel
theorem dX1_trade_3 : decode cX1_trade 3 = .ok (.aload_n 0, 1) := by decide +kernel
theorem dX1_trade_4 : decode cX1_trade 4 = .ok (.getfield 34, 3) := by decide +kernel
theorem dX1_trade_7 : decode cX1_trade 7 = .ok (.if_icmp .ge 111, 3) := by decide +kernel
theorem dX1_trade_10 : decode cX1_trade 10 = .ok (.aload_n 0, 1) := by decide +kernel
theorem dX1_trade_11 : decode cX1_trade 11 = .ok (.getfield 37, 3) := by decide +kernel
theorem dX1_trade_14 : decode cX1_trade 14 = .ok (.iload_n 1, 1) := by decide +kernel
theorem dX1_trade_15 : decode cX1_trade 15 = .ok (.aaload, 1) := by decide +kernel
theorem dX1_trade_16 : decode cX1_trade 16 = .ok (.astore_n 2, 1) := by decide +kernel
theorem dX1_trade_17 : decode cX1_trade 17 = .ok (.aload_n 0, 1) := by decide +kernel
theorem dX1_trade_18 : decode cX1_trade 18 = .ok (.aload_n 2, 1) := by decide +kernel
theorem dX1_trade_19 : decode cX1_trade 19 = .ok (.getfield 121, 3) := by decide +kernel
theorem dX1_trade_22 : decode cX1_trade 22 = .ok (.invokevirtual 110, 3) := by decide +kernel
theorem dX1_trade_25 : decode cX1_trade 25 = .ok (.ifCond .eq 68, 3) := by decide +kernel
theorem dX1_trade_28 : decode cX1_trade 28 = .ok (.aload_n 0, 1) := by decide +kernel
theorem dX1_trade_29 : decode cX1_trade 29 = .ok (.getfield 44, 3) := by decide +kernel
theorem dX1_trade_32 : decode cX1_trade 32 = .ok (.aload_n 2, 1) := by decide +kernel
theorem dX1_trade_33 : decode cX1_trade 33 = .ok (.getfield 121, 3) := by decide +kernel
theorem dX1_trade_36 : decode cX1_trade 36 = .ok (.aaload, 1) := by decide +kernel
theorem dX1_trade_37 : decode cX1_trade 37 = .ok (.astore_n 3, 1) := by decide +kernel
theorem dX1_trade_38 : decode cX1_trade 38 = .ok (.aload_n 2, 1) := by decide +kernel
theorem dX1_trade_39 : decode cX1_trade 39 = .ok (.dup, 1) := by decide +kernel
theorem dX1_trade_40 : decode cX1_trade 40 = .ok (.getfield 158, 3) := by decide +kernel
theorem dX1_trade_43 : decode cX1_trade 43 = .ok (.aload_n 3, 1) := by decide +kernel
theorem dX1_trade_44 : decode cX1_trade 44 = .ok (.getfield 161, 3) := by decide +kernel
theorem dX1_trade_47 : decode cX1_trade 47 = .ok (.i2l, 1) := by decide +kernel
theorem dX1_trade_48 : decode cX1_trade 48 = .ok (.ladd, 1) := by decide +kernel
theorem dX1_trade_49 : decode cX1_trade 49 = .ok (.putfield 158, 3) := by decide +kernel
theorem dX1_trade_52 : decode cX1_trade 52 = .ok (.aload_n 2, 1) := by decide +kernel
theorem dX1_trade_53 : decode cX1_trade 53 = .ok (.dup, 1) := by decide +kernel
theorem dX1_trade_54 : decode cX1_trade 54 = .ok (.getfield 164, 3) := by decide +kernel
theorem dX1_trade_57 : decode cX1_trade 57 = .ok (.iconst 1, 1) := by decide +kernel
theorem dX1_trade_58 : decode cX1_trade 58 = .ok (.iadd, 1) := by decide +kernel
theorem dX1_trade_59 : decode cX1_trade 59 = .ok (.putfield 164, 3) := by decide +kernel
theorem dX1_trade_62 : decode cX1_trade 62 = .ok (.aload_n 2, 1) := by decide +kernel
theorem dX1_trade_63 : decode cX1_trade 63 = .ok (.iconst 0, 1) := by decide +kernel
theorem dX1_trade_64 : decode cX1_trade 64 = .ok (.putfield 95, 3) := by decide +kernel
theorem dX1_trade_67 : decode cX1_trade 67 = .ok (.aload_n 3, 1) := by decide +kernel
theorem dX1_trade_68 : decode cX1_trade 68 = .ok (.dup, 1) := by decide +kernel
theorem dX1_trade_69 : decode cX1_trade 69 = .ok (.getfield 167, 3) := by decide +kernel
theorem dX1_trade_72 : decode cX1_trade 72 = .ok (.aload_n 3, 1) := by decide +kernel
theorem dX1_trade_73 : decode cX1_trade 73 = .ok (.getfield 161, 3) := by decide +kernel
theorem dX1_trade_76 : decode cX1_trade 76 = .ok (.iadd, 1) := by decide +kernel
theorem dX1_trade_77 : decode cX1_trade 77 = .ok (.putfield 167, 3) := by decide +kernel
theorem dX1_trade_80 : decode cX1_trade 80 = .ok (.aload_n 3, 1) := by decide +kernel
theorem dX1_trade_81 : decode cX1_trade 81 = .ok (.dup, 1) := by decide +kernel
theorem dX1_trade_82 : decode cX1_trade 82 = .ok (.getfield 170, 3) := by decide +kernel
theorem dX1_trade_85 : decode cX1_trade 85 = .ok (.iconst 1, 1) := by decide +kernel
theorem dX1_trade_86 : decode cX1_trade 86 = .ok (.iadd, 1) := by decide +kernel
theorem dX1_trade_87 : decode cX1_trade 87 = .ok (.putfield 170, 3) := by decide +kernel
theorem dX1_trade_90 : decode cX1_trade 90 = .ok (.goto 22, 3) := by decide +kernel
theorem dX1_trade_93 : decode cX1_trade 93 = .ok (.aload_n 2, 1) := by decide +kernel
theorem dX1_trade_94 : decode cX1_trade 94 = .ok (.getfield 81, 3) := by decide +kernel
theorem dX1_trade_97 : decode cX1_trade 97 = .ok (.bipush (-6), 2) := by decide +kernel
theorem dX1_trade_99 : decode cX1_trade 99 = .ok (.if_icmp .eq 13, 3) := by decide +kernel
theorem dX1_trade_102 : decode cX1_trade 102 = .ok (.aload_n 2, 1) := by decide +kernel
theorem dX1_trade_103 : decode cX1_trade 103 = .ok (.dup, 1) := by decide +kernel
theorem dX1_trade_104 : decode cX1_trade 104 = .ok (.getfield 95, 3) := by decide +kernel
theorem dX1_trade_107 : decode cX1_trade 107 = .ok (.iconst 1, 1) := by decide +kernel
theorem dX1_trade_108 : decode cX1_trade 108 = .ok (.iadd, 1) := by decide +kernel
theorem dX1_trade_109 : decode cX1_trade 109 = .ok (.putfield 95, 3) := by decide +kernel
theorem dX1_trade_112 : decode cX1_trade 112 = .ok (.iinc 1 1, 3) := by decide +kernel
theorem dX1_trade_115 : decode cX1_trade 115 = .ok (.goto (-113), 3) := by decide +kernel
theorem dX1_trade_118 : decode cX1_trade 118 = .ok (.return_, 1) := by decide +kernel
theorem dX2_init_0 : decode cX2_init 0 = .ok (.aload_n 0, 1) := by decide +kernel
theorem dX2_init_1 : decode cX2_init 1 = .ok (.invokespecial 3, 3) := by decide +kernel
theorem dX2_init_4 : decode cX2_init 4 = .ok (.aload_n 0, 1) := by decide +kernel
theorem dX2_init_5 : decode cX2_init 5 = .ok (.bipush 7, 2) := by decide +kernel
theorem dX2_init_7 : decode cX2_init 7 = .ok (.anewarray 11, 3) := by decide +kernel
theorem dX2_init_10 : decode cX2_init 10 = .ok (.putfield 13, 3) := by decide +kernel
theorem dX2_init_13 : decode cX2_init 13 = .ok (.iconst 0, 1) := by decide +kernel
theorem dX2_init_14 : decode cX2_init 14 = .ok (.istore_n 1, 1) := by decide +kernel
theorem dX2_init_15 : decode cX2_init 15 = .ok (.iload_n 1, 1) := by decide +kernel
theorem dX2_init_16 : decode cX2_init 16 = .ok (.bipush 7, 2) := by decide +kernel
theorem dX2_init_18 : decode cX2_init 18 = .ok (.if_icmp .ge 22, 3) := by decide +kernel
theorem dX2_init_21 : decode cX2_init 21 = .ok (.aload_n 0, 1) := by decide +kernel
theorem dX2_init_22 : decode cX2_init 22 = .ok (.getfield 13, 3) := by decide +kernel
theorem dX2_init_25 : decode cX2_init 25 = .ok (.iload_n 1, 1) := by decide +kernel
theorem dX2_init_26 : decode cX2_init 26 = .ok (.new 11, 3) := by decide +kernel
theorem dX2_init_29 : decode cX2_init 29 = .ok (.dup, 1) := by decide +kernel
theorem dX2_init_30 : decode cX2_init 30 = .ok (.invokespecial 17, 3) := by decide +kernel
theorem dX2_init_33 : decode cX2_init 33 = .ok (.aastore, 1) := by decide +kernel
theorem dX2_init_34 : decode cX2_init 34 = .ok (.iinc 1 1, 3) := by decide +kernel
theorem dX2_init_37 : decode cX2_init 37 = .ok (.goto (-22), 3) := by decide +kernel
theorem dX2_init_40 : decode cX2_init 40 = .ok (.return_, 1) := by decide +kernel
theorem dX2_prepare_0 : decode cX2_prepare 0 = .ok (.aload_n 0, 1) := by decide +kernel
theorem dX2_prepare_1 : decode cX2_prepare 1 = .ok (.getfield 13, 3) := by decide +kernel
theorem dX2_prepare_4 : decode cX2_prepare 4 = .ok (.aload_n 0, 1) := by decide +kernel
theorem dX2_prepare_5 : decode cX2_prepare 5 = .ok (.getfield 18, 3) := by decide +kernel
theorem dX2_prepare_8 : decode cX2_prepare 8 = .ok (.aload_n 0, 1) := by decide +kernel
theorem dX2_prepare_9 : decode cX2_prepare 9 = .ok (.getfield 22, 3) := by decide +kernel
theorem dX2_prepare_12 : decode cX2_prepare 12 = .ok (.iadd, 1) := by decide +kernel
theorem dX2_prepare_13 : decode cX2_prepare 13 = .ok (.bipush 7, 2) := by decide +kernel
theorem dX2_prepare_15 : decode cX2_prepare 15 = .ok (.irem, 1) := by decide +kernel
theorem dX2_prepare_16 : decode cX2_prepare 16 = .ok (.aaload, 1) := by decide +kernel
theorem dX2_prepare_17 : decode cX2_prepare 17 = .ok (.aload_n 1, 1) := by decide +kernel
theorem dX2_prepare_18 : decode cX2_prepare 18 = .ok (.invokevirtual 25, 3) := by decide +kernel
theorem dX2_prepare_21 : decode cX2_prepare 21 = .ok (.return_, 1) := by decide +kernel
theorem dX2_keepPrepared_0 : decode cX2_keepPrepared 0 = .ok (.aload_n 0, 1) := by decide +kernel
theorem dX2_keepPrepared_1 : decode cX2_keepPrepared 1 = .ok (.getfield 22, 3) := by decide +kernel
theorem dX2_keepPrepared_4 : decode cX2_keepPrepared 4 = .ok (.bipush 6, 2) := by decide +kernel
theorem dX2_keepPrepared_6 : decode cX2_keepPrepared 6 = .ok (.if_icmp .ge 16, 3) := by decide +kernel
theorem dX2_keepPrepared_9 : decode cX2_keepPrepared 9 = .ok (.aload_n 0, 1) := by decide +kernel
theorem dX2_keepPrepared_10 : decode cX2_keepPrepared 10 = .ok (.dup, 1) := by decide +kernel
theorem dX2_keepPrepared_11 : decode cX2_keepPrepared 11 = .ok (.getfield 22, 3) := by decide +kernel
theorem dX2_keepPrepared_14 : decode cX2_keepPrepared 14 = .ok (.iconst 1, 1) := by decide +kernel
theorem dX2_keepPrepared_15 : decode cX2_keepPrepared 15 = .ok (.iadd, 1) := by decide +kernel
theorem dX2_keepPrepared_16 : decode cX2_keepPrepared 16 = .ok (.putfield 22, 3) := by decide +kernel
theorem dX2_keepPrepared_19 : decode cX2_keepPrepared 19 = .ok (.goto 16, 3) := by decide +kernel
theorem dX2_keepPrepared_22 : decode cX2_keepPrepared 22 = .ok (.aload_n 0, 1) := by decide +kernel
theorem dX2_keepPrepared_23 : decode cX2_keepPrepared 23 = .ok (.aload_n 0, 1) := by decide +kernel
theorem dX2_keepPrepared_24 : decode cX2_keepPrepared 24 = .ok (.getfield 18, 3) := by decide +kernel
theorem dX2_keepPrepared_27 : decode cX2_keepPrepared 27 = .ok (.iconst 1, 1) := by decide +kernel
theorem dX2_keepPrepared_28 : decode cX2_keepPrepared 28 = .ok (.iadd, 1) := by decide +kernel
theorem dX2_keepPrepared_29 : decode cX2_keepPrepared 29 = .ok (.bipush 7, 2) := by decide +kernel
theorem dX2_keepPrepared_31 : decode cX2_keepPrepared 31 = .ok (.irem, 1) := by decide +kernel
theorem dX2_keepPrepared_32 : decode cX2_keepPrepared 32 = .ok (.putfield 18, 3) := by decide +kernel
theorem dX2_keepPrepared_35 : decode cX2_keepPrepared 35 = .ok (.return_, 1) := by decide +kernel
theorem dX2_takeBack_0 : decode cX2_takeBack 0 = .ok (.aload_n 0, 1) := by decide +kernel
theorem dX2_takeBack_1 : decode cX2_takeBack 1 = .ok (.getfield 22, 3) := by decide +kernel
theorem dX2_takeBack_4 : decode cX2_takeBack 4 = .ok (.ifCond .le 34, 3) := by decide +kernel
theorem dX2_takeBack_7 : decode cX2_takeBack 7 = .ok (.aload_n 0, 1) := by decide +kernel
theorem dX2_takeBack_8 : decode cX2_takeBack 8 = .ok (.dup, 1) := by decide +kernel
theorem dX2_takeBack_9 : decode cX2_takeBack 9 = .ok (.getfield 22, 3) := by decide +kernel
theorem dX2_takeBack_12 : decode cX2_takeBack 12 = .ok (.iconst 1, 1) := by decide +kernel
theorem dX2_takeBack_13 : decode cX2_takeBack 13 = .ok (.isub, 1) := by decide +kernel
theorem dX2_takeBack_14 : decode cX2_takeBack 14 = .ok (.putfield 22, 3) := by decide +kernel
theorem dX2_takeBack_17 : decode cX2_takeBack 17 = .ok (.aload_n 1, 1) := by decide +kernel
theorem dX2_takeBack_18 : decode cX2_takeBack 18 = .ok (.aload_n 0, 1) := by decide +kernel
theorem dX2_takeBack_19 : decode cX2_takeBack 19 = .ok (.getfield 13, 3) := by decide +kernel
theorem dX2_takeBack_22 : decode cX2_takeBack 22 = .ok (.aload_n 0, 1) := by decide +kernel
theorem dX2_takeBack_23 : decode cX2_takeBack 23 = .ok (.getfield 18, 3) := by decide +kernel
theorem dX2_takeBack_26 : decode cX2_takeBack 26 = .ok (.aload_n 0, 1) := by decide +kernel
theorem dX2_takeBack_27 : decode cX2_takeBack 27 = .ok (.getfield 22, 3) := by decide +kernel
theorem dX2_takeBack_30 : decode cX2_takeBack 30 = .ok (.iadd, 1) := by decide +kernel
theorem dX2_takeBack_31 : decode cX2_takeBack 31 = .ok (.bipush 7, 2) := by decide +kernel
theorem dX2_takeBack_33 : decode cX2_takeBack 33 = .ok (.irem, 1) := by decide +kernel
theorem dX2_takeBack_34 : decode cX2_takeBack 34 = .ok (.aaload, 1) := by decide +kernel
theorem dX2_takeBack_35 : decode cX2_takeBack 35 = .ok (.invokevirtual 25, 3) := by decide +kernel
theorem dX2_takeBack_38 : decode cX2_takeBack 38 = .ok (.return_, 1) := by decide +kernel
theorem dX3_init_0 : decode cX3_init 0 = .ok (.aload_n 0, 1) := by decide +kernel
theorem dX3_init_1 : decode cX3_init 1 = .ok (.invokespecial 3, 3) := by decide +kernel
theorem dX3_init_4 : decode cX3_init 4 = .ok (.aload_n 0, 1) := by decide +kernel
theorem dX3_init_5 : decode cX3_init 5 = .ok (.bipush 80, 2) := by decide +kernel
theorem dX3_init_7 : decode cX3_init 7 = .ok (.newarray .char, 2) := by decide +kernel
theorem dX3_init_9 : decode cX3_init 9 = .ok (.putfield 9, 3) := by decide +kernel
theorem dX3_init_12 : decode cX3_init 12 = .ok (.return_, 1) := by decide +kernel
theorem dX3_append_0 : decode cX3_append 0 = .ok (.lload_n 1, 1) := by decide +kernel
theorem dX3_append_1 : decode cX3_append 1 = .ok (.invokestatic 15, 3) := by decide +kernel
theorem dX3_append_4 : decode cX3_append 4 = .ok (.istore_n 3, 1) := by decide +kernel
theorem dX3_append_5 : decode cX3_append 5 = .ok (.iload_n 3, 1) := by decide +kernel
theorem dX3_append_6 : decode cX3_append 6 = .ok (.iconst 1, 1) := by decide +kernel
theorem dX3_append_7 : decode cX3_append 7 = .ok (.if_icmp .ge 6, 3) := by decide +kernel
theorem dX3_append_10 : decode cX3_append 10 = .ok (.bipush (-2), 2) := by decide +kernel
theorem dX3_append_12 : decode cX3_append 12 = .ok (.ireturn, 1) := by decide +kernel
theorem dX3_append_13 : decode cX3_append 13 = .ok (.aload_n 0, 1) := by decide +kernel
theorem dX3_append_14 : decode cX3_append 14 = .ok (.getfield 19, 3) := by decide +kernel
theorem dX3_append_17 : decode cX3_append 17 = .ok (.iload_n 3, 1) := by decide +kernel
theorem dX3_append_18 : decode cX3_append 18 = .ok (.iadd, 1) := by decide +kernel
theorem dX3_append_19 : decode cX3_append 19 = .ok (.bipush 80, 2) := by decide +kernel
theorem dX3_append_21 : decode cX3_append 21 = .ok (.if_icmp .le 6, 3) := by decide +kernel
theorem dX3_append_24 : decode cX3_append 24 = .ok (.bipush (-4), 2) := by decide +kernel
theorem dX3_append_26 : decode cX3_append 26 = .ok (.ireturn, 1) := by decide +kernel
theorem dX3_append_27 : decode cX3_append 27 = .ok (.iload_n 3, 1) := by decide +kernel
theorem dX3_append_28 : decode cX3_append 28 = .ok (.iconst 1, 1) := by decide +kernel
theorem dX3_append_29 : decode cX3_append 29 = .ok (.isub, 1) := by decide +kernel
theorem dX3_append_30 : decode cX3_append 30 = .ok (.istore 4, 2) := by decide +kernel
theorem dX3_append_32 : decode cX3_append 32 = .ok (.iload 4, 2) := by decide +kernel
theorem dX3_append_34 : decode cX3_append 34 = .ok (.ifCond .lt 35, 3) := by decide +kernel
theorem dX3_append_37 : decode cX3_append 37 = .ok (.aload_n 0, 1) := by decide +kernel
theorem dX3_append_38 : decode cX3_append 38 = .ok (.getfield 9, 3) := by decide +kernel
theorem dX3_append_41 : decode cX3_append 41 = .ok (.aload_n 0, 1) := by decide +kernel
theorem dX3_append_42 : decode cX3_append 42 = .ok (.getfield 19, 3) := by decide +kernel
theorem dX3_append_45 : decode cX3_append 45 = .ok (.lload_n 1, 1) := by decide +kernel
theorem dX3_append_46 : decode cX3_append 46 = .ok (.iload 4, 2) := by decide +kernel
theorem dX3_append_48 : decode cX3_append 48 = .ok (.invokestatic 23, 3) := by decide +kernel
theorem dX3_append_51 : decode cX3_append 51 = .ok (.i2c, 1) := by decide +kernel
theorem dX3_append_52 : decode cX3_append 52 = .ok (.castore, 1) := by decide +kernel
theorem dX3_append_53 : decode cX3_append 53 = .ok (.aload_n 0, 1) := by decide +kernel
theorem dX3_append_54 : decode cX3_append 54 = .ok (.dup, 1) := by decide +kernel
theorem dX3_append_55 : decode cX3_append 55 = .ok (.getfield 19, 3) := by decide +kernel
theorem dX3_append_58 : decode cX3_append 58 = .ok (.iconst 1, 1) := by decide +kernel
theorem dX3_append_59 : decode cX3_append 59 = .ok (.iadd, 1) := by decide +kernel
theorem dX3_append_60 : decode cX3_append 60 = .ok (.putfield 19, 3) := by decide +kernel
theorem dX3_append_63 : decode cX3_append 63 = .ok (.iinc 4 (-1), 3) := by decide +kernel
theorem dX3_append_66 : decode cX3_append 66 = .ok (.goto (-34), 3) := by decide +kernel
theorem dX3_append_69 : decode cX3_append 69 = .ok (.aload_n 0, 1) := by decide +kernel
theorem dX3_append_70 : decode cX3_append 70 = .ok (.getfield 19, 3) := by decide +kernel
theorem dX3_append_73 : decode cX3_append 73 = .ok (.ireturn, 1) := by decide +kernel
theorem dX3_countGiven_0 : decode cX3_countGiven 0 = .ok (.iconst 0, 1) := by decide +kernel
theorem dX3_countGiven_1 : decode cX3_countGiven 1 = .ok (.istore_n 2, 1) := by decide +kernel
theorem dX3_countGiven_2 : decode cX3_countGiven 2 = .ok (.iconst 0, 1) := by decide +kernel
theorem dX3_countGiven_3 : decode cX3_countGiven 3 = .ok (.istore_n 3, 1) := by decide +kernel
theorem dX3_countGiven_4 : decode cX3_countGiven 4 = .ok (.iload_n 3, 1) := by decide +kernel
theorem dX3_countGiven_5 : decode cX3_countGiven 5 = .ok (.bipush 8, 2) := by decide +kernel
theorem dX3_countGiven_7 : decode cX3_countGiven 7 = .ok (.if_icmp .ge 49, 3) := by decide +kernel
theorem dX3_countGiven_10 : decode cX3_countGiven 10 = .ok (.lload_n 0, 1) := by decide +kernel
theorem dX3_countGiven_11 : decode cX3_countGiven 11 = .ok (.iload_n 3, 1) := by decide +kernel
theorem dX3_countGiven_12 : decode cX3_countGiven 12 = .ok (.invokestatic 23, 3) := by decide +kernel
theorem dX3_countGiven_15 : decode cX3_countGiven 15 = .ok (.istore 4, 2) := by decide +kernel
theorem dX3_countGiven_17 : decode cX3_countGiven 17 = .ok (.iload 4, 2) := by decide +kernel
theorem dX3_countGiven_19 : decode cX3_countGiven 19 = .ok (.ifCond .ne 6, 3) := by decide +kernel
theorem dX3_countGiven_22 : decode cX3_countGiven 22 = .ok (.goto 28, 3) := by decide +kernel
theorem dX3_countGiven_25 : decode cX3_countGiven 25 = .ok (.iload 4, 2) := by decide +kernel
theorem dX3_countGiven_27 : decode cX3_countGiven 27 = .ok (.bipush 33, 2) := by decide +kernel
theorem dX3_countGiven_29 : decode cX3_countGiven 29 = .ok (.if_icmp .lt 15, 3) := by decide +kernel
theorem dX3_countGiven_32 : decode cX3_countGiven 32 = .ok (.iload 4, 2) := by decide +kernel
theorem dX3_countGiven_34 : decode cX3_countGiven 34 = .ok (.bipush 126, 2) := by decide +kernel
theorem dX3_countGiven_36 : decode cX3_countGiven 36 = .ok (.if_icmp .gt 8, 3) := by decide +kernel
theorem dX3_countGiven_39 : decode cX3_countGiven 39 = .ok (.iload_n 2, 1) := by decide +kernel
theorem dX3_countGiven_40 : decode cX3_countGiven 40 = .ok (.iload_n 3, 1) := by decide +kernel
theorem dX3_countGiven_41 : decode cX3_countGiven 41 = .ok (.if_icmp .ge 6, 3) := by decide +kernel
theorem dX3_countGiven_44 : decode cX3_countGiven 44 = .ok (.bipush (-2), 2) := by decide +kernel
theorem dX3_countGiven_46 : decode cX3_countGiven 46 = .ok (.ireturn, 1) := by decide +kernel
theorem dX3_countGiven_47 : decode cX3_countGiven 47 = .ok (.iinc 2 1, 3) := by decide +kernel
theorem dX3_countGiven_50 : decode cX3_countGiven 50 = .ok (.iinc 3 1, 3) := by decide +kernel
theorem dX3_countGiven_53 : decode cX3_countGiven 53 = .ok (.goto (-49), 3) := by decide +kernel
theorem dX3_countGiven_56 : decode cX3_countGiven 56 = .ok (.iload_n 2, 1) := by decide +kernel
theorem dX3_countGiven_57 : decode cX3_countGiven 57 = .ok (.ireturn, 1) := by decide +kernel
theorem dX3_codeAt_0 : decode cX3_codeAt 0 = .ok (.lload_n 0, 1) := by decide +kernel
theorem dX3_codeAt_1 : decode cX3_codeAt 1 = .ok (.bipush 8, 2) := by decide +kernel
theorem dX3_codeAt_3 : decode cX3_codeAt 3 = .ok (.iload_n 2, 1) := by decide +kernel
theorem dX3_codeAt_4 : decode cX3_codeAt 4 = .ok (.imul, 1) := by decide +kernel
theorem dX3_codeAt_5 : decode cX3_codeAt 5 = .ok (.lushr, 1) := by decide +kernel
theorem dX3_codeAt_6 : decode cX3_codeAt 6 = .ok (.l2i, 1) := by decide +kernel
theorem dX3_codeAt_7 : decode cX3_codeAt 7 = .ok (.sipush 255, 3) := by decide +kernel
theorem dX3_codeAt_10 : decode cX3_codeAt 10 = .ok (.iand, 1) := by decide +kernel
theorem dX3_codeAt_11 : decode cX3_codeAt 11 = .ok (.ireturn, 1) := by decide +kernel
theorem dX3_signAt_0 : decode cX3_signAt 0 = .ok (.iload_n 1, 1) := by decide +kernel
theorem dX3_signAt_1 : decode cX3_signAt 1 = .ok (.ifCond .lt 26, 3) := by decide +kernel
theorem dX3_signAt_4 : decode cX3_signAt 4 = .ok (.iload_n 1, 1) := by decide +kernel
theorem dX3_signAt_5 : decode cX3_signAt 5 = .ok (.aload_n 0, 1) := by decide +kernel
theorem dX3_signAt_6 : decode cX3_signAt 6 = .ok (.getfield 19, 3) := by decide +kernel
theorem dX3_signAt_9 : decode cX3_signAt 9 = .ok (.if_icmp .ge 18, 3) := by decide +kernel
theorem dX3_signAt_12 : decode cX3_signAt 12 = .ok (.iload_n 1, 1) := by decide +kernel
theorem dX3_signAt_13 : decode cX3_signAt 13 = .ok (.bipush 80, 2) := by decide +kernel
theorem dX3_signAt_15 : decode cX3_signAt 15 = .ok (.if_icmp .ge 12, 3) := by decide +kernel
theorem dX3_signAt_18 : decode cX3_signAt 18 = .ok (.aload_n 0, 1) := by decide +kernel
theorem dX3_signAt_19 : decode cX3_signAt 19 = .ok (.getfield 9, 3) := by decide +kernel
theorem dX3_signAt_22 : decode cX3_signAt 22 = .ok (.iload_n 1, 1) := by decide +kernel
theorem dX3_signAt_23 : decode cX3_signAt 23 = .ok (.caload, 1) := by decide +kernel
theorem dX3_signAt_24 : decode cX3_signAt 24 = .ok (.goto 4, 3) := by decide +kernel
theorem dX3_signAt_27 : decode cX3_signAt 27 = .ok (.iconst 0, 1) := by decide +kernel
theorem dX3_signAt_28 : decode cX3_signAt 28 = .ok (.ireturn, 1) := by decide +kernel
theorem dX3_findFault_0 : decode cX3_findFault 0 = .ok (.iconst 4, 1) := by decide +kernel
theorem dX3_findFault_1 : decode cX3_findFault 1 = .ok (.istore_n 1, 1) := by decide +kernel
theorem dX3_findFault_2 : decode cX3_findFault 2 = .ok (.iconst 0, 1) := by decide +kernel
theorem dX3_findFault_3 : decode cX3_findFault 3 = .ok (.istore_n 2, 1) := by decide +kernel
theorem dX3_findFault_4 : decode cX3_findFault 4 = .ok (.iload_n 2, 1) := by decide +kernel
theorem dX3_findFault_5 : decode cX3_findFault 5 = .ok (.aload_n 0, 1) := by decide +kernel
theorem dX3_findFault_6 : decode cX3_findFault 6 = .ok (.getfield 19, 3) := by decide +kernel
theorem dX3_findFault_9 : decode cX3_findFault 9 = .ok (.if_icmp .ge 27, 3) := by decide +kernel
theorem dX3_findFault_12 : decode cX3_findFault 12 = .ok (.iload_n 1, 1) := by decide +kernel
theorem dX3_findFault_13 : decode cX3_findFault 13 = .ok (.aload_n 0, 1) := by decide +kernel
theorem dX3_findFault_14 : decode cX3_findFault 14 = .ok (.iload_n 2, 1) := by decide +kernel
theorem dX3_findFault_15 : decode cX3_findFault 15 = .ok (.invokevirtual 27, 3) := by decide +kernel
theorem dX3_findFault_18 : decode cX3_findFault 18 = .ok (.invokestatic 31, 3) := by decide +kernel
theorem dX3_findFault_21 : decode cX3_findFault 21 = .ok (.istore_n 1, 1) := by decide +kernel
theorem dX3_findFault_22 : decode cX3_findFault 22 = .ok (.iload_n 1, 1) := by decide +kernel
theorem dX3_findFault_23 : decode cX3_findFault 23 = .ok (.bipush 11, 2) := by decide +kernel
theorem dX3_findFault_25 : decode cX3_findFault 25 = .ok (.if_icmp .ne 5, 3) := by decide +kernel
theorem dX3_findFault_28 : decode cX3_findFault 28 = .ok (.iload_n 2, 1) := by decide +kernel
theorem dX3_findFault_29 : decode cX3_findFault 29 = .ok (.ireturn, 1) := by decide +kernel
theorem dX3_findFault_30 : decode cX3_findFault 30 = .ok (.iinc 2 1, 3) := by decide +kernel
theorem dX3_findFault_33 : decode cX3_findFault 33 = .ok (.goto (-29), 3) := by decide +kernel
theorem dX3_findFault_36 : decode cX3_findFault 36 = .ok (.iload_n 1, 1) := by decide +kernel
theorem dX3_findFault_37 : decode cX3_findFault 37 = .ok (.iconst 3, 1) := by decide +kernel
theorem dX3_findFault_38 : decode cX3_findFault 38 = .ok (.if_icmp .gt 8, 3) := by decide +kernel
theorem dX3_findFault_41 : decode cX3_findFault 41 = .ok (.bipush (-6), 2) := by decide +kernel
theorem dX3_findFault_43 : decode cX3_findFault 43 = .ok (.goto 7, 3) := by decide +kernel
theorem dX3_findFault_46 : decode cX3_findFault 46 = .ok (.aload_n 0, 1) := by decide +kernel
theorem dX3_findFault_47 : decode cX3_findFault 47 = .ok (.getfield 19, 3) := by decide +kernel
theorem dX3_findFault_50 : decode cX3_findFault 50 = .ok (.ireturn, 1) := by decide +kernel
theorem dX3_awaitedBehind_0 : decode cX3_awaitedBehind 0 = .ok (.iload_n 0, 1) := by decide +kernel
theorem dX3_awaitedBehind_1 : decode cX3_awaitedBehind 1 = .ok (.tableswitch 149 4 10 #[43, 48, 62, 77, 96, 111, 125], 43) := by decide +kernel
theorem dX3_awaitedBehind_44 : decode cX3_awaitedBehind 44 = .ok (.iload_n 1, 1) := by decide +kernel
theorem dX3_awaitedBehind_45 : decode cX3_awaitedBehind 45 = .ok (.invokestatic 35, 3) := by decide +kernel
theorem dX3_awaitedBehind_48 : decode cX3_awaitedBehind 48 = .ok (.ireturn, 1) := by decide +kernel
theorem dX3_awaitedBehind_49 : decode cX3_awaitedBehind 49 = .ok (.iload_n 1, 1) := by decide +kernel
theorem dX3_awaitedBehind_50 : decode cX3_awaitedBehind 50 = .ok (.invokestatic 38, 3) := by decide +kernel
theorem dX3_awaitedBehind_53 : decode cX3_awaitedBehind 53 = .ok (.ifCond .eq 7, 3) := by decide +kernel
theorem dX3_awaitedBehind_56 : decode cX3_awaitedBehind 56 = .ok (.iconst 3, 1) := by decide +kernel
theorem dX3_awaitedBehind_57 : decode cX3_awaitedBehind 57 = .ok (.goto 5, 3) := by decide +kernel
theorem dX3_awaitedBehind_60 : decode cX3_awaitedBehind 60 = .ok (.bipush 11, 2) := by decide +kernel
theorem dX3_awaitedBehind_62 : decode cX3_awaitedBehind 62 = .ok (.ireturn, 1) := by decide +kernel
theorem dX3_awaitedBehind_63 : decode cX3_awaitedBehind 63 = .ok (.iload_n 1, 1) := by decide +kernel
theorem dX3_awaitedBehind_64 : decode cX3_awaitedBehind 64 = .ok (.invokestatic 38, 3) := by decide +kernel
theorem dX3_awaitedBehind_67 : decode cX3_awaitedBehind 67 = .ok (.ifCond .eq 8, 3) := by decide +kernel
theorem dX3_awaitedBehind_70 : decode cX3_awaitedBehind 70 = .ok (.bipush 7, 2) := by decide +kernel
theorem dX3_awaitedBehind_72 : decode cX3_awaitedBehind 72 = .ok (.goto 5, 3) := by decide +kernel
theorem dX3_awaitedBehind_75 : decode cX3_awaitedBehind 75 = .ok (.bipush 11, 2) := by decide +kernel
theorem dX3_awaitedBehind_77 : decode cX3_awaitedBehind 77 = .ok (.ireturn, 1) := by decide +kernel
theorem dX3_awaitedBehind_78 : decode cX3_awaitedBehind 78 = .ok (.iload_n 1, 1) := by decide +kernel
theorem dX3_awaitedBehind_79 : decode cX3_awaitedBehind 79 = .ok (.bipush 49, 2) := by decide +kernel
theorem dX3_awaitedBehind_81 : decode cX3_awaitedBehind 81 = .ok (.if_icmp .lt 13, 3) := by decide +kernel
theorem dX3_awaitedBehind_84 : decode cX3_awaitedBehind 84 = .ok (.iload_n 1, 1) := by decide +kernel
theorem dX3_awaitedBehind_85 : decode cX3_awaitedBehind 85 = .ok (.bipush 57, 2) := by decide +kernel
theorem dX3_awaitedBehind_87 : decode cX3_awaitedBehind 87 = .ok (.if_icmp .gt 7, 3) := by decide +kernel
theorem dX3_awaitedBehind_90 : decode cX3_awaitedBehind 90 = .ok (.iconst 0, 1) := by decide +kernel
theorem dX3_awaitedBehind_91 : decode cX3_awaitedBehind 91 = .ok (.goto 5, 3) := by decide +kernel
theorem dX3_awaitedBehind_94 : decode cX3_awaitedBehind 94 = .ok (.bipush 11, 2) := by decide +kernel
theorem dX3_awaitedBehind_96 : decode cX3_awaitedBehind 96 = .ok (.ireturn, 1) := by decide +kernel
theorem dX3_awaitedBehind_97 : decode cX3_awaitedBehind 97 = .ok (.iload_n 1, 1) := by decide +kernel
theorem dX3_awaitedBehind_98 : decode cX3_awaitedBehind 98 = .ok (.invokestatic 38, 3) := by decide +kernel
theorem dX3_awaitedBehind_101 : decode cX3_awaitedBehind 101 = .ok (.ifCond .eq 8, 3) := by decide +kernel
theorem dX3_awaitedBehind_104 : decode cX3_awaitedBehind 104 = .ok (.bipush 9, 2) := by decide +kernel
theorem dX3_awaitedBehind_106 : decode cX3_awaitedBehind 106 = .ok (.goto 5, 3) := by decide +kernel
theorem dX3_awaitedBehind_109 : decode cX3_awaitedBehind 109 = .ok (.bipush 11, 2) := by decide +kernel
theorem dX3_awaitedBehind_111 : decode cX3_awaitedBehind 111 = .ok (.ireturn, 1) := by decide +kernel
theorem dX3_awaitedBehind_112 : decode cX3_awaitedBehind 112 = .ok (.iload_n 1, 1) := by decide +kernel
theorem dX3_awaitedBehind_113 : decode cX3_awaitedBehind 113 = .ok (.invokestatic 38, 3) := by decide +kernel
theorem dX3_awaitedBehind_116 : decode cX3_awaitedBehind 116 = .ok (.ifCond .eq 7, 3) := by decide +kernel
theorem dX3_awaitedBehind_119 : decode cX3_awaitedBehind 119 = .ok (.iconst 0, 1) := by decide +kernel
theorem dX3_awaitedBehind_120 : decode cX3_awaitedBehind 120 = .ok (.goto 5, 3) := by decide +kernel
theorem dX3_awaitedBehind_123 : decode cX3_awaitedBehind 123 = .ok (.bipush 11, 2) := by decide +kernel
theorem dX3_awaitedBehind_125 : decode cX3_awaitedBehind 125 = .ok (.ireturn, 1) := by decide +kernel
theorem dX3_awaitedBehind_126 : decode cX3_awaitedBehind 126 = .ok (.iload_n 1, 1) := by decide +kernel
theorem dX3_awaitedBehind_127 : decode cX3_awaitedBehind 127 = .ok (.invokestatic 42, 3) := by decide +kernel
theorem dX3_awaitedBehind_130 : decode cX3_awaitedBehind 130 = .ok (.ifCond .ne 8, 3) := by decide +kernel
theorem dX3_awaitedBehind_133 : decode cX3_awaitedBehind 133 = .ok (.bipush 11, 2) := by decide +kernel
theorem dX3_awaitedBehind_135 : decode cX3_awaitedBehind 135 = .ok (.goto 14, 3) := by decide +kernel
theorem dX3_awaitedBehind_138 : decode cX3_awaitedBehind 138 = .ok (.iload_n 1, 1) := by decide +kernel
theorem dX3_awaitedBehind_139 : decode cX3_awaitedBehind 139 = .ok (.bipush 48, 2) := by decide +kernel
theorem dX3_awaitedBehind_141 : decode cX3_awaitedBehind 141 = .ok (.if_icmp .ne 7, 3) := by decide +kernel
theorem dX3_awaitedBehind_144 : decode cX3_awaitedBehind 144 = .ok (.iconst 0, 1) := by decide +kernel
theorem dX3_awaitedBehind_145 : decode cX3_awaitedBehind 145 = .ok (.goto 4, 3) := by decide +kernel
theorem dX3_awaitedBehind_148 : decode cX3_awaitedBehind 148 = .ok (.iconst 1, 1) := by decide +kernel
theorem dX3_awaitedBehind_149 : decode cX3_awaitedBehind 149 = .ok (.ireturn, 1) := by decide +kernel
theorem dX3_awaitedBehind_150 : decode cX3_awaitedBehind 150 = .ok (.iload_n 1, 1) := by decide +kernel
theorem dX3_awaitedBehind_151 : decode cX3_awaitedBehind 151 = .ok (.bipush 59, 2) := by decide +kernel
theorem dX3_awaitedBehind_153 : decode cX3_awaitedBehind 153 = .ok (.if_icmp .ne 7, 3) := by decide +kernel
theorem dX3_awaitedBehind_156 : decode cX3_awaitedBehind 156 = .ok (.iconst 4, 1) := by decide +kernel
theorem dX3_awaitedBehind_157 : decode cX3_awaitedBehind 157 = .ok (.goto 22, 3) := by decide +kernel
theorem dX3_awaitedBehind_160 : decode cX3_awaitedBehind 160 = .ok (.iload_n 0, 1) := by decide +kernel
theorem dX3_awaitedBehind_161 : decode cX3_awaitedBehind 161 = .ok (.ifCond .le 16, 3) := by decide +kernel
theorem dX3_awaitedBehind_164 : decode cX3_awaitedBehind 164 = .ok (.iload_n 1, 1) := by decide +kernel
theorem dX3_awaitedBehind_165 : decode cX3_awaitedBehind 165 = .ok (.invokestatic 42, 3) := by decide +kernel
theorem dX3_awaitedBehind_168 : decode cX3_awaitedBehind 168 = .ok (.ifCond .eq 9, 3) := by decide +kernel
theorem dX3_awaitedBehind_171 : decode cX3_awaitedBehind 171 = .ok (.iload_n 0, 1) := by decide +kernel
theorem dX3_awaitedBehind_172 : decode cX3_awaitedBehind 172 = .ok (.iconst 1, 1) := by decide +kernel
theorem dX3_awaitedBehind_173 : decode cX3_awaitedBehind 173 = .ok (.isub, 1) := by decide +kernel
theorem dX3_awaitedBehind_174 : decode cX3_awaitedBehind 174 = .ok (.goto 5, 3) := by decide +kernel
theorem dX3_awaitedBehind_177 : decode cX3_awaitedBehind 177 = .ok (.bipush 11, 2) := by decide +kernel
theorem dX3_awaitedBehind_179 : decode cX3_awaitedBehind 179 = .ok (.ireturn, 1) := by decide +kernel
theorem dX3_awaitedBehindOrder_0 : decode cX3_awaitedBehindOrder 0 = .ok (.iload_n 0, 1) := by decide +kernel
theorem dX3_awaitedBehindOrder_1 : decode cX3_awaitedBehindOrder 1 = .ok (.lookupswitch 65 #[(99, 56), (100, 62), (102, 53), (115, 59), (119, 51)], 51) := by decide +kernel
theorem dX3_awaitedBehindOrder_52 : decode cX3_awaitedBehindOrder 52 = .ok (.iconst 5, 1) := by decide +kernel
theorem dX3_awaitedBehindOrder_53 : decode cX3_awaitedBehindOrder 53 = .ok (.ireturn, 1) := by decide +kernel
theorem dX3_awaitedBehindOrder_54 : decode cX3_awaitedBehindOrder 54 = .ok (.bipush 6, 2) := by decide +kernel
theorem dX3_awaitedBehindOrder_56 : decode cX3_awaitedBehindOrder 56 = .ok (.ireturn, 1) := by decide +kernel
theorem dX3_awaitedBehindOrder_57 : decode cX3_awaitedBehindOrder 57 = .ok (.bipush 9, 2) := by decide +kernel
theorem dX3_awaitedBehindOrder_59 : decode cX3_awaitedBehindOrder 59 = .ok (.ireturn, 1) := by decide +kernel
theorem dX3_awaitedBehindOrder_60 : decode cX3_awaitedBehindOrder 60 = .ok (.bipush 8, 2) := by decide +kernel
theorem dX3_awaitedBehindOrder_62 : decode cX3_awaitedBehindOrder 62 = .ok (.ireturn, 1) := by decide +kernel
theorem dX3_awaitedBehindOrder_63 : decode cX3_awaitedBehindOrder 63 = .ok (.bipush 10, 2) := by decide +kernel
theorem dX3_awaitedBehindOrder_65 : decode cX3_awaitedBehindOrder 65 = .ok (.ireturn, 1) := by decide +kernel
theorem dX3_awaitedBehindOrder_66 : decode cX3_awaitedBehindOrder 66 = .ok (.bipush 11, 2) := by decide +kernel
theorem dX3_awaitedBehindOrder_68 : decode cX3_awaitedBehindOrder 68 = .ok (.ireturn, 1) := by decide +kernel
theorem dX3_isCart_0 : decode cX3_isCart 0 = .ok (.iload_n 0, 1) := by decide +kernel
theorem dX3_isCart_1 : decode cX3_isCart 1 = .ok (.bipush 65, 2) := by decide +kernel
theorem dX3_isCart_3 : decode cX3_isCart 3 = .ok (.if_icmp .lt 13, 3) := by decide +kernel
theorem dX3_isCart_6 : decode cX3_isCart 6 = .ok (.iload_n 0, 1) := by decide +kernel
theorem dX3_isCart_7 : decode cX3_isCart 7 = .ok (.bipush 80, 2) := by decide +kernel
theorem dX3_isCart_9 : decode cX3_isCart 9 = .ok (.if_icmp .gt 7, 3) := by decide +kernel
theorem dX3_isCart_12 : decode cX3_isCart 12 = .ok (.iconst 1, 1) := by decide +kernel
theorem dX3_isCart_13 : decode cX3_isCart 13 = .ok (.goto 4, 3) := by decide +kernel
theorem dX3_isCart_16 : decode cX3_isCart 16 = .ok (.iconst 0, 1) := by decide +kernel
theorem dX3_isCart_17 : decode cX3_isCart 17 = .ok (.ireturn, 1) := by decide +kernel
theorem dX3_isDigit_0 : decode cX3_isDigit 0 = .ok (.iload_n 0, 1) := by decide +kernel
theorem dX3_isDigit_1 : decode cX3_isDigit 1 = .ok (.bipush 48, 2) := by decide +kernel
theorem dX3_isDigit_3 : decode cX3_isDigit 3 = .ok (.if_icmp .lt 13, 3) := by decide +kernel
theorem dX3_isDigit_6 : decode cX3_isDigit 6 = .ok (.iload_n 0, 1) := by decide +kernel
theorem dX3_isDigit_7 : decode cX3_isDigit 7 = .ok (.bipush 57, 2) := by decide +kernel
theorem dX3_isDigit_9 : decode cX3_isDigit 9 = .ok (.if_icmp .gt 7, 3) := by decide +kernel
theorem dX3_isDigit_12 : decode cX3_isDigit 12 = .ok (.iconst 1, 1) := by decide +kernel
theorem dX3_isDigit_13 : decode cX3_isDigit 13 = .ok (.goto 4, 3) := by decide +kernel
theorem dX3_isDigit_16 : decode cX3_isDigit 16 = .ok (.iconst 0, 1) := by decide +kernel
theorem dX3_isDigit_17 : decode cX3_isDigit 17 = .ok (.ireturn, 1) := by decide +kernel
theorem dX3_endsOrder_0 : decode cX3_endsOrder 0 = .ok (.iload_n 1, 1) := by decide +kernel
theorem dX3_endsOrder_1 : decode cX3_endsOrder 1 = .ok (.aload_n 0, 1) := by decide +kernel
theorem dX3_endsOrder_2 : decode cX3_endsOrder 2 = .ok (.getfield 19, 3) := by decide +kernel
theorem dX3_endsOrder_5 : decode cX3_endsOrder 5 = .ok (.if_icmp .eq 13, 3) := by decide +kernel
theorem dX3_endsOrder_8 : decode cX3_endsOrder 8 = .ok (.aload_n 0, 1) := by decide +kernel
theorem dX3_endsOrder_9 : decode cX3_endsOrder 9 = .ok (.iload_n 1, 1) := by decide +kernel
theorem dX3_endsOrder_10 : decode cX3_endsOrder 10 = .ok (.invokevirtual 27, 3) := by decide +kernel
theorem dX3_endsOrder_13 : decode cX3_endsOrder 13 = .ok (.bipush 59, 2) := by decide +kernel
theorem dX3_endsOrder_15 : decode cX3_endsOrder 15 = .ok (.if_icmp .ne 7, 3) := by decide +kernel
theorem dX3_endsOrder_18 : decode cX3_endsOrder 18 = .ok (.iconst 1, 1) := by decide +kernel
theorem dX3_endsOrder_19 : decode cX3_endsOrder 19 = .ok (.goto 4, 3) := by decide +kernel
theorem dX3_endsOrder_22 : decode cX3_endsOrder 22 = .ok (.iconst 0, 1) := by decide +kernel
theorem dX3_endsOrder_23 : decode cX3_endsOrder 23 = .ok (.ireturn, 1) := by decide +kernel
theorem dX3_wishAt_0 : decode cX3_wishAt 0 = .ok (.iload_n 1, 1) := by decide +kernel
theorem dX3_wishAt_1 : decode cX3_wishAt 1 = .ok (.iload_n 2, 1) := by decide +kernel
theorem dX3_wishAt_2 : decode cX3_wishAt 2 = .ok (.if_icmp .ge 14, 3) := by decide +kernel
theorem dX3_wishAt_5 : decode cX3_wishAt 5 = .ok (.aload_n 0, 1) := by decide +kernel
theorem dX3_wishAt_6 : decode cX3_wishAt 6 = .ok (.iload_n 1, 1) := by decide +kernel
theorem dX3_wishAt_7 : decode cX3_wishAt 7 = .ok (.invokevirtual 27, 3) := by decide +kernel
theorem dX3_wishAt_10 : decode cX3_wishAt 10 = .ok (.bipush 48, 2) := by decide +kernel
theorem dX3_wishAt_12 : decode cX3_wishAt 12 = .ok (.isub, 1) := by decide +kernel
theorem dX3_wishAt_13 : decode cX3_wishAt 13 = .ok (.goto 5, 3) := by decide +kernel
theorem dX3_wishAt_16 : decode cX3_wishAt 16 = .ok (.bipush (-6), 2) := by decide +kernel
theorem dX3_wishAt_18 : decode cX3_wishAt 18 = .ok (.ireturn, 1) := by decide +kernel
theorem dX3_numberAt_0 : decode cX3_numberAt 0 = .ok (.iconst 0, 1) := by decide +kernel
theorem dX3_numberAt_1 : decode cX3_numberAt 1 = .ok (.istore_n 3, 1) := by decide +kernel
theorem dX3_numberAt_2 : decode cX3_numberAt 2 = .ok (.iload_n 1, 1) := by decide +kernel
theorem dX3_numberAt_3 : decode cX3_numberAt 3 = .ok (.istore 4, 2) := by decide +kernel
theorem dX3_numberAt_5 : decode cX3_numberAt 5 = .ok (.iload 4, 2) := by decide +kernel
theorem dX3_numberAt_7 : decode cX3_numberAt 7 = .ok (.iload_n 2, 1) := by decide +kernel
theorem dX3_numberAt_8 : decode cX3_numberAt 8 = .ok (.if_icmp .ge 24, 3) := by decide +kernel
theorem dX3_numberAt_11 : decode cX3_numberAt 11 = .ok (.bipush 10, 2) := by decide +kernel
theorem dX3_numberAt_13 : decode cX3_numberAt 13 = .ok (.iload_n 3, 1) := by decide +kernel
theorem dX3_numberAt_14 : decode cX3_numberAt 14 = .ok (.imul, 1) := by decide +kernel
theorem dX3_numberAt_15 : decode cX3_numberAt 15 = .ok (.aload_n 0, 1) := by decide +kernel
theorem dX3_numberAt_16 : decode cX3_numberAt 16 = .ok (.iload 4, 2) := by decide +kernel
theorem dX3_numberAt_18 : decode cX3_numberAt 18 = .ok (.invokevirtual 27, 3) := by decide +kernel
theorem dX3_numberAt_21 : decode cX3_numberAt 21 = .ok (.iadd, 1) := by decide +kernel
theorem dX3_numberAt_22 : decode cX3_numberAt 22 = .ok (.bipush 48, 2) := by decide +kernel
theorem dX3_numberAt_24 : decode cX3_numberAt 24 = .ok (.isub, 1) := by decide +kernel
theorem dX3_numberAt_25 : decode cX3_numberAt 25 = .ok (.istore_n 3, 1) := by decide +kernel
theorem dX3_numberAt_26 : decode cX3_numberAt 26 = .ok (.iinc 4 1, 3) := by decide +kernel
theorem dX3_numberAt_29 : decode cX3_numberAt 29 = .ok (.goto (-24), 3) := by decide +kernel
theorem dX3_numberAt_32 : decode cX3_numberAt 32 = .ok (.iload_n 3, 1) := by decide +kernel
theorem dX3_numberAt_33 : decode cX3_numberAt 33 = .ok (.ireturn, 1) := by decide +kernel
theorem dX4_init_0 : decode cX4_init 0 = .ok (.aload_n 0, 1) := by decide +kernel
theorem dX4_init_1 : decode cX4_init 1 = .ok (.invokespecial 3, 3) := by decide +kernel
theorem dX4_init_4 : decode cX4_init 4 = .ok (.return_, 1) := by decide +kernel
theorem dX4_begin_0 : decode cX4_begin 0 = .ok (.aload_n 0, 1) := by decide +kernel
theorem dX4_begin_1 : decode cX4_begin 1 = .ok (.iload_n 1, 1) := by decide +kernel
theorem dX4_begin_2 : decode cX4_begin 2 = .ok (.putfield 9, 3) := by decide +kernel
theorem dX4_begin_5 : decode cX4_begin 5 = .ok (.aload_n 0, 1) := by decide +kernel
theorem dX4_begin_6 : decode cX4_begin 6 = .ok (.iconst 0, 1) := by decide +kernel
theorem dX4_begin_7 : decode cX4_begin 7 = .ok (.putfield 15, 3) := by decide +kernel
theorem dX4_begin_10 : decode cX4_begin 10 = .ok (.aload_n 0, 1) := by decide +kernel
theorem dX4_begin_11 : decode cX4_begin 11 = .ok (.iconst 0, 1) := by decide +kernel
theorem dX4_begin_12 : decode cX4_begin 12 = .ok (.putfield 18, 3) := by decide +kernel
theorem dX4_begin_15 : decode cX4_begin 15 = .ok (.aload_n 0, 1) := by decide +kernel
theorem dX4_begin_16 : decode cX4_begin 16 = .ok (.bipush (-6), 2) := by decide +kernel
theorem dX4_begin_18 : decode cX4_begin 18 = .ok (.putfield 21, 3) := by decide +kernel
theorem dX4_begin_21 : decode cX4_begin 21 = .ok (.return_, 1) := by decide +kernel
theorem dX4_copyFrom_0 : decode cX4_copyFrom 0 = .ok (.aload_n 0, 1) := by decide +kernel
theorem dX4_copyFrom_1 : decode cX4_copyFrom 1 = .ok (.aload_n 1, 1) := by decide +kernel
theorem dX4_copyFrom_2 : decode cX4_copyFrom 2 = .ok (.getfield 9, 3) := by decide +kernel
theorem dX4_copyFrom_5 : decode cX4_copyFrom 5 = .ok (.putfield 9, 3) := by decide +kernel
theorem dX4_copyFrom_8 : decode cX4_copyFrom 8 = .ok (.aload_n 0, 1) := by decide +kernel
theorem dX4_copyFrom_9 : decode cX4_copyFrom 9 = .ok (.aload_n 1, 1) := by decide +kernel
theorem dX4_copyFrom_10 : decode cX4_copyFrom 10 = .ok (.getfield 15, 3) := by decide +kernel
theorem dX4_copyFrom_13 : decode cX4_copyFrom 13 = .ok (.putfield 15, 3) := by decide +kernel
theorem dX4_copyFrom_16 : decode cX4_copyFrom 16 = .ok (.aload_n 0, 1) := by decide +kernel
theorem dX4_copyFrom_17 : decode cX4_copyFrom 17 = .ok (.aload_n 1, 1) := by decide +kernel
theorem dX4_copyFrom_18 : decode cX4_copyFrom 18 = .ok (.getfield 18, 3) := by decide +kernel
theorem dX4_copyFrom_21 : decode cX4_copyFrom 21 = .ok (.putfield 18, 3) := by decide +kernel
theorem dX4_copyFrom_24 : decode cX4_copyFrom 24 = .ok (.aload_n 0, 1) := by decide +kernel
theorem dX4_copyFrom_25 : decode cX4_copyFrom 25 = .ok (.aload_n 1, 1) := by decide +kernel
theorem dX4_copyFrom_26 : decode cX4_copyFrom 26 = .ok (.getfield 21, 3) := by decide +kernel
theorem dX4_copyFrom_29 : decode cX4_copyFrom 29 = .ok (.putfield 21, 3) := by decide +kernel
theorem dX4_copyFrom_32 : decode cX4_copyFrom 32 = .ok (.return_, 1) := by decide +kernel
theorem dX5_init_0 : decode cX5_init 0 = .ok (.aload_n 0, 1) := by decide +kernel
theorem dX5_init_1 : decode cX5_init 1 = .ok (.invokespecial 3, 3) := by decide +kernel
theorem dX5_init_4 : decode cX5_init 4 = .ok (.aload_n 0, 1) := by decide +kernel
theorem dX5_init_5 : decode cX5_init 5 = .ok (.iconst 1, 1) := by decide +kernel
theorem dX5_init_6 : decode cX5_init 6 = .ok (.putfield 9, 3) := by decide +kernel
theorem dX5_init_9 : decode cX5_init 9 = .ok (.aload_n 0, 1) := by decide +kernel
theorem dX5_init_10 : decode cX5_init 10 = .ok (.bipush 10, 2) := by decide +kernel
theorem dX5_init_12 : decode cX5_init 12 = .ok (.newarray .int, 2) := by decide +kernel
theorem dX5_init_14 : decode cX5_init 14 = .ok (.putfield 15, 3) := by decide +kernel
theorem dX5_init_17 : decode cX5_init 17 = .ok (.aload_n 0, 1) := by decide +kernel
theorem dX5_init_18 : decode cX5_init 18 = .ok (.bipush 10, 2) := by decide +kernel
theorem dX5_init_20 : decode cX5_init 20 = .ok (.anewarray 19, 3) := by decide +kernel
theorem dX5_init_23 : decode cX5_init 23 = .ok (.putfield 21, 3) := by decide +kernel
theorem dX5_init_26 : decode cX5_init 26 = .ok (.aload_n 0, 1) := by decide +kernel
theorem dX5_init_27 : decode cX5_init 27 = .ok (.bipush 16, 2) := by decide +kernel
theorem dX5_init_29 : decode cX5_init 29 = .ok (.anewarray 25, 3) := by decide +kernel
theorem dX5_init_32 : decode cX5_init 32 = .ok (.putfield 27, 3) := by decide +kernel
theorem dX5_init_35 : decode cX5_init 35 = .ok (.aload_n 0, 1) := by decide +kernel
theorem dX5_init_36 : decode cX5_init 36 = .ok (.bipush 8, 2) := by decide +kernel
theorem dX5_init_38 : decode cX5_init 38 = .ok (.newarray .int, 2) := by decide +kernel
theorem dX5_init_40 : decode cX5_init 40 = .ok (.putfield 31, 3) := by decide +kernel
theorem dX5_init_43 : decode cX5_init 43 = .ok (.aload_n 0, 1) := by decide +kernel
theorem dX5_init_44 : decode cX5_init 44 = .ok (.bipush 8, 2) := by decide +kernel
theorem dX5_init_46 : decode cX5_init 46 = .ok (.newarray .int, 2) := by decide +kernel
theorem dX5_init_48 : decode cX5_init 48 = .ok (.putfield 34, 3) := by decide +kernel
theorem dX5_init_51 : decode cX5_init 51 = .ok (.aload_n 0, 1) := by decide +kernel
theorem dX5_init_52 : decode cX5_init 52 = .ok (.bipush 16, 2) := by decide +kernel
theorem dX5_init_54 : decode cX5_init 54 = .ok (.newarray .int, 2) := by decide +kernel
theorem dX5_init_56 : decode cX5_init 56 = .ok (.putfield 37, 3) := by decide +kernel
theorem dX5_init_59 : decode cX5_init 59 = .ok (.aload_n 0, 1) := by decide +kernel
theorem dX5_init_60 : decode cX5_init 60 = .ok (.bipush 16, 2) := by decide +kernel
theorem dX5_init_62 : decode cX5_init 62 = .ok (.newarray .int, 2) := by decide +kernel
theorem dX5_init_64 : decode cX5_init 64 = .ok (.putfield 40, 3) := by decide +kernel
theorem dX5_init_67 : decode cX5_init 67 = .ok (.iconst 0, 1) := by decide +kernel
theorem dX5_init_68 : decode cX5_init 68 = .ok (.istore_n 1, 1) := by decide +kernel
theorem dX5_init_69 : decode cX5_init 69 = .ok (.iload_n 1, 1) := by decide +kernel
theorem dX5_init_70 : decode cX5_init 70 = .ok (.bipush 10, 2) := by decide +kernel
theorem dX5_init_72 : decode cX5_init 72 = .ok (.if_icmp .ge 20, 3) := by decide +kernel
theorem dX5_init_75 : decode cX5_init 75 = .ok (.aload_n 0, 1) := by decide +kernel
theorem dX5_init_76 : decode cX5_init 76 = .ok (.getfield 15, 3) := by decide +kernel
theorem dX5_init_79 : decode cX5_init 79 = .ok (.iload_n 1, 1) := by decide +kernel
theorem dX5_init_80 : decode cX5_init 80 = .ok (.getstatic 43, 3) := by decide +kernel
theorem dX5_init_83 : decode cX5_init 83 = .ok (.iload_n 1, 1) := by decide +kernel
theorem dX5_init_84 : decode cX5_init 84 = .ok (.iaload, 1) := by decide +kernel
theorem dX5_init_85 : decode cX5_init 85 = .ok (.iastore, 1) := by decide +kernel
theorem dX5_init_86 : decode cX5_init 86 = .ok (.iinc 1 1, 3) := by decide +kernel
theorem dX5_init_89 : decode cX5_init 89 = .ok (.goto (-20), 3) := by decide +kernel
theorem dX5_init_92 : decode cX5_init 92 = .ok (.iconst 0, 1) := by decide +kernel
theorem dX5_init_93 : decode cX5_init 93 = .ok (.istore_n 1, 1) := by decide +kernel
theorem dX5_init_94 : decode cX5_init 94 = .ok (.iload_n 1, 1) := by decide +kernel
theorem dX5_init_95 : decode cX5_init 95 = .ok (.bipush 10, 2) := by decide +kernel
theorem dX5_init_97 : decode cX5_init 97 = .ok (.if_icmp .ge 22, 3) := by decide +kernel
theorem dX5_init_100 : decode cX5_init 100 = .ok (.aload_n 0, 1) := by decide +kernel
theorem dX5_init_101 : decode cX5_init 101 = .ok (.getfield 21, 3) := by decide +kernel
theorem dX5_init_104 : decode cX5_init 104 = .ok (.iload_n 1, 1) := by decide +kernel
theorem dX5_init_105 : decode cX5_init 105 = .ok (.new 19, 3) := by decide +kernel
theorem dX5_init_108 : decode cX5_init 108 = .ok (.dup, 1) := by decide +kernel
theorem dX5_init_109 : decode cX5_init 109 = .ok (.invokespecial 46, 3) := by decide +kernel
theorem dX5_init_112 : decode cX5_init 112 = .ok (.aastore, 1) := by decide +kernel
theorem dX5_init_113 : decode cX5_init 113 = .ok (.iinc 1 1, 3) := by decide +kernel
theorem dX5_init_116 : decode cX5_init 116 = .ok (.goto (-22), 3) := by decide +kernel
theorem dX5_init_119 : decode cX5_init 119 = .ok (.iconst 0, 1) := by decide +kernel
theorem dX5_init_120 : decode cX5_init 120 = .ok (.istore_n 1, 1) := by decide +kernel
theorem dX5_init_121 : decode cX5_init 121 = .ok (.iload_n 1, 1) := by decide +kernel
theorem dX5_init_122 : decode cX5_init 122 = .ok (.bipush 16, 2) := by decide +kernel
theorem dX5_init_124 : decode cX5_init 124 = .ok (.if_icmp .ge 22, 3) := by decide +kernel
theorem dX5_init_127 : decode cX5_init 127 = .ok (.aload_n 0, 1) := by decide +kernel
theorem dX5_init_128 : decode cX5_init 128 = .ok (.getfield 27, 3) := by decide +kernel
theorem dX5_init_131 : decode cX5_init 131 = .ok (.iload_n 1, 1) := by decide +kernel
theorem dX5_init_132 : decode cX5_init 132 = .ok (.new 25, 3) := by decide +kernel
theorem dX5_init_135 : decode cX5_init 135 = .ok (.dup, 1) := by decide +kernel
theorem dX5_init_136 : decode cX5_init 136 = .ok (.invokespecial 47, 3) := by decide +kernel
theorem dX5_init_139 : decode cX5_init 139 = .ok (.aastore, 1) := by decide +kernel
theorem dX5_init_140 : decode cX5_init 140 = .ok (.iinc 1 1, 3) := by decide +kernel
theorem dX5_init_143 : decode cX5_init 143 = .ok (.goto (-22), 3) := by decide +kernel
theorem dX5_init_146 : decode cX5_init 146 = .ok (.return_, 1) := by decide +kernel
theorem dX5_copyFrom_0 : decode cX5_copyFrom 0 = .ok (.aload_n 0, 1) := by decide +kernel
theorem dX5_copyFrom_1 : decode cX5_copyFrom 1 = .ok (.aload_n 1, 1) := by decide +kernel
theorem dX5_copyFrom_2 : decode cX5_copyFrom 2 = .ok (.getfield 48, 3) := by decide +kernel
theorem dX5_copyFrom_5 : decode cX5_copyFrom 5 = .ok (.putfield 48, 3) := by decide +kernel
theorem dX5_copyFrom_8 : decode cX5_copyFrom 8 = .ok (.aload_n 0, 1) := by decide +kernel
theorem dX5_copyFrom_9 : decode cX5_copyFrom 9 = .ok (.aload_n 1, 1) := by decide +kernel
theorem dX5_copyFrom_10 : decode cX5_copyFrom 10 = .ok (.getfield 9, 3) := by decide +kernel
theorem dX5_copyFrom_13 : decode cX5_copyFrom 13 = .ok (.putfield 9, 3) := by decide +kernel
theorem dX5_copyFrom_16 : decode cX5_copyFrom 16 = .ok (.aload_n 0, 1) := by decide +kernel
theorem dX5_copyFrom_17 : decode cX5_copyFrom 17 = .ok (.aload_n 1, 1) := by decide +kernel
theorem dX5_copyFrom_18 : decode cX5_copyFrom 18 = .ok (.getfield 51, 3) := by decide +kernel
theorem dX5_copyFrom_21 : decode cX5_copyFrom 21 = .ok (.putfield 51, 3) := by decide +kernel
theorem dX5_copyFrom_24 : decode cX5_copyFrom 24 = .ok (.aload_n 0, 1) := by decide +kernel
theorem dX5_copyFrom_25 : decode cX5_copyFrom 25 = .ok (.aload_n 1, 1) := by decide +kernel
theorem dX5_copyFrom_26 : decode cX5_copyFrom 26 = .ok (.getfield 54, 3) := by decide +kernel
theorem dX5_copyFrom_29 : decode cX5_copyFrom 29 = .ok (.putfield 54, 3) := by decide +kernel
theorem dX5_copyFrom_32 : decode cX5_copyFrom 32 = .ok (.aload_n 0, 1) := by decide +kernel
theorem dX5_copyFrom_33 : decode cX5_copyFrom 33 = .ok (.aload_n 1, 1) := by decide +kernel
theorem dX5_copyFrom_34 : decode cX5_copyFrom 34 = .ok (.getfield 57, 3) := by decide +kernel
theorem dX5_copyFrom_37 : decode cX5_copyFrom 37 = .ok (.putfield 57, 3) := by decide +kernel
theorem dX5_copyFrom_40 : decode cX5_copyFrom 40 = .ok (.aload_n 0, 1) := by decide +kernel
theorem dX5_copyFrom_41 : decode cX5_copyFrom 41 = .ok (.aload_n 1, 1) := by decide +kernel
theorem dX5_copyFrom_42 : decode cX5_copyFrom 42 = .ok (.getfield 60, 3) := by decide +kernel
theorem dX5_copyFrom_45 : decode cX5_copyFrom 45 = .ok (.putfield 60, 3) := by decide +kernel
theorem dX5_copyFrom_48 : decode cX5_copyFrom 48 = .ok (.aload_n 1, 1) := by decide +kernel
theorem dX5_copyFrom_49 : decode cX5_copyFrom 49 = .ok (.getfield 15, 3) := by decide +kernel
theorem dX5_copyFrom_52 : decode cX5_copyFrom 52 = .ok (.iconst 0, 1) := by decide +kernel
theorem dX5_copyFrom_53 : decode cX5_copyFrom 53 = .ok (.aload_n 0, 1) := by decide +kernel
theorem dX5_copyFrom_54 : decode cX5_copyFrom 54 = .ok (.getfield 15, 3) := by decide +kernel
theorem dX5_copyFrom_57 : decode cX5_copyFrom 57 = .ok (.iconst 0, 1) := by decide +kernel
theorem dX5_copyFrom_58 : decode cX5_copyFrom 58 = .ok (.bipush 10, 2) := by decide +kernel
theorem dX5_copyFrom_60 : decode cX5_copyFrom 60 = .ok (.invokestatic 63, 3) := by decide +kernel
theorem dX5_copyFrom_63 : decode cX5_copyFrom 63 = .ok (.aload_n 1, 1) := by decide +kernel
theorem dX5_copyFrom_64 : decode cX5_copyFrom 64 = .ok (.getfield 31, 3) := by decide +kernel
theorem dX5_copyFrom_67 : decode cX5_copyFrom 67 = .ok (.iconst 0, 1) := by decide +kernel
theorem dX5_copyFrom_68 : decode cX5_copyFrom 68 = .ok (.aload_n 0, 1) := by decide +kernel
theorem dX5_copyFrom_69 : decode cX5_copyFrom 69 = .ok (.getfield 31, 3) := by decide +kernel
theorem dX5_copyFrom_72 : decode cX5_copyFrom 72 = .ok (.iconst 0, 1) := by decide +kernel
theorem dX5_copyFrom_73 : decode cX5_copyFrom 73 = .ok (.bipush 8, 2) := by decide +kernel
theorem dX5_copyFrom_75 : decode cX5_copyFrom 75 = .ok (.invokestatic 63, 3) := by decide +kernel
theorem dX5_copyFrom_78 : decode cX5_copyFrom 78 = .ok (.aload_n 1, 1) := by decide +kernel
theorem dX5_copyFrom_79 : decode cX5_copyFrom 79 = .ok (.getfield 34, 3) := by decide +kernel
theorem dX5_copyFrom_82 : decode cX5_copyFrom 82 = .ok (.iconst 0, 1) := by decide +kernel
theorem dX5_copyFrom_83 : decode cX5_copyFrom 83 = .ok (.aload_n 0, 1) := by decide +kernel
theorem dX5_copyFrom_84 : decode cX5_copyFrom 84 = .ok (.getfield 34, 3) := by decide +kernel
theorem dX5_copyFrom_87 : decode cX5_copyFrom 87 = .ok (.iconst 0, 1) := by decide +kernel
theorem dX5_copyFrom_88 : decode cX5_copyFrom 88 = .ok (.bipush 8, 2) := by decide +kernel
theorem dX5_copyFrom_90 : decode cX5_copyFrom 90 = .ok (.invokestatic 63, 3) := by decide +kernel
theorem dX5_copyFrom_93 : decode cX5_copyFrom 93 = .ok (.iconst 0, 1) := by decide +kernel
theorem dX5_copyFrom_94 : decode cX5_copyFrom 94 = .ok (.istore_n 2, 1) := by decide +kernel
theorem dX5_copyFrom_95 : decode cX5_copyFrom 95 = .ok (.iload_n 2, 1) := by decide +kernel
theorem dX5_copyFrom_96 : decode cX5_copyFrom 96 = .ok (.aload_n 0, 1) := by decide +kernel
theorem dX5_copyFrom_97 : decode cX5_copyFrom 97 = .ok (.getfield 51, 3) := by decide +kernel
theorem dX5_copyFrom_100 : decode cX5_copyFrom 100 = .ok (.if_icmp .ge 24, 3) := by decide +kernel
theorem dX5_copyFrom_103 : decode cX5_copyFrom 103 = .ok (.aload_n 0, 1) := by decide +kernel
theorem dX5_copyFrom_104 : decode cX5_copyFrom 104 = .ok (.getfield 21, 3) := by decide +kernel
theorem dX5_copyFrom_107 : decode cX5_copyFrom 107 = .ok (.iload_n 2, 1) := by decide +kernel
theorem dX5_copyFrom_108 : decode cX5_copyFrom 108 = .ok (.aaload, 1) := by decide +kernel
theorem dX5_copyFrom_109 : decode cX5_copyFrom 109 = .ok (.aload_n 1, 1) := by decide +kernel
theorem dX5_copyFrom_110 : decode cX5_copyFrom 110 = .ok (.getfield 21, 3) := by decide +kernel
theorem dX5_copyFrom_113 : decode cX5_copyFrom 113 = .ok (.iload_n 2, 1) := by decide +kernel
theorem dX5_copyFrom_114 : decode cX5_copyFrom 114 = .ok (.aaload, 1) := by decide +kernel
theorem dX5_copyFrom_115 : decode cX5_copyFrom 115 = .ok (.invokevirtual 69, 3) := by decide +kernel
theorem dX5_copyFrom_118 : decode cX5_copyFrom 118 = .ok (.iinc 2 1, 3) := by decide +kernel
theorem dX5_copyFrom_121 : decode cX5_copyFrom 121 = .ok (.goto (-26), 3) := by decide +kernel
theorem dX5_copyFrom_124 : decode cX5_copyFrom 124 = .ok (.iconst 0, 1) := by decide +kernel
theorem dX5_copyFrom_125 : decode cX5_copyFrom 125 = .ok (.istore_n 2, 1) := by decide +kernel
theorem dX5_copyFrom_126 : decode cX5_copyFrom 126 = .ok (.iload_n 2, 1) := by decide +kernel
theorem dX5_copyFrom_127 : decode cX5_copyFrom 127 = .ok (.aload_n 0, 1) := by decide +kernel
theorem dX5_copyFrom_128 : decode cX5_copyFrom 128 = .ok (.getfield 54, 3) := by decide +kernel
theorem dX5_copyFrom_131 : decode cX5_copyFrom 131 = .ok (.if_icmp .ge 24, 3) := by decide +kernel
theorem dX5_copyFrom_134 : decode cX5_copyFrom 134 = .ok (.aload_n 0, 1) := by decide +kernel
theorem dX5_copyFrom_135 : decode cX5_copyFrom 135 = .ok (.getfield 27, 3) := by decide +kernel
theorem dX5_copyFrom_138 : decode cX5_copyFrom 138 = .ok (.iload_n 2, 1) := by decide +kernel
theorem dX5_copyFrom_139 : decode cX5_copyFrom 139 = .ok (.aaload, 1) := by decide +kernel
theorem dX5_copyFrom_140 : decode cX5_copyFrom 140 = .ok (.aload_n 1, 1) := by decide +kernel
theorem dX5_copyFrom_141 : decode cX5_copyFrom 141 = .ok (.getfield 27, 3) := by decide +kernel
theorem dX5_copyFrom_144 : decode cX5_copyFrom 144 = .ok (.iload_n 2, 1) := by decide +kernel
theorem dX5_copyFrom_145 : decode cX5_copyFrom 145 = .ok (.aaload, 1) := by decide +kernel
theorem dX5_copyFrom_146 : decode cX5_copyFrom 146 = .ok (.invokevirtual 73, 3) := by decide +kernel
theorem dX5_copyFrom_149 : decode cX5_copyFrom 149 = .ok (.iinc 2 1, 3) := by decide +kernel
theorem dX5_copyFrom_152 : decode cX5_copyFrom 152 = .ok (.goto (-26), 3) := by decide +kernel
theorem dX5_copyFrom_155 : decode cX5_copyFrom 155 = .ok (.return_, 1) := by decide +kernel
theorem dX5_hasCart_0 : decode cX5_hasCart 0 = .ok (.iload_n 1, 1) := by decide +kernel
theorem dX5_hasCart_1 : decode cX5_hasCart 1 = .ok (.ifCond .lt 21, 3) := by decide +kernel
theorem dX5_hasCart_4 : decode cX5_hasCart 4 = .ok (.iload_n 1, 1) := by decide +kernel
theorem dX5_hasCart_5 : decode cX5_hasCart 5 = .ok (.aload_n 0, 1) := by decide +kernel
theorem dX5_hasCart_6 : decode cX5_hasCart 6 = .ok (.getfield 54, 3) := by decide +kernel
theorem dX5_hasCart_9 : decode cX5_hasCart 9 = .ok (.if_icmp .ge 13, 3) := by decide +kernel
theorem dX5_hasCart_12 : decode cX5_hasCart 12 = .ok (.iload_n 1, 1) := by decide +kernel
theorem dX5_hasCart_13 : decode cX5_hasCart 13 = .ok (.bipush 16, 2) := by decide +kernel
theorem dX5_hasCart_15 : decode cX5_hasCart 15 = .ok (.if_icmp .ge 7, 3) := by decide +kernel
theorem dX5_hasCart_18 : decode cX5_hasCart 18 = .ok (.iconst 1, 1) := by decide +kernel
theorem dX5_hasCart_19 : decode cX5_hasCart 19 = .ok (.goto 4, 3) := by decide +kernel
theorem dX5_hasCart_22 : decode cX5_hasCart 22 = .ok (.iconst 0, 1) := by decide +kernel
theorem dX5_hasCart_23 : decode cX5_hasCart 23 = .ok (.ireturn, 1) := by decide +kernel
theorem dX5_hasPitch_0 : decode cX5_hasPitch 0 = .ok (.iload_n 1, 1) := by decide +kernel
theorem dX5_hasPitch_1 : decode cX5_hasPitch 1 = .ok (.ifCond .lt 21, 3) := by decide +kernel
theorem dX5_hasPitch_4 : decode cX5_hasPitch 4 = .ok (.iload_n 1, 1) := by decide +kernel
theorem dX5_hasPitch_5 : decode cX5_hasPitch 5 = .ok (.aload_n 0, 1) := by decide +kernel
theorem dX5_hasPitch_6 : decode cX5_hasPitch 6 = .ok (.getfield 51, 3) := by decide +kernel
theorem dX5_hasPitch_9 : decode cX5_hasPitch 9 = .ok (.if_icmp .ge 13, 3) := by decide +kernel
theorem dX5_hasPitch_12 : decode cX5_hasPitch 12 = .ok (.iload_n 1, 1) := by decide +kernel
theorem dX5_hasPitch_13 : decode cX5_hasPitch 13 = .ok (.bipush 10, 2) := by decide +kernel
theorem dX5_hasPitch_15 : decode cX5_hasPitch 15 = .ok (.if_icmp .ge 7, 3) := by decide +kernel
theorem dX5_hasPitch_18 : decode cX5_hasPitch 18 = .ok (.iconst 1, 1) := by decide +kernel
theorem dX5_hasPitch_19 : decode cX5_hasPitch 19 = .ok (.goto 4, 3) := by decide +kernel
theorem dX5_hasPitch_22 : decode cX5_hasPitch 22 = .ok (.iconst 0, 1) := by decide +kernel
theorem dX5_hasPitch_23 : decode cX5_hasPitch 23 = .ok (.ireturn, 1) := by decide +kernel
theorem dX5_changeSetting_0 : decode cX5_changeSetting 0 = .ok (.iload_n 1, 1) := by decide +kernel
theorem dX5_changeSetting_1 : decode cX5_changeSetting 1 = .ok (.ifCond .lt 27, 3) := by decide +kernel
theorem dX5_changeSetting_4 : decode cX5_changeSetting 4 = .ok (.iload_n 1, 1) := by decide +kernel
theorem dX5_changeSetting_5 : decode cX5_changeSetting 5 = .ok (.bipush 10, 2) := by decide +kernel
theorem dX5_changeSetting_7 : decode cX5_changeSetting 7 = .ok (.if_icmp .ge 21, 3) := by decide +kernel
theorem dX5_changeSetting_10 : decode cX5_changeSetting 10 = .ok (.iload_n 2, 1) := by decide +kernel
theorem dX5_changeSetting_11 : decode cX5_changeSetting 11 = .ok (.getstatic 76, 3) := by decide +kernel
theorem dX5_changeSetting_14 : decode cX5_changeSetting 14 = .ok (.iload_n 1, 1) := by decide +kernel
theorem dX5_changeSetting_15 : decode cX5_changeSetting 15 = .ok (.iaload, 1) := by decide +kernel
theorem dX5_changeSetting_16 : decode cX5_changeSetting 16 = .ok (.if_icmp .lt 12, 3) := by decide +kernel
theorem dX5_changeSetting_19 : decode cX5_changeSetting 19 = .ok (.iload_n 2, 1) := by decide +kernel
theorem dX5_changeSetting_20 : decode cX5_changeSetting 20 = .ok (.getstatic 79, 3) := by decide +kernel
theorem dX5_changeSetting_23 : decode cX5_changeSetting 23 = .ok (.iload_n 1, 1) := by decide +kernel
theorem dX5_changeSetting_24 : decode cX5_changeSetting 24 = .ok (.iaload, 1) := by decide +kernel
theorem dX5_changeSetting_25 : decode cX5_changeSetting 25 = .ok (.if_icmp .le 6, 3) := by decide +kernel
theorem dX5_changeSetting_28 : decode cX5_changeSetting 28 = .ok (.bipush (-2), 2) := by decide +kernel
theorem dX5_changeSetting_30 : decode cX5_changeSetting 30 = .ok (.ireturn, 1) := by decide +kernel
theorem dX5_changeSetting_31 : decode cX5_changeSetting 31 = .ok (.aload_n 0, 1) := by decide +kernel
theorem dX5_changeSetting_32 : decode cX5_changeSetting 32 = .ok (.getfield 15, 3) := by decide +kernel
theorem dX5_changeSetting_35 : decode cX5_changeSetting 35 = .ok (.iload_n 1, 1) := by decide +kernel
theorem dX5_changeSetting_36 : decode cX5_changeSetting 36 = .ok (.iaload, 1) := by decide +kernel
theorem dX5_changeSetting_37 : decode cX5_changeSetting 37 = .ok (.istore_n 3, 1) := by decide +kernel
theorem dX5_changeSetting_38 : decode cX5_changeSetting 38 = .ok (.aload_n 0, 1) := by decide +kernel
theorem dX5_changeSetting_39 : decode cX5_changeSetting 39 = .ok (.getfield 15, 3) := by decide +kernel
theorem dX5_changeSetting_42 : decode cX5_changeSetting 42 = .ok (.iload_n 1, 1) := by decide +kernel
theorem dX5_changeSetting_43 : decode cX5_changeSetting 43 = .ok (.iload_n 2, 1) := by decide +kernel
theorem dX5_changeSetting_44 : decode cX5_changeSetting 44 = .ok (.iastore, 1) := by decide +kernel
theorem dX5_changeSetting_45 : decode cX5_changeSetting 45 = .ok (.iload_n 3, 1) := by decide +kernel
theorem dX5_changeSetting_46 : decode cX5_changeSetting 46 = .ok (.ireturn, 1) := by decide +kernel
theorem dX5_changeLots_0 : decode cX5_changeLots 0 = .ok (.iload_n 1, 1) := by decide +kernel
theorem dX5_changeLots_1 : decode cX5_changeLots 1 = .ok (.ifCond .lt 9, 3) := by decide +kernel
theorem dX5_changeLots_4 : decode cX5_changeLots 4 = .ok (.iload_n 1, 1) := by decide +kernel
theorem dX5_changeLots_5 : decode cX5_changeLots 5 = .ok (.ldc 82, 2) := by decide +kernel
theorem dX5_changeLots_7 : decode cX5_changeLots 7 = .ok (.if_icmp .lt 6, 3) := by decide +kernel
theorem dX5_changeLots_10 : decode cX5_changeLots 10 = .ok (.bipush (-2), 2) := by decide +kernel
theorem dX5_changeLots_12 : decode cX5_changeLots 12 = .ok (.ireturn, 1) := by decide +kernel
theorem dX5_changeLots_13 : decode cX5_changeLots 13 = .ok (.aload_n 0, 1) := by decide +kernel
theorem dX5_changeLots_14 : decode cX5_changeLots 14 = .ok (.getfield 9, 3) := by decide +kernel
theorem dX5_changeLots_17 : decode cX5_changeLots 17 = .ok (.istore_n 2, 1) := by decide +kernel
theorem dX5_changeLots_18 : decode cX5_changeLots 18 = .ok (.aload_n 0, 1) := by decide +kernel
theorem dX5_changeLots_19 : decode cX5_changeLots 19 = .ok (.iload_n 1, 1) := by decide +kernel
theorem dX5_changeLots_20 : decode cX5_changeLots 20 = .ok (.putfield 9, 3) := by decide +kernel
theorem dX5_changeLots_23 : decode cX5_changeLots 23 = .ok (.iload_n 2, 1) := by decide +kernel
theorem dX5_changeLots_24 : decode cX5_changeLots 24 = .ok (.ireturn, 1) := by decide +kernel
theorem dX5_addPitch_0 : decode cX5_addPitch 0 = .ok (.iload_n 1, 1) := by decide +kernel
theorem dX5_addPitch_1 : decode cX5_addPitch 1 = .ok (.ifCond .lt 10, 3) := by decide +kernel
theorem dX5_addPitch_4 : decode cX5_addPitch 4 = .ok (.iload_n 1, 1) := by decide +kernel
theorem dX5_addPitch_5 : decode cX5_addPitch 5 = .ok (.sipush 20000, 3) := by decide +kernel
theorem dX5_addPitch_8 : decode cX5_addPitch 8 = .ok (.if_icmp .le 6, 3) := by decide +kernel
theorem dX5_addPitch_11 : decode cX5_addPitch 11 = .ok (.bipush (-2), 2) := by decide +kernel
theorem dX5_addPitch_13 : decode cX5_addPitch 13 = .ok (.ireturn, 1) := by decide +kernel
theorem dX5_addPitch_14 : decode cX5_addPitch 14 = .ok (.aload_n 0, 1) := by decide +kernel
theorem dX5_addPitch_15 : decode cX5_addPitch 15 = .ok (.getfield 51, 3) := by decide +kernel
theorem dX5_addPitch_18 : decode cX5_addPitch 18 = .ok (.bipush 10, 2) := by decide +kernel
theorem dX5_addPitch_20 : decode cX5_addPitch 20 = .ok (.if_icmp .lt 6, 3) := by decide +kernel
theorem dX5_addPitch_23 : decode cX5_addPitch 23 = .ok (.bipush (-4), 2) := by decide +kernel
theorem dX5_addPitch_25 : decode cX5_addPitch 25 = .ok (.ireturn, 1) := by decide +kernel
theorem dX5_addPitch_26 : decode cX5_addPitch 26 = .ok (.aload_n 0, 1) := by decide +kernel
theorem dX5_addPitch_27 : decode cX5_addPitch 27 = .ok (.getfield 21, 3) := by decide +kernel
theorem dX5_addPitch_30 : decode cX5_addPitch 30 = .ok (.aload_n 0, 1) := by decide +kernel
theorem dX5_addPitch_31 : decode cX5_addPitch 31 = .ok (.getfield 51, 3) := by decide +kernel
theorem dX5_addPitch_34 : decode cX5_addPitch 34 = .ok (.aaload, 1) := by decide +kernel
theorem dX5_addPitch_35 : decode cX5_addPitch 35 = .ok (.iload_n 1, 1) := by decide +kernel
theorem dX5_addPitch_36 : decode cX5_addPitch 36 = .ok (.invokevirtual 83, 3) := by decide +kernel
theorem dX5_addPitch_39 : decode cX5_addPitch 39 = .ok (.aload_n 0, 1) := by decide +kernel
theorem dX5_addPitch_40 : decode cX5_addPitch 40 = .ok (.dup, 1) := by decide +kernel
theorem dX5_addPitch_41 : decode cX5_addPitch 41 = .ok (.getfield 51, 3) := by decide +kernel
theorem dX5_addPitch_44 : decode cX5_addPitch 44 = .ok (.iconst 1, 1) := by decide +kernel
theorem dX5_addPitch_45 : decode cX5_addPitch 45 = .ok (.iadd, 1) := by decide +kernel
theorem dX5_addPitch_46 : decode cX5_addPitch 46 = .ok (.putfield 51, 3) := by decide +kernel
theorem dX5_addPitch_49 : decode cX5_addPitch 49 = .ok (.aload_n 0, 1) := by decide +kernel
theorem dX5_addPitch_50 : decode cX5_addPitch 50 = .ok (.getfield 51, 3) := by decide +kernel
theorem dX5_addPitch_53 : decode cX5_addPitch 53 = .ok (.iconst 1, 1) := by decide +kernel
theorem dX5_addPitch_54 : decode cX5_addPitch 54 = .ok (.isub, 1) := by decide +kernel
theorem dX5_addPitch_55 : decode cX5_addPitch 55 = .ok (.ireturn, 1) := by decide +kernel
theorem dX5_changeRent_0 : decode cX5_changeRent 0 = .ok (.aload_n 0, 1) := by decide +kernel
theorem dX5_changeRent_1 : decode cX5_changeRent 1 = .ok (.iload_n 1, 1) := by decide +kernel
theorem dX5_changeRent_2 : decode cX5_changeRent 2 = .ok (.invokevirtual 87, 3) := by decide +kernel
theorem dX5_changeRent_5 : decode cX5_changeRent 5 = .ok (.ifCond .ne 5, 3) := by decide +kernel
theorem dX5_changeRent_8 : decode cX5_changeRent 8 = .ok (.iconst (-1), 1) := by decide +kernel
theorem dX5_changeRent_9 : decode cX5_changeRent 9 = .ok (.ireturn, 1) := by decide +kernel
theorem dX5_changeRent_10 : decode cX5_changeRent 10 = .ok (.iload_n 2, 1) := by decide +kernel
theorem dX5_changeRent_11 : decode cX5_changeRent 11 = .ok (.ifCond .lt 10, 3) := by decide +kernel
theorem dX5_changeRent_14 : decode cX5_changeRent 14 = .ok (.iload_n 2, 1) := by decide +kernel
theorem dX5_changeRent_15 : decode cX5_changeRent 15 = .ok (.sipush 20000, 3) := by decide +kernel
theorem dX5_changeRent_18 : decode cX5_changeRent 18 = .ok (.if_icmp .le 6, 3) := by decide +kernel
theorem dX5_changeRent_21 : decode cX5_changeRent 21 = .ok (.bipush (-2), 2) := by decide +kernel
theorem dX5_changeRent_23 : decode cX5_changeRent 23 = .ok (.ireturn, 1) := by decide +kernel
theorem dX5_changeRent_24 : decode cX5_changeRent 24 = .ok (.aload_n 0, 1) := by decide +kernel
theorem dX5_changeRent_25 : decode cX5_changeRent 25 = .ok (.getfield 21, 3) := by decide +kernel
theorem dX5_changeRent_28 : decode cX5_changeRent 28 = .ok (.iload_n 1, 1) := by decide +kernel
theorem dX5_changeRent_29 : decode cX5_changeRent 29 = .ok (.aaload, 1) := by decide +kernel
theorem dX5_changeRent_30 : decode cX5_changeRent 30 = .ok (.getfield 91, 3) := by decide +kernel
theorem dX5_changeRent_33 : decode cX5_changeRent 33 = .ok (.istore_n 3, 1) := by decide +kernel
theorem dX5_changeRent_34 : decode cX5_changeRent 34 = .ok (.aload_n 0, 1) := by decide +kernel
theorem dX5_changeRent_35 : decode cX5_changeRent 35 = .ok (.getfield 21, 3) := by decide +kernel
theorem dX5_changeRent_38 : decode cX5_changeRent 38 = .ok (.iload_n 1, 1) := by decide +kernel
theorem dX5_changeRent_39 : decode cX5_changeRent 39 = .ok (.aaload, 1) := by decide +kernel
theorem dX5_changeRent_40 : decode cX5_changeRent 40 = .ok (.iload_n 2, 1) := by decide +kernel
theorem dX5_changeRent_41 : decode cX5_changeRent 41 = .ok (.putfield 91, 3) := by decide +kernel
theorem dX5_changeRent_44 : decode cX5_changeRent 44 = .ok (.iload_n 3, 1) := by decide +kernel
theorem dX5_changeRent_45 : decode cX5_changeRent 45 = .ok (.ireturn, 1) := by decide +kernel
theorem dX5_addCart_0 : decode cX5_addCart 0 = .ok (.iload_n 1, 1) := by decide +kernel
theorem dX5_addCart_1 : decode cX5_addCart 1 = .ok (.ifCond .lt 19, 3) := by decide +kernel
theorem dX5_addCart_4 : decode cX5_addCart 4 = .ok (.iload_n 1, 1) := by decide +kernel
theorem dX5_addCart_5 : decode cX5_addCart 5 = .ok (.iconst 5, 1) := by decide +kernel
theorem dX5_addCart_6 : decode cX5_addCart 6 = .ok (.if_icmp .gt 14, 3) := by decide +kernel
theorem dX5_addCart_9 : decode cX5_addCart 9 = .ok (.iload_n 2, 1) := by decide +kernel
theorem dX5_addCart_10 : decode cX5_addCart 10 = .ok (.iconst 1, 1) := by decide +kernel
theorem dX5_addCart_11 : decode cX5_addCart 11 = .ok (.if_icmp .lt 9, 3) := by decide +kernel
theorem dX5_addCart_14 : decode cX5_addCart 14 = .ok (.iload_n 2, 1) := by decide +kernel
theorem dX5_addCart_15 : decode cX5_addCart 15 = .ok (.bipush 6, 2) := by decide +kernel
theorem dX5_addCart_17 : decode cX5_addCart 17 = .ok (.if_icmp .le 6, 3) := by decide +kernel
theorem dX5_addCart_20 : decode cX5_addCart 20 = .ok (.bipush (-2), 2) := by decide +kernel
theorem dX5_addCart_22 : decode cX5_addCart 22 = .ok (.ireturn, 1) := by decide +kernel
theorem dX5_addCart_23 : decode cX5_addCart 23 = .ok (.aload_n 0, 1) := by decide +kernel
theorem dX5_addCart_24 : decode cX5_addCart 24 = .ok (.getfield 54, 3) := by decide +kernel
theorem dX5_addCart_27 : decode cX5_addCart 27 = .ok (.bipush 16, 2) := by decide +kernel
theorem dX5_addCart_29 : decode cX5_addCart 29 = .ok (.if_icmp .lt 6, 3) := by decide +kernel
theorem dX5_addCart_32 : decode cX5_addCart 32 = .ok (.bipush (-4), 2) := by decide +kernel
theorem dX5_addCart_34 : decode cX5_addCart 34 = .ok (.ireturn, 1) := by decide +kernel
theorem dX5_addCart_35 : decode cX5_addCart 35 = .ok (.aload_n 0, 1) := by decide +kernel
theorem dX5_addCart_36 : decode cX5_addCart 36 = .ok (.getfield 27, 3) := by decide +kernel
theorem dX5_addCart_39 : decode cX5_addCart 39 = .ok (.aload_n 0, 1) := by decide +kernel
theorem dX5_addCart_40 : decode cX5_addCart 40 = .ok (.getfield 54, 3) := by decide +kernel
theorem dX5_addCart_43 : decode cX5_addCart 43 = .ok (.aaload, 1) := by decide +kernel
theorem dX5_addCart_44 : decode cX5_addCart 44 = .ok (.iload_n 1, 1) := by decide +kernel
theorem dX5_addCart_45 : decode cX5_addCart 45 = .ok (.iload_n 2, 1) := by decide +kernel
theorem dX5_addCart_46 : decode cX5_addCart 46 = .ok (.aload_n 0, 1) := by decide +kernel
theorem dX5_addCart_47 : decode cX5_addCart 47 = .ok (.getfield 48, 3) := by decide +kernel
theorem dX5_addCart_50 : decode cX5_addCart 50 = .ok (.aload_n 0, 1) := by decide +kernel
theorem dX5_addCart_51 : decode cX5_addCart 51 = .ok (.getfield 15, 3) := by decide +kernel
theorem dX5_addCart_54 : decode cX5_addCart 54 = .ok (.iconst 1, 1) := by decide +kernel
theorem dX5_addCart_55 : decode cX5_addCart 55 = .ok (.iaload, 1) := by decide +kernel
theorem dX5_addCart_56 : decode cX5_addCart 56 = .ok (.iadd, 1) := by decide +kernel
theorem dX5_addCart_57 : decode cX5_addCart 57 = .ok (.invokevirtual 94, 3) := by decide +kernel
theorem dX5_addCart_60 : decode cX5_addCart 60 = .ok (.aload_n 0, 1) := by decide +kernel
theorem dX5_addCart_61 : decode cX5_addCart 61 = .ok (.dup, 1) := by decide +kernel
theorem dX5_addCart_62 : decode cX5_addCart 62 = .ok (.getfield 54, 3) := by decide +kernel
theorem dX5_addCart_65 : decode cX5_addCart 65 = .ok (.iconst 1, 1) := by decide +kernel
theorem dX5_addCart_66 : decode cX5_addCart 66 = .ok (.iadd, 1) := by decide +kernel
theorem dX5_addCart_67 : decode cX5_addCart 67 = .ok (.putfield 54, 3) := by decide +kernel
theorem dX5_addCart_70 : decode cX5_addCart 70 = .ok (.aload_n 0, 1) := by decide +kernel
theorem dX5_addCart_71 : decode cX5_addCart 71 = .ok (.getfield 54, 3) := by decide +kernel
theorem dX5_addCart_74 : decode cX5_addCart 74 = .ok (.iconst 1, 1) := by decide +kernel
theorem dX5_addCart_75 : decode cX5_addCart 75 = .ok (.isub, 1) := by decide +kernel
theorem dX5_addCart_76 : decode cX5_addCart 76 = .ok (.ireturn, 1) := by decide +kernel
theorem dX5_tellWishes_0 : decode cX5_tellWishes 0 = .ok (.aload_n 0, 1) := by decide +kernel
theorem dX5_tellWishes_1 : decode cX5_tellWishes 1 = .ok (.iload_n 1, 1) := by decide +kernel
theorem dX5_tellWishes_2 : decode cX5_tellWishes 2 = .ok (.invokevirtual 97, 3) := by decide +kernel
theorem dX5_tellWishes_5 : decode cX5_tellWishes 5 = .ok (.ifCond .ne 5, 3) := by decide +kernel
theorem dX5_tellWishes_8 : decode cX5_tellWishes 8 = .ok (.iconst (-1), 1) := by decide +kernel
theorem dX5_tellWishes_9 : decode cX5_tellWishes 9 = .ok (.ireturn, 1) := by decide +kernel
theorem dX5_tellWishes_10 : decode cX5_tellWishes 10 = .ok (.aload_n 0, 1) := by decide +kernel
theorem dX5_tellWishes_11 : decode cX5_tellWishes 11 = .ok (.iload_n 2, 1) := by decide +kernel
theorem dX5_tellWishes_12 : decode cX5_tellWishes 12 = .ok (.invokevirtual 100, 3) := by decide +kernel
theorem dX5_tellWishes_15 : decode cX5_tellWishes 15 = .ok (.ifCond .eq 20, 3) := by decide +kernel
theorem dX5_tellWishes_18 : decode cX5_tellWishes 18 = .ok (.aload_n 0, 1) := by decide +kernel
theorem dX5_tellWishes_19 : decode cX5_tellWishes 19 = .ok (.iload_n 3, 1) := by decide +kernel
theorem dX5_tellWishes_20 : decode cX5_tellWishes 20 = .ok (.invokevirtual 100, 3) := by decide +kernel
theorem dX5_tellWishes_23 : decode cX5_tellWishes 23 = .ok (.ifCond .eq 12, 3) := by decide +kernel
theorem dX5_tellWishes_26 : decode cX5_tellWishes 26 = .ok (.aload_n 0, 1) := by decide +kernel
theorem dX5_tellWishes_27 : decode cX5_tellWishes 27 = .ok (.iload 4, 2) := by decide +kernel
theorem dX5_tellWishes_29 : decode cX5_tellWishes 29 = .ok (.invokevirtual 100, 3) := by decide +kernel
theorem dX5_tellWishes_32 : decode cX5_tellWishes 32 = .ok (.ifCond .ne 6, 3) := by decide +kernel
theorem dX5_tellWishes_35 : decode cX5_tellWishes 35 = .ok (.bipush (-2), 2) := by decide +kernel
theorem dX5_tellWishes_37 : decode cX5_tellWishes 37 = .ok (.ireturn, 1) := by decide +kernel
theorem dX5_tellWishes_38 : decode cX5_tellWishes 38 = .ok (.iload_n 2, 1) := by decide +kernel
theorem dX5_tellWishes_39 : decode cX5_tellWishes 39 = .ok (.bipush (-6), 2) := by decide +kernel
theorem dX5_tellWishes_41 : decode cX5_tellWishes 41 = .ok (.if_icmp .ne 7, 3) := by decide +kernel
theorem dX5_tellWishes_44 : decode cX5_tellWishes 44 = .ok (.iconst 0, 1) := by decide +kernel
theorem dX5_tellWishes_45 : decode cX5_tellWishes 45 = .ok (.goto 25, 3) := by decide +kernel
theorem dX5_tellWishes_48 : decode cX5_tellWishes 48 = .ok (.iload_n 3, 1) := by decide +kernel
theorem dX5_tellWishes_49 : decode cX5_tellWishes 49 = .ok (.bipush (-6), 2) := by decide +kernel
theorem dX5_tellWishes_51 : decode cX5_tellWishes 51 = .ok (.if_icmp .ne 7, 3) := by decide +kernel
theorem dX5_tellWishes_54 : decode cX5_tellWishes 54 = .ok (.iconst 1, 1) := by decide +kernel
theorem dX5_tellWishes_55 : decode cX5_tellWishes 55 = .ok (.goto 15, 3) := by decide +kernel
theorem dX5_tellWishes_58 : decode cX5_tellWishes 58 = .ok (.iload 4, 2) := by decide +kernel
theorem dX5_tellWishes_60 : decode cX5_tellWishes 60 = .ok (.bipush (-6), 2) := by decide +kernel
theorem dX5_tellWishes_62 : decode cX5_tellWishes 62 = .ok (.if_icmp .ne 7, 3) := by decide +kernel
theorem dX5_tellWishes_65 : decode cX5_tellWishes 65 = .ok (.iconst 2, 1) := by decide +kernel
theorem dX5_tellWishes_66 : decode cX5_tellWishes 66 = .ok (.goto 4, 3) := by decide +kernel
theorem dX5_tellWishes_69 : decode cX5_tellWishes 69 = .ok (.iconst 3, 1) := by decide +kernel
theorem dX5_tellWishes_70 : decode cX5_tellWishes 70 = .ok (.istore 5, 2) := by decide +kernel
theorem dX5_tellWishes_72 : decode cX5_tellWishes 72 = .ok (.iload 5, 2) := by decide +kernel
theorem dX5_tellWishes_74 : decode cX5_tellWishes 74 = .ok (.iconst 2, 1) := by decide +kernel
theorem dX5_tellWishes_75 : decode cX5_tellWishes 75 = .ok (.if_icmp .lt 8, 3) := by decide +kernel
theorem dX5_tellWishes_78 : decode cX5_tellWishes 78 = .ok (.iload_n 2, 1) := by decide +kernel
theorem dX5_tellWishes_79 : decode cX5_tellWishes 79 = .ok (.iload_n 3, 1) := by decide +kernel
theorem dX5_tellWishes_80 : decode cX5_tellWishes 80 = .ok (.if_icmp .eq 21, 3) := by decide +kernel
theorem dX5_tellWishes_83 : decode cX5_tellWishes 83 = .ok (.iload 5, 2) := by decide +kernel
theorem dX5_tellWishes_85 : decode cX5_tellWishes 85 = .ok (.iconst 3, 1) := by decide +kernel
theorem dX5_tellWishes_86 : decode cX5_tellWishes 86 = .ok (.if_icmp .ne 18, 3) := by decide +kernel
theorem dX5_tellWishes_89 : decode cX5_tellWishes 89 = .ok (.iload_n 2, 1) := by decide +kernel
theorem dX5_tellWishes_90 : decode cX5_tellWishes 90 = .ok (.iload 4, 2) := by decide +kernel
theorem dX5_tellWishes_92 : decode cX5_tellWishes 92 = .ok (.if_icmp .eq 9, 3) := by decide +kernel
theorem dX5_tellWishes_95 : decode cX5_tellWishes 95 = .ok (.iload_n 3, 1) := by decide +kernel
theorem dX5_tellWishes_96 : decode cX5_tellWishes 96 = .ok (.iload 4, 2) := by decide +kernel
theorem dX5_tellWishes_98 : decode cX5_tellWishes 98 = .ok (.if_icmp .ne 6, 3) := by decide +kernel
theorem dX5_tellWishes_101 : decode cX5_tellWishes 101 = .ok (.bipush (-2), 2) := by decide +kernel
theorem dX5_tellWishes_103 : decode cX5_tellWishes 103 = .ok (.ireturn, 1) := by decide +kernel
theorem dX5_tellWishes_104 : decode cX5_tellWishes 104 = .ok (.aload_n 0, 1) := by decide +kernel
theorem dX5_tellWishes_105 : decode cX5_tellWishes 105 = .ok (.getfield 27, 3) := by decide +kernel
theorem dX5_tellWishes_108 : decode cX5_tellWishes 108 = .ok (.iload_n 1, 1) := by decide +kernel
theorem dX5_tellWishes_109 : decode cX5_tellWishes 109 = .ok (.aaload, 1) := by decide +kernel
theorem dX5_tellWishes_110 : decode cX5_tellWishes 110 = .ok (.astore 6, 2) := by decide +kernel
theorem dX5_tellWishes_112 : decode cX5_tellWishes 112 = .ok (.aload 6, 2) := by decide +kernel
theorem dX5_tellWishes_114 : decode cX5_tellWishes 114 = .ok (.iload 5, 2) := by decide +kernel
theorem dX5_tellWishes_116 : decode cX5_tellWishes 116 = .ok (.putfield 103, 3) := by decide +kernel
theorem dX5_tellWishes_119 : decode cX5_tellWishes 119 = .ok (.aload 6, 2) := by decide +kernel
theorem dX5_tellWishes_121 : decode cX5_tellWishes 121 = .ok (.getfield 106, 3) := by decide +kernel
theorem dX5_tellWishes_124 : decode cX5_tellWishes 124 = .ok (.iconst 0, 1) := by decide +kernel
theorem dX5_tellWishes_125 : decode cX5_tellWishes 125 = .ok (.iload_n 2, 1) := by decide +kernel
theorem dX5_tellWishes_126 : decode cX5_tellWishes 126 = .ok (.iastore, 1) := by decide +kernel
theorem dX5_tellWishes_127 : decode cX5_tellWishes 127 = .ok (.aload 6, 2) := by decide +kernel
theorem dX5_tellWishes_129 : decode cX5_tellWishes 129 = .ok (.getfield 106, 3) := by decide +kernel
theorem dX5_tellWishes_132 : decode cX5_tellWishes 132 = .ok (.iconst 1, 1) := by decide +kernel
theorem dX5_tellWishes_133 : decode cX5_tellWishes 133 = .ok (.iload_n 3, 1) := by decide +kernel
theorem dX5_tellWishes_134 : decode cX5_tellWishes 134 = .ok (.iastore, 1) := by decide +kernel
theorem dX5_tellWishes_135 : decode cX5_tellWishes 135 = .ok (.aload 6, 2) := by decide +kernel
theorem dX5_tellWishes_137 : decode cX5_tellWishes 137 = .ok (.getfield 106, 3) := by decide +kernel
theorem dX5_tellWishes_140 : decode cX5_tellWishes 140 = .ok (.iconst 2, 1) := by decide +kernel
theorem dX5_tellWishes_141 : decode cX5_tellWishes 141 = .ok (.iload 4, 2) := by decide +kernel
theorem dX5_tellWishes_143 : decode cX5_tellWishes 143 = .ok (.iastore, 1) := by decide +kernel
theorem dX5_tellWishes_144 : decode cX5_tellWishes 144 = .ok (.iload 5, 2) := by decide +kernel
theorem dX5_tellWishes_146 : decode cX5_tellWishes 146 = .ok (.ireturn, 1) := by decide +kernel
theorem dX5_isPitchOrNone_0 : decode cX5_isPitchOrNone 0 = .ok (.iload_n 1, 1) := by decide +kernel
theorem dX5_isPitchOrNone_1 : decode cX5_isPitchOrNone 1 = .ok (.bipush (-6), 2) := by decide +kernel
theorem dX5_isPitchOrNone_3 : decode cX5_isPitchOrNone 3 = .ok (.if_icmp .eq 11, 3) := by decide +kernel
theorem dX5_isPitchOrNone_6 : decode cX5_isPitchOrNone 6 = .ok (.aload_n 0, 1) := by decide +kernel
theorem dX5_isPitchOrNone_7 : decode cX5_isPitchOrNone 7 = .ok (.iload_n 1, 1) := by decide +kernel
theorem dX5_isPitchOrNone_8 : decode cX5_isPitchOrNone 8 = .ok (.invokevirtual 87, 3) := by decide +kernel
theorem dX5_isPitchOrNone_11 : decode cX5_isPitchOrNone 11 = .ok (.ifCond .eq 7, 3) := by decide +kernel
theorem dX5_isPitchOrNone_14 : decode cX5_isPitchOrNone 14 = .ok (.iconst 1, 1) := by decide +kernel
theorem dX5_isPitchOrNone_15 : decode cX5_isPitchOrNone 15 = .ok (.goto 4, 3) := by decide +kernel
theorem dX5_isPitchOrNone_18 : decode cX5_isPitchOrNone 18 = .ok (.iconst 0, 1) := by decide +kernel
theorem dX5_isPitchOrNone_19 : decode cX5_isPitchOrNone 19 = .ok (.ireturn, 1) := by decide +kernel
theorem dX5_punish_0 : decode cX5_punish 0 = .ok (.aload_n 0, 1) := by decide +kernel
theorem dX5_punish_1 : decode cX5_punish 1 = .ok (.iload_n 1, 1) := by decide +kernel
theorem dX5_punish_2 : decode cX5_punish 2 = .ok (.invokevirtual 97, 3) := by decide +kernel
theorem dX5_punish_5 : decode cX5_punish 5 = .ok (.ifCond .ne 5, 3) := by decide +kernel
theorem dX5_punish_8 : decode cX5_punish 8 = .ok (.iconst (-1), 1) := by decide +kernel
theorem dX5_punish_9 : decode cX5_punish 9 = .ok (.ireturn, 1) := by decide +kernel
theorem dX5_punish_10 : decode cX5_punish 10 = .ok (.iload_n 2, 1) := by decide +kernel
theorem dX5_punish_11 : decode cX5_punish 11 = .ok (.iconst 1, 1) := by decide +kernel
theorem dX5_punish_12 : decode cX5_punish 12 = .ok (.if_icmp .lt 9, 3) := by decide +kernel
theorem dX5_punish_15 : decode cX5_punish 15 = .ok (.iload_n 2, 1) := by decide +kernel
theorem dX5_punish_16 : decode cX5_punish 16 = .ok (.bipush 9, 2) := by decide +kernel
theorem dX5_punish_18 : decode cX5_punish 18 = .ok (.if_icmp .le 6, 3) := by decide +kernel
theorem dX5_punish_21 : decode cX5_punish 21 = .ok (.bipush (-2), 2) := by decide +kernel
theorem dX5_punish_23 : decode cX5_punish 23 = .ok (.ireturn, 1) := by decide +kernel
theorem dX5_punish_24 : decode cX5_punish 24 = .ok (.aload_n 0, 1) := by decide +kernel
theorem dX5_punish_25 : decode cX5_punish 25 = .ok (.aload_n 0, 1) := by decide +kernel
theorem dX5_punish_26 : decode cX5_punish 26 = .ok (.getfield 27, 3) := by decide +kernel
theorem dX5_punish_29 : decode cX5_punish 29 = .ok (.iload_n 1, 1) := by decide +kernel
theorem dX5_punish_30 : decode cX5_punish 30 = .ok (.aaload, 1) := by decide +kernel
theorem dX5_punish_31 : decode cX5_punish 31 = .ok (.iload_n 2, 1) := by decide +kernel
theorem dX5_punish_32 : decode cX5_punish 32 = .ok (.invokevirtual 109, 3) := by decide +kernel
theorem dX5_punish_35 : decode cX5_punish 35 = .ok (.ireturn, 1) := by decide +kernel
theorem dX5_givePoints_0 : decode cX5_givePoints 0 = .ok (.aload_n 1, 1) := by decide +kernel
theorem dX5_givePoints_1 : decode cX5_givePoints 1 = .ok (.dup, 1) := by decide +kernel
theorem dX5_givePoints_2 : decode cX5_givePoints 2 = .ok (.getfield 113, 3) := by decide +kernel
theorem dX5_givePoints_5 : decode cX5_givePoints 5 = .ok (.iload_n 2, 1) := by decide +kernel
theorem dX5_givePoints_6 : decode cX5_givePoints 6 = .ok (.i2l, 1) := by decide +kernel
theorem dX5_givePoints_7 : decode cX5_givePoints 7 = .ok (.aload_n 0, 1) := by decide +kernel
theorem dX5_givePoints_8 : decode cX5_givePoints 8 = .ok (.getfield 15, 3) := by decide +kernel
theorem dX5_givePoints_11 : decode cX5_givePoints 11 = .ok (.bipush 6, 2) := by decide +kernel
theorem dX5_givePoints_13 : decode cX5_givePoints 13 = .ok (.iaload, 1) := by decide +kernel
theorem dX5_givePoints_14 : decode cX5_givePoints 14 = .ok (.i2l, 1) := by decide +kernel
theorem dX5_givePoints_15 : decode cX5_givePoints 15 = .ok (.lmul, 1) := by decide +kernel
theorem dX5_givePoints_16 : decode cX5_givePoints 16 = .ok (.ladd, 1) := by decide +kernel
theorem dX5_givePoints_17 : decode cX5_givePoints 17 = .ok (.putfield 113, 3) := by decide +kernel
theorem dX5_givePoints_20 : decode cX5_givePoints 20 = .ok (.aload_n 1, 1) := by decide +kernel
theorem dX5_givePoints_21 : decode cX5_givePoints 21 = .ok (.aload_n 0, 1) := by decide +kernel
theorem dX5_givePoints_22 : decode cX5_givePoints 22 = .ok (.getfield 48, 3) := by decide +kernel
theorem dX5_givePoints_25 : decode cX5_givePoints 25 = .ok (.iload_n 2, 1) := by decide +kernel
theorem dX5_givePoints_26 : decode cX5_givePoints 26 = .ok (.invokevirtual 117, 3) := by decide +kernel
theorem dX5_givePoints_29 : decode cX5_givePoints 29 = .ok (.aload_n 1, 1) := by decide +kernel
theorem dX5_givePoints_30 : decode cX5_givePoints 30 = .ok (.aload_n 0, 1) := by decide +kernel
theorem dX5_givePoints_31 : decode cX5_givePoints 31 = .ok (.getfield 48, 3) := by decide +kernel
theorem dX5_givePoints_34 : decode cX5_givePoints 34 = .ok (.aload_n 0, 1) := by decide +kernel
theorem dX5_givePoints_35 : decode cX5_givePoints 35 = .ok (.getfield 48, 3) := by decide +kernel
theorem dX5_givePoints_38 : decode cX5_givePoints 38 = .ok (.aload_n 0, 1) := by decide +kernel
theorem dX5_givePoints_39 : decode cX5_givePoints 39 = .ok (.getfield 15, 3) := by decide +kernel
theorem dX5_givePoints_42 : decode cX5_givePoints 42 = .ok (.iconst 5, 1) := by decide +kernel
theorem dX5_givePoints_43 : decode cX5_givePoints 43 = .ok (.iaload, 1) := by decide +kernel
theorem dX5_givePoints_44 : decode cX5_givePoints 44 = .ok (.invokevirtual 121, 3) := by decide +kernel
theorem dX5_givePoints_47 : decode cX5_givePoints 47 = .ok (.istore_n 3, 1) := by decide +kernel
theorem dX5_givePoints_48 : decode cX5_givePoints 48 = .ok (.iload_n 3, 1) := by decide +kernel
theorem dX5_givePoints_49 : decode cX5_givePoints 49 = .ok (.aload_n 0, 1) := by decide +kernel
theorem dX5_givePoints_50 : decode cX5_givePoints 50 = .ok (.getfield 15, 3) := by decide +kernel
theorem dX5_givePoints_53 : decode cX5_givePoints 53 = .ok (.iconst 3, 1) := by decide +kernel
theorem dX5_givePoints_54 : decode cX5_givePoints 54 = .ok (.iaload, 1) := by decide +kernel
theorem dX5_givePoints_55 : decode cX5_givePoints 55 = .ok (.if_icmp .ge 5, 3) := by decide +kernel
theorem dX5_givePoints_58 : decode cX5_givePoints 58 = .ok (.iload_n 3, 1) := by decide +kernel
theorem dX5_givePoints_59 : decode cX5_givePoints 59 = .ok (.ireturn, 1) := by decide +kernel
theorem dX5_givePoints_60 : decode cX5_givePoints 60 = .ok (.aload_n 1, 1) := by decide +kernel
theorem dX5_givePoints_61 : decode cX5_givePoints 61 = .ok (.aload_n 0, 1) := by decide +kernel
theorem dX5_givePoints_62 : decode cX5_givePoints 62 = .ok (.getfield 48, 3) := by decide +kernel
theorem dX5_givePoints_65 : decode cX5_givePoints 65 = .ok (.aload_n 0, 1) := by decide +kernel
theorem dX5_givePoints_66 : decode cX5_givePoints 66 = .ok (.getfield 15, 3) := by decide +kernel
theorem dX5_givePoints_69 : decode cX5_givePoints 69 = .ok (.iconst 4, 1) := by decide +kernel
theorem dX5_givePoints_70 : decode cX5_givePoints 70 = .ok (.iaload, 1) := by decide +kernel
theorem dX5_givePoints_71 : decode cX5_givePoints 71 = .ok (.iadd, 1) := by decide +kernel
theorem dX5_givePoints_72 : decode cX5_givePoints 72 = .ok (.putfield 125, 3) := by decide +kernel
theorem dX5_givePoints_75 : decode cX5_givePoints 75 = .ok (.aload_n 1, 1) := by decide +kernel
theorem dX5_givePoints_76 : decode cX5_givePoints 76 = .ok (.invokevirtual 128, 3) := by decide +kernel
theorem dX5_givePoints_79 : decode cX5_givePoints 79 = .ok (.iconst 0, 1) := by decide +kernel
theorem dX5_givePoints_80 : decode cX5_givePoints 80 = .ok (.ireturn, 1) := by decide +kernel
theorem dX5_askCheck_0 : decode cX5_askCheck 0 = .ok (.aload_n 0, 1) := by decide +kernel
theorem dX5_askCheck_1 : decode cX5_askCheck 1 = .ok (.iload_n 1, 1) := by decide +kernel
theorem dX5_askCheck_2 : decode cX5_askCheck 2 = .ok (.invokevirtual 97, 3) := by decide +kernel
theorem dX5_askCheck_5 : decode cX5_askCheck 5 = .ok (.ifCond .ne 5, 3) := by decide +kernel
theorem dX5_askCheck_8 : decode cX5_askCheck 8 = .ok (.iconst (-1), 1) := by decide +kernel
theorem dX5_askCheck_9 : decode cX5_askCheck 9 = .ok (.ireturn, 1) := by decide +kernel
theorem dX5_askCheck_10 : decode cX5_askCheck 10 = .ok (.aload_n 0, 1) := by decide +kernel
theorem dX5_askCheck_11 : decode cX5_askCheck 11 = .ok (.getfield 27, 3) := by decide +kernel
theorem dX5_askCheck_14 : decode cX5_askCheck 14 = .ok (.iload_n 1, 1) := by decide +kernel
theorem dX5_askCheck_15 : decode cX5_askCheck 15 = .ok (.aaload, 1) := by decide +kernel
theorem dX5_askCheck_16 : decode cX5_askCheck 16 = .ok (.getfield 131, 3) := by decide +kernel
theorem dX5_askCheck_19 : decode cX5_askCheck 19 = .ok (.ifCond .eq 6, 3) := by decide +kernel
theorem dX5_askCheck_22 : decode cX5_askCheck 22 = .ok (.bipush (-5), 2) := by decide +kernel
theorem dX5_askCheck_24 : decode cX5_askCheck 24 = .ok (.ireturn, 1) := by decide +kernel
theorem dX5_askCheck_25 : decode cX5_askCheck 25 = .ok (.aload_n 0, 1) := by decide +kernel
theorem dX5_askCheck_26 : decode cX5_askCheck 26 = .ok (.getfield 27, 3) := by decide +kernel
theorem dX5_askCheck_29 : decode cX5_askCheck 29 = .ok (.iload_n 1, 1) := by decide +kernel
theorem dX5_askCheck_30 : decode cX5_askCheck 30 = .ok (.aaload, 1) := by decide +kernel
theorem dX5_askCheck_31 : decode cX5_askCheck 31 = .ok (.iconst 1, 1) := by decide +kernel
theorem dX5_askCheck_32 : decode cX5_askCheck 32 = .ok (.putfield 131, 3) := by decide +kernel
theorem dX5_askCheck_35 : decode cX5_askCheck 35 = .ok (.aload_n 0, 1) := by decide +kernel
theorem dX5_askCheck_36 : decode cX5_askCheck 36 = .ok (.invokevirtual 135, 3) := by decide +kernel
theorem dX5_askCheck_39 : decode cX5_askCheck 39 = .ok (.ireturn, 1) := by decide +kernel
theorem dX5_askSwap_0 : decode cX5_askSwap 0 = .ok (.aload_n 0, 1) := by decide +kernel
theorem dX5_askSwap_1 : decode cX5_askSwap 1 = .ok (.iload_n 1, 1) := by decide +kernel
theorem dX5_askSwap_2 : decode cX5_askSwap 2 = .ok (.invokevirtual 97, 3) := by decide +kernel
theorem dX5_askSwap_5 : decode cX5_askSwap 5 = .ok (.ifCond .eq 16, 3) := by decide +kernel
theorem dX5_askSwap_8 : decode cX5_askSwap 8 = .ok (.aload_n 0, 1) := by decide +kernel
theorem dX5_askSwap_9 : decode cX5_askSwap 9 = .ok (.iload_n 2, 1) := by decide +kernel
theorem dX5_askSwap_10 : decode cX5_askSwap 10 = .ok (.invokevirtual 97, 3) := by decide +kernel
theorem dX5_askSwap_13 : decode cX5_askSwap 13 = .ok (.ifCond .eq 8, 3) := by decide +kernel
theorem dX5_askSwap_16 : decode cX5_askSwap 16 = .ok (.iload_n 1, 1) := by decide +kernel
theorem dX5_askSwap_17 : decode cX5_askSwap 17 = .ok (.iload_n 2, 1) := by decide +kernel
theorem dX5_askSwap_18 : decode cX5_askSwap 18 = .ok (.if_icmp .ne 5, 3) := by decide +kernel
theorem dX5_askSwap_21 : decode cX5_askSwap 21 = .ok (.iconst (-1), 1) := by decide +kernel
theorem dX5_askSwap_22 : decode cX5_askSwap 22 = .ok (.ireturn, 1) := by decide +kernel
theorem dX5_askSwap_23 : decode cX5_askSwap 23 = .ok (.aload_n 0, 1) := by decide +kernel
theorem dX5_askSwap_24 : decode cX5_askSwap 24 = .ok (.getfield 57, 3) := by decide +kernel
theorem dX5_askSwap_27 : decode cX5_askSwap 27 = .ok (.bipush 8, 2) := by decide +kernel
theorem dX5_askSwap_29 : decode cX5_askSwap 29 = .ok (.if_icmp .lt 6, 3) := by decide +kernel
theorem dX5_askSwap_32 : decode cX5_askSwap 32 = .ok (.bipush (-4), 2) := by decide +kernel
theorem dX5_askSwap_34 : decode cX5_askSwap 34 = .ok (.ireturn, 1) := by decide +kernel
theorem dX5_askSwap_35 : decode cX5_askSwap 35 = .ok (.aload_n 0, 1) := by decide +kernel
theorem dX5_askSwap_36 : decode cX5_askSwap 36 = .ok (.getfield 31, 3) := by decide +kernel
theorem dX5_askSwap_39 : decode cX5_askSwap 39 = .ok (.aload_n 0, 1) := by decide +kernel
theorem dX5_askSwap_40 : decode cX5_askSwap 40 = .ok (.getfield 57, 3) := by decide +kernel
theorem dX5_askSwap_43 : decode cX5_askSwap 43 = .ok (.iload_n 1, 1) := by decide +kernel
theorem dX5_askSwap_44 : decode cX5_askSwap 44 = .ok (.iastore, 1) := by decide +kernel
theorem dX5_askSwap_45 : decode cX5_askSwap 45 = .ok (.aload_n 0, 1) := by decide +kernel
theorem dX5_askSwap_46 : decode cX5_askSwap 46 = .ok (.getfield 34, 3) := by decide +kernel
theorem dX5_askSwap_49 : decode cX5_askSwap 49 = .ok (.aload_n 0, 1) := by decide +kernel
theorem dX5_askSwap_50 : decode cX5_askSwap 50 = .ok (.getfield 57, 3) := by decide +kernel
theorem dX5_askSwap_53 : decode cX5_askSwap 53 = .ok (.iload_n 2, 1) := by decide +kernel
theorem dX5_askSwap_54 : decode cX5_askSwap 54 = .ok (.iastore, 1) := by decide +kernel
theorem dX5_askSwap_55 : decode cX5_askSwap 55 = .ok (.aload_n 0, 1) := by decide +kernel
theorem dX5_askSwap_56 : decode cX5_askSwap 56 = .ok (.dup, 1) := by decide +kernel
theorem dX5_askSwap_57 : decode cX5_askSwap 57 = .ok (.getfield 57, 3) := by decide +kernel
theorem dX5_askSwap_60 : decode cX5_askSwap 60 = .ok (.iconst 1, 1) := by decide +kernel
theorem dX5_askSwap_61 : decode cX5_askSwap 61 = .ok (.iadd, 1) := by decide +kernel
theorem dX5_askSwap_62 : decode cX5_askSwap 62 = .ok (.putfield 57, 3) := by decide +kernel
theorem dX5_askSwap_65 : decode cX5_askSwap 65 = .ok (.aload_n 0, 1) := by decide +kernel
theorem dX5_askSwap_66 : decode cX5_askSwap 66 = .ok (.getfield 57, 3) := by decide +kernel
theorem dX5_askSwap_69 : decode cX5_askSwap 69 = .ok (.ireturn, 1) := by decide +kernel
theorem dX5_takeMoney_0 : decode cX5_takeMoney 0 = .ok (.aload_n 0, 1) := by decide +kernel
theorem dX5_takeMoney_1 : decode cX5_takeMoney 1 = .ok (.iload_n 1, 1) := by decide +kernel
theorem dX5_takeMoney_2 : decode cX5_takeMoney 2 = .ok (.invokevirtual 97, 3) := by decide +kernel
theorem dX5_takeMoney_5 : decode cX5_takeMoney 5 = .ok (.ifCond .ne 5, 3) := by decide +kernel
theorem dX5_takeMoney_8 : decode cX5_takeMoney 8 = .ok (.iconst (-1), 1) := by decide +kernel
theorem dX5_takeMoney_9 : decode cX5_takeMoney 9 = .ok (.ireturn, 1) := by decide +kernel
theorem dX5_takeMoney_10 : decode cX5_takeMoney 10 = .ok (.iload_n 2, 1) := by decide +kernel
theorem dX5_takeMoney_11 : decode cX5_takeMoney 11 = .ok (.iconst 1, 1) := by decide +kernel
theorem dX5_takeMoney_12 : decode cX5_takeMoney 12 = .ok (.if_icmp .lt 9, 3) := by decide +kernel
theorem dX5_takeMoney_15 : decode cX5_takeMoney 15 = .ok (.iload_n 2, 1) := by decide +kernel
theorem dX5_takeMoney_16 : decode cX5_takeMoney 16 = .ok (.ldc 139, 2) := by decide +kernel
theorem dX5_takeMoney_18 : decode cX5_takeMoney 18 = .ok (.if_icmp .le 6, 3) := by decide +kernel
theorem dX5_takeMoney_21 : decode cX5_takeMoney 21 = .ok (.bipush (-2), 2) := by decide +kernel
theorem dX5_takeMoney_23 : decode cX5_takeMoney 23 = .ok (.ireturn, 1) := by decide +kernel
theorem dX5_takeMoney_24 : decode cX5_takeMoney 24 = .ok (.aload_n 0, 1) := by decide +kernel
theorem dX5_takeMoney_25 : decode cX5_takeMoney 25 = .ok (.getfield 27, 3) := by decide +kernel
theorem dX5_takeMoney_28 : decode cX5_takeMoney 28 = .ok (.iload_n 1, 1) := by decide +kernel
theorem dX5_takeMoney_29 : decode cX5_takeMoney 29 = .ok (.aaload, 1) := by decide +kernel
theorem dX5_takeMoney_30 : decode cX5_takeMoney 30 = .ok (.dup, 1) := by decide +kernel
theorem dX5_takeMoney_31 : decode cX5_takeMoney 31 = .ok (.getfield 140, 3) := by decide +kernel
theorem dX5_takeMoney_34 : decode cX5_takeMoney 34 = .ok (.iload_n 2, 1) := by decide +kernel
theorem dX5_takeMoney_35 : decode cX5_takeMoney 35 = .ok (.i2l, 1) := by decide +kernel
theorem dX5_takeMoney_36 : decode cX5_takeMoney 36 = .ok (.ladd, 1) := by decide +kernel
theorem dX5_takeMoney_37 : decode cX5_takeMoney 37 = .ok (.putfield 140, 3) := by decide +kernel
theorem dX5_takeMoney_40 : decode cX5_takeMoney 40 = .ok (.aload_n 0, 1) := by decide +kernel
theorem dX5_takeMoney_41 : decode cX5_takeMoney 41 = .ok (.getfield 27, 3) := by decide +kernel
theorem dX5_takeMoney_44 : decode cX5_takeMoney 44 = .ok (.iload_n 1, 1) := by decide +kernel
theorem dX5_takeMoney_45 : decode cX5_takeMoney 45 = .ok (.aaload, 1) := by decide +kernel
theorem dX5_takeMoney_46 : decode cX5_takeMoney 46 = .ok (.invokevirtual 143, 3) := by decide +kernel
theorem dX5_takeMoney_49 : decode cX5_takeMoney 49 = .ok (.lconst 0, 1) := by decide +kernel
theorem dX5_takeMoney_50 : decode cX5_takeMoney 50 = .ok (.lcmp, 1) := by decide +kernel
theorem dX5_takeMoney_51 : decode cX5_takeMoney 51 = .ok (.ifCond .lt 7, 3) := by decide +kernel
theorem dX5_takeMoney_54 : decode cX5_takeMoney 54 = .ok (.iconst 1, 1) := by decide +kernel
theorem dX5_takeMoney_55 : decode cX5_takeMoney 55 = .ok (.goto 4, 3) := by decide +kernel
theorem dX5_takeMoney_58 : decode cX5_takeMoney 58 = .ok (.iconst 0, 1) := by decide +kernel
theorem dX5_takeMoney_59 : decode cX5_takeMoney 59 = .ok (.ireturn, 1) := by decide +kernel
theorem dX5_passDays_0 : decode cX5_passDays 0 = .ok (.iload_n 1, 1) := by decide +kernel
theorem dX5_passDays_1 : decode cX5_passDays 1 = .ok (.iconst 1, 1) := by decide +kernel
theorem dX5_passDays_2 : decode cX5_passDays 2 = .ok (.if_icmp .lt 9, 3) := by decide +kernel
theorem dX5_passDays_5 : decode cX5_passDays 5 = .ok (.iload_n 1, 1) := by decide +kernel
theorem dX5_passDays_6 : decode cX5_passDays 6 = .ok (.bipush 60, 2) := by decide +kernel
theorem dX5_passDays_8 : decode cX5_passDays 8 = .ok (.if_icmp .le 6, 3) := by decide +kernel
theorem dX5_passDays_11 : decode cX5_passDays 11 = .ok (.bipush (-2), 2) := by decide +kernel
theorem dX5_passDays_13 : decode cX5_passDays 13 = .ok (.ireturn, 1) := by decide +kernel
theorem dX5_passDays_14 : decode cX5_passDays 14 = .ok (.iconst 0, 1) := by decide +kernel
theorem dX5_passDays_15 : decode cX5_passDays 15 = .ok (.istore_n 2, 1) := by decide +kernel
theorem dX5_passDays_16 : decode cX5_passDays 16 = .ok (.iload_n 2, 1) := by decide +kernel
theorem dX5_passDays_17 : decode cX5_passDays 17 = .ok (.iload_n 1, 1) := by decide +kernel
theorem dX5_passDays_18 : decode cX5_passDays 18 = .ok (.if_icmp .ge 37, 3) := by decide +kernel
theorem dX5_passDays_21 : decode cX5_passDays 21 = .ok (.aload_n 0, 1) := by decide +kernel
theorem dX5_passDays_22 : decode cX5_passDays 22 = .ok (.invokestatic 147, 3) := by decide +kernel
theorem dX5_passDays_25 : decode cX5_passDays 25 = .ok (.aload_n 0, 1) := by decide +kernel
theorem dX5_passDays_26 : decode cX5_passDays 26 = .ok (.invokestatic 153, 3) := by decide +kernel
theorem dX5_passDays_29 : decode cX5_passDays 29 = .ok (.aload_n 0, 1) := by decide +kernel
theorem dX5_passDays_30 : decode cX5_passDays 30 = .ok (.invokestatic 156, 3) := by decide +kernel
theorem dX5_passDays_33 : decode cX5_passDays 33 = .ok (.aload_n 0, 1) := by decide +kernel
theorem dX5_passDays_34 : decode cX5_passDays 34 = .ok (.invokestatic 159, 3) := by decide +kernel
theorem dX5_passDays_37 : decode cX5_passDays 37 = .ok (.aload_n 0, 1) := by decide +kernel
theorem dX5_passDays_38 : decode cX5_passDays 38 = .ok (.invokestatic 162, 3) := by decide +kernel
theorem dX5_passDays_41 : decode cX5_passDays 41 = .ok (.aload_n 0, 1) := by decide +kernel
theorem dX5_passDays_42 : decode cX5_passDays 42 = .ok (.invokestatic 165, 3) := by decide +kernel
theorem dX5_passDays_45 : decode cX5_passDays 45 = .ok (.aload_n 0, 1) := by decide +kernel
theorem dX5_passDays_46 : decode cX5_passDays 46 = .ok (.invokevirtual 168, 3) := by decide +kernel
theorem dX5_passDays_49 : decode cX5_passDays 49 = .ok (.iinc 2 1, 3) := by decide +kernel
theorem dX5_passDays_52 : decode cX5_passDays 52 = .ok (.goto (-36), 3) := by decide +kernel
theorem dX5_passDays_55 : decode cX5_passDays 55 = .ok (.aload_n 0, 1) := by decide +kernel
theorem dX5_passDays_56 : decode cX5_passDays 56 = .ok (.getfield 48, 3) := by decide +kernel
theorem dX5_passDays_59 : decode cX5_passDays 59 = .ok (.ireturn, 1) := by decide +kernel
theorem dX5_beginNextDay_0 : decode cX5_beginNextDay 0 = .ok (.aload_n 0, 1) := by decide +kernel
theorem dX5_beginNextDay_1 : decode cX5_beginNextDay 1 = .ok (.dup, 1) := by decide +kernel
theorem dX5_beginNextDay_2 : decode cX5_beginNextDay 2 = .ok (.getfield 48, 3) := by decide +kernel
theorem dX5_beginNextDay_5 : decode cX5_beginNextDay 5 = .ok (.iconst 1, 1) := by decide +kernel
theorem dX5_beginNextDay_6 : decode cX5_beginNextDay 6 = .ok (.iadd, 1) := by decide +kernel
theorem dX5_beginNextDay_7 : decode cX5_beginNextDay 7 = .ok (.putfield 48, 3) := by decide +kernel
theorem dX5_beginNextDay_10 : decode cX5_beginNextDay 10 = .ok (.iconst 0, 1) := by decide +kernel
theorem dX5_beginNextDay_11 : decode cX5_beginNextDay 11 = .ok (.istore_n 1, 1) := by decide +kernel
theorem dX5_beginNextDay_12 : decode cX5_beginNextDay 12 = .ok (.iload_n 1, 1) := by decide +kernel
theorem dX5_beginNextDay_13 : decode cX5_beginNextDay 13 = .ok (.aload_n 0, 1) := by decide +kernel
theorem dX5_beginNextDay_14 : decode cX5_beginNextDay 14 = .ok (.getfield 54, 3) := by decide +kernel
theorem dX5_beginNextDay_17 : decode cX5_beginNextDay 17 = .ok (.if_icmp .ge 22, 3) := by decide +kernel
theorem dX5_beginNextDay_20 : decode cX5_beginNextDay 20 = .ok (.aload_n 0, 1) := by decide +kernel
theorem dX5_beginNextDay_21 : decode cX5_beginNextDay 21 = .ok (.getfield 27, 3) := by decide +kernel
theorem dX5_beginNextDay_24 : decode cX5_beginNextDay 24 = .ok (.iload_n 1, 1) := by decide +kernel
theorem dX5_beginNextDay_25 : decode cX5_beginNextDay 25 = .ok (.aaload, 1) := by decide +kernel
theorem dX5_beginNextDay_26 : decode cX5_beginNextDay 26 = .ok (.aload_n 0, 1) := by decide +kernel
theorem dX5_beginNextDay_27 : decode cX5_beginNextDay 27 = .ok (.getfield 48, 3) := by decide +kernel
theorem dX5_beginNextDay_30 : decode cX5_beginNextDay 30 = .ok (.invokevirtual 171, 3) := by decide +kernel
theorem dX5_beginNextDay_33 : decode cX5_beginNextDay 33 = .ok (.iinc 1 1, 3) := by decide +kernel
theorem dX5_beginNextDay_36 : decode cX5_beginNextDay 36 = .ok (.goto (-24), 3) := by decide +kernel
theorem dX5_beginNextDay_39 : decode cX5_beginNextDay 39 = .ok (.return_, 1) := by decide +kernel
theorem dX5_countWaiting_0 : decode cX5_countWaiting 0 = .ok (.iconst 0, 1) := by decide +kernel
theorem dX5_countWaiting_1 : decode cX5_countWaiting 1 = .ok (.istore_n 1, 1) := by decide +kernel
theorem dX5_countWaiting_2 : decode cX5_countWaiting 2 = .ok (.iconst 0, 1) := by decide +kernel
theorem dX5_countWaiting_3 : decode cX5_countWaiting 3 = .ok (.istore_n 2, 1) := by decide +kernel
theorem dX5_countWaiting_4 : decode cX5_countWaiting 4 = .ok (.iload_n 2, 1) := by decide +kernel
theorem dX5_countWaiting_5 : decode cX5_countWaiting 5 = .ok (.aload_n 0, 1) := by decide +kernel
theorem dX5_countWaiting_6 : decode cX5_countWaiting 6 = .ok (.getfield 54, 3) := by decide +kernel
theorem dX5_countWaiting_9 : decode cX5_countWaiting 9 = .ok (.if_icmp .ge 24, 3) := by decide +kernel
theorem dX5_countWaiting_12 : decode cX5_countWaiting 12 = .ok (.aload_n 0, 1) := by decide +kernel
theorem dX5_countWaiting_13 : decode cX5_countWaiting 13 = .ok (.getfield 27, 3) := by decide +kernel
theorem dX5_countWaiting_16 : decode cX5_countWaiting 16 = .ok (.iload_n 2, 1) := by decide +kernel
theorem dX5_countWaiting_17 : decode cX5_countWaiting 17 = .ok (.aaload, 1) := by decide +kernel
theorem dX5_countWaiting_18 : decode cX5_countWaiting 18 = .ok (.getfield 131, 3) := by decide +kernel
theorem dX5_countWaiting_21 : decode cX5_countWaiting 21 = .ok (.ifCond .eq 6, 3) := by decide +kernel
theorem dX5_countWaiting_24 : decode cX5_countWaiting 24 = .ok (.iinc 1 1, 3) := by decide +kernel
theorem dX5_countWaiting_27 : decode cX5_countWaiting 27 = .ok (.iinc 2 1, 3) := by decide +kernel
theorem dX5_countWaiting_30 : decode cX5_countWaiting 30 = .ok (.goto (-26), 3) := by decide +kernel
theorem dX5_countWaiting_33 : decode cX5_countWaiting 33 = .ok (.iload_n 1, 1) := by decide +kernel
theorem dX5_countWaiting_34 : decode cX5_countWaiting 34 = .ok (.ireturn, 1) := by decide +kernel
theorem dX5_countOnPitches_0 : decode cX5_countOnPitches 0 = .ok (.iconst 0, 1) := by decide +kernel
theorem dX5_countOnPitches_1 : decode cX5_countOnPitches 1 = .ok (.istore_n 1, 1) := by decide +kernel
theorem dX5_countOnPitches_2 : decode cX5_countOnPitches 2 = .ok (.iconst 0, 1) := by decide +kernel
theorem dX5_countOnPitches_3 : decode cX5_countOnPitches 3 = .ok (.istore_n 2, 1) := by decide +kernel
theorem dX5_countOnPitches_4 : decode cX5_countOnPitches 4 = .ok (.iload_n 2, 1) := by decide +kernel
theorem dX5_countOnPitches_5 : decode cX5_countOnPitches 5 = .ok (.aload_n 0, 1) := by decide +kernel
theorem dX5_countOnPitches_6 : decode cX5_countOnPitches 6 = .ok (.getfield 54, 3) := by decide +kernel
theorem dX5_countOnPitches_9 : decode cX5_countOnPitches 9 = .ok (.if_icmp .ge 26, 3) := by decide +kernel
theorem dX5_countOnPitches_12 : decode cX5_countOnPitches 12 = .ok (.aload_n 0, 1) := by decide +kernel
theorem dX5_countOnPitches_13 : decode cX5_countOnPitches 13 = .ok (.getfield 27, 3) := by decide +kernel
theorem dX5_countOnPitches_16 : decode cX5_countOnPitches 16 = .ok (.iload_n 2, 1) := by decide +kernel
theorem dX5_countOnPitches_17 : decode cX5_countOnPitches 17 = .ok (.aaload, 1) := by decide +kernel
theorem dX5_countOnPitches_18 : decode cX5_countOnPitches 18 = .ok (.getfield 174, 3) := by decide +kernel
theorem dX5_countOnPitches_21 : decode cX5_countOnPitches 21 = .ok (.bipush (-6), 2) := by decide +kernel
theorem dX5_countOnPitches_23 : decode cX5_countOnPitches 23 = .ok (.if_icmp .eq 6, 3) := by decide +kernel
theorem dX5_countOnPitches_26 : decode cX5_countOnPitches 26 = .ok (.iinc 1 1, 3) := by decide +kernel
theorem dX5_countOnPitches_29 : decode cX5_countOnPitches 29 = .ok (.iinc 2 1, 3) := by decide +kernel
theorem dX5_countOnPitches_32 : decode cX5_countOnPitches 32 = .ok (.goto (-28), 3) := by decide +kernel
theorem dX5_countOnPitches_35 : decode cX5_countOnPitches 35 = .ok (.iload_n 1, 1) := by decide +kernel
theorem dX5_countOnPitches_36 : decode cX5_countOnPitches 36 = .ok (.ireturn, 1) := by decide +kernel
theorem dX5_sameKindBeside_0 : decode cX5_sameKindBeside 0 = .ok (.aload_n 0, 1) := by decide +kernel
theorem dX5_sameKindBeside_1 : decode cX5_sameKindBeside 1 = .ok (.iload_n 1, 1) := by decide +kernel
theorem dX5_sameKindBeside_2 : decode cX5_sameKindBeside 2 = .ok (.invokevirtual 97, 3) := by decide +kernel
theorem dX5_sameKindBeside_5 : decode cX5_sameKindBeside 5 = .ok (.ifCond .ne 5, 3) := by decide +kernel
theorem dX5_sameKindBeside_8 : decode cX5_sameKindBeside 8 = .ok (.iconst 0, 1) := by decide +kernel
theorem dX5_sameKindBeside_9 : decode cX5_sameKindBeside 9 = .ok (.ireturn, 1) := by decide +kernel
theorem dX5_sameKindBeside_10 : decode cX5_sameKindBeside 10 = .ok (.iload_n 2, 1) := by decide +kernel
theorem dX5_sameKindBeside_11 : decode cX5_sameKindBeside 11 = .ok (.iconst 1, 1) := by decide +kernel
theorem dX5_sameKindBeside_12 : decode cX5_sameKindBeside 12 = .ok (.isub, 1) := by decide +kernel
theorem dX5_sameKindBeside_13 : decode cX5_sameKindBeside 13 = .ok (.istore_n 3, 1) := by decide +kernel
theorem dX5_sameKindBeside_14 : decode cX5_sameKindBeside 14 = .ok (.iload_n 3, 1) := by decide +kernel
theorem dX5_sameKindBeside_15 : decode cX5_sameKindBeside 15 = .ok (.iload_n 2, 1) := by decide +kernel
theorem dX5_sameKindBeside_16 : decode cX5_sameKindBeside 16 = .ok (.iconst 1, 1) := by decide +kernel
theorem dX5_sameKindBeside_17 : decode cX5_sameKindBeside 17 = .ok (.iadd, 1) := by decide +kernel
theorem dX5_sameKindBeside_18 : decode cX5_sameKindBeside 18 = .ok (.if_icmp .gt 72, 3) := by decide +kernel
theorem dX5_sameKindBeside_21 : decode cX5_sameKindBeside 21 = .ok (.aload_n 0, 1) := by decide +kernel
theorem dX5_sameKindBeside_22 : decode cX5_sameKindBeside 22 = .ok (.iload_n 3, 1) := by decide +kernel
theorem dX5_sameKindBeside_23 : decode cX5_sameKindBeside 23 = .ok (.invokevirtual 87, 3) := by decide +kernel
theorem dX5_sameKindBeside_26 : decode cX5_sameKindBeside 26 = .ok (.ifCond .eq 15, 3) := by decide +kernel
theorem dX5_sameKindBeside_29 : decode cX5_sameKindBeside 29 = .ok (.aload_n 0, 1) := by decide +kernel
theorem dX5_sameKindBeside_30 : decode cX5_sameKindBeside 30 = .ok (.getfield 21, 3) := by decide +kernel
theorem dX5_sameKindBeside_33 : decode cX5_sameKindBeside 33 = .ok (.iload_n 3, 1) := by decide +kernel
theorem dX5_sameKindBeside_34 : decode cX5_sameKindBeside 34 = .ok (.aaload, 1) := by decide +kernel
theorem dX5_sameKindBeside_35 : decode cX5_sameKindBeside 35 = .ok (.getfield 177, 3) := by decide +kernel
theorem dX5_sameKindBeside_38 : decode cX5_sameKindBeside 38 = .ok (.goto 5, 3) := by decide +kernel
theorem dX5_sameKindBeside_41 : decode cX5_sameKindBeside 41 = .ok (.bipush (-6), 2) := by decide +kernel
theorem dX5_sameKindBeside_43 : decode cX5_sameKindBeside 43 = .ok (.istore 4, 2) := by decide +kernel
theorem dX5_sameKindBeside_45 : decode cX5_sameKindBeside 45 = .ok (.iload 4, 2) := by decide +kernel
theorem dX5_sameKindBeside_47 : decode cX5_sameKindBeside 47 = .ok (.iload_n 1, 1) := by decide +kernel
theorem dX5_sameKindBeside_48 : decode cX5_sameKindBeside 48 = .ok (.if_icmp .eq 36, 3) := by decide +kernel
theorem dX5_sameKindBeside_51 : decode cX5_sameKindBeside 51 = .ok (.aload_n 0, 1) := by decide +kernel
theorem dX5_sameKindBeside_52 : decode cX5_sameKindBeside 52 = .ok (.iload 4, 2) := by decide +kernel
theorem dX5_sameKindBeside_54 : decode cX5_sameKindBeside 54 = .ok (.invokevirtual 97, 3) := by decide +kernel
theorem dX5_sameKindBeside_57 : decode cX5_sameKindBeside 57 = .ok (.ifCond .eq 27, 3) := by decide +kernel
theorem dX5_sameKindBeside_60 : decode cX5_sameKindBeside 60 = .ok (.aload_n 0, 1) := by decide +kernel
theorem dX5_sameKindBeside_61 : decode cX5_sameKindBeside 61 = .ok (.getfield 27, 3) := by decide +kernel
theorem dX5_sameKindBeside_64 : decode cX5_sameKindBeside 64 = .ok (.iload 4, 2) := by decide +kernel
theorem dX5_sameKindBeside_66 : decode cX5_sameKindBeside 66 = .ok (.aaload, 1) := by decide +kernel
theorem dX5_sameKindBeside_67 : decode cX5_sameKindBeside 67 = .ok (.getfield 180, 3) := by decide +kernel
theorem dX5_sameKindBeside_70 : decode cX5_sameKindBeside 70 = .ok (.aload_n 0, 1) := by decide +kernel
theorem dX5_sameKindBeside_71 : decode cX5_sameKindBeside 71 = .ok (.getfield 27, 3) := by decide +kernel
theorem dX5_sameKindBeside_74 : decode cX5_sameKindBeside 74 = .ok (.iload_n 1, 1) := by decide +kernel
theorem dX5_sameKindBeside_75 : decode cX5_sameKindBeside 75 = .ok (.aaload, 1) := by decide +kernel
theorem dX5_sameKindBeside_76 : decode cX5_sameKindBeside 76 = .ok (.getfield 180, 3) := by decide +kernel
theorem dX5_sameKindBeside_79 : decode cX5_sameKindBeside 79 = .ok (.if_icmp .ne 5, 3) := by decide +kernel
theorem dX5_sameKindBeside_82 : decode cX5_sameKindBeside 82 = .ok (.iconst 1, 1) := by decide +kernel
theorem dX5_sameKindBeside_83 : decode cX5_sameKindBeside 83 = .ok (.ireturn, 1) := by decide +kernel
theorem dX5_sameKindBeside_84 : decode cX5_sameKindBeside 84 = .ok (.iinc 3 2, 3) := by decide +kernel
theorem dX5_sameKindBeside_87 : decode cX5_sameKindBeside 87 = .ok (.goto (-73), 3) := by decide +kernel
theorem dX5_sameKindBeside_90 : decode cX5_sameKindBeside 90 = .ok (.iconst 0, 1) := by decide +kernel
theorem dX5_sameKindBeside_91 : decode cX5_sameKindBeside 91 = .ok (.ireturn, 1) := by decide +kernel
theorem dX5_seat_0 : decode cX5_seat 0 = .ok (.aload_n 0, 1) := by decide +kernel
theorem dX5_seat_1 : decode cX5_seat 1 = .ok (.iload_n 1, 1) := by decide +kernel
theorem dX5_seat_2 : decode cX5_seat 2 = .ok (.invokevirtual 97, 3) := by decide +kernel
theorem dX5_seat_5 : decode cX5_seat 5 = .ok (.ifCond .eq 31, 3) := by decide +kernel
theorem dX5_seat_8 : decode cX5_seat 8 = .ok (.aload_n 0, 1) := by decide +kernel
theorem dX5_seat_9 : decode cX5_seat 9 = .ok (.iload_n 2, 1) := by decide +kernel
theorem dX5_seat_10 : decode cX5_seat 10 = .ok (.invokevirtual 87, 3) := by decide +kernel
theorem dX5_seat_13 : decode cX5_seat 13 = .ok (.ifCond .eq 23, 3) := by decide +kernel
theorem dX5_seat_16 : decode cX5_seat 16 = .ok (.aload_n 0, 1) := by decide +kernel
theorem dX5_seat_17 : decode cX5_seat 17 = .ok (.getfield 21, 3) := by decide +kernel
theorem dX5_seat_20 : decode cX5_seat 20 = .ok (.iload_n 2, 1) := by decide +kernel
theorem dX5_seat_21 : decode cX5_seat 21 = .ok (.aaload, 1) := by decide +kernel
theorem dX5_seat_22 : decode cX5_seat 22 = .ok (.iload_n 1, 1) := by decide +kernel
theorem dX5_seat_23 : decode cX5_seat 23 = .ok (.putfield 177, 3) := by decide +kernel
theorem dX5_seat_26 : decode cX5_seat 26 = .ok (.aload_n 0, 1) := by decide +kernel
theorem dX5_seat_27 : decode cX5_seat 27 = .ok (.getfield 27, 3) := by decide +kernel
theorem dX5_seat_30 : decode cX5_seat 30 = .ok (.iload_n 1, 1) := by decide +kernel
theorem dX5_seat_31 : decode cX5_seat 31 = .ok (.aaload, 1) := by decide +kernel
theorem dX5_seat_32 : decode cX5_seat 32 = .ok (.iload_n 2, 1) := by decide +kernel
theorem dX5_seat_33 : decode cX5_seat 33 = .ok (.putfield 174, 3) := by decide +kernel
theorem dX5_seat_36 : decode cX5_seat 36 = .ok (.return_, 1) := by decide +kernel
theorem dX5_unseat_0 : decode cX5_unseat 0 = .ok (.aload_n 0, 1) := by decide +kernel
theorem dX5_unseat_1 : decode cX5_unseat 1 = .ok (.aload_n 1, 1) := by decide +kernel
theorem dX5_unseat_2 : decode cX5_unseat 2 = .ok (.getfield 174, 3) := by decide +kernel
theorem dX5_unseat_5 : decode cX5_unseat 5 = .ok (.invokevirtual 87, 3) := by decide +kernel
theorem dX5_unseat_8 : decode cX5_unseat 8 = .ok (.ifCond .eq 17, 3) := by decide +kernel
theorem dX5_unseat_11 : decode cX5_unseat 11 = .ok (.aload_n 0, 1) := by decide +kernel
theorem dX5_unseat_12 : decode cX5_unseat 12 = .ok (.getfield 21, 3) := by decide +kernel
theorem dX5_unseat_15 : decode cX5_unseat 15 = .ok (.aload_n 1, 1) := by decide +kernel
theorem dX5_unseat_16 : decode cX5_unseat 16 = .ok (.getfield 174, 3) := by decide +kernel
theorem dX5_unseat_19 : decode cX5_unseat 19 = .ok (.aaload, 1) := by decide +kernel
theorem dX5_unseat_20 : decode cX5_unseat 20 = .ok (.bipush (-6), 2) := by decide +kernel
theorem dX5_unseat_22 : decode cX5_unseat 22 = .ok (.putfield 177, 3) := by decide +kernel
theorem dX5_unseat_25 : decode cX5_unseat 25 = .ok (.aload_n 1, 1) := by decide +kernel
theorem dX5_unseat_26 : decode cX5_unseat 26 = .ok (.bipush (-6), 2) := by decide +kernel
theorem dX5_unseat_28 : decode cX5_unseat 28 = .ok (.putfield 174, 3) := by decide +kernel
theorem dX5_unseat_31 : decode cX5_unseat 31 = .ok (.return_, 1) := by decide +kernel
theorem dX6_init_0 : decode cX6_init 0 = .ok (.aload_n 0, 1) := by decide +kernel
theorem dX6_init_1 : decode cX6_init 1 = .ok (.invokespecial 1, 3) := by decide +kernel
theorem dX6_init_4 : decode cX6_init 4 = .ok (.aload_n 0, 1) := by decide +kernel
theorem dX6_init_5 : decode cX6_init 5 = .ok (.new 7, 3) := by decide +kernel
theorem dX6_init_8 : decode cX6_init 8 = .ok (.dup, 1) := by decide +kernel
theorem dX6_init_9 : decode cX6_init 9 = .ok (.invokespecial 9, 3) := by decide +kernel
theorem dX6_init_12 : decode cX6_init 12 = .ok (.putfield 10, 3) := by decide +kernel
theorem dX6_init_15 : decode cX6_init 15 = .ok (.aload_n 0, 1) := by decide +kernel
theorem dX6_init_16 : decode cX6_init 16 = .ok (.new 7, 3) := by decide +kernel
theorem dX6_init_19 : decode cX6_init 19 = .ok (.dup, 1) := by decide +kernel
theorem dX6_init_20 : decode cX6_init 20 = .ok (.invokespecial 9, 3) := by decide +kernel
theorem dX6_init_23 : decode cX6_init 23 = .ok (.putfield 16, 3) := by decide +kernel
theorem dX6_init_26 : decode cX6_init 26 = .ok (.aload_n 0, 1) := by decide +kernel
theorem dX6_init_27 : decode cX6_init 27 = .ok (.new 19, 3) := by decide +kernel
theorem dX6_init_30 : decode cX6_init 30 = .ok (.dup, 1) := by decide +kernel
theorem dX6_init_31 : decode cX6_init 31 = .ok (.invokespecial 21, 3) := by decide +kernel
theorem dX6_init_34 : decode cX6_init 34 = .ok (.putfield 22, 3) := by decide +kernel
theorem dX6_init_37 : decode cX6_init 37 = .ok (.aload_n 0, 1) := by decide +kernel
theorem dX6_init_38 : decode cX6_init 38 = .ok (.new 7, 3) := by decide +kernel
theorem dX6_init_41 : decode cX6_init 41 = .ok (.dup, 1) := by decide +kernel
theorem dX6_init_42 : decode cX6_init 42 = .ok (.invokespecial 9, 3) := by decide +kernel
theorem dX6_init_45 : decode cX6_init 45 = .ok (.putfield 26, 3) := by decide +kernel
theorem dX6_init_48 : decode cX6_init 48 = .ok (.aload_n 0, 1) := by decide +kernel
theorem dX6_init_49 : decode cX6_init 49 = .ok (.new 7, 3) := by decide +kernel
theorem dX6_init_52 : decode cX6_init 52 = .ok (.dup, 1) := by decide +kernel
theorem dX6_init_53 : decode cX6_init 53 = .ok (.invokespecial 9, 3) := by decide +kernel
theorem dX6_init_56 : decode cX6_init 56 = .ok (.putfield 29, 3) := by decide +kernel
theorem dX6_init_59 : decode cX6_init 59 = .ok (.aload_n 0, 1) := by decide +kernel
theorem dX6_init_60 : decode cX6_init 60 = .ok (.new 32, 3) := by decide +kernel
theorem dX6_init_63 : decode cX6_init 63 = .ok (.dup, 1) := by decide +kernel
theorem dX6_init_64 : decode cX6_init 64 = .ok (.invokespecial 34, 3) := by decide +kernel
theorem dX6_init_67 : decode cX6_init 67 = .ok (.putfield 35, 3) := by decide +kernel
theorem dX6_init_70 : decode cX6_init 70 = .ok (.return_, 1) := by decide +kernel
theorem dX6_set_0 : decode cX6_set 0 = .ok (.aload_n 0, 1) := by decide +kernel
theorem dX6_set_1 : decode cX6_set 1 = .ok (.getfield 22, 3) := by decide +kernel
theorem dX6_set_4 : decode cX6_set 4 = .ok (.aload_n 0, 1) := by decide +kernel
theorem dX6_set_5 : decode cX6_set 5 = .ok (.getfield 10, 3) := by decide +kernel
theorem dX6_set_8 : decode cX6_set 8 = .ok (.invokevirtual 39, 3) := by decide +kernel
theorem dX6_set_11 : decode cX6_set 11 = .ok (.aload_n 0, 1) := by decide +kernel
theorem dX6_set_12 : decode cX6_set 12 = .ok (.aload_n 0, 1) := by decide +kernel
theorem dX6_set_13 : decode cX6_set 13 = .ok (.getfield 10, 3) := by decide +kernel
theorem dX6_set_16 : decode cX6_set 16 = .ok (.iload_n 1, 1) := by decide +kernel
theorem dX6_set_17 : decode cX6_set 17 = .ok (.iload_n 2, 1) := by decide +kernel
theorem dX6_set_18 : decode cX6_set 18 = .ok (.invokevirtual 43, 3) := by decide +kernel
theorem dX6_set_21 : decode cX6_set 21 = .ok (.invokevirtual 47, 3) := by decide +kernel
theorem dX6_set_24 : decode cX6_set 24 = .ok (.ireturn, 1) := by decide +kernel
theorem dX6_seed_0 : decode cX6_seed 0 = .ok (.aload_n 0, 1) := by decide +kernel
theorem dX6_seed_1 : decode cX6_seed 1 = .ok (.getfield 22, 3) := by decide +kernel
theorem dX6_seed_4 : decode cX6_seed 4 = .ok (.aload_n 0, 1) := by decide +kernel
theorem dX6_seed_5 : decode cX6_seed 5 = .ok (.getfield 10, 3) := by decide +kernel
theorem dX6_seed_8 : decode cX6_seed 8 = .ok (.invokevirtual 39, 3) := by decide +kernel
theorem dX6_seed_11 : decode cX6_seed 11 = .ok (.aload_n 0, 1) := by decide +kernel
theorem dX6_seed_12 : decode cX6_seed 12 = .ok (.aload_n 0, 1) := by decide +kernel
theorem dX6_seed_13 : decode cX6_seed 13 = .ok (.getfield 10, 3) := by decide +kernel
theorem dX6_seed_16 : decode cX6_seed 16 = .ok (.iload_n 1, 1) := by decide +kernel
theorem dX6_seed_17 : decode cX6_seed 17 = .ok (.invokevirtual 51, 3) := by decide +kernel
theorem dX6_seed_20 : decode cX6_seed 20 = .ok (.invokevirtual 47, 3) := by decide +kernel
theorem dX6_seed_23 : decode cX6_seed 23 = .ok (.ireturn, 1) := by decide +kernel
theorem dX6_pitch_0 : decode cX6_pitch 0 = .ok (.aload_n 0, 1) := by decide +kernel
theorem dX6_pitch_1 : decode cX6_pitch 1 = .ok (.getfield 22, 3) := by decide +kernel
theorem dX6_pitch_4 : decode cX6_pitch 4 = .ok (.aload_n 0, 1) := by decide +kernel
theorem dX6_pitch_5 : decode cX6_pitch 5 = .ok (.getfield 10, 3) := by decide +kernel
theorem dX6_pitch_8 : decode cX6_pitch 8 = .ok (.invokevirtual 39, 3) := by decide +kernel
theorem dX6_pitch_11 : decode cX6_pitch 11 = .ok (.aload_n 0, 1) := by decide +kernel
theorem dX6_pitch_12 : decode cX6_pitch 12 = .ok (.aload_n 0, 1) := by decide +kernel
theorem dX6_pitch_13 : decode cX6_pitch 13 = .ok (.getfield 10, 3) := by decide +kernel
theorem dX6_pitch_16 : decode cX6_pitch 16 = .ok (.iload_n 1, 1) := by decide +kernel
theorem dX6_pitch_17 : decode cX6_pitch 17 = .ok (.invokevirtual 54, 3) := by decide +kernel
theorem dX6_pitch_20 : decode cX6_pitch 20 = .ok (.invokevirtual 47, 3) := by decide +kernel
theorem dX6_pitch_23 : decode cX6_pitch 23 = .ok (.ireturn, 1) := by decide +kernel
theorem dX6_rent_0 : decode cX6_rent 0 = .ok (.aload_n 0, 1) := by decide +kernel
theorem dX6_rent_1 : decode cX6_rent 1 = .ok (.getfield 22, 3) := by decide +kernel
theorem dX6_rent_4 : decode cX6_rent 4 = .ok (.aload_n 0, 1) := by decide +kernel
theorem dX6_rent_5 : decode cX6_rent 5 = .ok (.getfield 10, 3) := by decide +kernel
theorem dX6_rent_8 : decode cX6_rent 8 = .ok (.invokevirtual 39, 3) := by decide +kernel
theorem dX6_rent_11 : decode cX6_rent 11 = .ok (.aload_n 0, 1) := by decide +kernel
theorem dX6_rent_12 : decode cX6_rent 12 = .ok (.aload_n 0, 1) := by decide +kernel
theorem dX6_rent_13 : decode cX6_rent 13 = .ok (.getfield 10, 3) := by decide +kernel
theorem dX6_rent_16 : decode cX6_rent 16 = .ok (.iload_n 1, 1) := by decide +kernel
theorem dX6_rent_17 : decode cX6_rent 17 = .ok (.iload_n 2, 1) := by decide +kernel
theorem dX6_rent_18 : decode cX6_rent 18 = .ok (.invokevirtual 57, 3) := by decide +kernel
theorem dX6_rent_21 : decode cX6_rent 21 = .ok (.invokevirtual 47, 3) := by decide +kernel
theorem dX6_rent_24 : decode cX6_rent 24 = .ok (.ireturn, 1) := by decide +kernel
theorem dX6_cart_0 : decode cX6_cart 0 = .ok (.aload_n 0, 1) := by decide +kernel
theorem dX6_cart_1 : decode cX6_cart 1 = .ok (.getfield 22, 3) := by decide +kernel
theorem dX6_cart_4 : decode cX6_cart 4 = .ok (.aload_n 0, 1) := by decide +kernel
theorem dX6_cart_5 : decode cX6_cart 5 = .ok (.getfield 10, 3) := by decide +kernel
theorem dX6_cart_8 : decode cX6_cart 8 = .ok (.invokevirtual 39, 3) := by decide +kernel
theorem dX6_cart_11 : decode cX6_cart 11 = .ok (.aload_n 0, 1) := by decide +kernel
theorem dX6_cart_12 : decode cX6_cart 12 = .ok (.aload_n 0, 1) := by decide +kernel
theorem dX6_cart_13 : decode cX6_cart 13 = .ok (.getfield 10, 3) := by decide +kernel
theorem dX6_cart_16 : decode cX6_cart 16 = .ok (.iload_n 1, 1) := by decide +kernel
theorem dX6_cart_17 : decode cX6_cart 17 = .ok (.iload_n 2, 1) := by decide +kernel
theorem dX6_cart_18 : decode cX6_cart 18 = .ok (.invokevirtual 60, 3) := by decide +kernel
theorem dX6_cart_21 : decode cX6_cart 21 = .ok (.invokevirtual 47, 3) := by decide +kernel
theorem dX6_cart_24 : decode cX6_cart 24 = .ok (.ireturn, 1) := by decide +kernel
theorem dX6_wish_0 : decode cX6_wish 0 = .ok (.aload_n 0, 1) := by decide +kernel
theorem dX6_wish_1 : decode cX6_wish 1 = .ok (.getfield 22, 3) := by decide +kernel
theorem dX6_wish_4 : decode cX6_wish 4 = .ok (.aload_n 0, 1) := by decide +kernel
theorem dX6_wish_5 : decode cX6_wish 5 = .ok (.getfield 10, 3) := by decide +kernel
theorem dX6_wish_8 : decode cX6_wish 8 = .ok (.invokevirtual 39, 3) := by decide +kernel
theorem dX6_wish_11 : decode cX6_wish 11 = .ok (.aload_n 0, 1) := by decide +kernel
theorem dX6_wish_12 : decode cX6_wish 12 = .ok (.aload_n 0, 1) := by decide +kernel
theorem dX6_wish_13 : decode cX6_wish 13 = .ok (.getfield 10, 3) := by decide +kernel
theorem dX6_wish_16 : decode cX6_wish 16 = .ok (.iload_n 1, 1) := by decide +kernel
theorem dX6_wish_17 : decode cX6_wish 17 = .ok (.iload_n 2, 1) := by decide +kernel
theorem dX6_wish_18 : decode cX6_wish 18 = .ok (.iload_n 3, 1) := by decide +kernel
theorem dX6_wish_19 : decode cX6_wish 19 = .ok (.iload 4, 2) := by decide +kernel
theorem dX6_wish_21 : decode cX6_wish 21 = .ok (.invokevirtual 63, 3) := by decide +kernel
theorem dX6_wish_24 : decode cX6_wish 24 = .ok (.invokevirtual 47, 3) := by decide +kernel
theorem dX6_wish_27 : decode cX6_wish 27 = .ok (.ireturn, 1) := by decide +kernel
theorem dX6_fine_0 : decode cX6_fine 0 = .ok (.aload_n 0, 1) := by decide +kernel
theorem dX6_fine_1 : decode cX6_fine 1 = .ok (.getfield 22, 3) := by decide +kernel
theorem dX6_fine_4 : decode cX6_fine 4 = .ok (.aload_n 0, 1) := by decide +kernel
theorem dX6_fine_5 : decode cX6_fine 5 = .ok (.getfield 10, 3) := by decide +kernel
theorem dX6_fine_8 : decode cX6_fine 8 = .ok (.invokevirtual 39, 3) := by decide +kernel
theorem dX6_fine_11 : decode cX6_fine 11 = .ok (.aload_n 0, 1) := by decide +kernel
theorem dX6_fine_12 : decode cX6_fine 12 = .ok (.aload_n 0, 1) := by decide +kernel
theorem dX6_fine_13 : decode cX6_fine 13 = .ok (.getfield 10, 3) := by decide +kernel
theorem dX6_fine_16 : decode cX6_fine 16 = .ok (.iload_n 1, 1) := by decide +kernel
theorem dX6_fine_17 : decode cX6_fine 17 = .ok (.iload_n 2, 1) := by decide +kernel
theorem dX6_fine_18 : decode cX6_fine 18 = .ok (.invokevirtual 67, 3) := by decide +kernel
theorem dX6_fine_21 : decode cX6_fine 21 = .ok (.invokevirtual 47, 3) := by decide +kernel
theorem dX6_fine_24 : decode cX6_fine 24 = .ok (.ireturn, 1) := by decide +kernel
theorem dX6_check_0 : decode cX6_check 0 = .ok (.aload_n 0, 1) := by decide +kernel
theorem dX6_check_1 : decode cX6_check 1 = .ok (.getfield 22, 3) := by decide +kernel
theorem dX6_check_4 : decode cX6_check 4 = .ok (.aload_n 0, 1) := by decide +kernel
theorem dX6_check_5 : decode cX6_check 5 = .ok (.getfield 10, 3) := by decide +kernel
theorem dX6_check_8 : decode cX6_check 8 = .ok (.invokevirtual 39, 3) := by decide +kernel
theorem dX6_check_11 : decode cX6_check 11 = .ok (.aload_n 0, 1) := by decide +kernel
theorem dX6_check_12 : decode cX6_check 12 = .ok (.aload_n 0, 1) := by decide +kernel
theorem dX6_check_13 : decode cX6_check 13 = .ok (.getfield 10, 3) := by decide +kernel
theorem dX6_check_16 : decode cX6_check 16 = .ok (.iload_n 1, 1) := by decide +kernel
theorem dX6_check_17 : decode cX6_check 17 = .ok (.invokevirtual 70, 3) := by decide +kernel
theorem dX6_check_20 : decode cX6_check 20 = .ok (.invokevirtual 47, 3) := by decide +kernel
theorem dX6_check_23 : decode cX6_check 23 = .ok (.ireturn, 1) := by decide +kernel
theorem dX6_swap_0 : decode cX6_swap 0 = .ok (.aload_n 0, 1) := by decide +kernel
theorem dX6_swap_1 : decode cX6_swap 1 = .ok (.getfield 22, 3) := by decide +kernel
theorem dX6_swap_4 : decode cX6_swap 4 = .ok (.aload_n 0, 1) := by decide +kernel
theorem dX6_swap_5 : decode cX6_swap 5 = .ok (.getfield 10, 3) := by decide +kernel
theorem dX6_swap_8 : decode cX6_swap 8 = .ok (.invokevirtual 39, 3) := by decide +kernel
theorem dX6_swap_11 : decode cX6_swap 11 = .ok (.aload_n 0, 1) := by decide +kernel
theorem dX6_swap_12 : decode cX6_swap 12 = .ok (.aload_n 0, 1) := by decide +kernel
theorem dX6_swap_13 : decode cX6_swap 13 = .ok (.getfield 10, 3) := by decide +kernel
theorem dX6_swap_16 : decode cX6_swap 16 = .ok (.iload_n 1, 1) := by decide +kernel
theorem dX6_swap_17 : decode cX6_swap 17 = .ok (.iload_n 2, 1) := by decide +kernel
theorem dX6_swap_18 : decode cX6_swap 18 = .ok (.invokevirtual 73, 3) := by decide +kernel
theorem dX6_swap_21 : decode cX6_swap 21 = .ok (.invokevirtual 47, 3) := by decide +kernel
theorem dX6_swap_24 : decode cX6_swap 24 = .ok (.ireturn, 1) := by decide +kernel
theorem dX6_pay_0 : decode cX6_pay 0 = .ok (.aload_n 0, 1) := by decide +kernel
theorem dX6_pay_1 : decode cX6_pay 1 = .ok (.getfield 22, 3) := by decide +kernel
theorem dX6_pay_4 : decode cX6_pay 4 = .ok (.aload_n 0, 1) := by decide +kernel
theorem dX6_pay_5 : decode cX6_pay 5 = .ok (.getfield 10, 3) := by decide +kernel
theorem dX6_pay_8 : decode cX6_pay 8 = .ok (.invokevirtual 39, 3) := by decide +kernel
theorem dX6_pay_11 : decode cX6_pay 11 = .ok (.aload_n 0, 1) := by decide +kernel
theorem dX6_pay_12 : decode cX6_pay 12 = .ok (.aload_n 0, 1) := by decide +kernel
theorem dX6_pay_13 : decode cX6_pay 13 = .ok (.getfield 10, 3) := by decide +kernel
theorem dX6_pay_16 : decode cX6_pay 16 = .ok (.iload_n 1, 1) := by decide +kernel
theorem dX6_pay_17 : decode cX6_pay 17 = .ok (.iload_n 2, 1) := by decide +kernel
theorem dX6_pay_18 : decode cX6_pay 18 = .ok (.invokevirtual 76, 3) := by decide +kernel
theorem dX6_pay_21 : decode cX6_pay 21 = .ok (.invokevirtual 47, 3) := by decide +kernel
theorem dX6_pay_24 : decode cX6_pay 24 = .ok (.ireturn, 1) := by decide +kernel
theorem dX6_days_0 : decode cX6_days 0 = .ok (.aload_n 0, 1) := by decide +kernel
theorem dX6_days_1 : decode cX6_days 1 = .ok (.getfield 22, 3) := by decide +kernel
theorem dX6_days_4 : decode cX6_days 4 = .ok (.aload_n 0, 1) := by decide +kernel
theorem dX6_days_5 : decode cX6_days 5 = .ok (.getfield 10, 3) := by decide +kernel
theorem dX6_days_8 : decode cX6_days 8 = .ok (.invokevirtual 39, 3) := by decide +kernel
theorem dX6_days_11 : decode cX6_days 11 = .ok (.aload_n 0, 1) := by decide +kernel
theorem dX6_days_12 : decode cX6_days 12 = .ok (.aload_n 0, 1) := by decide +kernel
theorem dX6_days_13 : decode cX6_days 13 = .ok (.getfield 10, 3) := by decide +kernel
theorem dX6_days_16 : decode cX6_days 16 = .ok (.iload_n 1, 1) := by decide +kernel
theorem dX6_days_17 : decode cX6_days 17 = .ok (.invokevirtual 79, 3) := by decide +kernel
theorem dX6_days_20 : decode cX6_days 20 = .ok (.invokevirtual 47, 3) := by decide +kernel
theorem dX6_days_23 : decode cX6_days 23 = .ok (.ireturn, 1) := by decide +kernel
theorem dX6_recorded_0 : decode cX6_recorded 0 = .ok (.iload_n 1, 1) := by decide +kernel
theorem dX6_recorded_1 : decode cX6_recorded 1 = .ok (.ifCond .lt 10, 3) := by decide +kernel
theorem dX6_recorded_4 : decode cX6_recorded 4 = .ok (.aload_n 0, 1) := by decide +kernel
theorem dX6_recorded_5 : decode cX6_recorded 5 = .ok (.getfield 22, 3) := by decide +kernel
theorem dX6_recorded_8 : decode cX6_recorded 8 = .ok (.invokevirtual 82, 3) := by decide +kernel
theorem dX6_recorded_11 : decode cX6_recorded 11 = .ok (.iload_n 1, 1) := by decide +kernel
theorem dX6_recorded_12 : decode cX6_recorded 12 = .ok (.ireturn, 1) := by decide +kernel
theorem dX6_ofCart_0 : decode cX6_ofCart 0 = .ok (.aload_n 0, 1) := by decide +kernel
theorem dX6_ofCart_1 : decode cX6_ofCart 1 = .ok (.getfield 10, 3) := by decide +kernel
theorem dX6_ofCart_4 : decode cX6_ofCart 4 = .ok (.iload_n 1, 1) := by decide +kernel
theorem dX6_ofCart_5 : decode cX6_ofCart 5 = .ok (.invokevirtual 85, 3) := by decide +kernel
theorem dX6_ofCart_8 : decode cX6_ofCart 8 = .ok (.ifCond .ne 5, 3) := by decide +kernel
theorem dX6_ofCart_11 : decode cX6_ofCart 11 = .ok (.iconst (-1), 1) := by decide +kernel
theorem dX6_ofCart_12 : decode cX6_ofCart 12 = .ok (.ireturn, 1) := by decide +kernel
theorem dX6_ofCart_13 : decode cX6_ofCart 13 = .ok (.iload_n 2, 1) := by decide +kernel
theorem dX6_ofCart_14 : decode cX6_ofCart 14 = .ok (.ifCond .lt 9, 3) := by decide +kernel
theorem dX6_ofCart_17 : decode cX6_ofCart 17 = .ok (.iload_n 2, 1) := by decide +kernel
theorem dX6_ofCart_18 : decode cX6_ofCart 18 = .ok (.bipush 15, 2) := by decide +kernel
theorem dX6_ofCart_20 : decode cX6_ofCart 20 = .ok (.if_icmp .le 6, 3) := by decide +kernel
theorem dX6_ofCart_23 : decode cX6_ofCart 23 = .ok (.bipush (-2), 2) := by decide +kernel
theorem dX6_ofCart_25 : decode cX6_ofCart 25 = .ok (.ireturn, 1) := by decide +kernel
theorem dX6_ofCart_26 : decode cX6_ofCart 26 = .ok (.aload_n 0, 1) := by decide +kernel
theorem dX6_ofCart_27 : decode cX6_ofCart 27 = .ok (.getfield 10, 3) := by decide +kernel
theorem dX6_ofCart_30 : decode cX6_ofCart 30 = .ok (.getfield 89, 3) := by decide +kernel
theorem dX6_ofCart_33 : decode cX6_ofCart 33 = .ok (.iload_n 1, 1) := by decide +kernel
theorem dX6_ofCart_34 : decode cX6_ofCart 34 = .ok (.aaload, 1) := by decide +kernel
theorem dX6_ofCart_35 : decode cX6_ofCart 35 = .ok (.astore_n 3, 1) := by decide +kernel
theorem dX6_ofCart_36 : decode cX6_ofCart 36 = .ok (.iload_n 2, 1) := by decide +kernel
theorem dX6_ofCart_37 : decode cX6_ofCart 37 = .ok (.bipush 9, 2) := by decide +kernel
theorem dX6_ofCart_39 : decode cX6_ofCart 39 = .ok (.if_icmp .ge 12, 3) := by decide +kernel
theorem dX6_ofCart_42 : decode cX6_ofCart 42 = .ok (.aload_n 0, 1) := by decide +kernel
theorem dX6_ofCart_43 : decode cX6_ofCart 43 = .ok (.aload_n 3, 1) := by decide +kernel
theorem dX6_ofCart_44 : decode cX6_ofCart 44 = .ok (.iload_n 2, 1) := by decide +kernel
theorem dX6_ofCart_45 : decode cX6_ofCart 45 = .ok (.invokevirtual 93, 3) := by decide +kernel
theorem dX6_ofCart_48 : decode cX6_ofCart 48 = .ok (.goto 9, 3) := by decide +kernel
theorem dX6_ofCart_51 : decode cX6_ofCart 51 = .ok (.aload_n 0, 1) := by decide +kernel
theorem dX6_ofCart_52 : decode cX6_ofCart 52 = .ok (.aload_n 3, 1) := by decide +kernel
theorem dX6_ofCart_53 : decode cX6_ofCart 53 = .ok (.iload_n 2, 1) := by decide +kernel
theorem dX6_ofCart_54 : decode cX6_ofCart 54 = .ok (.invokevirtual 97, 3) := by decide +kernel
theorem dX6_ofCart_57 : decode cX6_ofCart 57 = .ok (.ireturn, 1) := by decide +kernel
theorem dX6_aboutCart_0 : decode cX6_aboutCart 0 = .ok (.iload_n 2, 1) := by decide +kernel
theorem dX6_aboutCart_1 : decode cX6_aboutCart 1 = .ok (.tableswitch 80 0 7 #[47, 52, 57, 62, 62, 62, 70, 75], 47) := by decide +kernel
theorem dX6_aboutCart_48 : decode cX6_aboutCart 48 = .ok (.aload_n 1, 1) := by decide +kernel
theorem dX6_aboutCart_49 : decode cX6_aboutCart 49 = .ok (.getfield 100, 3) := by decide +kernel
theorem dX6_aboutCart_52 : decode cX6_aboutCart 52 = .ok (.ireturn, 1) := by decide +kernel
theorem dX6_aboutCart_53 : decode cX6_aboutCart 53 = .ok (.aload_n 1, 1) := by decide +kernel
theorem dX6_aboutCart_54 : decode cX6_aboutCart 54 = .ok (.getfield 106, 3) := by decide +kernel
theorem dX6_aboutCart_57 : decode cX6_aboutCart 57 = .ok (.ireturn, 1) := by decide +kernel
theorem dX6_aboutCart_58 : decode cX6_aboutCart 58 = .ok (.aload_n 1, 1) := by decide +kernel
theorem dX6_aboutCart_59 : decode cX6_aboutCart 59 = .ok (.getfield 109, 3) := by decide +kernel
theorem dX6_aboutCart_62 : decode cX6_aboutCart 62 = .ok (.ireturn, 1) := by decide +kernel
theorem dX6_aboutCart_63 : decode cX6_aboutCart 63 = .ok (.aload_n 1, 1) := by decide +kernel
theorem dX6_aboutCart_64 : decode cX6_aboutCart 64 = .ok (.iload_n 2, 1) := by decide +kernel
theorem dX6_aboutCart_65 : decode cX6_aboutCart 65 = .ok (.iconst 3, 1) := by decide +kernel
theorem dX6_aboutCart_66 : decode cX6_aboutCart 66 = .ok (.isub, 1) := by decide +kernel
theorem dX6_aboutCart_67 : decode cX6_aboutCart 67 = .ok (.invokevirtual 112, 3) := by decide +kernel
theorem dX6_aboutCart_70 : decode cX6_aboutCart 70 = .ok (.ireturn, 1) := by decide +kernel
theorem dX6_aboutCart_71 : decode cX6_aboutCart 71 = .ok (.aload_n 1, 1) := by decide +kernel
theorem dX6_aboutCart_72 : decode cX6_aboutCart 72 = .ok (.getfield 115, 3) := by decide +kernel
theorem dX6_aboutCart_75 : decode cX6_aboutCart 75 = .ok (.ireturn, 1) := by decide +kernel
theorem dX6_aboutCart_76 : decode cX6_aboutCart 76 = .ok (.aload_n 1, 1) := by decide +kernel
theorem dX6_aboutCart_77 : decode cX6_aboutCart 77 = .ok (.getfield 118, 3) := by decide +kernel
theorem dX6_aboutCart_80 : decode cX6_aboutCart 80 = .ok (.ireturn, 1) := by decide +kernel
theorem dX6_aboutCart_81 : decode cX6_aboutCart 81 = .ok (.aload_n 1, 1) := by decide +kernel
theorem dX6_aboutCart_82 : decode cX6_aboutCart 82 = .ok (.getfield 121, 3) := by decide +kernel
theorem dX6_aboutCart_85 : decode cX6_aboutCart 85 = .ok (.ifCond .eq 7, 3) := by decide +kernel
theorem dX6_aboutCart_88 : decode cX6_aboutCart 88 = .ok (.iconst 1, 1) := by decide +kernel
theorem dX6_aboutCart_89 : decode cX6_aboutCart 89 = .ok (.goto 4, 3) := by decide +kernel
theorem dX6_aboutCart_92 : decode cX6_aboutCart 92 = .ok (.iconst 0, 1) := by decide +kernel
theorem dX6_aboutCart_93 : decode cX6_aboutCart 93 = .ok (.ireturn, 1) := by decide +kernel
theorem dX6_aboutPastOfCart_0 : decode cX6_aboutPastOfCart 0 = .ok (.iload_n 2, 1) := by decide +kernel
theorem dX6_aboutPastOfCart_1 : decode cX6_aboutPastOfCart 1 = .ok (.tableswitch 92 9 14 #[39, 67, 72, 77, 82, 87], 39) := by decide +kernel
theorem dX6_aboutPastOfCart_40 : decode cX6_aboutPastOfCart 40 = .ok (.aload_n 1, 1) := by decide +kernel
theorem dX6_aboutPastOfCart_41 : decode cX6_aboutPastOfCart 41 = .ok (.aload_n 0, 1) := by decide +kernel
theorem dX6_aboutPastOfCart_42 : decode cX6_aboutPastOfCart 42 = .ok (.getfield 10, 3) := by decide +kernel
theorem dX6_aboutPastOfCart_45 : decode cX6_aboutPastOfCart 45 = .ok (.getfield 125, 3) := by decide +kernel
theorem dX6_aboutPastOfCart_48 : decode cX6_aboutPastOfCart 48 = .ok (.aload_n 0, 1) := by decide +kernel
theorem dX6_aboutPastOfCart_49 : decode cX6_aboutPastOfCart 49 = .ok (.getfield 10, 3) := by decide +kernel
theorem dX6_aboutPastOfCart_52 : decode cX6_aboutPastOfCart 52 = .ok (.getfield 125, 3) := by decide +kernel
theorem dX6_aboutPastOfCart_55 : decode cX6_aboutPastOfCart 55 = .ok (.aload_n 0, 1) := by decide +kernel
theorem dX6_aboutPastOfCart_56 : decode cX6_aboutPastOfCart 56 = .ok (.getfield 10, 3) := by decide +kernel
theorem dX6_aboutPastOfCart_59 : decode cX6_aboutPastOfCart 59 = .ok (.getfield 128, 3) := by decide +kernel
theorem dX6_aboutPastOfCart_62 : decode cX6_aboutPastOfCart 62 = .ok (.iconst 5, 1) := by decide +kernel
theorem dX6_aboutPastOfCart_63 : decode cX6_aboutPastOfCart 63 = .ok (.iaload, 1) := by decide +kernel
theorem dX6_aboutPastOfCart_64 : decode cX6_aboutPastOfCart 64 = .ok (.invokevirtual 132, 3) := by decide +kernel
theorem dX6_aboutPastOfCart_67 : decode cX6_aboutPastOfCart 67 = .ok (.ireturn, 1) := by decide +kernel
theorem dX6_aboutPastOfCart_68 : decode cX6_aboutPastOfCart 68 = .ok (.aload_n 1, 1) := by decide +kernel
theorem dX6_aboutPastOfCart_69 : decode cX6_aboutPastOfCart 69 = .ok (.getfield 136, 3) := by decide +kernel
theorem dX6_aboutPastOfCart_72 : decode cX6_aboutPastOfCart 72 = .ok (.ireturn, 1) := by decide +kernel
theorem dX6_aboutPastOfCart_73 : decode cX6_aboutPastOfCart 73 = .ok (.aload_n 1, 1) := by decide +kernel
theorem dX6_aboutPastOfCart_74 : decode cX6_aboutPastOfCart 74 = .ok (.getfield 139, 3) := by decide +kernel
theorem dX6_aboutPastOfCart_77 : decode cX6_aboutPastOfCart 77 = .ok (.ireturn, 1) := by decide +kernel
theorem dX6_aboutPastOfCart_78 : decode cX6_aboutPastOfCart 78 = .ok (.aload_n 1, 1) := by decide +kernel
theorem dX6_aboutPastOfCart_79 : decode cX6_aboutPastOfCart 79 = .ok (.getfield 142, 3) := by decide +kernel
theorem dX6_aboutPastOfCart_82 : decode cX6_aboutPastOfCart 82 = .ok (.ireturn, 1) := by decide +kernel
theorem dX6_aboutPastOfCart_83 : decode cX6_aboutPastOfCart 83 = .ok (.aload_n 1, 1) := by decide +kernel
theorem dX6_aboutPastOfCart_84 : decode cX6_aboutPastOfCart 84 = .ok (.getfield 145, 3) := by decide +kernel
theorem dX6_aboutPastOfCart_87 : decode cX6_aboutPastOfCart 87 = .ok (.ireturn, 1) := by decide +kernel
theorem dX6_aboutPastOfCart_88 : decode cX6_aboutPastOfCart 88 = .ok (.aload_n 1, 1) := by decide +kernel
theorem dX6_aboutPastOfCart_89 : decode cX6_aboutPastOfCart 89 = .ok (.getfield 148, 3) := by decide +kernel
theorem dX6_aboutPastOfCart_92 : decode cX6_aboutPastOfCart 92 = .ok (.ireturn, 1) := by decide +kernel
theorem dX6_aboutPastOfCart_93 : decode cX6_aboutPastOfCart 93 = .ok (.aload_n 1, 1) := by decide +kernel
theorem dX6_aboutPastOfCart_94 : decode cX6_aboutPastOfCart 94 = .ok (.getfield 151, 3) := by decide +kernel
theorem dX6_aboutPastOfCart_97 : decode cX6_aboutPastOfCart 97 = .ok (.ireturn, 1) := by decide +kernel
theorem dX6_money_0 : decode cX6_money 0 = .ok (.aload_n 0, 1) := by decide +kernel
theorem dX6_money_1 : decode cX6_money 1 = .ok (.getfield 10, 3) := by decide +kernel
theorem dX6_money_4 : decode cX6_money 4 = .ok (.iload_n 1, 1) := by decide +kernel
theorem dX6_money_5 : decode cX6_money 5 = .ok (.invokevirtual 85, 3) := by decide +kernel
theorem dX6_money_8 : decode cX6_money 8 = .ok (.ifCond .ne 7, 3) := by decide +kernel
theorem dX6_money_11 : decode cX6_money 11 = .ok (.ldc2_w 154, 3) := by decide +kernel
theorem dX6_money_14 : decode cX6_money 14 = .ok (.lreturn, 1) := by decide +kernel
theorem dX6_money_15 : decode cX6_money 15 = .ok (.aload_n 0, 1) := by decide +kernel
theorem dX6_money_16 : decode cX6_money 16 = .ok (.getfield 10, 3) := by decide +kernel
theorem dX6_money_19 : decode cX6_money 19 = .ok (.getfield 89, 3) := by decide +kernel
theorem dX6_money_22 : decode cX6_money 22 = .ok (.iload_n 1, 1) := by decide +kernel
theorem dX6_money_23 : decode cX6_money 23 = .ok (.aaload, 1) := by decide +kernel
theorem dX6_money_24 : decode cX6_money 24 = .ok (.astore_n 3, 1) := by decide +kernel
theorem dX6_money_25 : decode cX6_money 25 = .ok (.iload_n 2, 1) := by decide +kernel
theorem dX6_money_26 : decode cX6_money 26 = .ok (.tableswitch 59 0 4 #[34, 39, 44, 49, 54], 34) := by decide +kernel
theorem dX6_money_60 : decode cX6_money 60 = .ok (.aload_n 3, 1) := by decide +kernel
theorem dX6_money_61 : decode cX6_money 61 = .ok (.invokevirtual 156, 3) := by decide +kernel
theorem dX6_money_64 : decode cX6_money 64 = .ok (.lreturn, 1) := by decide +kernel
theorem dX6_money_65 : decode cX6_money 65 = .ok (.aload_n 3, 1) := by decide +kernel
theorem dX6_money_66 : decode cX6_money 66 = .ok (.getfield 160, 3) := by decide +kernel
theorem dX6_money_69 : decode cX6_money 69 = .ok (.lreturn, 1) := by decide +kernel
theorem dX6_money_70 : decode cX6_money 70 = .ok (.aload_n 3, 1) := by decide +kernel
theorem dX6_money_71 : decode cX6_money 71 = .ok (.getfield 164, 3) := by decide +kernel
theorem dX6_money_74 : decode cX6_money 74 = .ok (.lreturn, 1) := by decide +kernel
theorem dX6_money_75 : decode cX6_money 75 = .ok (.aload_n 3, 1) := by decide +kernel
theorem dX6_money_76 : decode cX6_money 76 = .ok (.getfield 167, 3) := by decide +kernel
theorem dX6_money_79 : decode cX6_money 79 = .ok (.lreturn, 1) := by decide +kernel
theorem dX6_money_80 : decode cX6_money 80 = .ok (.aload_n 3, 1) := by decide +kernel
theorem dX6_money_81 : decode cX6_money 81 = .ok (.getfield 170, 3) := by decide +kernel
theorem dX6_money_84 : decode cX6_money 84 = .ok (.lreturn, 1) := by decide +kernel
theorem dX6_money_85 : decode cX6_money 85 = .ok (.ldc2_w 173, 3) := by decide +kernel
theorem dX6_money_88 : decode cX6_money 88 = .ok (.lreturn, 1) := by decide +kernel
theorem dX6_ofPitch_0 : decode cX6_ofPitch 0 = .ok (.aload_n 0, 1) := by decide +kernel
theorem dX6_ofPitch_1 : decode cX6_ofPitch 1 = .ok (.getfield 10, 3) := by decide +kernel
theorem dX6_ofPitch_4 : decode cX6_ofPitch 4 = .ok (.iload_n 1, 1) := by decide +kernel
theorem dX6_ofPitch_5 : decode cX6_ofPitch 5 = .ok (.invokevirtual 175, 3) := by decide +kernel
theorem dX6_ofPitch_8 : decode cX6_ofPitch 8 = .ok (.ifCond .ne 5, 3) := by decide +kernel
theorem dX6_ofPitch_11 : decode cX6_ofPitch 11 = .ok (.iconst (-1), 1) := by decide +kernel
theorem dX6_ofPitch_12 : decode cX6_ofPitch 12 = .ok (.ireturn, 1) := by decide +kernel
theorem dX6_ofPitch_13 : decode cX6_ofPitch 13 = .ok (.aload_n 0, 1) := by decide +kernel
theorem dX6_ofPitch_14 : decode cX6_ofPitch 14 = .ok (.getfield 10, 3) := by decide +kernel
theorem dX6_ofPitch_17 : decode cX6_ofPitch 17 = .ok (.getfield 178, 3) := by decide +kernel
theorem dX6_ofPitch_20 : decode cX6_ofPitch 20 = .ok (.iload_n 1, 1) := by decide +kernel
theorem dX6_ofPitch_21 : decode cX6_ofPitch 21 = .ok (.aaload, 1) := by decide +kernel
theorem dX6_ofPitch_22 : decode cX6_ofPitch 22 = .ok (.astore_n 3, 1) := by decide +kernel
theorem dX6_ofPitch_23 : decode cX6_ofPitch 23 = .ok (.iload_n 2, 1) := by decide +kernel
theorem dX6_ofPitch_24 : decode cX6_ofPitch 24 = .ok (.tableswitch 52 0 3 #[32, 37, 42, 47], 32) := by decide +kernel
theorem dX6_ofPitch_56 : decode cX6_ofPitch 56 = .ok (.aload_n 3, 1) := by decide +kernel
theorem dX6_ofPitch_57 : decode cX6_ofPitch 57 = .ok (.getfield 182, 3) := by decide +kernel
theorem dX6_ofPitch_60 : decode cX6_ofPitch 60 = .ok (.ireturn, 1) := by decide +kernel
theorem dX6_ofPitch_61 : decode cX6_ofPitch 61 = .ok (.aload_n 3, 1) := by decide +kernel
theorem dX6_ofPitch_62 : decode cX6_ofPitch 62 = .ok (.getfield 187, 3) := by decide +kernel
theorem dX6_ofPitch_65 : decode cX6_ofPitch 65 = .ok (.ireturn, 1) := by decide +kernel
theorem dX6_ofPitch_66 : decode cX6_ofPitch 66 = .ok (.aload_n 3, 1) := by decide +kernel
theorem dX6_ofPitch_67 : decode cX6_ofPitch 67 = .ok (.getfield 190, 3) := by decide +kernel
theorem dX6_ofPitch_70 : decode cX6_ofPitch 70 = .ok (.ireturn, 1) := by decide +kernel
theorem dX6_ofPitch_71 : decode cX6_ofPitch 71 = .ok (.aload_n 3, 1) := by decide +kernel
theorem dX6_ofPitch_72 : decode cX6_ofPitch 72 = .ok (.getfield 193, 3) := by decide +kernel
theorem dX6_ofPitch_75 : decode cX6_ofPitch 75 = .ok (.ireturn, 1) := by decide +kernel
theorem dX6_ofPitch_76 : decode cX6_ofPitch 76 = .ok (.bipush (-2), 2) := by decide +kernel
theorem dX6_ofPitch_78 : decode cX6_ofPitch 78 = .ok (.ireturn, 1) := by decide +kernel
theorem dX6_count_0 : decode cX6_count 0 = .ok (.iload_n 1, 1) := by decide +kernel
theorem dX6_count_1 : decode cX6_count 1 = .ok (.bipush 8, 2) := by decide +kernel
theorem dX6_count_3 : decode cX6_count 3 = .ok (.if_icmp .lt 22, 3) := by decide +kernel
theorem dX6_count_6 : decode cX6_count 6 = .ok (.iload_n 1, 1) := by decide +kernel
theorem dX6_count_7 : decode cX6_count 7 = .ok (.bipush 18, 2) := by decide +kernel
theorem dX6_count_9 : decode cX6_count 9 = .ok (.if_icmp .ge 16, 3) := by decide +kernel
theorem dX6_count_12 : decode cX6_count 12 = .ok (.aload_n 0, 1) := by decide +kernel
theorem dX6_count_13 : decode cX6_count 13 = .ok (.getfield 10, 3) := by decide +kernel
theorem dX6_count_16 : decode cX6_count 16 = .ok (.getfield 128, 3) := by decide +kernel
theorem dX6_count_19 : decode cX6_count 19 = .ok (.iload_n 1, 1) := by decide +kernel
theorem dX6_count_20 : decode cX6_count 20 = .ok (.bipush 8, 2) := by decide +kernel
theorem dX6_count_22 : decode cX6_count 22 = .ok (.isub, 1) := by decide +kernel
theorem dX6_count_23 : decode cX6_count 23 = .ok (.iaload, 1) := by decide +kernel
theorem dX6_count_24 : decode cX6_count 24 = .ok (.ireturn, 1) := by decide +kernel
theorem dX6_count_25 : decode cX6_count 25 = .ok (.iload_n 1, 1) := by decide +kernel
theorem dX6_count_26 : decode cX6_count 26 = .ok (.tableswitch 174 0 19 #[94, 102, 110, 118, 126, 134, 142, 150, 174, 174, 174, 174, 174, 174, 174, 174, 174, 174, 158, 166], 94) := by decide +kernel
theorem dX6_count_120 : decode cX6_count 120 = .ok (.aload_n 0, 1) := by decide +kernel
theorem dX6_count_121 : decode cX6_count 121 = .ok (.getfield 10, 3) := by decide +kernel
theorem dX6_count_124 : decode cX6_count 124 = .ok (.getfield 125, 3) := by decide +kernel
theorem dX6_count_127 : decode cX6_count 127 = .ok (.ireturn, 1) := by decide +kernel
theorem dX6_count_128 : decode cX6_count 128 = .ok (.aload_n 0, 1) := by decide +kernel
theorem dX6_count_129 : decode cX6_count 129 = .ok (.getfield 10, 3) := by decide +kernel
theorem dX6_count_132 : decode cX6_count 132 = .ok (.getfield 196, 3) := by decide +kernel
theorem dX6_count_135 : decode cX6_count 135 = .ok (.ireturn, 1) := by decide +kernel
theorem dX6_count_136 : decode cX6_count 136 = .ok (.aload_n 0, 1) := by decide +kernel
theorem dX6_count_137 : decode cX6_count 137 = .ok (.getfield 10, 3) := by decide +kernel
theorem dX6_count_140 : decode cX6_count 140 = .ok (.getfield 199, 3) := by decide +kernel
theorem dX6_count_143 : decode cX6_count 143 = .ok (.ireturn, 1) := by decide +kernel
theorem dX6_count_144 : decode cX6_count 144 = .ok (.aload_n 0, 1) := by decide +kernel
theorem dX6_count_145 : decode cX6_count 145 = .ok (.getfield 10, 3) := by decide +kernel
theorem dX6_count_148 : decode cX6_count 148 = .ok (.getfield 202, 3) := by decide +kernel
theorem dX6_count_151 : decode cX6_count 151 = .ok (.ireturn, 1) := by decide +kernel
theorem dX6_count_152 : decode cX6_count 152 = .ok (.aload_n 0, 1) := by decide +kernel
theorem dX6_count_153 : decode cX6_count 153 = .ok (.getfield 10, 3) := by decide +kernel
theorem dX6_count_156 : decode cX6_count 156 = .ok (.invokevirtual 205, 3) := by decide +kernel
theorem dX6_count_159 : decode cX6_count 159 = .ok (.ireturn, 1) := by decide +kernel
theorem dX6_count_160 : decode cX6_count 160 = .ok (.aload_n 0, 1) := by decide +kernel
theorem dX6_count_161 : decode cX6_count 161 = .ok (.getfield 10, 3) := by decide +kernel
theorem dX6_count_164 : decode cX6_count 164 = .ok (.getfield 209, 3) := by decide +kernel
theorem dX6_count_167 : decode cX6_count 167 = .ok (.ireturn, 1) := by decide +kernel
theorem dX6_count_168 : decode cX6_count 168 = .ok (.aload_n 0, 1) := by decide +kernel
theorem dX6_count_169 : decode cX6_count 169 = .ok (.getfield 35, 3) := by decide +kernel
theorem dX6_count_172 : decode cX6_count 172 = .ok (.getfield 212, 3) := by decide +kernel
theorem dX6_count_175 : decode cX6_count 175 = .ok (.ireturn, 1) := by decide +kernel
theorem dX6_count_176 : decode cX6_count 176 = .ok (.aload_n 0, 1) := by decide +kernel
theorem dX6_count_177 : decode cX6_count 177 = .ok (.getfield 22, 3) := by decide +kernel
theorem dX6_count_180 : decode cX6_count 180 = .ok (.getfield 215, 3) := by decide +kernel
theorem dX6_count_183 : decode cX6_count 183 = .ok (.ireturn, 1) := by decide +kernel
theorem dX6_count_184 : decode cX6_count 184 = .ok (.aload_n 0, 1) := by decide +kernel
theorem dX6_count_185 : decode cX6_count 185 = .ok (.getfield 10, 3) := by decide +kernel
theorem dX6_count_188 : decode cX6_count 188 = .ok (.invokevirtual 218, 3) := by decide +kernel
theorem dX6_count_191 : decode cX6_count 191 = .ok (.ireturn, 1) := by decide +kernel
theorem dX6_count_192 : decode cX6_count 192 = .ok (.aload_n 0, 1) := by decide +kernel
theorem dX6_count_193 : decode cX6_count 193 = .ok (.getfield 10, 3) := by decide +kernel
theorem dX6_count_196 : decode cX6_count 196 = .ok (.getfield 221, 3) := by decide +kernel
theorem dX6_count_199 : decode cX6_count 199 = .ok (.ireturn, 1) := by decide +kernel
theorem dX6_count_200 : decode cX6_count 200 = .ok (.bipush (-2), 2) := by decide +kernel
theorem dX6_count_202 : decode cX6_count 202 = .ok (.ireturn, 1) := by decide +kernel
theorem dX6_pointsOn_0 : decode cX6_pointsOn 0 = .ok (.aload_n 0, 1) := by decide +kernel
theorem dX6_pointsOn_1 : decode cX6_pointsOn 1 = .ok (.getfield 10, 3) := by decide +kernel
theorem dX6_pointsOn_4 : decode cX6_pointsOn 4 = .ok (.iload_n 1, 1) := by decide +kernel
theorem dX6_pointsOn_5 : decode cX6_pointsOn 5 = .ok (.invokevirtual 85, 3) := by decide +kernel
theorem dX6_pointsOn_8 : decode cX6_pointsOn 8 = .ok (.ifCond .ne 5, 3) := by decide +kernel
theorem dX6_pointsOn_11 : decode cX6_pointsOn 11 = .ok (.iconst (-1), 1) := by decide +kernel
theorem dX6_pointsOn_12 : decode cX6_pointsOn 12 = .ok (.ireturn, 1) := by decide +kernel
theorem dX6_pointsOn_13 : decode cX6_pointsOn 13 = .ok (.iload_n 2, 1) := by decide +kernel
theorem dX6_pointsOn_14 : decode cX6_pointsOn 14 = .ok (.aload_n 0, 1) := by decide +kernel
theorem dX6_pointsOn_15 : decode cX6_pointsOn 15 = .ok (.getfield 10, 3) := by decide +kernel
theorem dX6_pointsOn_18 : decode cX6_pointsOn 18 = .ok (.getfield 125, 3) := by decide +kernel
theorem dX6_pointsOn_21 : decode cX6_pointsOn 21 = .ok (.if_icmp .lt 18, 3) := by decide +kernel
theorem dX6_pointsOn_24 : decode cX6_pointsOn 24 = .ok (.iload_n 2, 1) := by decide +kernel
theorem dX6_pointsOn_25 : decode cX6_pointsOn 25 = .ok (.aload_n 0, 1) := by decide +kernel
theorem dX6_pointsOn_26 : decode cX6_pointsOn 26 = .ok (.getfield 10, 3) := by decide +kernel
theorem dX6_pointsOn_29 : decode cX6_pointsOn 29 = .ok (.getfield 125, 3) := by decide +kernel
theorem dX6_pointsOn_32 : decode cX6_pointsOn 32 = .ok (.sipush 400, 3) := by decide +kernel
theorem dX6_pointsOn_35 : decode cX6_pointsOn 35 = .ok (.iadd, 1) := by decide +kernel
theorem dX6_pointsOn_36 : decode cX6_pointsOn 36 = .ok (.if_icmp .le 6, 3) := by decide +kernel
theorem dX6_pointsOn_39 : decode cX6_pointsOn 39 = .ok (.bipush (-2), 2) := by decide +kernel
theorem dX6_pointsOn_41 : decode cX6_pointsOn 41 = .ok (.ireturn, 1) := by decide +kernel
theorem dX6_pointsOn_42 : decode cX6_pointsOn 42 = .ok (.aload_n 0, 1) := by decide +kernel
theorem dX6_pointsOn_43 : decode cX6_pointsOn 43 = .ok (.getfield 10, 3) := by decide +kernel
theorem dX6_pointsOn_46 : decode cX6_pointsOn 46 = .ok (.getfield 89, 3) := by decide +kernel
theorem dX6_pointsOn_49 : decode cX6_pointsOn 49 = .ok (.iload_n 1, 1) := by decide +kernel
theorem dX6_pointsOn_50 : decode cX6_pointsOn 50 = .ok (.aaload, 1) := by decide +kernel
theorem dX6_pointsOn_51 : decode cX6_pointsOn 51 = .ok (.iload_n 2, 1) := by decide +kernel
theorem dX6_pointsOn_52 : decode cX6_pointsOn 52 = .ok (.aload_n 0, 1) := by decide +kernel
theorem dX6_pointsOn_53 : decode cX6_pointsOn 53 = .ok (.getfield 10, 3) := by decide +kernel
theorem dX6_pointsOn_56 : decode cX6_pointsOn 56 = .ok (.getfield 125, 3) := by decide +kernel
theorem dX6_pointsOn_59 : decode cX6_pointsOn 59 = .ok (.aload_n 0, 1) := by decide +kernel
theorem dX6_pointsOn_60 : decode cX6_pointsOn 60 = .ok (.getfield 10, 3) := by decide +kernel
theorem dX6_pointsOn_63 : decode cX6_pointsOn 63 = .ok (.getfield 128, 3) := by decide +kernel
theorem dX6_pointsOn_66 : decode cX6_pointsOn 66 = .ok (.iconst 5, 1) := by decide +kernel
theorem dX6_pointsOn_67 : decode cX6_pointsOn 67 = .ok (.iaload, 1) := by decide +kernel
theorem dX6_pointsOn_68 : decode cX6_pointsOn 68 = .ok (.invokevirtual 132, 3) := by decide +kernel
theorem dX6_pointsOn_71 : decode cX6_pointsOn 71 = .ok (.ireturn, 1) := by decide +kernel
theorem dX6_wouldHave_0 : decode cX6_wouldHave 0 = .ok (.aload_n 0, 1) := by decide +kernel
theorem dX6_wouldHave_1 : decode cX6_wouldHave 1 = .ok (.getfield 10, 3) := by decide +kernel
theorem dX6_wouldHave_4 : decode cX6_wouldHave 4 = .ok (.iload_n 1, 1) := by decide +kernel
theorem dX6_wouldHave_5 : decode cX6_wouldHave 5 = .ok (.invokevirtual 85, 3) := by decide +kernel
theorem dX6_wouldHave_8 : decode cX6_wouldHave 8 = .ok (.ifCond .ne 5, 3) := by decide +kernel
theorem dX6_wouldHave_11 : decode cX6_wouldHave 11 = .ok (.iconst (-1), 1) := by decide +kernel
theorem dX6_wouldHave_12 : decode cX6_wouldHave 12 = .ok (.ireturn, 1) := by decide +kernel
theorem dX6_wouldHave_13 : decode cX6_wouldHave 13 = .ok (.aload_n 0, 1) := by decide +kernel
theorem dX6_wouldHave_14 : decode cX6_wouldHave 14 = .ok (.getfield 16, 3) := by decide +kernel
theorem dX6_wouldHave_17 : decode cX6_wouldHave 17 = .ok (.aload_n 0, 1) := by decide +kernel
theorem dX6_wouldHave_18 : decode cX6_wouldHave 18 = .ok (.getfield 10, 3) := by decide +kernel
theorem dX6_wouldHave_21 : decode cX6_wouldHave 21 = .ok (.invokevirtual 224, 3) := by decide +kernel
theorem dX6_wouldHave_24 : decode cX6_wouldHave 24 = .ok (.aload_n 0, 1) := by decide +kernel
theorem dX6_wouldHave_25 : decode cX6_wouldHave 25 = .ok (.iload_n 1, 1) := by decide +kernel
theorem dX6_wouldHave_26 : decode cX6_wouldHave 26 = .ok (.invokevirtual 227, 3) := by decide +kernel
theorem dX6_wouldHave_29 : decode cX6_wouldHave 29 = .ok (.ireturn, 1) := by decide +kernel
theorem dX6_ifWished_0 : decode cX6_ifWished 0 = .ok (.aload_n 0, 1) := by decide +kernel
theorem dX6_ifWished_1 : decode cX6_ifWished 1 = .ok (.getfield 10, 3) := by decide +kernel
theorem dX6_ifWished_4 : decode cX6_ifWished 4 = .ok (.iload_n 1, 1) := by decide +kernel
theorem dX6_ifWished_5 : decode cX6_ifWished 5 = .ok (.invokevirtual 85, 3) := by decide +kernel
theorem dX6_ifWished_8 : decode cX6_ifWished 8 = .ok (.ifCond .eq 14, 3) := by decide +kernel
theorem dX6_ifWished_11 : decode cX6_ifWished 11 = .ok (.aload_n 0, 1) := by decide +kernel
theorem dX6_ifWished_12 : decode cX6_ifWished 12 = .ok (.getfield 10, 3) := by decide +kernel
theorem dX6_ifWished_15 : decode cX6_ifWished 15 = .ok (.iload_n 2, 1) := by decide +kernel
theorem dX6_ifWished_16 : decode cX6_ifWished 16 = .ok (.invokevirtual 175, 3) := by decide +kernel
theorem dX6_ifWished_19 : decode cX6_ifWished 19 = .ok (.ifCond .ne 5, 3) := by decide +kernel
theorem dX6_ifWished_22 : decode cX6_ifWished 22 = .ok (.iconst (-1), 1) := by decide +kernel
theorem dX6_ifWished_23 : decode cX6_ifWished 23 = .ok (.ireturn, 1) := by decide +kernel
theorem dX6_ifWished_24 : decode cX6_ifWished 24 = .ok (.aload_n 0, 1) := by decide +kernel
theorem dX6_ifWished_25 : decode cX6_ifWished 25 = .ok (.getfield 16, 3) := by decide +kernel
theorem dX6_ifWished_28 : decode cX6_ifWished 28 = .ok (.aload_n 0, 1) := by decide +kernel
theorem dX6_ifWished_29 : decode cX6_ifWished 29 = .ok (.getfield 10, 3) := by decide +kernel
theorem dX6_ifWished_32 : decode cX6_ifWished 32 = .ok (.invokevirtual 224, 3) := by decide +kernel
theorem dX6_ifWished_35 : decode cX6_ifWished 35 = .ok (.aload_n 0, 1) := by decide +kernel
theorem dX6_ifWished_36 : decode cX6_ifWished 36 = .ok (.getfield 16, 3) := by decide +kernel
theorem dX6_ifWished_39 : decode cX6_ifWished 39 = .ok (.iload_n 1, 1) := by decide +kernel
theorem dX6_ifWished_40 : decode cX6_ifWished 40 = .ok (.iload_n 2, 1) := by decide +kernel
theorem dX6_ifWished_41 : decode cX6_ifWished 41 = .ok (.bipush (-6), 2) := by decide +kernel
theorem dX6_ifWished_43 : decode cX6_ifWished 43 = .ok (.bipush (-6), 2) := by decide +kernel
theorem dX6_ifWished_45 : decode cX6_ifWished 45 = .ok (.invokevirtual 63, 3) := by decide +kernel
theorem dX6_ifWished_48 : decode cX6_ifWished 48 = .ok (.pop, 1) := by decide +kernel
theorem dX6_ifWished_49 : decode cX6_ifWished 49 = .ok (.aload_n 0, 1) := by decide +kernel
theorem dX6_ifWished_50 : decode cX6_ifWished 50 = .ok (.iload_n 1, 1) := by decide +kernel
theorem dX6_ifWished_51 : decode cX6_ifWished 51 = .ok (.invokevirtual 227, 3) := by decide +kernel
theorem dX6_ifWished_54 : decode cX6_ifWished 54 = .ok (.ireturn, 1) := by decide +kernel
theorem dX6_firstDay_0 : decode cX6_firstDay 0 = .ok (.aload_n 0, 1) := by decide +kernel
theorem dX6_firstDay_1 : decode cX6_firstDay 1 = .ok (.getfield 10, 3) := by decide +kernel
theorem dX6_firstDay_4 : decode cX6_firstDay 4 = .ok (.iload_n 1, 1) := by decide +kernel
theorem dX6_firstDay_5 : decode cX6_firstDay 5 = .ok (.invokevirtual 85, 3) := by decide +kernel
theorem dX6_firstDay_8 : decode cX6_firstDay 8 = .ok (.ifCond .ne 5, 3) := by decide +kernel
theorem dX6_firstDay_11 : decode cX6_firstDay 11 = .ok (.iconst (-1), 1) := by decide +kernel
theorem dX6_firstDay_12 : decode cX6_firstDay 12 = .ok (.ireturn, 1) := by decide +kernel
theorem dX6_firstDay_13 : decode cX6_firstDay 13 = .ok (.aload_n 0, 1) := by decide +kernel
theorem dX6_firstDay_14 : decode cX6_firstDay 14 = .ok (.getfield 16, 3) := by decide +kernel
theorem dX6_firstDay_17 : decode cX6_firstDay 17 = .ok (.aload_n 0, 1) := by decide +kernel
theorem dX6_firstDay_18 : decode cX6_firstDay 18 = .ok (.getfield 10, 3) := by decide +kernel
theorem dX6_firstDay_21 : decode cX6_firstDay 21 = .ok (.invokevirtual 224, 3) := by decide +kernel
theorem dX6_firstDay_24 : decode cX6_firstDay 24 = .ok (.iconst 0, 1) := by decide +kernel
theorem dX6_firstDay_25 : decode cX6_firstDay 25 = .ok (.istore_n 2, 1) := by decide +kernel
theorem dX6_firstDay_26 : decode cX6_firstDay 26 = .ok (.iload_n 2, 1) := by decide +kernel
theorem dX6_firstDay_27 : decode cX6_firstDay 27 = .ok (.bipush 60, 2) := by decide +kernel
theorem dX6_firstDay_29 : decode cX6_firstDay 29 = .ok (.if_icmp .ge 21, 3) := by decide +kernel
theorem dX6_firstDay_32 : decode cX6_firstDay 32 = .ok (.aload_n 0, 1) := by decide +kernel
theorem dX6_firstDay_33 : decode cX6_firstDay 33 = .ok (.iload_n 1, 1) := by decide +kernel
theorem dX6_firstDay_34 : decode cX6_firstDay 34 = .ok (.invokevirtual 227, 3) := by decide +kernel
theorem dX6_firstDay_37 : decode cX6_firstDay 37 = .ok (.bipush (-6), 2) := by decide +kernel
theorem dX6_firstDay_39 : decode cX6_firstDay 39 = .ok (.if_icmp .eq 5, 3) := by decide +kernel
theorem dX6_firstDay_42 : decode cX6_firstDay 42 = .ok (.iload_n 2, 1) := by decide +kernel
theorem dX6_firstDay_43 : decode cX6_firstDay 43 = .ok (.ireturn, 1) := by decide +kernel
theorem dX6_firstDay_44 : decode cX6_firstDay 44 = .ok (.iinc 2 1, 3) := by decide +kernel
theorem dX6_firstDay_47 : decode cX6_firstDay 47 = .ok (.goto (-21), 3) := by decide +kernel
theorem dX6_firstDay_50 : decode cX6_firstDay 50 = .ok (.bipush (-6), 2) := by decide +kernel
theorem dX6_firstDay_52 : decode cX6_firstDay 52 = .ok (.ireturn, 1) := by decide +kernel
theorem dX6_daysOf_0 : decode cX6_daysOf 0 = .ok (.aload_n 0, 1) := by decide +kernel
theorem dX6_daysOf_1 : decode cX6_daysOf 1 = .ok (.getfield 10, 3) := by decide +kernel
theorem dX6_daysOf_4 : decode cX6_daysOf 4 = .ok (.iload_n 1, 1) := by decide +kernel
theorem dX6_daysOf_5 : decode cX6_daysOf 5 = .ok (.invokevirtual 85, 3) := by decide +kernel
theorem dX6_daysOf_8 : decode cX6_daysOf 8 = .ok (.ifCond .ne 5, 3) := by decide +kernel
theorem dX6_daysOf_11 : decode cX6_daysOf 11 = .ok (.iconst (-1), 1) := by decide +kernel
theorem dX6_daysOf_12 : decode cX6_daysOf 12 = .ok (.ireturn, 1) := by decide +kernel
theorem dX6_daysOf_13 : decode cX6_daysOf 13 = .ok (.iload_n 2, 1) := by decide +kernel
theorem dX6_daysOf_14 : decode cX6_daysOf 14 = .ok (.iconst 1, 1) := by decide +kernel
theorem dX6_daysOf_15 : decode cX6_daysOf 15 = .ok (.if_icmp .lt 9, 3) := by decide +kernel
theorem dX6_daysOf_18 : decode cX6_daysOf 18 = .ok (.iload_n 2, 1) := by decide +kernel
theorem dX6_daysOf_19 : decode cX6_daysOf 19 = .ok (.bipush 60, 2) := by decide +kernel
theorem dX6_daysOf_21 : decode cX6_daysOf 21 = .ok (.if_icmp .le 6, 3) := by decide +kernel
theorem dX6_daysOf_24 : decode cX6_daysOf 24 = .ok (.bipush (-2), 2) := by decide +kernel
theorem dX6_daysOf_26 : decode cX6_daysOf 26 = .ok (.ireturn, 1) := by decide +kernel
theorem dX6_daysOf_27 : decode cX6_daysOf 27 = .ok (.aload_n 0, 1) := by decide +kernel
theorem dX6_daysOf_28 : decode cX6_daysOf 28 = .ok (.getfield 16, 3) := by decide +kernel
theorem dX6_daysOf_31 : decode cX6_daysOf 31 = .ok (.aload_n 0, 1) := by decide +kernel
theorem dX6_daysOf_32 : decode cX6_daysOf 32 = .ok (.getfield 10, 3) := by decide +kernel
theorem dX6_daysOf_35 : decode cX6_daysOf 35 = .ok (.invokevirtual 224, 3) := by decide +kernel
theorem dX6_daysOf_38 : decode cX6_daysOf 38 = .ok (.iconst 0, 1) := by decide +kernel
theorem dX6_daysOf_39 : decode cX6_daysOf 39 = .ok (.istore_n 3, 1) := by decide +kernel
theorem dX6_daysOf_40 : decode cX6_daysOf 40 = .ok (.iconst 0, 1) := by decide +kernel
theorem dX6_daysOf_41 : decode cX6_daysOf 41 = .ok (.istore 4, 2) := by decide +kernel
theorem dX6_daysOf_43 : decode cX6_daysOf 43 = .ok (.iload 4, 2) := by decide +kernel
theorem dX6_daysOf_45 : decode cX6_daysOf 45 = .ok (.iload_n 2, 1) := by decide +kernel
theorem dX6_daysOf_46 : decode cX6_daysOf 46 = .ok (.if_icmp .ge 22, 3) := by decide +kernel
theorem dX6_daysOf_49 : decode cX6_daysOf 49 = .ok (.aload_n 0, 1) := by decide +kernel
theorem dX6_daysOf_50 : decode cX6_daysOf 50 = .ok (.iload_n 1, 1) := by decide +kernel
theorem dX6_daysOf_51 : decode cX6_daysOf 51 = .ok (.invokevirtual 227, 3) := by decide +kernel
theorem dX6_daysOf_54 : decode cX6_daysOf 54 = .ok (.bipush (-6), 2) := by decide +kernel
theorem dX6_daysOf_56 : decode cX6_daysOf 56 = .ok (.if_icmp .eq 6, 3) := by decide +kernel
theorem dX6_daysOf_59 : decode cX6_daysOf 59 = .ok (.iinc 3 1, 3) := by decide +kernel
theorem dX6_daysOf_62 : decode cX6_daysOf 62 = .ok (.iinc 4 1, 3) := by decide +kernel
theorem dX6_daysOf_65 : decode cX6_daysOf 65 = .ok (.goto (-22), 3) := by decide +kernel
theorem dX6_daysOf_68 : decode cX6_daysOf 68 = .ok (.iload_n 3, 1) := by decide +kernel
theorem dX6_daysOf_69 : decode cX6_daysOf 69 = .ok (.ireturn, 1) := by decide +kernel
theorem dX6_luckySeed_0 : decode cX6_luckySeed 0 = .ok (.aload_n 0, 1) := by decide +kernel
theorem dX6_luckySeed_1 : decode cX6_luckySeed 1 = .ok (.getfield 10, 3) := by decide +kernel
theorem dX6_luckySeed_4 : decode cX6_luckySeed 4 = .ok (.iload_n 1, 1) := by decide +kernel
theorem dX6_luckySeed_5 : decode cX6_luckySeed 5 = .ok (.invokevirtual 85, 3) := by decide +kernel
theorem dX6_luckySeed_8 : decode cX6_luckySeed 8 = .ok (.ifCond .eq 20, 3) := by decide +kernel
theorem dX6_luckySeed_11 : decode cX6_luckySeed 11 = .ok (.iload_n 2, 1) := by decide +kernel
theorem dX6_luckySeed_12 : decode cX6_luckySeed 12 = .ok (.bipush (-6), 2) := by decide +kernel
theorem dX6_luckySeed_14 : decode cX6_luckySeed 14 = .ok (.if_icmp .eq 16, 3) := by decide +kernel
theorem dX6_luckySeed_17 : decode cX6_luckySeed 17 = .ok (.aload_n 0, 1) := by decide +kernel
theorem dX6_luckySeed_18 : decode cX6_luckySeed 18 = .ok (.getfield 10, 3) := by decide +kernel
theorem dX6_luckySeed_21 : decode cX6_luckySeed 21 = .ok (.iload_n 2, 1) := by decide +kernel
theorem dX6_luckySeed_22 : decode cX6_luckySeed 22 = .ok (.invokevirtual 175, 3) := by decide +kernel
theorem dX6_luckySeed_25 : decode cX6_luckySeed 25 = .ok (.ifCond .ne 5, 3) := by decide +kernel
theorem dX6_luckySeed_28 : decode cX6_luckySeed 28 = .ok (.iconst (-1), 1) := by decide +kernel
theorem dX6_luckySeed_29 : decode cX6_luckySeed 29 = .ok (.ireturn, 1) := by decide +kernel
theorem dX6_luckySeed_30 : decode cX6_luckySeed 30 = .ok (.iconst 0, 1) := by decide +kernel
theorem dX6_luckySeed_31 : decode cX6_luckySeed 31 = .ok (.istore_n 3, 1) := by decide +kernel
theorem dX6_luckySeed_32 : decode cX6_luckySeed 32 = .ok (.iload_n 3, 1) := by decide +kernel
theorem dX6_luckySeed_33 : decode cX6_luckySeed 33 = .ok (.sipush 200, 3) := by decide +kernel
theorem dX6_luckySeed_36 : decode cX6_luckySeed 36 = .ok (.if_icmp .ge 57, 3) := by decide +kernel
theorem dX6_luckySeed_39 : decode cX6_luckySeed 39 = .ok (.aload_n 0, 1) := by decide +kernel
theorem dX6_luckySeed_40 : decode cX6_luckySeed 40 = .ok (.getfield 16, 3) := by decide +kernel
theorem dX6_luckySeed_43 : decode cX6_luckySeed 43 = .ok (.aload_n 0, 1) := by decide +kernel
theorem dX6_luckySeed_44 : decode cX6_luckySeed 44 = .ok (.getfield 10, 3) := by decide +kernel
theorem dX6_luckySeed_47 : decode cX6_luckySeed 47 = .ok (.invokevirtual 224, 3) := by decide +kernel
theorem dX6_luckySeed_50 : decode cX6_luckySeed 50 = .ok (.aload_n 0, 1) := by decide +kernel
theorem dX6_luckySeed_51 : decode cX6_luckySeed 51 = .ok (.getfield 16, 3) := by decide +kernel
theorem dX6_luckySeed_54 : decode cX6_luckySeed 54 = .ok (.iload_n 3, 1) := by decide +kernel
theorem dX6_luckySeed_55 : decode cX6_luckySeed 55 = .ok (.invokevirtual 51, 3) := by decide +kernel
theorem dX6_luckySeed_58 : decode cX6_luckySeed 58 = .ok (.pop, 1) := by decide +kernel
theorem dX6_luckySeed_59 : decode cX6_luckySeed 59 = .ok (.aload_n 0, 1) := by decide +kernel
theorem dX6_luckySeed_60 : decode cX6_luckySeed 60 = .ok (.iload_n 1, 1) := by decide +kernel
theorem dX6_luckySeed_61 : decode cX6_luckySeed 61 = .ok (.invokevirtual 227, 3) := by decide +kernel
theorem dX6_luckySeed_64 : decode cX6_luckySeed 64 = .ok (.istore 4, 2) := by decide +kernel
theorem dX6_luckySeed_66 : decode cX6_luckySeed 66 = .ok (.iload 4, 2) := by decide +kernel
theorem dX6_luckySeed_68 : decode cX6_luckySeed 68 = .ok (.bipush (-6), 2) := by decide +kernel
theorem dX6_luckySeed_70 : decode cX6_luckySeed 70 = .ok (.if_icmp .eq 17, 3) := by decide +kernel
theorem dX6_luckySeed_73 : decode cX6_luckySeed 73 = .ok (.iload_n 2, 1) := by decide +kernel
theorem dX6_luckySeed_74 : decode cX6_luckySeed 74 = .ok (.bipush (-6), 2) := by decide +kernel
theorem dX6_luckySeed_76 : decode cX6_luckySeed 76 = .ok (.if_icmp .eq 9, 3) := by decide +kernel
theorem dX6_luckySeed_79 : decode cX6_luckySeed 79 = .ok (.iload 4, 2) := by decide +kernel
theorem dX6_luckySeed_81 : decode cX6_luckySeed 81 = .ok (.iload_n 2, 1) := by decide +kernel
theorem dX6_luckySeed_82 : decode cX6_luckySeed 82 = .ok (.if_icmp .ne 5, 3) := by decide +kernel
theorem dX6_luckySeed_85 : decode cX6_luckySeed 85 = .ok (.iload_n 3, 1) := by decide +kernel
theorem dX6_luckySeed_86 : decode cX6_luckySeed 86 = .ok (.ireturn, 1) := by decide +kernel
theorem dX6_luckySeed_87 : decode cX6_luckySeed 87 = .ok (.iinc 3 1, 3) := by decide +kernel
theorem dX6_luckySeed_90 : decode cX6_luckySeed 90 = .ok (.goto (-58), 3) := by decide +kernel
theorem dX6_luckySeed_93 : decode cX6_luckySeed 93 = .ok (.bipush (-6), 2) := by decide +kernel
theorem dX6_luckySeed_95 : decode cX6_luckySeed 95 = .ok (.ireturn, 1) := by decide +kernel
theorem dX6_whyNot_0 : decode cX6_whyNot 0 = .ok (.aload_n 0, 1) := by decide +kernel
theorem dX6_whyNot_1 : decode cX6_whyNot 1 = .ok (.getfield 10, 3) := by decide +kernel
theorem dX6_whyNot_4 : decode cX6_whyNot 4 = .ok (.iload_n 1, 1) := by decide +kernel
theorem dX6_whyNot_5 : decode cX6_whyNot 5 = .ok (.invokevirtual 85, 3) := by decide +kernel
theorem dX6_whyNot_8 : decode cX6_whyNot 8 = .ok (.ifCond .eq 14, 3) := by decide +kernel
theorem dX6_whyNot_11 : decode cX6_whyNot 11 = .ok (.aload_n 0, 1) := by decide +kernel
theorem dX6_whyNot_12 : decode cX6_whyNot 12 = .ok (.getfield 10, 3) := by decide +kernel
theorem dX6_whyNot_15 : decode cX6_whyNot 15 = .ok (.iload_n 2, 1) := by decide +kernel
theorem dX6_whyNot_16 : decode cX6_whyNot 16 = .ok (.invokevirtual 175, 3) := by decide +kernel
theorem dX6_whyNot_19 : decode cX6_whyNot 19 = .ok (.ifCond .ne 5, 3) := by decide +kernel
theorem dX6_whyNot_22 : decode cX6_whyNot 22 = .ok (.iconst (-1), 1) := by decide +kernel
theorem dX6_whyNot_23 : decode cX6_whyNot 23 = .ok (.ireturn, 1) := by decide +kernel
theorem dX6_whyNot_24 : decode cX6_whyNot 24 = .ok (.aload_n 0, 1) := by decide +kernel
theorem dX6_whyNot_25 : decode cX6_whyNot 25 = .ok (.getfield 10, 3) := by decide +kernel
theorem dX6_whyNot_28 : decode cX6_whyNot 28 = .ok (.getfield 178, 3) := by decide +kernel
theorem dX6_whyNot_31 : decode cX6_whyNot 31 = .ok (.iload_n 2, 1) := by decide +kernel
theorem dX6_whyNot_32 : decode cX6_whyNot 32 = .ok (.aaload, 1) := by decide +kernel
theorem dX6_whyNot_33 : decode cX6_whyNot 33 = .ok (.getfield 193, 3) := by decide +kernel
theorem dX6_whyNot_36 : decode cX6_whyNot 36 = .ok (.istore_n 3, 1) := by decide +kernel
theorem dX6_whyNot_37 : decode cX6_whyNot 37 = .ok (.iload_n 3, 1) := by decide +kernel
theorem dX6_whyNot_38 : decode cX6_whyNot 38 = .ok (.bipush (-6), 2) := by decide +kernel
theorem dX6_whyNot_40 : decode cX6_whyNot 40 = .ok (.if_icmp .eq 10, 3) := by decide +kernel
theorem dX6_whyNot_43 : decode cX6_whyNot 43 = .ok (.iload_n 3, 1) := by decide +kernel
theorem dX6_whyNot_44 : decode cX6_whyNot 44 = .ok (.iload_n 1, 1) := by decide +kernel
theorem dX6_whyNot_45 : decode cX6_whyNot 45 = .ok (.if_icmp .eq 5, 3) := by decide +kernel
theorem dX6_whyNot_48 : decode cX6_whyNot 48 = .ok (.iconst 1, 1) := by decide +kernel
theorem dX6_whyNot_49 : decode cX6_whyNot 49 = .ok (.ireturn, 1) := by decide +kernel
theorem dX6_whyNot_50 : decode cX6_whyNot 50 = .ok (.aload_n 0, 1) := by decide +kernel
theorem dX6_whyNot_51 : decode cX6_whyNot 51 = .ok (.getfield 10, 3) := by decide +kernel
theorem dX6_whyNot_54 : decode cX6_whyNot 54 = .ok (.iload_n 1, 1) := by decide +kernel
theorem dX6_whyNot_55 : decode cX6_whyNot 55 = .ok (.iload_n 2, 1) := by decide +kernel
theorem dX6_whyNot_56 : decode cX6_whyNot 56 = .ok (.invokevirtual 230, 3) := by decide +kernel
theorem dX6_whyNot_59 : decode cX6_whyNot 59 = .ok (.ifCond .eq 7, 3) := by decide +kernel
theorem dX6_whyNot_62 : decode cX6_whyNot 62 = .ok (.iconst 2, 1) := by decide +kernel
theorem dX6_whyNot_63 : decode cX6_whyNot 63 = .ok (.goto 4, 3) := by decide +kernel
theorem dX6_whyNot_66 : decode cX6_whyNot 66 = .ok (.iconst 0, 1) := by decide +kernel
theorem dX6_whyNot_67 : decode cX6_whyNot 67 = .ok (.ireturn, 1) := by decide +kernel
theorem dX6_pitchOnTrialDay_0 : decode cX6_pitchOnTrialDay 0 = .ok (.aload_n 0, 1) := by decide +kernel
theorem dX6_pitchOnTrialDay_1 : decode cX6_pitchOnTrialDay 1 = .ok (.getfield 16, 3) := by decide +kernel
theorem dX6_pitchOnTrialDay_4 : decode cX6_pitchOnTrialDay 4 = .ok (.iconst 1, 1) := by decide +kernel
theorem dX6_pitchOnTrialDay_5 : decode cX6_pitchOnTrialDay 5 = .ok (.invokevirtual 79, 3) := by decide +kernel
theorem dX6_pitchOnTrialDay_8 : decode cX6_pitchOnTrialDay 8 = .ok (.pop, 1) := by decide +kernel
theorem dX6_pitchOnTrialDay_9 : decode cX6_pitchOnTrialDay 9 = .ok (.aload_n 0, 1) := by decide +kernel
theorem dX6_pitchOnTrialDay_10 : decode cX6_pitchOnTrialDay 10 = .ok (.getfield 16, 3) := by decide +kernel
theorem dX6_pitchOnTrialDay_13 : decode cX6_pitchOnTrialDay 13 = .ok (.iload_n 1, 1) := by decide +kernel
theorem dX6_pitchOnTrialDay_14 : decode cX6_pitchOnTrialDay 14 = .ok (.invokevirtual 85, 3) := by decide +kernel
theorem dX6_pitchOnTrialDay_17 : decode cX6_pitchOnTrialDay 17 = .ok (.ifCond .eq 18, 3) := by decide +kernel
theorem dX6_pitchOnTrialDay_20 : decode cX6_pitchOnTrialDay 20 = .ok (.aload_n 0, 1) := by decide +kernel
theorem dX6_pitchOnTrialDay_21 : decode cX6_pitchOnTrialDay 21 = .ok (.getfield 16, 3) := by decide +kernel
theorem dX6_pitchOnTrialDay_24 : decode cX6_pitchOnTrialDay 24 = .ok (.getfield 89, 3) := by decide +kernel
theorem dX6_pitchOnTrialDay_27 : decode cX6_pitchOnTrialDay 27 = .ok (.iload_n 1, 1) := by decide +kernel
theorem dX6_pitchOnTrialDay_28 : decode cX6_pitchOnTrialDay 28 = .ok (.aaload, 1) := by decide +kernel
theorem dX6_pitchOnTrialDay_29 : decode cX6_pitchOnTrialDay 29 = .ok (.getfield 142, 3) := by decide +kernel
theorem dX6_pitchOnTrialDay_32 : decode cX6_pitchOnTrialDay 32 = .ok (.goto 5, 3) := by decide +kernel
theorem dX6_pitchOnTrialDay_35 : decode cX6_pitchOnTrialDay 35 = .ok (.bipush (-6), 2) := by decide +kernel
theorem dX6_pitchOnTrialDay_37 : decode cX6_pitchOnTrialDay 37 = .ok (.ireturn, 1) := by decide +kernel
theorem dX6_put_0 : decode cX6_put 0 = .ok (.aload_n 0, 1) := by decide +kernel
theorem dX6_put_1 : decode cX6_put 1 = .ok (.getfield 35, 3) := by decide +kernel
theorem dX6_put_4 : decode cX6_put 4 = .ok (.lload_n 1, 1) := by decide +kernel
theorem dX6_put_5 : decode cX6_put 5 = .ok (.invokevirtual 234, 3) := by decide +kernel
theorem dX6_put_8 : decode cX6_put 8 = .ok (.ireturn, 1) := by decide +kernel
theorem dX6_wipe_0 : decode cX6_wipe 0 = .ok (.aload_n 0, 1) := by decide +kernel
theorem dX6_wipe_1 : decode cX6_wipe 1 = .ok (.getfield 35, 3) := by decide +kernel
theorem dX6_wipe_4 : decode cX6_wipe 4 = .ok (.getfield 212, 3) := by decide +kernel
theorem dX6_wipe_7 : decode cX6_wipe 7 = .ok (.istore_n 1, 1) := by decide +kernel
theorem dX6_wipe_8 : decode cX6_wipe 8 = .ok (.aload_n 0, 1) := by decide +kernel
theorem dX6_wipe_9 : decode cX6_wipe 9 = .ok (.getfield 35, 3) := by decide +kernel
theorem dX6_wipe_12 : decode cX6_wipe 12 = .ok (.iconst 0, 1) := by decide +kernel
theorem dX6_wipe_13 : decode cX6_wipe 13 = .ok (.putfield 212, 3) := by decide +kernel
theorem dX6_wipe_16 : decode cX6_wipe 16 = .ok (.iload_n 1, 1) := by decide +kernel
theorem dX6_wipe_17 : decode cX6_wipe 17 = .ok (.ireturn, 1) := by decide +kernel
theorem dX6_fault_0 : decode cX6_fault 0 = .ok (.aload_n 0, 1) := by decide +kernel
theorem dX6_fault_1 : decode cX6_fault 1 = .ok (.getfield 35, 3) := by decide +kernel
theorem dX6_fault_4 : decode cX6_fault 4 = .ok (.invokevirtual 238, 3) := by decide +kernel
theorem dX6_fault_7 : decode cX6_fault 7 = .ok (.ireturn, 1) := by decide +kernel
theorem dX6_carryOut_0 : decode cX6_carryOut 0 = .ok (.aload_n 0, 1) := by decide +kernel
theorem dX6_carryOut_1 : decode cX6_carryOut 1 = .ok (.getfield 35, 3) := by decide +kernel
theorem dX6_carryOut_4 : decode cX6_carryOut 4 = .ok (.invokevirtual 238, 3) := by decide +kernel
theorem dX6_carryOut_7 : decode cX6_carryOut 7 = .ok (.bipush (-6), 2) := by decide +kernel
theorem dX6_carryOut_9 : decode cX6_carryOut 9 = .ok (.if_icmp .eq 6, 3) := by decide +kernel
theorem dX6_carryOut_12 : decode cX6_carryOut 12 = .ok (.bipush (-3), 2) := by decide +kernel
theorem dX6_carryOut_14 : decode cX6_carryOut 14 = .ok (.ireturn, 1) := by decide +kernel
theorem dX6_carryOut_15 : decode cX6_carryOut 15 = .ok (.aload_n 0, 1) := by decide +kernel
theorem dX6_carryOut_16 : decode cX6_carryOut 16 = .ok (.getfield 22, 3) := by decide +kernel
theorem dX6_carryOut_19 : decode cX6_carryOut 19 = .ok (.aload_n 0, 1) := by decide +kernel
theorem dX6_carryOut_20 : decode cX6_carryOut 20 = .ok (.getfield 10, 3) := by decide +kernel
theorem dX6_carryOut_23 : decode cX6_carryOut 23 = .ok (.invokevirtual 39, 3) := by decide +kernel
theorem dX6_carryOut_26 : decode cX6_carryOut 26 = .ok (.iconst 0, 1) := by decide +kernel
theorem dX6_carryOut_27 : decode cX6_carryOut 27 = .ok (.istore_n 1, 1) := by decide +kernel
theorem dX6_carryOut_28 : decode cX6_carryOut 28 = .ok (.iconst 0, 1) := by decide +kernel
theorem dX6_carryOut_29 : decode cX6_carryOut 29 = .ok (.istore_n 2, 1) := by decide +kernel
theorem dX6_carryOut_30 : decode cX6_carryOut 30 = .ok (.iconst 0, 1) := by decide +kernel
theorem dX6_carryOut_31 : decode cX6_carryOut 31 = .ok (.istore_n 3, 1) := by decide +kernel
theorem dX6_carryOut_32 : decode cX6_carryOut 32 = .ok (.iload_n 3, 1) := by decide +kernel
theorem dX6_carryOut_33 : decode cX6_carryOut 33 = .ok (.aload_n 0, 1) := by decide +kernel
theorem dX6_carryOut_34 : decode cX6_carryOut 34 = .ok (.getfield 35, 3) := by decide +kernel
theorem dX6_carryOut_37 : decode cX6_carryOut 37 = .ok (.getfield 212, 3) := by decide +kernel
theorem dX6_carryOut_40 : decode cX6_carryOut 40 = .ok (.if_icmp .gt 42, 3) := by decide +kernel
theorem dX6_carryOut_43 : decode cX6_carryOut 43 = .ok (.aload_n 0, 1) := by decide +kernel
theorem dX6_carryOut_44 : decode cX6_carryOut 44 = .ok (.getfield 35, 3) := by decide +kernel
theorem dX6_carryOut_47 : decode cX6_carryOut 47 = .ok (.iload_n 3, 1) := by decide +kernel
theorem dX6_carryOut_48 : decode cX6_carryOut 48 = .ok (.invokevirtual 241, 3) := by decide +kernel
theorem dX6_carryOut_51 : decode cX6_carryOut 51 = .ok (.ifCond .ne 6, 3) := by decide +kernel
theorem dX6_carryOut_54 : decode cX6_carryOut 54 = .ok (.goto 22, 3) := by decide +kernel
theorem dX6_carryOut_57 : decode cX6_carryOut 57 = .ok (.aload_n 0, 1) := by decide +kernel
theorem dX6_carryOut_58 : decode cX6_carryOut 58 = .ok (.iload_n 2, 1) := by decide +kernel
theorem dX6_carryOut_59 : decode cX6_carryOut 59 = .ok (.iload_n 3, 1) := by decide +kernel
theorem dX6_carryOut_60 : decode cX6_carryOut 60 = .ok (.invokevirtual 244, 3) := by decide +kernel
theorem dX6_carryOut_63 : decode cX6_carryOut 63 = .ok (.ifCond .ge 6, 3) := by decide +kernel
theorem dX6_carryOut_66 : decode cX6_carryOut 66 = .ok (.goto 16, 3) := by decide +kernel
theorem dX6_carryOut_69 : decode cX6_carryOut 69 = .ok (.iinc 1 1, 3) := by decide +kernel
theorem dX6_carryOut_72 : decode cX6_carryOut 72 = .ok (.iload_n 3, 1) := by decide +kernel
theorem dX6_carryOut_73 : decode cX6_carryOut 73 = .ok (.iconst 1, 1) := by decide +kernel
theorem dX6_carryOut_74 : decode cX6_carryOut 74 = .ok (.iadd, 1) := by decide +kernel
theorem dX6_carryOut_75 : decode cX6_carryOut 75 = .ok (.istore_n 2, 1) := by decide +kernel
theorem dX6_carryOut_76 : decode cX6_carryOut 76 = .ok (.iinc 3 1, 3) := by decide +kernel
theorem dX6_carryOut_79 : decode cX6_carryOut 79 = .ok (.goto (-47), 3) := by decide +kernel
theorem dX6_carryOut_82 : decode cX6_carryOut 82 = .ok (.aload_n 0, 1) := by decide +kernel
theorem dX6_carryOut_83 : decode cX6_carryOut 83 = .ok (.getfield 35, 3) := by decide +kernel
theorem dX6_carryOut_86 : decode cX6_carryOut 86 = .ok (.iconst 0, 1) := by decide +kernel
theorem dX6_carryOut_87 : decode cX6_carryOut 87 = .ok (.putfield 212, 3) := by decide +kernel
theorem dX6_carryOut_90 : decode cX6_carryOut 90 = .ok (.aload_n 0, 1) := by decide +kernel
theorem dX6_carryOut_91 : decode cX6_carryOut 91 = .ok (.iload_n 1, 1) := by decide +kernel
theorem dX6_carryOut_92 : decode cX6_carryOut 92 = .ok (.invokevirtual 47, 3) := by decide +kernel
theorem dX6_carryOut_95 : decode cX6_carryOut 95 = .ok (.ireturn, 1) := by decide +kernel
theorem dX6_performOrder_0 : decode cX6_performOrder 0 = .ok (.aload_n 0, 1) := by decide +kernel
theorem dX6_performOrder_1 : decode cX6_performOrder 1 = .ok (.getfield 35, 3) := by decide +kernel
theorem dX6_performOrder_4 : decode cX6_performOrder 4 = .ok (.iload_n 1, 1) := by decide +kernel
theorem dX6_performOrder_5 : decode cX6_performOrder 5 = .ok (.iconst 1, 1) := by decide +kernel
theorem dX6_performOrder_6 : decode cX6_performOrder 6 = .ok (.iadd, 1) := by decide +kernel
theorem dX6_performOrder_7 : decode cX6_performOrder 7 = .ok (.invokevirtual 247, 3) := by decide +kernel
theorem dX6_performOrder_10 : decode cX6_performOrder 10 = .ok (.bipush 65, 2) := by decide +kernel
theorem dX6_performOrder_12 : decode cX6_performOrder 12 = .ok (.isub, 1) := by decide +kernel
theorem dX6_performOrder_13 : decode cX6_performOrder 13 = .ok (.istore_n 3, 1) := by decide +kernel
theorem dX6_performOrder_14 : decode cX6_performOrder 14 = .ok (.aload_n 0, 1) := by decide +kernel
theorem dX6_performOrder_15 : decode cX6_performOrder 15 = .ok (.getfield 35, 3) := by decide +kernel
theorem dX6_performOrder_18 : decode cX6_performOrder 18 = .ok (.iload_n 1, 1) := by decide +kernel
theorem dX6_performOrder_19 : decode cX6_performOrder 19 = .ok (.invokevirtual 247, 3) := by decide +kernel
theorem dX6_performOrder_22 : decode cX6_performOrder 22 = .ok (.lookupswitch 135 #[(99, 104), (102, 84), (115, 113), (119, 42)], 42) := by decide +kernel
theorem dX6_performOrder_64 : decode cX6_performOrder 64 = .ok (.aload_n 0, 1) := by decide +kernel
theorem dX6_performOrder_65 : decode cX6_performOrder 65 = .ok (.getfield 10, 3) := by decide +kernel
theorem dX6_performOrder_68 : decode cX6_performOrder 68 = .ok (.iload_n 3, 1) := by decide +kernel
theorem dX6_performOrder_69 : decode cX6_performOrder 69 = .ok (.aload_n 0, 1) := by decide +kernel
theorem dX6_performOrder_70 : decode cX6_performOrder 70 = .ok (.getfield 35, 3) := by decide +kernel
theorem dX6_performOrder_73 : decode cX6_performOrder 73 = .ok (.iload_n 1, 1) := by decide +kernel
theorem dX6_performOrder_74 : decode cX6_performOrder 74 = .ok (.iconst 2, 1) := by decide +kernel
theorem dX6_performOrder_75 : decode cX6_performOrder 75 = .ok (.iadd, 1) := by decide +kernel
theorem dX6_performOrder_76 : decode cX6_performOrder 76 = .ok (.iload_n 2, 1) := by decide +kernel
theorem dX6_performOrder_77 : decode cX6_performOrder 77 = .ok (.invokevirtual 250, 3) := by decide +kernel
theorem dX6_performOrder_80 : decode cX6_performOrder 80 = .ok (.aload_n 0, 1) := by decide +kernel
theorem dX6_performOrder_81 : decode cX6_performOrder 81 = .ok (.getfield 35, 3) := by decide +kernel
theorem dX6_performOrder_84 : decode cX6_performOrder 84 = .ok (.iload_n 1, 1) := by decide +kernel
theorem dX6_performOrder_85 : decode cX6_performOrder 85 = .ok (.iconst 3, 1) := by decide +kernel
theorem dX6_performOrder_86 : decode cX6_performOrder 86 = .ok (.iadd, 1) := by decide +kernel
theorem dX6_performOrder_87 : decode cX6_performOrder 87 = .ok (.iload_n 2, 1) := by decide +kernel
theorem dX6_performOrder_88 : decode cX6_performOrder 88 = .ok (.invokevirtual 250, 3) := by decide +kernel
theorem dX6_performOrder_91 : decode cX6_performOrder 91 = .ok (.aload_n 0, 1) := by decide +kernel
theorem dX6_performOrder_92 : decode cX6_performOrder 92 = .ok (.getfield 35, 3) := by decide +kernel
theorem dX6_performOrder_95 : decode cX6_performOrder 95 = .ok (.iload_n 1, 1) := by decide +kernel
theorem dX6_performOrder_96 : decode cX6_performOrder 96 = .ok (.iconst 4, 1) := by decide +kernel
theorem dX6_performOrder_97 : decode cX6_performOrder 97 = .ok (.iadd, 1) := by decide +kernel
theorem dX6_performOrder_98 : decode cX6_performOrder 98 = .ok (.iload_n 2, 1) := by decide +kernel
theorem dX6_performOrder_99 : decode cX6_performOrder 99 = .ok (.invokevirtual 250, 3) := by decide +kernel
theorem dX6_performOrder_102 : decode cX6_performOrder 102 = .ok (.invokevirtual 63, 3) := by decide +kernel
theorem dX6_performOrder_105 : decode cX6_performOrder 105 = .ok (.ireturn, 1) := by decide +kernel
theorem dX6_performOrder_106 : decode cX6_performOrder 106 = .ok (.aload_n 0, 1) := by decide +kernel
theorem dX6_performOrder_107 : decode cX6_performOrder 107 = .ok (.getfield 10, 3) := by decide +kernel
theorem dX6_performOrder_110 : decode cX6_performOrder 110 = .ok (.iload_n 3, 1) := by decide +kernel
theorem dX6_performOrder_111 : decode cX6_performOrder 111 = .ok (.aload_n 0, 1) := by decide +kernel
theorem dX6_performOrder_112 : decode cX6_performOrder 112 = .ok (.getfield 35, 3) := by decide +kernel
theorem dX6_performOrder_115 : decode cX6_performOrder 115 = .ok (.iload_n 1, 1) := by decide +kernel
theorem dX6_performOrder_116 : decode cX6_performOrder 116 = .ok (.iconst 2, 1) := by decide +kernel
theorem dX6_performOrder_117 : decode cX6_performOrder 117 = .ok (.iadd, 1) := by decide +kernel
theorem dX6_performOrder_118 : decode cX6_performOrder 118 = .ok (.iload_n 2, 1) := by decide +kernel
theorem dX6_performOrder_119 : decode cX6_performOrder 119 = .ok (.invokevirtual 252, 3) := by decide +kernel
theorem dX6_performOrder_122 : decode cX6_performOrder 122 = .ok (.invokevirtual 67, 3) := by decide +kernel
theorem dX6_performOrder_125 : decode cX6_performOrder 125 = .ok (.ireturn, 1) := by decide +kernel
theorem dX6_performOrder_126 : decode cX6_performOrder 126 = .ok (.aload_n 0, 1) := by decide +kernel
theorem dX6_performOrder_127 : decode cX6_performOrder 127 = .ok (.getfield 10, 3) := by decide +kernel
theorem dX6_performOrder_130 : decode cX6_performOrder 130 = .ok (.iload_n 3, 1) := by decide +kernel
theorem dX6_performOrder_131 : decode cX6_performOrder 131 = .ok (.invokevirtual 70, 3) := by decide +kernel
theorem dX6_performOrder_134 : decode cX6_performOrder 134 = .ok (.ireturn, 1) := by decide +kernel
theorem dX6_performOrder_135 : decode cX6_performOrder 135 = .ok (.aload_n 0, 1) := by decide +kernel
theorem dX6_performOrder_136 : decode cX6_performOrder 136 = .ok (.getfield 10, 3) := by decide +kernel
theorem dX6_performOrder_139 : decode cX6_performOrder 139 = .ok (.iload_n 3, 1) := by decide +kernel
theorem dX6_performOrder_140 : decode cX6_performOrder 140 = .ok (.aload_n 0, 1) := by decide +kernel
theorem dX6_performOrder_141 : decode cX6_performOrder 141 = .ok (.getfield 35, 3) := by decide +kernel
theorem dX6_performOrder_144 : decode cX6_performOrder 144 = .ok (.iload_n 1, 1) := by decide +kernel
theorem dX6_performOrder_145 : decode cX6_performOrder 145 = .ok (.iconst 2, 1) := by decide +kernel
theorem dX6_performOrder_146 : decode cX6_performOrder 146 = .ok (.iadd, 1) := by decide +kernel
theorem dX6_performOrder_147 : decode cX6_performOrder 147 = .ok (.invokevirtual 247, 3) := by decide +kernel
theorem dX6_performOrder_150 : decode cX6_performOrder 150 = .ok (.bipush 65, 2) := by decide +kernel
theorem dX6_performOrder_152 : decode cX6_performOrder 152 = .ok (.isub, 1) := by decide +kernel
theorem dX6_performOrder_153 : decode cX6_performOrder 153 = .ok (.invokevirtual 73, 3) := by decide +kernel
theorem dX6_performOrder_156 : decode cX6_performOrder 156 = .ok (.ireturn, 1) := by decide +kernel
theorem dX6_performOrder_157 : decode cX6_performOrder 157 = .ok (.aload_n 0, 1) := by decide +kernel
theorem dX6_performOrder_158 : decode cX6_performOrder 158 = .ok (.getfield 10, 3) := by decide +kernel
theorem dX6_performOrder_161 : decode cX6_performOrder 161 = .ok (.aload_n 0, 1) := by decide +kernel
theorem dX6_performOrder_162 : decode cX6_performOrder 162 = .ok (.getfield 35, 3) := by decide +kernel
theorem dX6_performOrder_165 : decode cX6_performOrder 165 = .ok (.iload_n 1, 1) := by decide +kernel
theorem dX6_performOrder_166 : decode cX6_performOrder 166 = .ok (.iconst 1, 1) := by decide +kernel
theorem dX6_performOrder_167 : decode cX6_performOrder 167 = .ok (.iadd, 1) := by decide +kernel
theorem dX6_performOrder_168 : decode cX6_performOrder 168 = .ok (.iload_n 2, 1) := by decide +kernel
theorem dX6_performOrder_169 : decode cX6_performOrder 169 = .ok (.invokevirtual 252, 3) := by decide +kernel
theorem dX6_performOrder_172 : decode cX6_performOrder 172 = .ok (.invokevirtual 79, 3) := by decide +kernel
theorem dX6_performOrder_175 : decode cX6_performOrder 175 = .ok (.ireturn, 1) := by decide +kernel
theorem dX6_undo_0 : decode cX6_undo 0 = .ok (.aload_n 0, 1) := by decide +kernel
theorem dX6_undo_1 : decode cX6_undo 1 = .ok (.getfield 22, 3) := by decide +kernel
theorem dX6_undo_4 : decode cX6_undo 4 = .ok (.getfield 215, 3) := by decide +kernel
theorem dX6_undo_7 : decode cX6_undo 7 = .ok (.ifCond .ne 6, 3) := by decide +kernel
theorem dX6_undo_10 : decode cX6_undo 10 = .ok (.bipush (-5), 2) := by decide +kernel
theorem dX6_undo_12 : decode cX6_undo 12 = .ok (.ireturn, 1) := by decide +kernel
theorem dX6_undo_13 : decode cX6_undo 13 = .ok (.aload_n 0, 1) := by decide +kernel
theorem dX6_undo_14 : decode cX6_undo 14 = .ok (.getfield 22, 3) := by decide +kernel
theorem dX6_undo_17 : decode cX6_undo 17 = .ok (.aload_n 0, 1) := by decide +kernel
theorem dX6_undo_18 : decode cX6_undo 18 = .ok (.getfield 10, 3) := by decide +kernel
theorem dX6_undo_21 : decode cX6_undo 21 = .ok (.invokevirtual 255, 3) := by decide +kernel
theorem dX6_undo_24 : decode cX6_undo 24 = .ok (.aload_n 0, 1) := by decide +kernel
theorem dX6_undo_25 : decode cX6_undo 25 = .ok (.getfield 22, 3) := by decide +kernel
theorem dX6_undo_28 : decode cX6_undo 28 = .ok (.getfield 215, 3) := by decide +kernel
theorem dX6_undo_31 : decode cX6_undo 31 = .ok (.ireturn, 1) := by decide +kernel
theorem dX6_save_0 : decode cX6_save 0 = .ok (.iload_n 1, 1) := by decide +kernel
theorem dX6_save_1 : decode cX6_save 1 = .ok (.ifCond .lt 8, 3) := by decide +kernel
theorem dX6_save_4 : decode cX6_save 4 = .ok (.iload_n 1, 1) := by decide +kernel
theorem dX6_save_5 : decode cX6_save 5 = .ok (.iconst 2, 1) := by decide +kernel
theorem dX6_save_6 : decode cX6_save 6 = .ok (.if_icmp .lt 6, 3) := by decide +kernel
theorem dX6_save_9 : decode cX6_save 9 = .ok (.bipush (-2), 2) := by decide +kernel
theorem dX6_save_11 : decode cX6_save 11 = .ok (.ireturn, 1) := by decide +kernel
theorem dX6_save_12 : decode cX6_save 12 = .ok (.iload_n 1, 1) := by decide +kernel
theorem dX6_save_13 : decode cX6_save 13 = .ok (.ifCond .ne 10, 3) := by decide +kernel
theorem dX6_save_16 : decode cX6_save 16 = .ok (.aload_n 0, 1) := by decide +kernel
theorem dX6_save_17 : decode cX6_save 17 = .ok (.getfield 26, 3) := by decide +kernel
theorem dX6_save_20 : decode cX6_save 20 = .ok (.goto 7, 3) := by decide +kernel
theorem dX6_save_23 : decode cX6_save 23 = .ok (.aload_n 0, 1) := by decide +kernel
theorem dX6_save_24 : decode cX6_save 24 = .ok (.getfield 29, 3) := by decide +kernel
theorem dX6_save_27 : decode cX6_save 27 = .ok (.astore_n 2, 1) := by decide +kernel
theorem dX6_save_28 : decode cX6_save 28 = .ok (.aload_n 2, 1) := by decide +kernel
theorem dX6_save_29 : decode cX6_save 29 = .ok (.aload_n 0, 1) := by decide +kernel
theorem dX6_save_30 : decode cX6_save 30 = .ok (.getfield 10, 3) := by decide +kernel
theorem dX6_save_33 : decode cX6_save 33 = .ok (.invokevirtual 224, 3) := by decide +kernel
theorem dX6_save_36 : decode cX6_save 36 = .ok (.aload_n 2, 1) := by decide +kernel
theorem dX6_save_37 : decode cX6_save 37 = .ok (.iconst 1, 1) := by decide +kernel
theorem dX6_save_38 : decode cX6_save 38 = .ok (.putfield 258, 3) := by decide +kernel
theorem dX6_save_41 : decode cX6_save 41 = .ok (.aload_n 0, 1) := by decide +kernel
theorem dX6_save_42 : decode cX6_save 42 = .ok (.getfield 10, 3) := by decide +kernel
theorem dX6_save_45 : decode cX6_save 45 = .ok (.getfield 125, 3) := by decide +kernel
theorem dX6_save_48 : decode cX6_save 48 = .ok (.ireturn, 1) := by decide +kernel
theorem dX6_restore_0 : decode cX6_restore 0 = .ok (.iload_n 1, 1) := by decide +kernel
theorem dX6_restore_1 : decode cX6_restore 1 = .ok (.ifCond .lt 8, 3) := by decide +kernel
theorem dX6_restore_4 : decode cX6_restore 4 = .ok (.iload_n 1, 1) := by decide +kernel
theorem dX6_restore_5 : decode cX6_restore 5 = .ok (.iconst 2, 1) := by decide +kernel
theorem dX6_restore_6 : decode cX6_restore 6 = .ok (.if_icmp .lt 6, 3) := by decide +kernel
theorem dX6_restore_9 : decode cX6_restore 9 = .ok (.bipush (-2), 2) := by decide +kernel
theorem dX6_restore_11 : decode cX6_restore 11 = .ok (.ireturn, 1) := by decide +kernel
theorem dX6_restore_12 : decode cX6_restore 12 = .ok (.iload_n 1, 1) := by decide +kernel
theorem dX6_restore_13 : decode cX6_restore 13 = .ok (.ifCond .ne 10, 3) := by decide +kernel
theorem dX6_restore_16 : decode cX6_restore 16 = .ok (.aload_n 0, 1) := by decide +kernel
theorem dX6_restore_17 : decode cX6_restore 17 = .ok (.getfield 26, 3) := by decide +kernel
theorem dX6_restore_20 : decode cX6_restore 20 = .ok (.goto 7, 3) := by decide +kernel
theorem dX6_restore_23 : decode cX6_restore 23 = .ok (.aload_n 0, 1) := by decide +kernel
theorem dX6_restore_24 : decode cX6_restore 24 = .ok (.getfield 29, 3) := by decide +kernel
theorem dX6_restore_27 : decode cX6_restore 27 = .ok (.astore_n 2, 1) := by decide +kernel
theorem dX6_restore_28 : decode cX6_restore 28 = .ok (.aload_n 2, 1) := by decide +kernel
theorem dX6_restore_29 : decode cX6_restore 29 = .ok (.getfield 258, 3) := by decide +kernel
theorem dX6_restore_32 : decode cX6_restore 32 = .ok (.ifCond .ne 6, 3) := by decide +kernel
theorem dX6_restore_35 : decode cX6_restore 35 = .ok (.bipush (-5), 2) := by decide +kernel
theorem dX6_restore_37 : decode cX6_restore 37 = .ok (.ireturn, 1) := by decide +kernel
theorem dX6_restore_38 : decode cX6_restore 38 = .ok (.aload_n 0, 1) := by decide +kernel
theorem dX6_restore_39 : decode cX6_restore 39 = .ok (.getfield 22, 3) := by decide +kernel
theorem dX6_restore_42 : decode cX6_restore 42 = .ok (.aload_n 0, 1) := by decide +kernel
theorem dX6_restore_43 : decode cX6_restore 43 = .ok (.getfield 10, 3) := by decide +kernel
theorem dX6_restore_46 : decode cX6_restore 46 = .ok (.invokevirtual 39, 3) := by decide +kernel
theorem dX6_restore_49 : decode cX6_restore 49 = .ok (.aload_n 0, 1) := by decide +kernel
theorem dX6_restore_50 : decode cX6_restore 50 = .ok (.getfield 10, 3) := by decide +kernel
theorem dX6_restore_53 : decode cX6_restore 53 = .ok (.aload_n 2, 1) := by decide +kernel
theorem dX6_restore_54 : decode cX6_restore 54 = .ok (.invokevirtual 224, 3) := by decide +kernel
theorem dX6_restore_57 : decode cX6_restore 57 = .ok (.aload_n 0, 1) := by decide +kernel
theorem dX6_restore_58 : decode cX6_restore 58 = .ok (.aload_n 0, 1) := by decide +kernel
theorem dX6_restore_59 : decode cX6_restore 59 = .ok (.getfield 10, 3) := by decide +kernel
theorem dX6_restore_62 : decode cX6_restore 62 = .ok (.getfield 125, 3) := by decide +kernel
theorem dX6_restore_65 : decode cX6_restore 65 = .ok (.invokevirtual 47, 3) := by decide +kernel
theorem dX6_restore_68 : decode cX6_restore 68 = .ok (.ireturn, 1) := by decide +kernel
theorem dJ9_min_7cf53_0 : decode cJ9_min_7cf53 0 = .ok (.iload_n 0, 1) := by decide +kernel
theorem dJ9_min_7cf53_1 : decode cJ9_min_7cf53 1 = .ok (.iload_n 1, 1) := by decide +kernel
theorem dJ9_min_7cf53_2 : decode cJ9_min_7cf53 2 = .ok (.if_icmp .gt 7, 3) := by decide +kernel
theorem dJ9_min_7cf53_5 : decode cJ9_min_7cf53 5 = .ok (.iload_n 0, 1) := by decide +kernel
theorem dJ9_min_7cf53_6 : decode cJ9_min_7cf53 6 = .ok (.goto 4, 3) := by decide +kernel
theorem dJ9_min_7cf53_9 : decode cJ9_min_7cf53 9 = .ok (.iload_n 1, 1) := by decide +kernel
theorem dJ9_min_7cf53_10 : decode cJ9_min_7cf53 10 = .ok (.ireturn, 1) := by decide +kernel
end
section
theorem dX7_init_0 : decode cX7_init 0 = .ok (.aload_n 0, 1) := by decide +kernel
theorem dX7_init_1 : decode cX7_init 1 = .ok (.invokespecial 1, 3) := by decide +kernel
theorem dX7_init_4 : decode cX7_init 4 = .ok (.aload_n 0, 1) := by decide +kernel
theorem dX7_init_5 : decode cX7_init 5 = .ok (.sipush 3592, 3) := by decide +kernel
theorem dX7_init_8 : decode cX7_init 8 = .ok (.newarray .int, 2) := by decide +kernel
theorem dX7_init_10 : decode cX7_init 10 = .ok (.putfield 7, 3) := by decide +kernel
theorem dX7_init_13 : decode cX7_init 13 = .ok (.aload_n 0, 1) := by decide +kernel
theorem dX7_init_14 : decode cX7_init 14 = .ok (.sipush 21552, 3) := by decide +kernel
theorem dX7_init_17 : decode cX7_init 17 = .ok (.newarray .int, 2) := by decide +kernel
theorem dX7_init_19 : decode cX7_init 19 = .ok (.putfield 13, 3) := by decide +kernel
theorem dX7_init_22 : decode cX7_init 22 = .ok (.aload_n 0, 1) := by decide +kernel
theorem dX7_init_23 : decode cX7_init 23 = .ok (.sipush 7184, 3) := by decide +kernel
theorem dX7_init_26 : decode cX7_init 26 = .ok (.newarray .int, 2) := by decide +kernel
theorem dX7_init_28 : decode cX7_init 28 = .ok (.putfield 16, 3) := by decide +kernel
theorem dX7_init_31 : decode cX7_init 31 = .ok (.aload_n 0, 1) := by decide +kernel
theorem dX7_init_32 : decode cX7_init 32 = .ok (.iconst 2, 1) := by decide +kernel
theorem dX7_init_33 : decode cX7_init 33 = .ok (.newarray .boolean, 2) := by decide +kernel
theorem dX7_init_35 : decode cX7_init 35 = .ok (.putfield 19, 3) := by decide +kernel
theorem dX7_init_38 : decode cX7_init 38 = .ok (.aload_n 0, 1) := by decide +kernel
theorem dX7_init_39 : decode cX7_init 39 = .ok (.sipush 3592, 3) := by decide +kernel
theorem dX7_init_42 : decode cX7_init 42 = .ok (.newarray .int, 2) := by decide +kernel
theorem dX7_init_44 : decode cX7_init 44 = .ok (.putfield 23, 3) := by decide +kernel
theorem dX7_init_47 : decode cX7_init 47 = .ok (.aload_n 0, 1) := by decide +kernel
theorem dX7_init_48 : decode cX7_init 48 = .ok (.bipush 80, 2) := by decide +kernel
theorem dX7_init_50 : decode cX7_init 50 = .ok (.newarray .int, 2) := by decide +kernel
theorem dX7_init_52 : decode cX7_init 52 = .ok (.putfield 26, 3) := by decide +kernel
theorem dX7_init_55 : decode cX7_init 55 = .ok (.aload_n 0, 1) := by decide +kernel
theorem dX7_init_56 : decode cX7_init 56 = .ok (.bipush 29, 2) := by decide +kernel
theorem dX7_init_58 : decode cX7_init 58 = .ok (.newarray .int, 2) := by decide +kernel
theorem dX7_init_60 : decode cX7_init 60 = .ok (.putfield 29, 3) := by decide +kernel
theorem dX7_init_63 : decode cX7_init 63 = .ok (.aload_n 0, 1) := by decide +kernel
theorem dX7_init_64 : decode cX7_init 64 = .ok (.bipush 116, 2) := by decide +kernel
theorem dX7_init_66 : decode cX7_init 66 = .ok (.newarray .int, 2) := by decide +kernel
theorem dX7_init_68 : decode cX7_init 68 = .ok (.putfield 32, 3) := by decide +kernel
theorem dX7_init_71 : decode cX7_init 71 = .ok (.aload_n 0, 1) := by decide +kernel
theorem dX7_init_72 : decode cX7_init 72 = .ok (.getfield 7, 3) := by decide +kernel
theorem dX7_init_75 : decode cX7_init 75 = .ok (.iconst 0, 1) := by decide +kernel
theorem dX7_init_76 : decode cX7_init 76 = .ok (.bipush 8, 2) := by decide +kernel
theorem dX7_init_78 : decode cX7_init 78 = .ok (.iastore, 1) := by decide +kernel
theorem dX7_init_79 : decode cX7_init 79 = .ok (.aload_n 0, 1) := by decide +kernel
theorem dX7_init_80 : decode cX7_init 80 = .ok (.getfield 7, 3) := by decide +kernel
theorem dX7_init_83 : decode cX7_init 83 = .ok (.iconst 1, 1) := by decide +kernel
theorem dX7_init_84 : decode cX7_init 84 = .ok (.bipush 60, 2) := by decide +kernel
theorem dX7_init_86 : decode cX7_init 86 = .ok (.iastore, 1) := by decide +kernel
theorem dX7_init_87 : decode cX7_init 87 = .ok (.aload_n 0, 1) := by decide +kernel
theorem dX7_init_88 : decode cX7_init 88 = .ok (.getfield 7, 3) := by decide +kernel
theorem dX7_init_91 : decode cX7_init 91 = .ok (.iconst 2, 1) := by decide +kernel
theorem dX7_init_92 : decode cX7_init 92 = .ok (.iconst 2, 1) := by decide +kernel
theorem dX7_init_93 : decode cX7_init 93 = .ok (.iastore, 1) := by decide +kernel
theorem dX7_init_94 : decode cX7_init 94 = .ok (.aload_n 0, 1) := by decide +kernel
theorem dX7_init_95 : decode cX7_init 95 = .ok (.getfield 7, 3) := by decide +kernel
theorem dX7_init_98 : decode cX7_init 98 = .ok (.iconst 3, 1) := by decide +kernel
theorem dX7_init_99 : decode cX7_init 99 = .ok (.bipush 12, 2) := by decide +kernel
theorem dX7_init_101 : decode cX7_init 101 = .ok (.iastore, 1) := by decide +kernel
theorem dX7_init_102 : decode cX7_init 102 = .ok (.aload_n 0, 1) := by decide +kernel
theorem dX7_init_103 : decode cX7_init 103 = .ok (.getfield 7, 3) := by decide +kernel
theorem dX7_init_106 : decode cX7_init 106 = .ok (.iconst 4, 1) := by decide +kernel
theorem dX7_init_107 : decode cX7_init 107 = .ok (.bipush 14, 2) := by decide +kernel
theorem dX7_init_109 : decode cX7_init 109 = .ok (.iastore, 1) := by decide +kernel
theorem dX7_init_110 : decode cX7_init 110 = .ok (.aload_n 0, 1) := by decide +kernel
theorem dX7_init_111 : decode cX7_init 111 = .ok (.getfield 7, 3) := by decide +kernel
theorem dX7_init_114 : decode cX7_init 114 = .ok (.iconst 5, 1) := by decide +kernel
theorem dX7_init_115 : decode cX7_init 115 = .ok (.bipush 90, 2) := by decide +kernel
theorem dX7_init_117 : decode cX7_init 117 = .ok (.iastore, 1) := by decide +kernel
theorem dX7_init_118 : decode cX7_init 118 = .ok (.aload_n 0, 1) := by decide +kernel
theorem dX7_init_119 : decode cX7_init 119 = .ok (.getfield 7, 3) := by decide +kernel
theorem dX7_init_122 : decode cX7_init 122 = .ok (.bipush 6, 2) := by decide +kernel
theorem dX7_init_124 : decode cX7_init 124 = .ok (.sipush 500, 3) := by decide +kernel
theorem dX7_init_127 : decode cX7_init 127 = .ok (.iastore, 1) := by decide +kernel
theorem dX7_init_128 : decode cX7_init 128 = .ok (.aload_n 0, 1) := by decide +kernel
theorem dX7_init_129 : decode cX7_init 129 = .ok (.getfield 7, 3) := by decide +kernel
theorem dX7_init_132 : decode cX7_init 132 = .ok (.bipush 7, 2) := by decide +kernel
theorem dX7_init_134 : decode cX7_init 134 = .ok (.iconst 2, 1) := by decide +kernel
theorem dX7_init_135 : decode cX7_init 135 = .ok (.iastore, 1) := by decide +kernel
theorem dX7_init_136 : decode cX7_init 136 = .ok (.aload_n 0, 1) := by decide +kernel
theorem dX7_init_137 : decode cX7_init 137 = .ok (.getfield 7, 3) := by decide +kernel
theorem dX7_init_140 : decode cX7_init 140 = .ok (.bipush 8, 2) := by decide +kernel
theorem dX7_init_142 : decode cX7_init 142 = .ok (.bipush 11, 2) := by decide +kernel
theorem dX7_init_144 : decode cX7_init 144 = .ok (.iastore, 1) := by decide +kernel
theorem dX7_init_145 : decode cX7_init 145 = .ok (.aload_n 0, 1) := by decide +kernel
theorem dX7_init_146 : decode cX7_init 146 = .ok (.getfield 7, 3) := by decide +kernel
theorem dX7_init_149 : decode cX7_init 149 = .ok (.bipush 9, 2) := by decide +kernel
theorem dX7_init_151 : decode cX7_init 151 = .ok (.sipush 200, 3) := by decide +kernel
theorem dX7_init_154 : decode cX7_init 154 = .ok (.iastore, 1) := by decide +kernel
theorem dX7_init_155 : decode cX7_init 155 = .ok (.aload_n 0, 1) := by decide +kernel
theorem dX7_init_156 : decode cX7_init 156 = .ok (.getfield 7, 3) := by decide +kernel
theorem dX7_init_159 : decode cX7_init 159 = .ok (.bipush 11, 2) := by decide +kernel
theorem dX7_init_161 : decode cX7_init 161 = .ok (.iconst 1, 1) := by decide +kernel
theorem dX7_init_162 : decode cX7_init 162 = .ok (.iastore, 1) := by decide +kernel
theorem dX7_init_163 : decode cX7_init 163 = .ok (.return_, 1) := by decide +kernel
theorem dX7_in_0 : decode cX7_in 0 = .ok (.iload_n 0, 1) := by decide +kernel
theorem dX7_in_1 : decode cX7_in 1 = .ok (.iload_n 1, 1) := by decide +kernel
theorem dX7_in_2 : decode cX7_in 2 = .ok (.if_icmp .lt 12, 3) := by decide +kernel
theorem dX7_in_5 : decode cX7_in 5 = .ok (.iload_n 0, 1) := by decide +kernel
theorem dX7_in_6 : decode cX7_in 6 = .ok (.iload_n 2, 1) := by decide +kernel
theorem dX7_in_7 : decode cX7_in 7 = .ok (.if_icmp .gt 7, 3) := by decide +kernel
theorem dX7_in_10 : decode cX7_in 10 = .ok (.iconst 1, 1) := by decide +kernel
theorem dX7_in_11 : decode cX7_in 11 = .ok (.goto 4, 3) := by decide +kernel
theorem dX7_in_14 : decode cX7_in 14 = .ok (.iconst 0, 1) := by decide +kernel
theorem dX7_in_15 : decode cX7_in 15 = .ok (.ireturn, 1) := by decide +kernel
theorem dX7_of_0 : decode cX7_of 0 = .ok (.aload_n 0, 1) := by decide +kernel
theorem dX7_of_1 : decode cX7_of 1 = .ok (.getfield 7, 3) := by decide +kernel
theorem dX7_of_4 : decode cX7_of 4 = .ok (.bipush 72, 2) := by decide +kernel
theorem dX7_of_6 : decode cX7_of 6 = .ok (.bipush 20, 2) := by decide +kernel
theorem dX7_of_8 : decode cX7_of 8 = .ok (.iload_n 1, 1) := by decide +kernel
theorem dX7_of_9 : decode cX7_of 9 = .ok (.imul, 1) := by decide +kernel
theorem dX7_of_10 : decode cX7_of 10 = .ok (.iadd, 1) := by decide +kernel
theorem dX7_of_11 : decode cX7_of 11 = .ok (.iload_n 2, 1) := by decide +kernel
theorem dX7_of_12 : decode cX7_of 12 = .ok (.iadd, 1) := by decide +kernel
theorem dX7_of_13 : decode cX7_of 13 = .ok (.iaload, 1) := by decide +kernel
theorem dX7_of_14 : decode cX7_of 14 = .ok (.ireturn, 1) := by decide +kernel
theorem dX7_lay_0 : decode cX7_lay 0 = .ok (.aload_n 0, 1) := by decide +kernel
theorem dX7_lay_1 : decode cX7_lay 1 = .ok (.getfield 7, 3) := by decide +kernel
theorem dX7_lay_4 : decode cX7_lay 4 = .ok (.bipush 72, 2) := by decide +kernel
theorem dX7_lay_6 : decode cX7_lay 6 = .ok (.bipush 20, 2) := by decide +kernel
theorem dX7_lay_8 : decode cX7_lay 8 = .ok (.iload_n 1, 1) := by decide +kernel
theorem dX7_lay_9 : decode cX7_lay 9 = .ok (.imul, 1) := by decide +kernel
theorem dX7_lay_10 : decode cX7_lay 10 = .ok (.iadd, 1) := by decide +kernel
theorem dX7_lay_11 : decode cX7_lay 11 = .ok (.iload_n 2, 1) := by decide +kernel
theorem dX7_lay_12 : decode cX7_lay 12 = .ok (.iadd, 1) := by decide +kernel
theorem dX7_lay_13 : decode cX7_lay 13 = .ok (.iload_n 3, 1) := by decide +kernel
theorem dX7_lay_14 : decode cX7_lay 14 = .ok (.iastore, 1) := by decide +kernel
theorem dX7_lay_15 : decode cX7_lay 15 = .ok (.return_, 1) := by decide +kernel
theorem dX7_ofP_0 : decode cX7_ofP 0 = .ok (.aload_n 0, 1) := by decide +kernel
theorem dX7_ofP_1 : decode cX7_ofP 1 = .ok (.getfield 7, 3) := by decide +kernel
theorem dX7_ofP_4 : decode cX7_ofP 4 = .ok (.bipush 32, 2) := by decide +kernel
theorem dX7_ofP_6 : decode cX7_ofP 6 = .ok (.iconst 4, 1) := by decide +kernel
theorem dX7_ofP_7 : decode cX7_ofP 7 = .ok (.iload_n 1, 1) := by decide +kernel
theorem dX7_ofP_8 : decode cX7_ofP 8 = .ok (.imul, 1) := by decide +kernel
theorem dX7_ofP_9 : decode cX7_ofP 9 = .ok (.iadd, 1) := by decide +kernel
theorem dX7_ofP_10 : decode cX7_ofP 10 = .ok (.iload_n 2, 1) := by decide +kernel
theorem dX7_ofP_11 : decode cX7_ofP 11 = .ok (.iadd, 1) := by decide +kernel
theorem dX7_ofP_12 : decode cX7_ofP 12 = .ok (.iaload, 1) := by decide +kernel
theorem dX7_ofP_13 : decode cX7_ofP 13 = .ok (.ireturn, 1) := by decide +kernel
theorem dX7_isCart_0 : decode cX7_isCart 0 = .ok (.iload_n 1, 1) := by decide +kernel
theorem dX7_isCart_1 : decode cX7_isCart 1 = .ok (.iconst 0, 1) := by decide +kernel
theorem dX7_isCart_2 : decode cX7_isCart 2 = .ok (.aload_n 0, 1) := by decide +kernel
theorem dX7_isCart_3 : decode cX7_isCart 3 = .ok (.getfield 7, 3) := by decide +kernel
theorem dX7_isCart_6 : decode cX7_isCart 6 = .ok (.bipush 13, 2) := by decide +kernel
theorem dX7_isCart_8 : decode cX7_isCart 8 = .ok (.iaload, 1) := by decide +kernel
theorem dX7_isCart_9 : decode cX7_isCart 9 = .ok (.iconst 1, 1) := by decide +kernel
theorem dX7_isCart_10 : decode cX7_isCart 10 = .ok (.isub, 1) := by decide +kernel
theorem dX7_isCart_11 : decode cX7_isCart 11 = .ok (.invokestatic 35, 3) := by decide +kernel
theorem dX7_isCart_14 : decode cX7_isCart 14 = .ok (.ireturn, 1) := by decide +kernel
theorem dX7_isPitch_0 : decode cX7_isPitch 0 = .ok (.iload_n 1, 1) := by decide +kernel
theorem dX7_isPitch_1 : decode cX7_isPitch 1 = .ok (.iconst 0, 1) := by decide +kernel
theorem dX7_isPitch_2 : decode cX7_isPitch 2 = .ok (.aload_n 0, 1) := by decide +kernel
theorem dX7_isPitch_3 : decode cX7_isPitch 3 = .ok (.getfield 7, 3) := by decide +kernel
theorem dX7_isPitch_6 : decode cX7_isPitch 6 = .ok (.bipush 12, 2) := by decide +kernel
theorem dX7_isPitch_8 : decode cX7_isPitch 8 = .ok (.iaload, 1) := by decide +kernel
theorem dX7_isPitch_9 : decode cX7_isPitch 9 = .ok (.iconst 1, 1) := by decide +kernel
theorem dX7_isPitch_10 : decode cX7_isPitch 10 = .ok (.isub, 1) := by decide +kernel
theorem dX7_isPitch_11 : decode cX7_isPitch 11 = .ok (.invokestatic 35, 3) := by decide +kernel
theorem dX7_isPitch_14 : decode cX7_isPitch 14 = .ok (.ireturn, 1) := by decide +kernel
theorem dX7_keep_0 : decode cX7_keep 0 = .ok (.aload_n 0, 1) := by decide +kernel
theorem dX7_keep_1 : decode cX7_keep 1 = .ok (.getfield 39, 3) := by decide +kernel
theorem dX7_keep_4 : decode cX7_keep 4 = .ok (.bipush 6, 2) := by decide +kernel
theorem dX7_keep_6 : decode cX7_keep 6 = .ok (.if_icmp .ne 44, 3) := by decide +kernel
theorem dX7_keep_9 : decode cX7_keep 9 = .ok (.iconst 0, 1) := by decide +kernel
theorem dX7_keep_10 : decode cX7_keep 10 = .ok (.istore_n 1, 1) := by decide +kernel
theorem dX7_keep_11 : decode cX7_keep 11 = .ok (.iload_n 1, 1) := by decide +kernel
theorem dX7_keep_12 : decode cX7_keep 12 = .ok (.sipush 17960, 3) := by decide +kernel
theorem dX7_keep_15 : decode cX7_keep 15 = .ok (.if_icmp .ge 25, 3) := by decide +kernel
theorem dX7_keep_18 : decode cX7_keep 18 = .ok (.aload_n 0, 1) := by decide +kernel
theorem dX7_keep_19 : decode cX7_keep 19 = .ok (.getfield 13, 3) := by decide +kernel
theorem dX7_keep_22 : decode cX7_keep 22 = .ok (.iload_n 1, 1) := by decide +kernel
theorem dX7_keep_23 : decode cX7_keep 23 = .ok (.aload_n 0, 1) := by decide +kernel
theorem dX7_keep_24 : decode cX7_keep 24 = .ok (.getfield 13, 3) := by decide +kernel
theorem dX7_keep_27 : decode cX7_keep 27 = .ok (.iload_n 1, 1) := by decide +kernel
theorem dX7_keep_28 : decode cX7_keep 28 = .ok (.sipush 3592, 3) := by decide +kernel
theorem dX7_keep_31 : decode cX7_keep 31 = .ok (.iadd, 1) := by decide +kernel
theorem dX7_keep_32 : decode cX7_keep 32 = .ok (.iaload, 1) := by decide +kernel
theorem dX7_keep_33 : decode cX7_keep 33 = .ok (.iastore, 1) := by decide +kernel
theorem dX7_keep_34 : decode cX7_keep 34 = .ok (.iinc 1 1, 3) := by decide +kernel
theorem dX7_keep_37 : decode cX7_keep 37 = .ok (.goto (-26), 3) := by decide +kernel
theorem dX7_keep_40 : decode cX7_keep 40 = .ok (.aload_n 0, 1) := by decide +kernel
theorem dX7_keep_41 : decode cX7_keep 41 = .ok (.dup, 1) := by decide +kernel
theorem dX7_keep_42 : decode cX7_keep 42 = .ok (.getfield 39, 3) := by decide +kernel
theorem dX7_keep_45 : decode cX7_keep 45 = .ok (.iconst 1, 1) := by decide +kernel
theorem dX7_keep_46 : decode cX7_keep 46 = .ok (.isub, 1) := by decide +kernel
theorem dX7_keep_47 : decode cX7_keep 47 = .ok (.putfield 39, 3) := by decide +kernel
theorem dX7_keep_50 : decode cX7_keep 50 = .ok (.iconst 0, 1) := by decide +kernel
theorem dX7_keep_51 : decode cX7_keep 51 = .ok (.istore_n 1, 1) := by decide +kernel
theorem dX7_keep_52 : decode cX7_keep 52 = .ok (.iload_n 1, 1) := by decide +kernel
theorem dX7_keep_53 : decode cX7_keep 53 = .ok (.sipush 3592, 3) := by decide +kernel
theorem dX7_keep_56 : decode cX7_keep 56 = .ok (.if_icmp .ge 30, 3) := by decide +kernel
theorem dX7_keep_59 : decode cX7_keep 59 = .ok (.aload_n 0, 1) := by decide +kernel
theorem dX7_keep_60 : decode cX7_keep 60 = .ok (.getfield 13, 3) := by decide +kernel
theorem dX7_keep_63 : decode cX7_keep 63 = .ok (.sipush 3592, 3) := by decide +kernel
theorem dX7_keep_66 : decode cX7_keep 66 = .ok (.aload_n 0, 1) := by decide +kernel
theorem dX7_keep_67 : decode cX7_keep 67 = .ok (.getfield 39, 3) := by decide +kernel
theorem dX7_keep_70 : decode cX7_keep 70 = .ok (.imul, 1) := by decide +kernel
theorem dX7_keep_71 : decode cX7_keep 71 = .ok (.iload_n 1, 1) := by decide +kernel
theorem dX7_keep_72 : decode cX7_keep 72 = .ok (.iadd, 1) := by decide +kernel
theorem dX7_keep_73 : decode cX7_keep 73 = .ok (.aload_n 0, 1) := by decide +kernel
theorem dX7_keep_74 : decode cX7_keep 74 = .ok (.getfield 7, 3) := by decide +kernel
theorem dX7_keep_77 : decode cX7_keep 77 = .ok (.iload_n 1, 1) := by decide +kernel
theorem dX7_keep_78 : decode cX7_keep 78 = .ok (.iaload, 1) := by decide +kernel
theorem dX7_keep_79 : decode cX7_keep 79 = .ok (.iastore, 1) := by decide +kernel
theorem dX7_keep_80 : decode cX7_keep 80 = .ok (.iinc 1 1, 3) := by decide +kernel
theorem dX7_keep_83 : decode cX7_keep 83 = .ok (.goto (-31), 3) := by decide +kernel
theorem dX7_keep_86 : decode cX7_keep 86 = .ok (.aload_n 0, 1) := by decide +kernel
theorem dX7_keep_87 : decode cX7_keep 87 = .ok (.dup, 1) := by decide +kernel
theorem dX7_keep_88 : decode cX7_keep 88 = .ok (.getfield 39, 3) := by decide +kernel
theorem dX7_keep_91 : decode cX7_keep 91 = .ok (.iconst 1, 1) := by decide +kernel
theorem dX7_keep_92 : decode cX7_keep 92 = .ok (.iadd, 1) := by decide +kernel
theorem dX7_keep_93 : decode cX7_keep 93 = .ok (.putfield 39, 3) := by decide +kernel
theorem dX7_keep_96 : decode cX7_keep 96 = .ok (.return_, 1) := by decide +kernel
theorem dX7_keepIf_0 : decode cX7_keepIf 0 = .ok (.iload_n 1, 1) := by decide +kernel
theorem dX7_keepIf_1 : decode cX7_keepIf 1 = .ok (.ifCond .eq 7, 3) := by decide +kernel
theorem dX7_keepIf_4 : decode cX7_keepIf 4 = .ok (.aload_n 0, 1) := by decide +kernel
theorem dX7_keepIf_5 : decode cX7_keepIf 5 = .ok (.invokevirtual 43, 3) := by decide +kernel
theorem dX7_keepIf_8 : decode cX7_keepIf 8 = .ok (.return_, 1) := by decide +kernel
theorem dX7_layAside_0 : decode cX7_layAside 0 = .ok (.iconst 0, 1) := by decide +kernel
theorem dX7_layAside_1 : decode cX7_layAside 1 = .ok (.istore_n 1, 1) := by decide +kernel
theorem dX7_layAside_2 : decode cX7_layAside 2 = .ok (.iload_n 1, 1) := by decide +kernel
theorem dX7_layAside_3 : decode cX7_layAside 3 = .ok (.sipush 3592, 3) := by decide +kernel
theorem dX7_layAside_6 : decode cX7_layAside 6 = .ok (.if_icmp .ge 21, 3) := by decide +kernel
theorem dX7_layAside_9 : decode cX7_layAside 9 = .ok (.aload_n 0, 1) := by decide +kernel
theorem dX7_layAside_10 : decode cX7_layAside 10 = .ok (.getfield 23, 3) := by decide +kernel
theorem dX7_layAside_13 : decode cX7_layAside 13 = .ok (.iload_n 1, 1) := by decide +kernel
theorem dX7_layAside_14 : decode cX7_layAside 14 = .ok (.aload_n 0, 1) := by decide +kernel
theorem dX7_layAside_15 : decode cX7_layAside 15 = .ok (.getfield 7, 3) := by decide +kernel
theorem dX7_layAside_18 : decode cX7_layAside 18 = .ok (.iload_n 1, 1) := by decide +kernel
theorem dX7_layAside_19 : decode cX7_layAside 19 = .ok (.iaload, 1) := by decide +kernel
theorem dX7_layAside_20 : decode cX7_layAside 20 = .ok (.iastore, 1) := by decide +kernel
theorem dX7_layAside_21 : decode cX7_layAside 21 = .ok (.iinc 1 1, 3) := by decide +kernel
theorem dX7_layAside_24 : decode cX7_layAside 24 = .ok (.goto (-22), 3) := by decide +kernel
theorem dX7_layAside_27 : decode cX7_layAside 27 = .ok (.return_, 1) := by decide +kernel
theorem dX7_layBack_0 : decode cX7_layBack 0 = .ok (.iconst 0, 1) := by decide +kernel
theorem dX7_layBack_1 : decode cX7_layBack 1 = .ok (.istore_n 1, 1) := by decide +kernel
theorem dX7_layBack_2 : decode cX7_layBack 2 = .ok (.iload_n 1, 1) := by decide +kernel
theorem dX7_layBack_3 : decode cX7_layBack 3 = .ok (.sipush 3592, 3) := by decide +kernel
theorem dX7_layBack_6 : decode cX7_layBack 6 = .ok (.if_icmp .ge 21, 3) := by decide +kernel
theorem dX7_layBack_9 : decode cX7_layBack 9 = .ok (.aload_n 0, 1) := by decide +kernel
theorem dX7_layBack_10 : decode cX7_layBack 10 = .ok (.getfield 7, 3) := by decide +kernel
theorem dX7_layBack_13 : decode cX7_layBack 13 = .ok (.iload_n 1, 1) := by decide +kernel
theorem dX7_layBack_14 : decode cX7_layBack 14 = .ok (.aload_n 0, 1) := by decide +kernel
theorem dX7_layBack_15 : decode cX7_layBack 15 = .ok (.getfield 23, 3) := by decide +kernel
theorem dX7_layBack_18 : decode cX7_layBack 18 = .ok (.iload_n 1, 1) := by decide +kernel
theorem dX7_layBack_19 : decode cX7_layBack 19 = .ok (.iaload, 1) := by decide +kernel
theorem dX7_layBack_20 : decode cX7_layBack 20 = .ok (.iastore, 1) := by decide +kernel
theorem dX7_layBack_21 : decode cX7_layBack 21 = .ok (.iinc 1 1, 3) := by decide +kernel
theorem dX7_layBack_24 : decode cX7_layBack 24 = .ok (.goto (-22), 3) := by decide +kernel
theorem dX7_layBack_27 : decode cX7_layBack 27 = .ok (.return_, 1) := by decide +kernel
theorem dX7_least_0 : decode cX7_least 0 = .ok (.iload_n 0, 1) := by decide +kernel
theorem dX7_least_1 : decode cX7_least 1 = .ok (.iconst 3, 1) := by decide +kernel
theorem dX7_least_2 : decode cX7_least 2 = .ok (.if_icmp .ne 7, 3) := by decide +kernel
theorem dX7_least_5 : decode cX7_least 5 = .ok (.iconst 3, 1) := by decide +kernel
theorem dX7_least_6 : decode cX7_least 6 = .ok (.goto 37, 3) := by decide +kernel
theorem dX7_least_9 : decode cX7_least 9 = .ok (.iload_n 0, 1) := by decide +kernel
theorem dX7_least_10 : decode cX7_least 10 = .ok (.bipush 8, 2) := by decide +kernel
theorem dX7_least_12 : decode cX7_least 12 = .ok (.if_icmp .ne 8, 3) := by decide +kernel
theorem dX7_least_15 : decode cX7_least 15 = .ok (.bipush 6, 2) := by decide +kernel
theorem dX7_least_17 : decode cX7_least 17 = .ok (.goto 26, 3) := by decide +kernel
theorem dX7_least_20 : decode cX7_least 20 = .ok (.iload_n 0, 1) := by decide +kernel
theorem dX7_least_21 : decode cX7_least 21 = .ok (.bipush 6, 2) := by decide +kernel
theorem dX7_least_23 : decode cX7_least 23 = .ok (.if_icmp .eq 15, 3) := by decide +kernel
theorem dX7_least_26 : decode cX7_least 26 = .ok (.iload_n 0, 1) := by decide +kernel
theorem dX7_least_27 : decode cX7_least 27 = .ok (.bipush 7, 2) := by decide +kernel
theorem dX7_least_29 : decode cX7_least 29 = .ok (.if_icmp .eq 9, 3) := by decide +kernel
theorem dX7_least_32 : decode cX7_least 32 = .ok (.iload_n 0, 1) := by decide +kernel
theorem dX7_least_33 : decode cX7_least 33 = .ok (.bipush 9, 2) := by decide +kernel
theorem dX7_least_35 : decode cX7_least 35 = .ok (.if_icmp .ne 7, 3) := by decide +kernel
theorem dX7_least_38 : decode cX7_least 38 = .ok (.iconst 0, 1) := by decide +kernel
theorem dX7_least_39 : decode cX7_least 39 = .ok (.goto 4, 3) := by decide +kernel
theorem dX7_least_42 : decode cX7_least 42 = .ok (.iconst 1, 1) := by decide +kernel
theorem dX7_least_43 : decode cX7_least 43 = .ok (.ireturn, 1) := by decide +kernel
theorem dX7_greatest_0 : decode cX7_greatest 0 = .ok (.iload_n 0, 1) := by decide +kernel
theorem dX7_greatest_1 : decode cX7_greatest 1 = .ok (.tableswitch 77 0 8 #[51, 54, 58, 61, 64, 54, 67, 71, 74], 51) := by decide +kernel
theorem dX7_greatest_52 : decode cX7_greatest 52 = .ok (.bipush 20, 2) := by decide +kernel
theorem dX7_greatest_54 : decode cX7_greatest 54 = .ok (.ireturn, 1) := by decide +kernel
theorem dX7_greatest_55 : decode cX7_greatest 55 = .ok (.sipush 200, 3) := by decide +kernel
theorem dX7_greatest_58 : decode cX7_greatest 58 = .ok (.ireturn, 1) := by decide +kernel
theorem dX7_greatest_59 : decode cX7_greatest 59 = .ok (.bipush 8, 2) := by decide +kernel
theorem dX7_greatest_61 : decode cX7_greatest 61 = .ok (.ireturn, 1) := by decide +kernel
theorem dX7_greatest_62 : decode cX7_greatest 62 = .ok (.bipush 30, 2) := by decide +kernel
theorem dX7_greatest_64 : decode cX7_greatest 64 = .ok (.ireturn, 1) := by decide +kernel
theorem dX7_greatest_65 : decode cX7_greatest 65 = .ok (.bipush 60, 2) := by decide +kernel
theorem dX7_greatest_67 : decode cX7_greatest 67 = .ok (.ireturn, 1) := by decide +kernel
theorem dX7_greatest_68 : decode cX7_greatest 68 = .ok (.sipush 10000, 3) := by decide +kernel
theorem dX7_greatest_71 : decode cX7_greatest 71 = .ok (.ireturn, 1) := by decide +kernel
theorem dX7_greatest_72 : decode cX7_greatest 72 = .ok (.bipush 9, 2) := by decide +kernel
theorem dX7_greatest_74 : decode cX7_greatest 74 = .ok (.ireturn, 1) := by decide +kernel
theorem dX7_greatest_75 : decode cX7_greatest 75 = .ok (.bipush 14, 2) := by decide +kernel
theorem dX7_greatest_77 : decode cX7_greatest 77 = .ok (.ireturn, 1) := by decide +kernel
theorem dX7_greatest_78 : decode cX7_greatest 78 = .ok (.sipush 5000, 3) := by decide +kernel
theorem dX7_greatest_81 : decode cX7_greatest 81 = .ok (.ireturn, 1) := by decide +kernel
theorem dX7_set_0 : decode cX7_set 0 = .ok (.iload_n 1, 1) := by decide +kernel
theorem dX7_set_1 : decode cX7_set 1 = .ok (.iconst 0, 1) := by decide +kernel
theorem dX7_set_2 : decode cX7_set 2 = .ok (.bipush 9, 2) := by decide +kernel
theorem dX7_set_4 : decode cX7_set 4 = .ok (.invokestatic 35, 3) := by decide +kernel
theorem dX7_set_7 : decode cX7_set 7 = .ok (.ifCond .eq 18, 3) := by decide +kernel
theorem dX7_set_10 : decode cX7_set 10 = .ok (.iload_n 2, 1) := by decide +kernel
theorem dX7_set_11 : decode cX7_set 11 = .ok (.iload_n 1, 1) := by decide +kernel
theorem dX7_set_12 : decode cX7_set 12 = .ok (.invokestatic 46, 3) := by decide +kernel
theorem dX7_set_15 : decode cX7_set 15 = .ok (.iload_n 1, 1) := by decide +kernel
theorem dX7_set_16 : decode cX7_set 16 = .ok (.invokestatic 50, 3) := by decide +kernel
theorem dX7_set_19 : decode cX7_set 19 = .ok (.invokestatic 35, 3) := by decide +kernel
theorem dX7_set_22 : decode cX7_set 22 = .ok (.ifCond .ne 6, 3) := by decide +kernel
theorem dX7_set_25 : decode cX7_set 25 = .ok (.bipush (-2), 2) := by decide +kernel
theorem dX7_set_27 : decode cX7_set 27 = .ok (.ireturn, 1) := by decide +kernel
theorem dX7_set_28 : decode cX7_set 28 = .ok (.aload_n 0, 1) := by decide +kernel
theorem dX7_set_29 : decode cX7_set 29 = .ok (.invokevirtual 43, 3) := by decide +kernel
theorem dX7_set_32 : decode cX7_set 32 = .ok (.aload_n 0, 1) := by decide +kernel
theorem dX7_set_33 : decode cX7_set 33 = .ok (.getfield 7, 3) := by decide +kernel
theorem dX7_set_36 : decode cX7_set 36 = .ok (.iload_n 1, 1) := by decide +kernel
theorem dX7_set_37 : decode cX7_set 37 = .ok (.iaload, 1) := by decide +kernel
theorem dX7_set_38 : decode cX7_set 38 = .ok (.istore_n 3, 1) := by decide +kernel
theorem dX7_set_39 : decode cX7_set 39 = .ok (.aload_n 0, 1) := by decide +kernel
theorem dX7_set_40 : decode cX7_set 40 = .ok (.getfield 7, 3) := by decide +kernel
theorem dX7_set_43 : decode cX7_set 43 = .ok (.iload_n 1, 1) := by decide +kernel
theorem dX7_set_44 : decode cX7_set 44 = .ok (.iload_n 2, 1) := by decide +kernel
theorem dX7_set_45 : decode cX7_set 45 = .ok (.iastore, 1) := by decide +kernel
theorem dX7_set_46 : decode cX7_set 46 = .ok (.iload_n 3, 1) := by decide +kernel
theorem dX7_set_47 : decode cX7_set 47 = .ok (.ireturn, 1) := by decide +kernel
theorem dX7_seed_0 : decode cX7_seed 0 = .ok (.iload_n 1, 1) := by decide +kernel
theorem dX7_seed_1 : decode cX7_seed 1 = .ok (.iconst 0, 1) := by decide +kernel
theorem dX7_seed_2 : decode cX7_seed 2 = .ok (.ldc 53, 2) := by decide +kernel
theorem dX7_seed_4 : decode cX7_seed 4 = .ok (.invokestatic 35, 3) := by decide +kernel
theorem dX7_seed_7 : decode cX7_seed 7 = .ok (.ifCond .ne 6, 3) := by decide +kernel
theorem dX7_seed_10 : decode cX7_seed 10 = .ok (.bipush (-2), 2) := by decide +kernel
theorem dX7_seed_12 : decode cX7_seed 12 = .ok (.ireturn, 1) := by decide +kernel
theorem dX7_seed_13 : decode cX7_seed 13 = .ok (.aload_n 0, 1) := by decide +kernel
theorem dX7_seed_14 : decode cX7_seed 14 = .ok (.invokevirtual 43, 3) := by decide +kernel
theorem dX7_seed_17 : decode cX7_seed 17 = .ok (.aload_n 0, 1) := by decide +kernel
theorem dX7_seed_18 : decode cX7_seed 18 = .ok (.getfield 7, 3) := by decide +kernel
theorem dX7_seed_21 : decode cX7_seed 21 = .ok (.bipush 11, 2) := by decide +kernel
theorem dX7_seed_23 : decode cX7_seed 23 = .ok (.iaload, 1) := by decide +kernel
theorem dX7_seed_24 : decode cX7_seed 24 = .ok (.istore_n 2, 1) := by decide +kernel
theorem dX7_seed_25 : decode cX7_seed 25 = .ok (.aload_n 0, 1) := by decide +kernel
theorem dX7_seed_26 : decode cX7_seed 26 = .ok (.getfield 7, 3) := by decide +kernel
theorem dX7_seed_29 : decode cX7_seed 29 = .ok (.bipush 11, 2) := by decide +kernel
theorem dX7_seed_31 : decode cX7_seed 31 = .ok (.iload_n 1, 1) := by decide +kernel
theorem dX7_seed_32 : decode cX7_seed 32 = .ok (.iastore, 1) := by decide +kernel
theorem dX7_seed_33 : decode cX7_seed 33 = .ok (.iload_n 2, 1) := by decide +kernel
theorem dX7_seed_34 : decode cX7_seed 34 = .ok (.ireturn, 1) := by decide +kernel
theorem dX7_pitch_0 : decode cX7_pitch 0 = .ok (.iload_n 1, 1) := by decide +kernel
theorem dX7_pitch_1 : decode cX7_pitch 1 = .ok (.iconst 0, 1) := by decide +kernel
theorem dX7_pitch_2 : decode cX7_pitch 2 = .ok (.sipush 20000, 3) := by decide +kernel
theorem dX7_pitch_5 : decode cX7_pitch 5 = .ok (.invokestatic 35, 3) := by decide +kernel
theorem dX7_pitch_8 : decode cX7_pitch 8 = .ok (.ifCond .ne 6, 3) := by decide +kernel
theorem dX7_pitch_11 : decode cX7_pitch 11 = .ok (.bipush (-2), 2) := by decide +kernel
theorem dX7_pitch_13 : decode cX7_pitch 13 = .ok (.ireturn, 1) := by decide +kernel
theorem dX7_pitch_14 : decode cX7_pitch 14 = .ok (.aload_n 0, 1) := by decide +kernel
theorem dX7_pitch_15 : decode cX7_pitch 15 = .ok (.getfield 7, 3) := by decide +kernel
theorem dX7_pitch_18 : decode cX7_pitch 18 = .ok (.bipush 12, 2) := by decide +kernel
theorem dX7_pitch_20 : decode cX7_pitch 20 = .ok (.iaload, 1) := by decide +kernel
theorem dX7_pitch_21 : decode cX7_pitch 21 = .ok (.bipush 10, 2) := by decide +kernel
theorem dX7_pitch_23 : decode cX7_pitch 23 = .ok (.if_icmp .ne 6, 3) := by decide +kernel
theorem dX7_pitch_26 : decode cX7_pitch 26 = .ok (.bipush (-4), 2) := by decide +kernel
theorem dX7_pitch_28 : decode cX7_pitch 28 = .ok (.ireturn, 1) := by decide +kernel
theorem dX7_pitch_29 : decode cX7_pitch 29 = .ok (.aload_n 0, 1) := by decide +kernel
theorem dX7_pitch_30 : decode cX7_pitch 30 = .ok (.invokevirtual 43, 3) := by decide +kernel
theorem dX7_pitch_33 : decode cX7_pitch 33 = .ok (.bipush 32, 2) := by decide +kernel
theorem dX7_pitch_35 : decode cX7_pitch 35 = .ok (.iconst 4, 1) := by decide +kernel
theorem dX7_pitch_36 : decode cX7_pitch 36 = .ok (.aload_n 0, 1) := by decide +kernel
theorem dX7_pitch_37 : decode cX7_pitch 37 = .ok (.getfield 7, 3) := by decide +kernel
theorem dX7_pitch_40 : decode cX7_pitch 40 = .ok (.bipush 12, 2) := by decide +kernel
theorem dX7_pitch_42 : decode cX7_pitch 42 = .ok (.iaload, 1) := by decide +kernel
theorem dX7_pitch_43 : decode cX7_pitch 43 = .ok (.imul, 1) := by decide +kernel
theorem dX7_pitch_44 : decode cX7_pitch 44 = .ok (.iadd, 1) := by decide +kernel
theorem dX7_pitch_45 : decode cX7_pitch 45 = .ok (.istore_n 2, 1) := by decide +kernel
theorem dX7_pitch_46 : decode cX7_pitch 46 = .ok (.aload_n 0, 1) := by decide +kernel
theorem dX7_pitch_47 : decode cX7_pitch 47 = .ok (.getfield 7, 3) := by decide +kernel
theorem dX7_pitch_50 : decode cX7_pitch 50 = .ok (.iload_n 2, 1) := by decide +kernel
theorem dX7_pitch_51 : decode cX7_pitch 51 = .ok (.iconst 0, 1) := by decide +kernel
theorem dX7_pitch_52 : decode cX7_pitch 52 = .ok (.iadd, 1) := by decide +kernel
theorem dX7_pitch_53 : decode cX7_pitch 53 = .ok (.iload_n 1, 1) := by decide +kernel
theorem dX7_pitch_54 : decode cX7_pitch 54 = .ok (.iastore, 1) := by decide +kernel
theorem dX7_pitch_55 : decode cX7_pitch 55 = .ok (.aload_n 0, 1) := by decide +kernel
theorem dX7_pitch_56 : decode cX7_pitch 56 = .ok (.getfield 7, 3) := by decide +kernel
theorem dX7_pitch_59 : decode cX7_pitch 59 = .ok (.iload_n 2, 1) := by decide +kernel
theorem dX7_pitch_60 : decode cX7_pitch 60 = .ok (.iconst 1, 1) := by decide +kernel
theorem dX7_pitch_61 : decode cX7_pitch 61 = .ok (.iadd, 1) := by decide +kernel
theorem dX7_pitch_62 : decode cX7_pitch 62 = .ok (.iconst 0, 1) := by decide +kernel
theorem dX7_pitch_63 : decode cX7_pitch 63 = .ok (.iastore, 1) := by decide +kernel
theorem dX7_pitch_64 : decode cX7_pitch 64 = .ok (.aload_n 0, 1) := by decide +kernel
theorem dX7_pitch_65 : decode cX7_pitch 65 = .ok (.getfield 7, 3) := by decide +kernel
theorem dX7_pitch_68 : decode cX7_pitch 68 = .ok (.iload_n 2, 1) := by decide +kernel
theorem dX7_pitch_69 : decode cX7_pitch 69 = .ok (.iconst 2, 1) := by decide +kernel
theorem dX7_pitch_70 : decode cX7_pitch 70 = .ok (.iadd, 1) := by decide +kernel
theorem dX7_pitch_71 : decode cX7_pitch 71 = .ok (.iconst 0, 1) := by decide +kernel
theorem dX7_pitch_72 : decode cX7_pitch 72 = .ok (.iastore, 1) := by decide +kernel
theorem dX7_pitch_73 : decode cX7_pitch 73 = .ok (.aload_n 0, 1) := by decide +kernel
theorem dX7_pitch_74 : decode cX7_pitch 74 = .ok (.getfield 7, 3) := by decide +kernel
theorem dX7_pitch_77 : decode cX7_pitch 77 = .ok (.iload_n 2, 1) := by decide +kernel
theorem dX7_pitch_78 : decode cX7_pitch 78 = .ok (.iconst 3, 1) := by decide +kernel
theorem dX7_pitch_79 : decode cX7_pitch 79 = .ok (.iadd, 1) := by decide +kernel
theorem dX7_pitch_80 : decode cX7_pitch 80 = .ok (.bipush (-6), 2) := by decide +kernel
theorem dX7_pitch_82 : decode cX7_pitch 82 = .ok (.iastore, 1) := by decide +kernel
theorem dX7_pitch_83 : decode cX7_pitch 83 = .ok (.aload_n 0, 1) := by decide +kernel
theorem dX7_pitch_84 : decode cX7_pitch 84 = .ok (.getfield 7, 3) := by decide +kernel
theorem dX7_pitch_87 : decode cX7_pitch 87 = .ok (.bipush 12, 2) := by decide +kernel
theorem dX7_pitch_89 : decode cX7_pitch 89 = .ok (.dup2, 1) := by decide +kernel
theorem dX7_pitch_90 : decode cX7_pitch 90 = .ok (.iaload, 1) := by decide +kernel
theorem dX7_pitch_91 : decode cX7_pitch 91 = .ok (.iconst 1, 1) := by decide +kernel
theorem dX7_pitch_92 : decode cX7_pitch 92 = .ok (.iadd, 1) := by decide +kernel
theorem dX7_pitch_93 : decode cX7_pitch 93 = .ok (.iastore, 1) := by decide +kernel
theorem dX7_pitch_94 : decode cX7_pitch 94 = .ok (.aload_n 0, 1) := by decide +kernel
theorem dX7_pitch_95 : decode cX7_pitch 95 = .ok (.getfield 7, 3) := by decide +kernel
theorem dX7_pitch_98 : decode cX7_pitch 98 = .ok (.bipush 12, 2) := by decide +kernel
theorem dX7_pitch_100 : decode cX7_pitch 100 = .ok (.iaload, 1) := by decide +kernel
theorem dX7_pitch_101 : decode cX7_pitch 101 = .ok (.iconst 1, 1) := by decide +kernel
theorem dX7_pitch_102 : decode cX7_pitch 102 = .ok (.isub, 1) := by decide +kernel
theorem dX7_pitch_103 : decode cX7_pitch 103 = .ok (.ireturn, 1) := by decide +kernel
theorem dX7_rent_0 : decode cX7_rent 0 = .ok (.aload_n 0, 1) := by decide +kernel
theorem dX7_rent_1 : decode cX7_rent 1 = .ok (.iload_n 1, 1) := by decide +kernel
theorem dX7_rent_2 : decode cX7_rent 2 = .ok (.invokevirtual 54, 3) := by decide +kernel
theorem dX7_rent_5 : decode cX7_rent 5 = .ok (.ifCond .ne 5, 3) := by decide +kernel
theorem dX7_rent_8 : decode cX7_rent 8 = .ok (.iconst (-1), 1) := by decide +kernel
theorem dX7_rent_9 : decode cX7_rent 9 = .ok (.ireturn, 1) := by decide +kernel
theorem dX7_rent_10 : decode cX7_rent 10 = .ok (.iload_n 2, 1) := by decide +kernel
theorem dX7_rent_11 : decode cX7_rent 11 = .ok (.iconst 0, 1) := by decide +kernel
theorem dX7_rent_12 : decode cX7_rent 12 = .ok (.sipush 20000, 3) := by decide +kernel
theorem dX7_rent_15 : decode cX7_rent 15 = .ok (.invokestatic 35, 3) := by decide +kernel
theorem dX7_rent_18 : decode cX7_rent 18 = .ok (.ifCond .ne 6, 3) := by decide +kernel
theorem dX7_rent_21 : decode cX7_rent 21 = .ok (.bipush (-2), 2) := by decide +kernel
theorem dX7_rent_23 : decode cX7_rent 23 = .ok (.ireturn, 1) := by decide +kernel
theorem dX7_rent_24 : decode cX7_rent 24 = .ok (.aload_n 0, 1) := by decide +kernel
theorem dX7_rent_25 : decode cX7_rent 25 = .ok (.invokevirtual 43, 3) := by decide +kernel
theorem dX7_rent_28 : decode cX7_rent 28 = .ok (.aload_n 0, 1) := by decide +kernel
theorem dX7_rent_29 : decode cX7_rent 29 = .ok (.iload_n 1, 1) := by decide +kernel
theorem dX7_rent_30 : decode cX7_rent 30 = .ok (.iconst 0, 1) := by decide +kernel
theorem dX7_rent_31 : decode cX7_rent 31 = .ok (.invokevirtual 58, 3) := by decide +kernel
theorem dX7_rent_34 : decode cX7_rent 34 = .ok (.istore_n 3, 1) := by decide +kernel
theorem dX7_rent_35 : decode cX7_rent 35 = .ok (.aload_n 0, 1) := by decide +kernel
theorem dX7_rent_36 : decode cX7_rent 36 = .ok (.getfield 7, 3) := by decide +kernel
theorem dX7_rent_39 : decode cX7_rent 39 = .ok (.bipush 32, 2) := by decide +kernel
theorem dX7_rent_41 : decode cX7_rent 41 = .ok (.iconst 4, 1) := by decide +kernel
theorem dX7_rent_42 : decode cX7_rent 42 = .ok (.iload_n 1, 1) := by decide +kernel
theorem dX7_rent_43 : decode cX7_rent 43 = .ok (.imul, 1) := by decide +kernel
theorem dX7_rent_44 : decode cX7_rent 44 = .ok (.iadd, 1) := by decide +kernel
theorem dX7_rent_45 : decode cX7_rent 45 = .ok (.iconst 0, 1) := by decide +kernel
theorem dX7_rent_46 : decode cX7_rent 46 = .ok (.iadd, 1) := by decide +kernel
theorem dX7_rent_47 : decode cX7_rent 47 = .ok (.iload_n 2, 1) := by decide +kernel
theorem dX7_rent_48 : decode cX7_rent 48 = .ok (.iastore, 1) := by decide +kernel
theorem dX7_rent_49 : decode cX7_rent 49 = .ok (.iload_n 3, 1) := by decide +kernel
theorem dX7_rent_50 : decode cX7_rent 50 = .ok (.ireturn, 1) := by decide +kernel
theorem dX7_cart_0 : decode cX7_cart 0 = .ok (.iload_n 1, 1) := by decide +kernel
theorem dX7_cart_1 : decode cX7_cart 1 = .ok (.iconst 0, 1) := by decide +kernel
theorem dX7_cart_2 : decode cX7_cart 2 = .ok (.iconst 5, 1) := by decide +kernel
theorem dX7_cart_3 : decode cX7_cart 3 = .ok (.invokestatic 35, 3) := by decide +kernel
theorem dX7_cart_6 : decode cX7_cart 6 = .ok (.ifCond .eq 13, 3) := by decide +kernel
theorem dX7_cart_9 : decode cX7_cart 9 = .ok (.iload_n 2, 1) := by decide +kernel
theorem dX7_cart_10 : decode cX7_cart 10 = .ok (.iconst 1, 1) := by decide +kernel
theorem dX7_cart_11 : decode cX7_cart 11 = .ok (.bipush 6, 2) := by decide +kernel
theorem dX7_cart_13 : decode cX7_cart 13 = .ok (.invokestatic 35, 3) := by decide +kernel
theorem dX7_cart_16 : decode cX7_cart 16 = .ok (.ifCond .ne 6, 3) := by decide +kernel
theorem dX7_cart_19 : decode cX7_cart 19 = .ok (.bipush (-2), 2) := by decide +kernel
theorem dX7_cart_21 : decode cX7_cart 21 = .ok (.ireturn, 1) := by decide +kernel
theorem dX7_cart_22 : decode cX7_cart 22 = .ok (.aload_n 0, 1) := by decide +kernel
theorem dX7_cart_23 : decode cX7_cart 23 = .ok (.getfield 7, 3) := by decide +kernel
theorem dX7_cart_26 : decode cX7_cart 26 = .ok (.bipush 13, 2) := by decide +kernel
theorem dX7_cart_28 : decode cX7_cart 28 = .ok (.iaload, 1) := by decide +kernel
theorem dX7_cart_29 : decode cX7_cart 29 = .ok (.bipush 16, 2) := by decide +kernel
theorem dX7_cart_31 : decode cX7_cart 31 = .ok (.if_icmp .ne 6, 3) := by decide +kernel
theorem dX7_cart_34 : decode cX7_cart 34 = .ok (.bipush (-4), 2) := by decide +kernel
theorem dX7_cart_36 : decode cX7_cart 36 = .ok (.ireturn, 1) := by decide +kernel
theorem dX7_cart_37 : decode cX7_cart 37 = .ok (.aload_n 0, 1) := by decide +kernel
theorem dX7_cart_38 : decode cX7_cart 38 = .ok (.invokevirtual 43, 3) := by decide +kernel
theorem dX7_cart_41 : decode cX7_cart 41 = .ok (.aload_n 0, 1) := by decide +kernel
theorem dX7_cart_42 : decode cX7_cart 42 = .ok (.getfield 7, 3) := by decide +kernel
theorem dX7_cart_45 : decode cX7_cart 45 = .ok (.bipush 13, 2) := by decide +kernel
theorem dX7_cart_47 : decode cX7_cart 47 = .ok (.iaload, 1) := by decide +kernel
theorem dX7_cart_48 : decode cX7_cart 48 = .ok (.istore_n 3, 1) := by decide +kernel
theorem dX7_cart_49 : decode cX7_cart 49 = .ok (.iconst 0, 1) := by decide +kernel
theorem dX7_cart_50 : decode cX7_cart 50 = .ok (.istore 4, 2) := by decide +kernel
theorem dX7_cart_52 : decode cX7_cart 52 = .ok (.iload 4, 2) := by decide +kernel
theorem dX7_cart_54 : decode cX7_cart 54 = .ok (.bipush 20, 2) := by decide +kernel
theorem dX7_cart_56 : decode cX7_cart 56 = .ok (.if_icmp .ge 17, 3) := by decide +kernel
theorem dX7_cart_59 : decode cX7_cart 59 = .ok (.aload_n 0, 1) := by decide +kernel
theorem dX7_cart_60 : decode cX7_cart 60 = .ok (.iload_n 3, 1) := by decide +kernel
theorem dX7_cart_61 : decode cX7_cart 61 = .ok (.iload 4, 2) := by decide +kernel
theorem dX7_cart_63 : decode cX7_cart 63 = .ok (.iconst 0, 1) := by decide +kernel
theorem dX7_cart_64 : decode cX7_cart 64 = .ok (.invokevirtual 62, 3) := by decide +kernel
theorem dX7_cart_67 : decode cX7_cart 67 = .ok (.iinc 4 1, 3) := by decide +kernel
theorem dX7_cart_70 : decode cX7_cart 70 = .ok (.goto (-18), 3) := by decide +kernel
theorem dX7_cart_73 : decode cX7_cart 73 = .ok (.iconst 0, 1) := by decide +kernel
theorem dX7_cart_74 : decode cX7_cart 74 = .ok (.istore 4, 2) := by decide +kernel
theorem dX7_cart_76 : decode cX7_cart 76 = .ok (.iload 4, 2) := by decide +kernel
theorem dX7_cart_78 : decode cX7_cart 78 = .ok (.sipush 200, 3) := by decide +kernel
theorem dX7_cart_81 : decode cX7_cart 81 = .ok (.if_icmp .ge 27, 3) := by decide +kernel
theorem dX7_cart_84 : decode cX7_cart 84 = .ok (.aload_n 0, 1) := by decide +kernel
theorem dX7_cart_85 : decode cX7_cart 85 = .ok (.getfield 7, 3) := by decide +kernel
theorem dX7_cart_88 : decode cX7_cart 88 = .ok (.sipush 392, 3) := by decide +kernel
theorem dX7_cart_91 : decode cX7_cart 91 = .ok (.sipush 200, 3) := by decide +kernel
theorem dX7_cart_94 : decode cX7_cart 94 = .ok (.iload_n 3, 1) := by decide +kernel
theorem dX7_cart_95 : decode cX7_cart 95 = .ok (.imul, 1) := by decide +kernel
theorem dX7_cart_96 : decode cX7_cart 96 = .ok (.iadd, 1) := by decide +kernel
theorem dX7_cart_97 : decode cX7_cart 97 = .ok (.iload 4, 2) := by decide +kernel
theorem dX7_cart_99 : decode cX7_cart 99 = .ok (.iadd, 1) := by decide +kernel
theorem dX7_cart_100 : decode cX7_cart 100 = .ok (.iconst 0, 1) := by decide +kernel
theorem dX7_cart_101 : decode cX7_cart 101 = .ok (.iastore, 1) := by decide +kernel
theorem dX7_cart_102 : decode cX7_cart 102 = .ok (.iinc 4 1, 3) := by decide +kernel
theorem dX7_cart_105 : decode cX7_cart 105 = .ok (.goto (-29), 3) := by decide +kernel
theorem dX7_cart_108 : decode cX7_cart 108 = .ok (.aload_n 0, 1) := by decide +kernel
theorem dX7_cart_109 : decode cX7_cart 109 = .ok (.iload_n 3, 1) := by decide +kernel
theorem dX7_cart_110 : decode cX7_cart 110 = .ok (.iconst 0, 1) := by decide +kernel
theorem dX7_cart_111 : decode cX7_cart 111 = .ok (.iload_n 1, 1) := by decide +kernel
theorem dX7_cart_112 : decode cX7_cart 112 = .ok (.invokevirtual 62, 3) := by decide +kernel
theorem dX7_cart_115 : decode cX7_cart 115 = .ok (.aload_n 0, 1) := by decide +kernel
theorem dX7_cart_116 : decode cX7_cart 116 = .ok (.iload_n 3, 1) := by decide +kernel
theorem dX7_cart_117 : decode cX7_cart 117 = .ok (.iconst 1, 1) := by decide +kernel
theorem dX7_cart_118 : decode cX7_cart 118 = .ok (.iload_n 2, 1) := by decide +kernel
theorem dX7_cart_119 : decode cX7_cart 119 = .ok (.invokevirtual 62, 3) := by decide +kernel
theorem dX7_cart_122 : decode cX7_cart 122 = .ok (.aload_n 0, 1) := by decide +kernel
theorem dX7_cart_123 : decode cX7_cart 123 = .ok (.iload_n 3, 1) := by decide +kernel
theorem dX7_cart_124 : decode cX7_cart 124 = .ok (.bipush 7, 2) := by decide +kernel
theorem dX7_cart_126 : decode cX7_cart 126 = .ok (.aload_n 0, 1) := by decide +kernel
theorem dX7_cart_127 : decode cX7_cart 127 = .ok (.getfield 7, 3) := by decide +kernel
theorem dX7_cart_130 : decode cX7_cart 130 = .ok (.bipush 10, 2) := by decide +kernel
theorem dX7_cart_132 : decode cX7_cart 132 = .ok (.iaload, 1) := by decide +kernel
theorem dX7_cart_133 : decode cX7_cart 133 = .ok (.aload_n 0, 1) := by decide +kernel
theorem dX7_cart_134 : decode cX7_cart 134 = .ok (.getfield 7, 3) := by decide +kernel
theorem dX7_cart_137 : decode cX7_cart 137 = .ok (.iconst 1, 1) := by decide +kernel
theorem dX7_cart_138 : decode cX7_cart 138 = .ok (.iaload, 1) := by decide +kernel
theorem dX7_cart_139 : decode cX7_cart 139 = .ok (.iadd, 1) := by decide +kernel
theorem dX7_cart_140 : decode cX7_cart 140 = .ok (.invokevirtual 62, 3) := by decide +kernel
theorem dX7_cart_143 : decode cX7_cart 143 = .ok (.aload_n 0, 1) := by decide +kernel
theorem dX7_cart_144 : decode cX7_cart 144 = .ok (.iload_n 3, 1) := by decide +kernel
theorem dX7_cart_145 : decode cX7_cart 145 = .ok (.bipush 9, 2) := by decide +kernel
theorem dX7_cart_147 : decode cX7_cart 147 = .ok (.bipush (-6), 2) := by decide +kernel
theorem dX7_cart_149 : decode cX7_cart 149 = .ok (.invokevirtual 62, 3) := by decide +kernel
theorem dX7_cart_152 : decode cX7_cart 152 = .ok (.aload_n 0, 1) := by decide +kernel
theorem dX7_cart_153 : decode cX7_cart 153 = .ok (.iload_n 3, 1) := by decide +kernel
theorem dX7_cart_154 : decode cX7_cart 154 = .ok (.bipush 11, 2) := by decide +kernel
theorem dX7_cart_156 : decode cX7_cart 156 = .ok (.bipush (-6), 2) := by decide +kernel
theorem dX7_cart_158 : decode cX7_cart 158 = .ok (.invokevirtual 62, 3) := by decide +kernel
theorem dX7_cart_161 : decode cX7_cart 161 = .ok (.aload_n 0, 1) := by decide +kernel
theorem dX7_cart_162 : decode cX7_cart 162 = .ok (.iload_n 3, 1) := by decide +kernel
theorem dX7_cart_163 : decode cX7_cart 163 = .ok (.bipush 12, 2) := by decide +kernel
theorem dX7_cart_165 : decode cX7_cart 165 = .ok (.bipush (-6), 2) := by decide +kernel
theorem dX7_cart_167 : decode cX7_cart 167 = .ok (.invokevirtual 62, 3) := by decide +kernel
theorem dX7_cart_170 : decode cX7_cart 170 = .ok (.aload_n 0, 1) := by decide +kernel
theorem dX7_cart_171 : decode cX7_cart 171 = .ok (.iload_n 3, 1) := by decide +kernel
theorem dX7_cart_172 : decode cX7_cart 172 = .ok (.bipush 14, 2) := by decide +kernel
theorem dX7_cart_174 : decode cX7_cart 174 = .ok (.bipush (-6), 2) := by decide +kernel
theorem dX7_cart_176 : decode cX7_cart 176 = .ok (.invokevirtual 62, 3) := by decide +kernel
theorem dX7_cart_179 : decode cX7_cart 179 = .ok (.aload_n 0, 1) := by decide +kernel
theorem dX7_cart_180 : decode cX7_cart 180 = .ok (.getfield 7, 3) := by decide +kernel
theorem dX7_cart_183 : decode cX7_cart 183 = .ok (.bipush 13, 2) := by decide +kernel
theorem dX7_cart_185 : decode cX7_cart 185 = .ok (.dup2, 1) := by decide +kernel
theorem dX7_cart_186 : decode cX7_cart 186 = .ok (.iaload, 1) := by decide +kernel
theorem dX7_cart_187 : decode cX7_cart 187 = .ok (.iconst 1, 1) := by decide +kernel
theorem dX7_cart_188 : decode cX7_cart 188 = .ok (.iadd, 1) := by decide +kernel
theorem dX7_cart_189 : decode cX7_cart 189 = .ok (.iastore, 1) := by decide +kernel
theorem dX7_cart_190 : decode cX7_cart 190 = .ok (.iload_n 3, 1) := by decide +kernel
theorem dX7_cart_191 : decode cX7_cart 191 = .ok (.ireturn, 1) := by decide +kernel
theorem dX7_pointsAt_0 : decode cX7_pointsAt 0 = .ok (.iconst 0, 1) := by decide +kernel
theorem dX7_pointsAt_1 : decode cX7_pointsAt 1 = .ok (.istore_n 3, 1) := by decide +kernel
theorem dX7_pointsAt_2 : decode cX7_pointsAt 2 = .ok (.iload_n 2, 1) := by decide +kernel
theorem dX7_pointsAt_3 : decode cX7_pointsAt 3 = .ok (.aload_n 0, 1) := by decide +kernel
theorem dX7_pointsAt_4 : decode cX7_pointsAt 4 = .ok (.getfield 7, 3) := by decide +kernel
theorem dX7_pointsAt_7 : decode cX7_pointsAt 7 = .ok (.iconst 5, 1) := by decide +kernel
theorem dX7_pointsAt_8 : decode cX7_pointsAt 8 = .ok (.iaload, 1) := by decide +kernel
theorem dX7_pointsAt_9 : decode cX7_pointsAt 9 = .ok (.isub, 1) := by decide +kernel
theorem dX7_pointsAt_10 : decode cX7_pointsAt 10 = .ok (.iconst 1, 1) := by decide +kernel
theorem dX7_pointsAt_11 : decode cX7_pointsAt 11 = .ok (.iadd, 1) := by decide +kernel
theorem dX7_pointsAt_12 : decode cX7_pointsAt 12 = .ok (.istore 4, 2) := by decide +kernel
theorem dX7_pointsAt_14 : decode cX7_pointsAt 14 = .ok (.aload_n 0, 1) := by decide +kernel
theorem dX7_pointsAt_15 : decode cX7_pointsAt 15 = .ok (.getfield 7, 3) := by decide +kernel
theorem dX7_pointsAt_18 : decode cX7_pointsAt 18 = .ok (.bipush 10, 2) := by decide +kernel
theorem dX7_pointsAt_20 : decode cX7_pointsAt 20 = .ok (.iaload, 1) := by decide +kernel
theorem dX7_pointsAt_21 : decode cX7_pointsAt 21 = .ok (.sipush 200, 3) := by decide +kernel
theorem dX7_pointsAt_24 : decode cX7_pointsAt 24 = .ok (.isub, 1) := by decide +kernel
theorem dX7_pointsAt_25 : decode cX7_pointsAt 25 = .ok (.iconst 1, 1) := by decide +kernel
theorem dX7_pointsAt_26 : decode cX7_pointsAt 26 = .ok (.iadd, 1) := by decide +kernel
theorem dX7_pointsAt_27 : decode cX7_pointsAt 27 = .ok (.istore 5, 2) := by decide +kernel
theorem dX7_pointsAt_29 : decode cX7_pointsAt 29 = .ok (.iload 5, 2) := by decide +kernel
theorem dX7_pointsAt_31 : decode cX7_pointsAt 31 = .ok (.iload 4, 2) := by decide +kernel
theorem dX7_pointsAt_33 : decode cX7_pointsAt 33 = .ok (.if_icmp .ge 8, 3) := by decide +kernel
theorem dX7_pointsAt_36 : decode cX7_pointsAt 36 = .ok (.iload 4, 2) := by decide +kernel
theorem dX7_pointsAt_38 : decode cX7_pointsAt 38 = .ok (.goto 5, 3) := by decide +kernel
theorem dX7_pointsAt_41 : decode cX7_pointsAt 41 = .ok (.iload 5, 2) := by decide +kernel
theorem dX7_pointsAt_43 : decode cX7_pointsAt 43 = .ok (.istore 5, 2) := by decide +kernel
theorem dX7_pointsAt_45 : decode cX7_pointsAt 45 = .ok (.iload 5, 2) := by decide +kernel
theorem dX7_pointsAt_47 : decode cX7_pointsAt 47 = .ok (.ifCond .ge 7, 3) := by decide +kernel
theorem dX7_pointsAt_50 : decode cX7_pointsAt 50 = .ok (.iconst 0, 1) := by decide +kernel
theorem dX7_pointsAt_51 : decode cX7_pointsAt 51 = .ok (.goto 5, 3) := by decide +kernel
theorem dX7_pointsAt_54 : decode cX7_pointsAt 54 = .ok (.iload 5, 2) := by decide +kernel
theorem dX7_pointsAt_56 : decode cX7_pointsAt 56 = .ok (.istore 5, 2) := by decide +kernel
theorem dX7_pointsAt_58 : decode cX7_pointsAt 58 = .ok (.iload 5, 2) := by decide +kernel
theorem dX7_pointsAt_60 : decode cX7_pointsAt 60 = .ok (.istore 6, 2) := by decide +kernel
theorem dX7_pointsAt_62 : decode cX7_pointsAt 62 = .ok (.iload 6, 2) := by decide +kernel
theorem dX7_pointsAt_64 : decode cX7_pointsAt 64 = .ok (.aload_n 0, 1) := by decide +kernel
theorem dX7_pointsAt_65 : decode cX7_pointsAt 65 = .ok (.getfield 7, 3) := by decide +kernel
theorem dX7_pointsAt_68 : decode cX7_pointsAt 68 = .ok (.bipush 10, 2) := by decide +kernel
theorem dX7_pointsAt_70 : decode cX7_pointsAt 70 = .ok (.iaload, 1) := by decide +kernel
theorem dX7_pointsAt_71 : decode cX7_pointsAt 71 = .ok (.if_icmp .gt 33, 3) := by decide +kernel
theorem dX7_pointsAt_74 : decode cX7_pointsAt 74 = .ok (.iload_n 3, 1) := by decide +kernel
theorem dX7_pointsAt_75 : decode cX7_pointsAt 75 = .ok (.aload_n 0, 1) := by decide +kernel
theorem dX7_pointsAt_76 : decode cX7_pointsAt 76 = .ok (.getfield 7, 3) := by decide +kernel
theorem dX7_pointsAt_79 : decode cX7_pointsAt 79 = .ok (.sipush 392, 3) := by decide +kernel
theorem dX7_pointsAt_82 : decode cX7_pointsAt 82 = .ok (.sipush 200, 3) := by decide +kernel
theorem dX7_pointsAt_85 : decode cX7_pointsAt 85 = .ok (.iload_n 1, 1) := by decide +kernel
theorem dX7_pointsAt_86 : decode cX7_pointsAt 86 = .ok (.imul, 1) := by decide +kernel
theorem dX7_pointsAt_87 : decode cX7_pointsAt 87 = .ok (.iadd, 1) := by decide +kernel
theorem dX7_pointsAt_88 : decode cX7_pointsAt 88 = .ok (.iload 6, 2) := by decide +kernel
theorem dX7_pointsAt_90 : decode cX7_pointsAt 90 = .ok (.sipush 200, 3) := by decide +kernel
theorem dX7_pointsAt_93 : decode cX7_pointsAt 93 = .ok (.irem, 1) := by decide +kernel
theorem dX7_pointsAt_94 : decode cX7_pointsAt 94 = .ok (.iadd, 1) := by decide +kernel
theorem dX7_pointsAt_95 : decode cX7_pointsAt 95 = .ok (.iaload, 1) := by decide +kernel
theorem dX7_pointsAt_96 : decode cX7_pointsAt 96 = .ok (.iadd, 1) := by decide +kernel
theorem dX7_pointsAt_97 : decode cX7_pointsAt 97 = .ok (.istore_n 3, 1) := by decide +kernel
theorem dX7_pointsAt_98 : decode cX7_pointsAt 98 = .ok (.iinc 6 1, 3) := by decide +kernel
theorem dX7_pointsAt_101 : decode cX7_pointsAt 101 = .ok (.goto (-39), 3) := by decide +kernel
theorem dX7_pointsAt_104 : decode cX7_pointsAt 104 = .ok (.iload_n 3, 1) := by decide +kernel
theorem dX7_pointsAt_105 : decode cX7_pointsAt 105 = .ok (.ireturn, 1) := by decide +kernel
theorem dX7_give_0 : decode cX7_give 0 = .ok (.aload_n 0, 1) := by decide +kernel
theorem dX7_give_1 : decode cX7_give 1 = .ok (.getfield 7, 3) := by decide +kernel
theorem dX7_give_4 : decode cX7_give 4 = .ok (.sipush 392, 3) := by decide +kernel
theorem dX7_give_7 : decode cX7_give 7 = .ok (.sipush 200, 3) := by decide +kernel
theorem dX7_give_10 : decode cX7_give 10 = .ok (.iload_n 1, 1) := by decide +kernel
theorem dX7_give_11 : decode cX7_give 11 = .ok (.imul, 1) := by decide +kernel
theorem dX7_give_12 : decode cX7_give 12 = .ok (.iadd, 1) := by decide +kernel
theorem dX7_give_13 : decode cX7_give 13 = .ok (.aload_n 0, 1) := by decide +kernel
theorem dX7_give_14 : decode cX7_give 14 = .ok (.getfield 7, 3) := by decide +kernel
theorem dX7_give_17 : decode cX7_give 17 = .ok (.bipush 10, 2) := by decide +kernel
theorem dX7_give_19 : decode cX7_give 19 = .ok (.iaload, 1) := by decide +kernel
theorem dX7_give_20 : decode cX7_give 20 = .ok (.sipush 200, 3) := by decide +kernel
theorem dX7_give_23 : decode cX7_give 23 = .ok (.irem, 1) := by decide +kernel
theorem dX7_give_24 : decode cX7_give 24 = .ok (.iadd, 1) := by decide +kernel
theorem dX7_give_25 : decode cX7_give 25 = .ok (.dup2, 1) := by decide +kernel
theorem dX7_give_26 : decode cX7_give 26 = .ok (.iaload, 1) := by decide +kernel
theorem dX7_give_27 : decode cX7_give 27 = .ok (.iload_n 2, 1) := by decide +kernel
theorem dX7_give_28 : decode cX7_give 28 = .ok (.iadd, 1) := by decide +kernel
theorem dX7_give_29 : decode cX7_give 29 = .ok (.iastore, 1) := by decide +kernel
theorem dX7_give_30 : decode cX7_give 30 = .ok (.aload_n 0, 1) := by decide +kernel
theorem dX7_give_31 : decode cX7_give 31 = .ok (.iload_n 1, 1) := by decide +kernel
theorem dX7_give_32 : decode cX7_give 32 = .ok (.bipush 17, 2) := by decide +kernel
theorem dX7_give_34 : decode cX7_give 34 = .ok (.aload_n 0, 1) := by decide +kernel
theorem dX7_give_35 : decode cX7_give 35 = .ok (.iload_n 1, 1) := by decide +kernel
theorem dX7_give_36 : decode cX7_give 36 = .ok (.bipush 17, 2) := by decide +kernel
theorem dX7_give_38 : decode cX7_give 38 = .ok (.invokevirtual 66, 3) := by decide +kernel
theorem dX7_give_41 : decode cX7_give 41 = .ok (.iload_n 2, 1) := by decide +kernel
theorem dX7_give_42 : decode cX7_give 42 = .ok (.aload_n 0, 1) := by decide +kernel
theorem dX7_give_43 : decode cX7_give 43 = .ok (.getfield 7, 3) := by decide +kernel
theorem dX7_give_46 : decode cX7_give 46 = .ok (.bipush 6, 2) := by decide +kernel
theorem dX7_give_48 : decode cX7_give 48 = .ok (.iaload, 1) := by decide +kernel
theorem dX7_give_49 : decode cX7_give 49 = .ok (.imul, 1) := by decide +kernel
theorem dX7_give_50 : decode cX7_give 50 = .ok (.iadd, 1) := by decide +kernel
theorem dX7_give_51 : decode cX7_give 51 = .ok (.invokevirtual 62, 3) := by decide +kernel
theorem dX7_give_54 : decode cX7_give 54 = .ok (.aload_n 0, 1) := by decide +kernel
theorem dX7_give_55 : decode cX7_give 55 = .ok (.iload_n 1, 1) := by decide +kernel
theorem dX7_give_56 : decode cX7_give 56 = .ok (.aload_n 0, 1) := by decide +kernel
theorem dX7_give_57 : decode cX7_give 57 = .ok (.getfield 7, 3) := by decide +kernel
theorem dX7_give_60 : decode cX7_give 60 = .ok (.bipush 10, 2) := by decide +kernel
theorem dX7_give_62 : decode cX7_give 62 = .ok (.iaload, 1) := by decide +kernel
theorem dX7_give_63 : decode cX7_give 63 = .ok (.invokevirtual 69, 3) := by decide +kernel
theorem dX7_give_66 : decode cX7_give 66 = .ok (.aload_n 0, 1) := by decide +kernel
theorem dX7_give_67 : decode cX7_give 67 = .ok (.getfield 7, 3) := by decide +kernel
theorem dX7_give_70 : decode cX7_give 70 = .ok (.iconst 3, 1) := by decide +kernel
theorem dX7_give_71 : decode cX7_give 71 = .ok (.iaload, 1) := by decide +kernel
theorem dX7_give_72 : decode cX7_give 72 = .ok (.if_icmp .lt 56, 3) := by decide +kernel
theorem dX7_give_75 : decode cX7_give 75 = .ok (.aload_n 0, 1) := by decide +kernel
theorem dX7_give_76 : decode cX7_give 76 = .ok (.iload_n 1, 1) := by decide +kernel
theorem dX7_give_77 : decode cX7_give 77 = .ok (.bipush 9, 2) := by decide +kernel
theorem dX7_give_79 : decode cX7_give 79 = .ok (.aload_n 0, 1) := by decide +kernel
theorem dX7_give_80 : decode cX7_give 80 = .ok (.getfield 7, 3) := by decide +kernel
theorem dX7_give_83 : decode cX7_give 83 = .ok (.bipush 10, 2) := by decide +kernel
theorem dX7_give_85 : decode cX7_give 85 = .ok (.iaload, 1) := by decide +kernel
theorem dX7_give_86 : decode cX7_give 86 = .ok (.aload_n 0, 1) := by decide +kernel
theorem dX7_give_87 : decode cX7_give 87 = .ok (.getfield 7, 3) := by decide +kernel
theorem dX7_give_90 : decode cX7_give 90 = .ok (.iconst 4, 1) := by decide +kernel
theorem dX7_give_91 : decode cX7_give 91 = .ok (.iaload, 1) := by decide +kernel
theorem dX7_give_92 : decode cX7_give 92 = .ok (.iadd, 1) := by decide +kernel
theorem dX7_give_93 : decode cX7_give 93 = .ok (.invokevirtual 62, 3) := by decide +kernel
theorem dX7_give_96 : decode cX7_give 96 = .ok (.iconst 0, 1) := by decide +kernel
theorem dX7_give_97 : decode cX7_give 97 = .ok (.istore_n 3, 1) := by decide +kernel
theorem dX7_give_98 : decode cX7_give 98 = .ok (.iload_n 3, 1) := by decide +kernel
theorem dX7_give_99 : decode cX7_give 99 = .ok (.sipush 200, 3) := by decide +kernel
theorem dX7_give_102 : decode cX7_give 102 = .ok (.if_icmp .ge 26, 3) := by decide +kernel
theorem dX7_give_105 : decode cX7_give 105 = .ok (.aload_n 0, 1) := by decide +kernel
theorem dX7_give_106 : decode cX7_give 106 = .ok (.getfield 7, 3) := by decide +kernel
theorem dX7_give_109 : decode cX7_give 109 = .ok (.sipush 392, 3) := by decide +kernel
theorem dX7_give_112 : decode cX7_give 112 = .ok (.sipush 200, 3) := by decide +kernel
theorem dX7_give_115 : decode cX7_give 115 = .ok (.iload_n 1, 1) := by decide +kernel
theorem dX7_give_116 : decode cX7_give 116 = .ok (.imul, 1) := by decide +kernel
theorem dX7_give_117 : decode cX7_give 117 = .ok (.iadd, 1) := by decide +kernel
theorem dX7_give_118 : decode cX7_give 118 = .ok (.iload_n 3, 1) := by decide +kernel
theorem dX7_give_119 : decode cX7_give 119 = .ok (.iadd, 1) := by decide +kernel
theorem dX7_give_120 : decode cX7_give 120 = .ok (.iconst 0, 1) := by decide +kernel
theorem dX7_give_121 : decode cX7_give 121 = .ok (.iastore, 1) := by decide +kernel
theorem dX7_give_122 : decode cX7_give 122 = .ok (.iinc 3 1, 3) := by decide +kernel
theorem dX7_give_125 : decode cX7_give 125 = .ok (.goto (-27), 3) := by decide +kernel
theorem dX7_give_128 : decode cX7_give 128 = .ok (.return_, 1) := by decide +kernel
theorem dX7_isNumber_0 : decode cX7_isNumber 0 = .ok (.iload_n 1, 1) := by decide +kernel
theorem dX7_isNumber_1 : decode cX7_isNumber 1 = .ok (.bipush (-6), 2) := by decide +kernel
theorem dX7_isNumber_3 : decode cX7_isNumber 3 = .ok (.if_icmp .eq 11, 3) := by decide +kernel
theorem dX7_isNumber_6 : decode cX7_isNumber 6 = .ok (.aload_n 0, 1) := by decide +kernel
theorem dX7_isNumber_7 : decode cX7_isNumber 7 = .ok (.iload_n 1, 1) := by decide +kernel
theorem dX7_isNumber_8 : decode cX7_isNumber 8 = .ok (.invokevirtual 54, 3) := by decide +kernel
theorem dX7_isNumber_11 : decode cX7_isNumber 11 = .ok (.ifCond .eq 7, 3) := by decide +kernel
theorem dX7_isNumber_14 : decode cX7_isNumber 14 = .ok (.iconst 1, 1) := by decide +kernel
theorem dX7_isNumber_15 : decode cX7_isNumber 15 = .ok (.goto 4, 3) := by decide +kernel
theorem dX7_isNumber_18 : decode cX7_isNumber 18 = .ok (.iconst 0, 1) := by decide +kernel
theorem dX7_isNumber_19 : decode cX7_isNumber 19 = .ok (.ireturn, 1) := by decide +kernel
theorem dX7_tryWish_0 : decode cX7_tryWish 0 = .ok (.aload_n 0, 1) := by decide +kernel
theorem dX7_tryWish_1 : decode cX7_tryWish 1 = .ok (.iload_n 1, 1) := by decide +kernel
theorem dX7_tryWish_2 : decode cX7_tryWish 2 = .ok (.invokevirtual 72, 3) := by decide +kernel
theorem dX7_tryWish_5 : decode cX7_tryWish 5 = .ok (.ifCond .ne 5, 3) := by decide +kernel
theorem dX7_tryWish_8 : decode cX7_tryWish 8 = .ok (.iconst (-1), 1) := by decide +kernel
theorem dX7_tryWish_9 : decode cX7_tryWish 9 = .ok (.ireturn, 1) := by decide +kernel
theorem dX7_tryWish_10 : decode cX7_tryWish 10 = .ok (.iload_n 2, 1) := by decide +kernel
theorem dX7_tryWish_11 : decode cX7_tryWish 11 = .ok (.ifCond .ge 7, 3) := by decide +kernel
theorem dX7_tryWish_14 : decode cX7_tryWish 14 = .ok (.iconst 0, 1) := by decide +kernel
theorem dX7_tryWish_15 : decode cX7_tryWish 15 = .ok (.goto 21, 3) := by decide +kernel
theorem dX7_tryWish_18 : decode cX7_tryWish 18 = .ok (.iload_n 3, 1) := by decide +kernel
theorem dX7_tryWish_19 : decode cX7_tryWish 19 = .ok (.ifCond .ge 7, 3) := by decide +kernel
theorem dX7_tryWish_22 : decode cX7_tryWish 22 = .ok (.iconst 1, 1) := by decide +kernel
theorem dX7_tryWish_23 : decode cX7_tryWish 23 = .ok (.goto 13, 3) := by decide +kernel
theorem dX7_tryWish_26 : decode cX7_tryWish 26 = .ok (.iload 4, 2) := by decide +kernel
theorem dX7_tryWish_28 : decode cX7_tryWish 28 = .ok (.ifCond .ge 7, 3) := by decide +kernel
theorem dX7_tryWish_31 : decode cX7_tryWish 31 = .ok (.iconst 2, 1) := by decide +kernel
theorem dX7_tryWish_32 : decode cX7_tryWish 32 = .ok (.goto 4, 3) := by decide +kernel
theorem dX7_tryWish_35 : decode cX7_tryWish 35 = .ok (.iconst 3, 1) := by decide +kernel
theorem dX7_tryWish_36 : decode cX7_tryWish 36 = .ok (.istore 6, 2) := by decide +kernel
theorem dX7_tryWish_38 : decode cX7_tryWish 38 = .ok (.iload 6, 2) := by decide +kernel
theorem dX7_tryWish_40 : decode cX7_tryWish 40 = .ok (.iconst 1, 1) := by decide +kernel
theorem dX7_tryWish_41 : decode cX7_tryWish 41 = .ok (.if_icmp .le 8, 3) := by decide +kernel
theorem dX7_tryWish_44 : decode cX7_tryWish 44 = .ok (.iload_n 2, 1) := by decide +kernel
theorem dX7_tryWish_45 : decode cX7_tryWish 45 = .ok (.iload_n 3, 1) := by decide +kernel
theorem dX7_tryWish_46 : decode cX7_tryWish 46 = .ok (.if_icmp .eq 21, 3) := by decide +kernel
theorem dX7_tryWish_49 : decode cX7_tryWish 49 = .ok (.iload 6, 2) := by decide +kernel
theorem dX7_tryWish_51 : decode cX7_tryWish 51 = .ok (.iconst 2, 1) := by decide +kernel
theorem dX7_tryWish_52 : decode cX7_tryWish 52 = .ok (.if_icmp .le 19, 3) := by decide +kernel
theorem dX7_tryWish_55 : decode cX7_tryWish 55 = .ok (.iload_n 2, 1) := by decide +kernel
theorem dX7_tryWish_56 : decode cX7_tryWish 56 = .ok (.iload 4, 2) := by decide +kernel
theorem dX7_tryWish_58 : decode cX7_tryWish 58 = .ok (.if_icmp .eq 9, 3) := by decide +kernel
theorem dX7_tryWish_61 : decode cX7_tryWish 61 = .ok (.iload_n 3, 1) := by decide +kernel
theorem dX7_tryWish_62 : decode cX7_tryWish 62 = .ok (.iload 4, 2) := by decide +kernel
theorem dX7_tryWish_64 : decode cX7_tryWish 64 = .ok (.if_icmp .ne 7, 3) := by decide +kernel
theorem dX7_tryWish_67 : decode cX7_tryWish 67 = .ok (.iconst 1, 1) := by decide +kernel
theorem dX7_tryWish_68 : decode cX7_tryWish 68 = .ok (.goto 4, 3) := by decide +kernel
theorem dX7_tryWish_71 : decode cX7_tryWish 71 = .ok (.iconst 0, 1) := by decide +kernel
theorem dX7_tryWish_72 : decode cX7_tryWish 72 = .ok (.istore 7, 2) := by decide +kernel
theorem dX7_tryWish_74 : decode cX7_tryWish 74 = .ok (.aload_n 0, 1) := by decide +kernel
theorem dX7_tryWish_75 : decode cX7_tryWish 75 = .ok (.iload_n 2, 1) := by decide +kernel
theorem dX7_tryWish_76 : decode cX7_tryWish 76 = .ok (.invokevirtual 75, 3) := by decide +kernel
theorem dX7_tryWish_79 : decode cX7_tryWish 79 = .ok (.ifCond .eq 25, 3) := by decide +kernel
theorem dX7_tryWish_82 : decode cX7_tryWish 82 = .ok (.aload_n 0, 1) := by decide +kernel
theorem dX7_tryWish_83 : decode cX7_tryWish 83 = .ok (.iload_n 3, 1) := by decide +kernel
theorem dX7_tryWish_84 : decode cX7_tryWish 84 = .ok (.invokevirtual 75, 3) := by decide +kernel
theorem dX7_tryWish_87 : decode cX7_tryWish 87 = .ok (.ifCond .eq 17, 3) := by decide +kernel
theorem dX7_tryWish_90 : decode cX7_tryWish 90 = .ok (.aload_n 0, 1) := by decide +kernel
theorem dX7_tryWish_91 : decode cX7_tryWish 91 = .ok (.iload 4, 2) := by decide +kernel
theorem dX7_tryWish_93 : decode cX7_tryWish 93 = .ok (.invokevirtual 75, 3) := by decide +kernel
theorem dX7_tryWish_96 : decode cX7_tryWish 96 = .ok (.ifCond .eq 8, 3) := by decide +kernel
theorem dX7_tryWish_99 : decode cX7_tryWish 99 = .ok (.iload 7, 2) := by decide +kernel
theorem dX7_tryWish_101 : decode cX7_tryWish 101 = .ok (.ifCond .eq 6, 3) := by decide +kernel
theorem dX7_tryWish_104 : decode cX7_tryWish 104 = .ok (.bipush (-2), 2) := by decide +kernel
theorem dX7_tryWish_106 : decode cX7_tryWish 106 = .ok (.ireturn, 1) := by decide +kernel
theorem dX7_tryWish_107 : decode cX7_tryWish 107 = .ok (.aload_n 0, 1) := by decide +kernel
theorem dX7_tryWish_108 : decode cX7_tryWish 108 = .ok (.iload 5, 2) := by decide +kernel
theorem dX7_tryWish_110 : decode cX7_tryWish 110 = .ok (.invokevirtual 78, 3) := by decide +kernel
theorem dX7_tryWish_113 : decode cX7_tryWish 113 = .ok (.aload_n 0, 1) := by decide +kernel
theorem dX7_tryWish_114 : decode cX7_tryWish 114 = .ok (.iload_n 1, 1) := by decide +kernel
theorem dX7_tryWish_115 : decode cX7_tryWish 115 = .ok (.iconst 2, 1) := by decide +kernel
theorem dX7_tryWish_116 : decode cX7_tryWish 116 = .ok (.iload 6, 2) := by decide +kernel
theorem dX7_tryWish_118 : decode cX7_tryWish 118 = .ok (.invokevirtual 62, 3) := by decide +kernel
theorem dX7_tryWish_121 : decode cX7_tryWish 121 = .ok (.aload_n 0, 1) := by decide +kernel
theorem dX7_tryWish_122 : decode cX7_tryWish 122 = .ok (.iload_n 1, 1) := by decide +kernel
theorem dX7_tryWish_123 : decode cX7_tryWish 123 = .ok (.iconst 3, 1) := by decide +kernel
theorem dX7_tryWish_124 : decode cX7_tryWish 124 = .ok (.iload_n 2, 1) := by decide +kernel
theorem dX7_tryWish_125 : decode cX7_tryWish 125 = .ok (.invokevirtual 62, 3) := by decide +kernel
theorem dX7_tryWish_128 : decode cX7_tryWish 128 = .ok (.aload_n 0, 1) := by decide +kernel
theorem dX7_tryWish_129 : decode cX7_tryWish 129 = .ok (.iload_n 1, 1) := by decide +kernel
theorem dX7_tryWish_130 : decode cX7_tryWish 130 = .ok (.iconst 4, 1) := by decide +kernel
theorem dX7_tryWish_131 : decode cX7_tryWish 131 = .ok (.iload_n 3, 1) := by decide +kernel
theorem dX7_tryWish_132 : decode cX7_tryWish 132 = .ok (.invokevirtual 62, 3) := by decide +kernel
theorem dX7_tryWish_135 : decode cX7_tryWish 135 = .ok (.aload_n 0, 1) := by decide +kernel
theorem dX7_tryWish_136 : decode cX7_tryWish 136 = .ok (.iload_n 1, 1) := by decide +kernel
theorem dX7_tryWish_137 : decode cX7_tryWish 137 = .ok (.iconst 5, 1) := by decide +kernel
theorem dX7_tryWish_138 : decode cX7_tryWish 138 = .ok (.iload 4, 2) := by decide +kernel
theorem dX7_tryWish_140 : decode cX7_tryWish 140 = .ok (.invokevirtual 62, 3) := by decide +kernel
theorem dX7_tryWish_143 : decode cX7_tryWish 143 = .ok (.iload 6, 2) := by decide +kernel
theorem dX7_tryWish_145 : decode cX7_tryWish 145 = .ok (.ireturn, 1) := by decide +kernel
theorem dX7_wish_0 : decode cX7_wish 0 = .ok (.aload_n 0, 1) := by decide +kernel
theorem dX7_wish_1 : decode cX7_wish 1 = .ok (.iload_n 1, 1) := by decide +kernel
theorem dX7_wish_2 : decode cX7_wish 2 = .ok (.iload_n 2, 1) := by decide +kernel
theorem dX7_wish_3 : decode cX7_wish 3 = .ok (.iload_n 3, 1) := by decide +kernel
theorem dX7_wish_4 : decode cX7_wish 4 = .ok (.iload 4, 2) := by decide +kernel
theorem dX7_wish_6 : decode cX7_wish 6 = .ok (.iconst 1, 1) := by decide +kernel
theorem dX7_wish_7 : decode cX7_wish 7 = .ok (.invokevirtual 82, 3) := by decide +kernel
theorem dX7_wish_10 : decode cX7_wish 10 = .ok (.ireturn, 1) := by decide +kernel
theorem dX7_tryFine_0 : decode cX7_tryFine 0 = .ok (.aload_n 0, 1) := by decide +kernel
theorem dX7_tryFine_1 : decode cX7_tryFine 1 = .ok (.iload_n 1, 1) := by decide +kernel
theorem dX7_tryFine_2 : decode cX7_tryFine 2 = .ok (.invokevirtual 72, 3) := by decide +kernel
theorem dX7_tryFine_5 : decode cX7_tryFine 5 = .ok (.ifCond .ne 5, 3) := by decide +kernel
theorem dX7_tryFine_8 : decode cX7_tryFine 8 = .ok (.iconst (-1), 1) := by decide +kernel
theorem dX7_tryFine_9 : decode cX7_tryFine 9 = .ok (.ireturn, 1) := by decide +kernel
theorem dX7_tryFine_10 : decode cX7_tryFine 10 = .ok (.iload_n 2, 1) := by decide +kernel
theorem dX7_tryFine_11 : decode cX7_tryFine 11 = .ok (.iconst 1, 1) := by decide +kernel
theorem dX7_tryFine_12 : decode cX7_tryFine 12 = .ok (.bipush 9, 2) := by decide +kernel
theorem dX7_tryFine_14 : decode cX7_tryFine 14 = .ok (.invokestatic 35, 3) := by decide +kernel
theorem dX7_tryFine_17 : decode cX7_tryFine 17 = .ok (.ifCond .ne 6, 3) := by decide +kernel
theorem dX7_tryFine_20 : decode cX7_tryFine 20 = .ok (.bipush (-2), 2) := by decide +kernel
theorem dX7_tryFine_22 : decode cX7_tryFine 22 = .ok (.ireturn, 1) := by decide +kernel
theorem dX7_tryFine_23 : decode cX7_tryFine 23 = .ok (.aload_n 0, 1) := by decide +kernel
theorem dX7_tryFine_24 : decode cX7_tryFine 24 = .ok (.iload_n 3, 1) := by decide +kernel
theorem dX7_tryFine_25 : decode cX7_tryFine 25 = .ok (.invokevirtual 78, 3) := by decide +kernel
theorem dX7_tryFine_28 : decode cX7_tryFine 28 = .ok (.aload_n 0, 1) := by decide +kernel
theorem dX7_tryFine_29 : decode cX7_tryFine 29 = .ok (.iload_n 1, 1) := by decide +kernel
theorem dX7_tryFine_30 : decode cX7_tryFine 30 = .ok (.iload_n 2, 1) := by decide +kernel
theorem dX7_tryFine_31 : decode cX7_tryFine 31 = .ok (.invokevirtual 86, 3) := by decide +kernel
theorem dX7_tryFine_34 : decode cX7_tryFine 34 = .ok (.aload_n 0, 1) := by decide +kernel
theorem dX7_tryFine_35 : decode cX7_tryFine 35 = .ok (.iload_n 1, 1) := by decide +kernel
theorem dX7_tryFine_36 : decode cX7_tryFine 36 = .ok (.aload_n 0, 1) := by decide +kernel
theorem dX7_tryFine_37 : decode cX7_tryFine 37 = .ok (.getfield 7, 3) := by decide +kernel
theorem dX7_tryFine_40 : decode cX7_tryFine 40 = .ok (.bipush 10, 2) := by decide +kernel
theorem dX7_tryFine_42 : decode cX7_tryFine 42 = .ok (.iaload, 1) := by decide +kernel
theorem dX7_tryFine_43 : decode cX7_tryFine 43 = .ok (.invokevirtual 69, 3) := by decide +kernel
theorem dX7_tryFine_46 : decode cX7_tryFine 46 = .ok (.ireturn, 1) := by decide +kernel
theorem dX7_fine_0 : decode cX7_fine 0 = .ok (.aload_n 0, 1) := by decide +kernel
theorem dX7_fine_1 : decode cX7_fine 1 = .ok (.iload_n 1, 1) := by decide +kernel
theorem dX7_fine_2 : decode cX7_fine 2 = .ok (.iload_n 2, 1) := by decide +kernel
theorem dX7_fine_3 : decode cX7_fine 3 = .ok (.iconst 1, 1) := by decide +kernel
theorem dX7_fine_4 : decode cX7_fine 4 = .ok (.invokevirtual 90, 3) := by decide +kernel
theorem dX7_fine_7 : decode cX7_fine 7 = .ok (.ireturn, 1) := by decide +kernel
theorem dX7_waiting_0 : decode cX7_waiting 0 = .ok (.iconst 0, 1) := by decide +kernel
theorem dX7_waiting_1 : decode cX7_waiting 1 = .ok (.istore_n 1, 1) := by decide +kernel
theorem dX7_waiting_2 : decode cX7_waiting 2 = .ok (.iconst 0, 1) := by decide +kernel
theorem dX7_waiting_3 : decode cX7_waiting 3 = .ok (.istore_n 2, 1) := by decide +kernel
theorem dX7_waiting_4 : decode cX7_waiting 4 = .ok (.iload_n 2, 1) := by decide +kernel
theorem dX7_waiting_5 : decode cX7_waiting 5 = .ok (.aload_n 0, 1) := by decide +kernel
theorem dX7_waiting_6 : decode cX7_waiting 6 = .ok (.getfield 7, 3) := by decide +kernel
theorem dX7_waiting_9 : decode cX7_waiting 9 = .ok (.bipush 13, 2) := by decide +kernel
theorem dX7_waiting_11 : decode cX7_waiting 11 = .ok (.iaload, 1) := by decide +kernel
theorem dX7_waiting_12 : decode cX7_waiting 12 = .ok (.if_icmp .ge 19, 3) := by decide +kernel
theorem dX7_waiting_15 : decode cX7_waiting 15 = .ok (.iload_n 1, 1) := by decide +kernel
theorem dX7_waiting_16 : decode cX7_waiting 16 = .ok (.aload_n 0, 1) := by decide +kernel
theorem dX7_waiting_17 : decode cX7_waiting 17 = .ok (.iload_n 2, 1) := by decide +kernel
theorem dX7_waiting_18 : decode cX7_waiting 18 = .ok (.bipush 8, 2) := by decide +kernel
theorem dX7_waiting_20 : decode cX7_waiting 20 = .ok (.invokevirtual 66, 3) := by decide +kernel
theorem dX7_waiting_23 : decode cX7_waiting 23 = .ok (.iadd, 1) := by decide +kernel
theorem dX7_waiting_24 : decode cX7_waiting 24 = .ok (.istore_n 1, 1) := by decide +kernel
theorem dX7_waiting_25 : decode cX7_waiting 25 = .ok (.iinc 2 1, 3) := by decide +kernel
theorem dX7_waiting_28 : decode cX7_waiting 28 = .ok (.goto (-24), 3) := by decide +kernel
theorem dX7_waiting_31 : decode cX7_waiting 31 = .ok (.iload_n 1, 1) := by decide +kernel
theorem dX7_waiting_32 : decode cX7_waiting 32 = .ok (.ireturn, 1) := by decide +kernel
theorem dX7_tryCheck_0 : decode cX7_tryCheck 0 = .ok (.aload_n 0, 1) := by decide +kernel
theorem dX7_tryCheck_1 : decode cX7_tryCheck 1 = .ok (.iload_n 1, 1) := by decide +kernel
theorem dX7_tryCheck_2 : decode cX7_tryCheck 2 = .ok (.invokevirtual 72, 3) := by decide +kernel
theorem dX7_tryCheck_5 : decode cX7_tryCheck 5 = .ok (.ifCond .ne 5, 3) := by decide +kernel
theorem dX7_tryCheck_8 : decode cX7_tryCheck 8 = .ok (.iconst (-1), 1) := by decide +kernel
theorem dX7_tryCheck_9 : decode cX7_tryCheck 9 = .ok (.ireturn, 1) := by decide +kernel
theorem dX7_tryCheck_10 : decode cX7_tryCheck 10 = .ok (.aload_n 0, 1) := by decide +kernel
theorem dX7_tryCheck_11 : decode cX7_tryCheck 11 = .ok (.iload_n 1, 1) := by decide +kernel
theorem dX7_tryCheck_12 : decode cX7_tryCheck 12 = .ok (.bipush 8, 2) := by decide +kernel
theorem dX7_tryCheck_14 : decode cX7_tryCheck 14 = .ok (.invokevirtual 66, 3) := by decide +kernel
theorem dX7_tryCheck_17 : decode cX7_tryCheck 17 = .ok (.iconst 1, 1) := by decide +kernel
theorem dX7_tryCheck_18 : decode cX7_tryCheck 18 = .ok (.if_icmp .ne 6, 3) := by decide +kernel
theorem dX7_tryCheck_21 : decode cX7_tryCheck 21 = .ok (.bipush (-5), 2) := by decide +kernel
theorem dX7_tryCheck_23 : decode cX7_tryCheck 23 = .ok (.ireturn, 1) := by decide +kernel
theorem dX7_tryCheck_24 : decode cX7_tryCheck 24 = .ok (.aload_n 0, 1) := by decide +kernel
theorem dX7_tryCheck_25 : decode cX7_tryCheck 25 = .ok (.iload_n 2, 1) := by decide +kernel
theorem dX7_tryCheck_26 : decode cX7_tryCheck 26 = .ok (.invokevirtual 78, 3) := by decide +kernel
theorem dX7_tryCheck_29 : decode cX7_tryCheck 29 = .ok (.aload_n 0, 1) := by decide +kernel
theorem dX7_tryCheck_30 : decode cX7_tryCheck 30 = .ok (.iload_n 1, 1) := by decide +kernel
theorem dX7_tryCheck_31 : decode cX7_tryCheck 31 = .ok (.bipush 8, 2) := by decide +kernel
theorem dX7_tryCheck_33 : decode cX7_tryCheck 33 = .ok (.iconst 1, 1) := by decide +kernel
theorem dX7_tryCheck_34 : decode cX7_tryCheck 34 = .ok (.invokevirtual 62, 3) := by decide +kernel
theorem dX7_tryCheck_37 : decode cX7_tryCheck 37 = .ok (.aload_n 0, 1) := by decide +kernel
theorem dX7_tryCheck_38 : decode cX7_tryCheck 38 = .ok (.invokevirtual 94, 3) := by decide +kernel
theorem dX7_tryCheck_41 : decode cX7_tryCheck 41 = .ok (.ireturn, 1) := by decide +kernel
theorem dX7_check_0 : decode cX7_check 0 = .ok (.aload_n 0, 1) := by decide +kernel
theorem dX7_check_1 : decode cX7_check 1 = .ok (.iload_n 1, 1) := by decide +kernel
theorem dX7_check_2 : decode cX7_check 2 = .ok (.iconst 1, 1) := by decide +kernel
theorem dX7_check_3 : decode cX7_check 3 = .ok (.invokevirtual 98, 3) := by decide +kernel
theorem dX7_check_6 : decode cX7_check 6 = .ok (.ireturn, 1) := by decide +kernel
theorem dX7_trySwap_0 : decode cX7_trySwap 0 = .ok (.aload_n 0, 1) := by decide +kernel
theorem dX7_trySwap_1 : decode cX7_trySwap 1 = .ok (.iload_n 1, 1) := by decide +kernel
theorem dX7_trySwap_2 : decode cX7_trySwap 2 = .ok (.invokevirtual 72, 3) := by decide +kernel
theorem dX7_trySwap_5 : decode cX7_trySwap 5 = .ok (.ifCond .eq 16, 3) := by decide +kernel
theorem dX7_trySwap_8 : decode cX7_trySwap 8 = .ok (.aload_n 0, 1) := by decide +kernel
theorem dX7_trySwap_9 : decode cX7_trySwap 9 = .ok (.iload_n 2, 1) := by decide +kernel
theorem dX7_trySwap_10 : decode cX7_trySwap 10 = .ok (.invokevirtual 72, 3) := by decide +kernel
theorem dX7_trySwap_13 : decode cX7_trySwap 13 = .ok (.ifCond .eq 8, 3) := by decide +kernel
theorem dX7_trySwap_16 : decode cX7_trySwap 16 = .ok (.iload_n 1, 1) := by decide +kernel
theorem dX7_trySwap_17 : decode cX7_trySwap 17 = .ok (.iload_n 2, 1) := by decide +kernel
theorem dX7_trySwap_18 : decode cX7_trySwap 18 = .ok (.if_icmp .ne 5, 3) := by decide +kernel
theorem dX7_trySwap_21 : decode cX7_trySwap 21 = .ok (.iconst (-1), 1) := by decide +kernel
theorem dX7_trySwap_22 : decode cX7_trySwap 22 = .ok (.ireturn, 1) := by decide +kernel
theorem dX7_trySwap_23 : decode cX7_trySwap 23 = .ok (.aload_n 0, 1) := by decide +kernel
theorem dX7_trySwap_24 : decode cX7_trySwap 24 = .ok (.getfield 7, 3) := by decide +kernel
theorem dX7_trySwap_27 : decode cX7_trySwap 27 = .ok (.bipush 14, 2) := by decide +kernel
theorem dX7_trySwap_29 : decode cX7_trySwap 29 = .ok (.iaload, 1) := by decide +kernel
theorem dX7_trySwap_30 : decode cX7_trySwap 30 = .ok (.bipush 8, 2) := by decide +kernel
theorem dX7_trySwap_32 : decode cX7_trySwap 32 = .ok (.if_icmp .ne 6, 3) := by decide +kernel
theorem dX7_trySwap_35 : decode cX7_trySwap 35 = .ok (.bipush (-4), 2) := by decide +kernel
theorem dX7_trySwap_37 : decode cX7_trySwap 37 = .ok (.ireturn, 1) := by decide +kernel
theorem dX7_trySwap_38 : decode cX7_trySwap 38 = .ok (.aload_n 0, 1) := by decide +kernel
theorem dX7_trySwap_39 : decode cX7_trySwap 39 = .ok (.iload_n 3, 1) := by decide +kernel
theorem dX7_trySwap_40 : decode cX7_trySwap 40 = .ok (.invokevirtual 78, 3) := by decide +kernel
theorem dX7_trySwap_43 : decode cX7_trySwap 43 = .ok (.aload_n 0, 1) := by decide +kernel
theorem dX7_trySwap_44 : decode cX7_trySwap 44 = .ok (.getfield 7, 3) := by decide +kernel
theorem dX7_trySwap_47 : decode cX7_trySwap 47 = .ok (.bipush 16, 2) := by decide +kernel
theorem dX7_trySwap_49 : decode cX7_trySwap 49 = .ok (.iconst 2, 1) := by decide +kernel
theorem dX7_trySwap_50 : decode cX7_trySwap 50 = .ok (.aload_n 0, 1) := by decide +kernel
theorem dX7_trySwap_51 : decode cX7_trySwap 51 = .ok (.getfield 7, 3) := by decide +kernel
theorem dX7_trySwap_54 : decode cX7_trySwap 54 = .ok (.bipush 14, 2) := by decide +kernel
theorem dX7_trySwap_56 : decode cX7_trySwap 56 = .ok (.iaload, 1) := by decide +kernel
theorem dX7_trySwap_57 : decode cX7_trySwap 57 = .ok (.imul, 1) := by decide +kernel
theorem dX7_trySwap_58 : decode cX7_trySwap 58 = .ok (.iadd, 1) := by decide +kernel
theorem dX7_trySwap_59 : decode cX7_trySwap 59 = .ok (.iload_n 1, 1) := by decide +kernel
theorem dX7_trySwap_60 : decode cX7_trySwap 60 = .ok (.iastore, 1) := by decide +kernel
theorem dX7_trySwap_61 : decode cX7_trySwap 61 = .ok (.aload_n 0, 1) := by decide +kernel
theorem dX7_trySwap_62 : decode cX7_trySwap 62 = .ok (.getfield 7, 3) := by decide +kernel
theorem dX7_trySwap_65 : decode cX7_trySwap 65 = .ok (.bipush 16, 2) := by decide +kernel
theorem dX7_trySwap_67 : decode cX7_trySwap 67 = .ok (.iconst 2, 1) := by decide +kernel
theorem dX7_trySwap_68 : decode cX7_trySwap 68 = .ok (.aload_n 0, 1) := by decide +kernel
theorem dX7_trySwap_69 : decode cX7_trySwap 69 = .ok (.getfield 7, 3) := by decide +kernel
theorem dX7_trySwap_72 : decode cX7_trySwap 72 = .ok (.bipush 14, 2) := by decide +kernel
theorem dX7_trySwap_74 : decode cX7_trySwap 74 = .ok (.iaload, 1) := by decide +kernel
theorem dX7_trySwap_75 : decode cX7_trySwap 75 = .ok (.imul, 1) := by decide +kernel
theorem dX7_trySwap_76 : decode cX7_trySwap 76 = .ok (.iadd, 1) := by decide +kernel
theorem dX7_trySwap_77 : decode cX7_trySwap 77 = .ok (.iconst 1, 1) := by decide +kernel
theorem dX7_trySwap_78 : decode cX7_trySwap 78 = .ok (.iadd, 1) := by decide +kernel
theorem dX7_trySwap_79 : decode cX7_trySwap 79 = .ok (.iload_n 2, 1) := by decide +kernel
theorem dX7_trySwap_80 : decode cX7_trySwap 80 = .ok (.iastore, 1) := by decide +kernel
theorem dX7_trySwap_81 : decode cX7_trySwap 81 = .ok (.aload_n 0, 1) := by decide +kernel
theorem dX7_trySwap_82 : decode cX7_trySwap 82 = .ok (.getfield 7, 3) := by decide +kernel
theorem dX7_trySwap_85 : decode cX7_trySwap 85 = .ok (.bipush 14, 2) := by decide +kernel
theorem dX7_trySwap_87 : decode cX7_trySwap 87 = .ok (.dup2, 1) := by decide +kernel
theorem dX7_trySwap_88 : decode cX7_trySwap 88 = .ok (.iaload, 1) := by decide +kernel
theorem dX7_trySwap_89 : decode cX7_trySwap 89 = .ok (.iconst 1, 1) := by decide +kernel
theorem dX7_trySwap_90 : decode cX7_trySwap 90 = .ok (.iadd, 1) := by decide +kernel
theorem dX7_trySwap_91 : decode cX7_trySwap 91 = .ok (.iastore, 1) := by decide +kernel
theorem dX7_trySwap_92 : decode cX7_trySwap 92 = .ok (.aload_n 0, 1) := by decide +kernel
theorem dX7_trySwap_93 : decode cX7_trySwap 93 = .ok (.getfield 7, 3) := by decide +kernel
theorem dX7_trySwap_96 : decode cX7_trySwap 96 = .ok (.bipush 14, 2) := by decide +kernel
theorem dX7_trySwap_98 : decode cX7_trySwap 98 = .ok (.iaload, 1) := by decide +kernel
theorem dX7_trySwap_99 : decode cX7_trySwap 99 = .ok (.ireturn, 1) := by decide +kernel
theorem dX7_swap_0 : decode cX7_swap 0 = .ok (.aload_n 0, 1) := by decide +kernel
theorem dX7_swap_1 : decode cX7_swap 1 = .ok (.iload_n 1, 1) := by decide +kernel
theorem dX7_swap_2 : decode cX7_swap 2 = .ok (.iload_n 2, 1) := by decide +kernel
theorem dX7_swap_3 : decode cX7_swap 3 = .ok (.iconst 1, 1) := by decide +kernel
theorem dX7_swap_4 : decode cX7_swap 4 = .ok (.invokevirtual 102, 3) := by decide +kernel
theorem dX7_swap_7 : decode cX7_swap 7 = .ok (.ireturn, 1) := by decide +kernel
theorem dX7_balance_0 : decode cX7_balance 0 = .ok (.aload_n 0, 1) := by decide +kernel
theorem dX7_balance_1 : decode cX7_balance 1 = .ok (.iload_n 1, 1) := by decide +kernel
theorem dX7_balance_2 : decode cX7_balance 2 = .ok (.bipush 15, 2) := by decide +kernel
theorem dX7_balance_4 : decode cX7_balance 4 = .ok (.invokevirtual 66, 3) := by decide +kernel
theorem dX7_balance_7 : decode cX7_balance 7 = .ok (.aload_n 0, 1) := by decide +kernel
theorem dX7_balance_8 : decode cX7_balance 8 = .ok (.iload_n 1, 1) := by decide +kernel
theorem dX7_balance_9 : decode cX7_balance 9 = .ok (.bipush 16, 2) := by decide +kernel
theorem dX7_balance_11 : decode cX7_balance 11 = .ok (.invokevirtual 66, 3) := by decide +kernel
theorem dX7_balance_14 : decode cX7_balance 14 = .ok (.isub, 1) := by decide +kernel
theorem dX7_balance_15 : decode cX7_balance 15 = .ok (.aload_n 0, 1) := by decide +kernel
theorem dX7_balance_16 : decode cX7_balance 16 = .ok (.iload_n 1, 1) := by decide +kernel
theorem dX7_balance_17 : decode cX7_balance 17 = .ok (.bipush 17, 2) := by decide +kernel
theorem dX7_balance_19 : decode cX7_balance 19 = .ok (.invokevirtual 66, 3) := by decide +kernel
theorem dX7_balance_22 : decode cX7_balance 22 = .ok (.isub, 1) := by decide +kernel
theorem dX7_balance_23 : decode cX7_balance 23 = .ok (.aload_n 0, 1) := by decide +kernel
theorem dX7_balance_24 : decode cX7_balance 24 = .ok (.iload_n 1, 1) := by decide +kernel
theorem dX7_balance_25 : decode cX7_balance 25 = .ok (.bipush 18, 2) := by decide +kernel
theorem dX7_balance_27 : decode cX7_balance 27 = .ok (.invokevirtual 66, 3) := by decide +kernel
theorem dX7_balance_30 : decode cX7_balance 30 = .ok (.isub, 1) := by decide +kernel
theorem dX7_balance_31 : decode cX7_balance 31 = .ok (.ireturn, 1) := by decide +kernel
theorem dX7_pay_0 : decode cX7_pay 0 = .ok (.aload_n 0, 1) := by decide +kernel
theorem dX7_pay_1 : decode cX7_pay 1 = .ok (.iload_n 1, 1) := by decide +kernel
theorem dX7_pay_2 : decode cX7_pay 2 = .ok (.invokevirtual 72, 3) := by decide +kernel
theorem dX7_pay_5 : decode cX7_pay 5 = .ok (.ifCond .ne 5, 3) := by decide +kernel
theorem dX7_pay_8 : decode cX7_pay 8 = .ok (.iconst (-1), 1) := by decide +kernel
theorem dX7_pay_9 : decode cX7_pay 9 = .ok (.ireturn, 1) := by decide +kernel
theorem dX7_pay_10 : decode cX7_pay 10 = .ok (.iload_n 2, 1) := by decide +kernel
theorem dX7_pay_11 : decode cX7_pay 11 = .ok (.iconst 1, 1) := by decide +kernel
theorem dX7_pay_12 : decode cX7_pay 12 = .ok (.ldc 105, 2) := by decide +kernel
theorem dX7_pay_14 : decode cX7_pay 14 = .ok (.invokestatic 35, 3) := by decide +kernel
theorem dX7_pay_17 : decode cX7_pay 17 = .ok (.ifCond .ne 6, 3) := by decide +kernel
theorem dX7_pay_20 : decode cX7_pay 20 = .ok (.bipush (-2), 2) := by decide +kernel
theorem dX7_pay_22 : decode cX7_pay 22 = .ok (.ireturn, 1) := by decide +kernel
theorem dX7_pay_23 : decode cX7_pay 23 = .ok (.aload_n 0, 1) := by decide +kernel
theorem dX7_pay_24 : decode cX7_pay 24 = .ok (.invokevirtual 43, 3) := by decide +kernel
theorem dX7_pay_27 : decode cX7_pay 27 = .ok (.aload_n 0, 1) := by decide +kernel
theorem dX7_pay_28 : decode cX7_pay 28 = .ok (.iload_n 1, 1) := by decide +kernel
theorem dX7_pay_29 : decode cX7_pay 29 = .ok (.bipush 15, 2) := by decide +kernel
theorem dX7_pay_31 : decode cX7_pay 31 = .ok (.aload_n 0, 1) := by decide +kernel
theorem dX7_pay_32 : decode cX7_pay 32 = .ok (.iload_n 1, 1) := by decide +kernel
theorem dX7_pay_33 : decode cX7_pay 33 = .ok (.bipush 15, 2) := by decide +kernel
theorem dX7_pay_35 : decode cX7_pay 35 = .ok (.invokevirtual 66, 3) := by decide +kernel
theorem dX7_pay_38 : decode cX7_pay 38 = .ok (.iload_n 2, 1) := by decide +kernel
theorem dX7_pay_39 : decode cX7_pay 39 = .ok (.iadd, 1) := by decide +kernel
theorem dX7_pay_40 : decode cX7_pay 40 = .ok (.invokevirtual 62, 3) := by decide +kernel
theorem dX7_pay_43 : decode cX7_pay 43 = .ok (.aload_n 0, 1) := by decide +kernel
theorem dX7_pay_44 : decode cX7_pay 44 = .ok (.iload_n 1, 1) := by decide +kernel
theorem dX7_pay_45 : decode cX7_pay 45 = .ok (.invokevirtual 106, 3) := by decide +kernel
theorem dX7_pay_48 : decode cX7_pay 48 = .ok (.ifCond .lt 7, 3) := by decide +kernel
theorem dX7_pay_51 : decode cX7_pay 51 = .ok (.iconst 1, 1) := by decide +kernel
theorem dX7_pay_52 : decode cX7_pay 52 = .ok (.goto 4, 3) := by decide +kernel
theorem dX7_pay_55 : decode cX7_pay 55 = .ok (.iconst 0, 1) := by decide +kernel
theorem dX7_pay_56 : decode cX7_pay 56 = .ok (.ireturn, 1) := by decide +kernel
theorem dX7_nextToCheck_0 : decode cX7_nextToCheck 0 = .ok (.bipush (-6), 2) := by decide +kernel
theorem dX7_nextToCheck_2 : decode cX7_nextToCheck 2 = .ok (.istore_n 1, 1) := by decide +kernel
theorem dX7_nextToCheck_3 : decode cX7_nextToCheck 3 = .ok (.iconst 0, 1) := by decide +kernel
theorem dX7_nextToCheck_4 : decode cX7_nextToCheck 4 = .ok (.istore_n 2, 1) := by decide +kernel
theorem dX7_nextToCheck_5 : decode cX7_nextToCheck 5 = .ok (.iload_n 2, 1) := by decide +kernel
theorem dX7_nextToCheck_6 : decode cX7_nextToCheck 6 = .ok (.aload_n 0, 1) := by decide +kernel
theorem dX7_nextToCheck_7 : decode cX7_nextToCheck 7 = .ok (.getfield 7, 3) := by decide +kernel
theorem dX7_nextToCheck_10 : decode cX7_nextToCheck 10 = .ok (.bipush 13, 2) := by decide +kernel
theorem dX7_nextToCheck_12 : decode cX7_nextToCheck 12 = .ok (.iaload, 1) := by decide +kernel
theorem dX7_nextToCheck_13 : decode cX7_nextToCheck 13 = .ok (.if_icmp .ge 57, 3) := by decide +kernel
theorem dX7_nextToCheck_16 : decode cX7_nextToCheck 16 = .ok (.aload_n 0, 1) := by decide +kernel
theorem dX7_nextToCheck_17 : decode cX7_nextToCheck 17 = .ok (.iload_n 2, 1) := by decide +kernel
theorem dX7_nextToCheck_18 : decode cX7_nextToCheck 18 = .ok (.bipush 8, 2) := by decide +kernel
theorem dX7_nextToCheck_20 : decode cX7_nextToCheck 20 = .ok (.invokevirtual 66, 3) := by decide +kernel
theorem dX7_nextToCheck_23 : decode cX7_nextToCheck 23 = .ok (.iconst 1, 1) := by decide +kernel
theorem dX7_nextToCheck_24 : decode cX7_nextToCheck 24 = .ok (.if_icmp .ne 7, 3) := by decide +kernel
theorem dX7_nextToCheck_27 : decode cX7_nextToCheck 27 = .ok (.iconst 1, 1) := by decide +kernel
theorem dX7_nextToCheck_28 : decode cX7_nextToCheck 28 = .ok (.goto 4, 3) := by decide +kernel
theorem dX7_nextToCheck_31 : decode cX7_nextToCheck 31 = .ok (.iconst 0, 1) := by decide +kernel
theorem dX7_nextToCheck_32 : decode cX7_nextToCheck 32 = .ok (.istore_n 3, 1) := by decide +kernel
theorem dX7_nextToCheck_33 : decode cX7_nextToCheck 33 = .ok (.iload_n 3, 1) := by decide +kernel
theorem dX7_nextToCheck_34 : decode cX7_nextToCheck 34 = .ok (.ifCond .eq 28, 3) := by decide +kernel
theorem dX7_nextToCheck_37 : decode cX7_nextToCheck 37 = .ok (.iload_n 1, 1) := by decide +kernel
theorem dX7_nextToCheck_38 : decode cX7_nextToCheck 38 = .ok (.ifCond .lt 20, 3) := by decide +kernel
theorem dX7_nextToCheck_41 : decode cX7_nextToCheck 41 = .ok (.aload_n 0, 1) := by decide +kernel
theorem dX7_nextToCheck_42 : decode cX7_nextToCheck 42 = .ok (.iload_n 2, 1) := by decide +kernel
theorem dX7_nextToCheck_43 : decode cX7_nextToCheck 43 = .ok (.bipush 7, 2) := by decide +kernel
theorem dX7_nextToCheck_45 : decode cX7_nextToCheck 45 = .ok (.invokevirtual 66, 3) := by decide +kernel
theorem dX7_nextToCheck_48 : decode cX7_nextToCheck 48 = .ok (.aload_n 0, 1) := by decide +kernel
theorem dX7_nextToCheck_49 : decode cX7_nextToCheck 49 = .ok (.iload_n 1, 1) := by decide +kernel
theorem dX7_nextToCheck_50 : decode cX7_nextToCheck 50 = .ok (.bipush 7, 2) := by decide +kernel
theorem dX7_nextToCheck_52 : decode cX7_nextToCheck 52 = .ok (.invokevirtual 66, 3) := by decide +kernel
theorem dX7_nextToCheck_55 : decode cX7_nextToCheck 55 = .ok (.if_icmp .ge 7, 3) := by decide +kernel
theorem dX7_nextToCheck_58 : decode cX7_nextToCheck 58 = .ok (.iload_n 2, 1) := by decide +kernel
theorem dX7_nextToCheck_59 : decode cX7_nextToCheck 59 = .ok (.goto 4, 3) := by decide +kernel
theorem dX7_nextToCheck_62 : decode cX7_nextToCheck 62 = .ok (.iload_n 1, 1) := by decide +kernel
theorem dX7_nextToCheck_63 : decode cX7_nextToCheck 63 = .ok (.istore_n 1, 1) := by decide +kernel
theorem dX7_nextToCheck_64 : decode cX7_nextToCheck 64 = .ok (.iinc 2 1, 3) := by decide +kernel
theorem dX7_nextToCheck_67 : decode cX7_nextToCheck 67 = .ok (.goto (-62), 3) := by decide +kernel
theorem dX7_nextToCheck_70 : decode cX7_nextToCheck 70 = .ok (.iload_n 1, 1) := by decide +kernel
theorem dX7_nextToCheck_71 : decode cX7_nextToCheck 71 = .ok (.ireturn, 1) := by decide +kernel
theorem dX7_checkAll_0 : decode cX7_checkAll 0 = .ok (.iconst 0, 1) := by decide +kernel
theorem dX7_checkAll_1 : decode cX7_checkAll 1 = .ok (.istore_n 1, 1) := by decide +kernel
theorem dX7_checkAll_2 : decode cX7_checkAll 2 = .ok (.iload_n 1, 1) := by decide +kernel
theorem dX7_checkAll_3 : decode cX7_checkAll 3 = .ok (.aload_n 0, 1) := by decide +kernel
theorem dX7_checkAll_4 : decode cX7_checkAll 4 = .ok (.getfield 7, 3) := by decide +kernel
theorem dX7_checkAll_7 : decode cX7_checkAll 7 = .ok (.iconst 2, 1) := by decide +kernel
theorem dX7_checkAll_8 : decode cX7_checkAll 8 = .ok (.iaload, 1) := by decide +kernel
theorem dX7_checkAll_9 : decode cX7_checkAll 9 = .ok (.if_icmp .ge 47, 3) := by decide +kernel
theorem dX7_checkAll_12 : decode cX7_checkAll 12 = .ok (.aload_n 0, 1) := by decide +kernel
theorem dX7_checkAll_13 : decode cX7_checkAll 13 = .ok (.invokevirtual 109, 3) := by decide +kernel
theorem dX7_checkAll_16 : decode cX7_checkAll 16 = .ok (.istore_n 2, 1) := by decide +kernel
theorem dX7_checkAll_17 : decode cX7_checkAll 17 = .ok (.iload_n 2, 1) := by decide +kernel
theorem dX7_checkAll_18 : decode cX7_checkAll 18 = .ok (.ifCond .lt 32, 3) := by decide +kernel
theorem dX7_checkAll_21 : decode cX7_checkAll 21 = .ok (.aload_n 0, 1) := by decide +kernel
theorem dX7_checkAll_22 : decode cX7_checkAll 22 = .ok (.iload_n 2, 1) := by decide +kernel
theorem dX7_checkAll_23 : decode cX7_checkAll 23 = .ok (.bipush 7, 2) := by decide +kernel
theorem dX7_checkAll_25 : decode cX7_checkAll 25 = .ok (.aload_n 0, 1) := by decide +kernel
theorem dX7_checkAll_26 : decode cX7_checkAll 26 = .ok (.getfield 7, 3) := by decide +kernel
theorem dX7_checkAll_29 : decode cX7_checkAll 29 = .ok (.bipush 10, 2) := by decide +kernel
theorem dX7_checkAll_31 : decode cX7_checkAll 31 = .ok (.iaload, 1) := by decide +kernel
theorem dX7_checkAll_32 : decode cX7_checkAll 32 = .ok (.aload_n 0, 1) := by decide +kernel
theorem dX7_checkAll_33 : decode cX7_checkAll 33 = .ok (.getfield 7, 3) := by decide +kernel
theorem dX7_checkAll_36 : decode cX7_checkAll 36 = .ok (.iconst 1, 1) := by decide +kernel
theorem dX7_checkAll_37 : decode cX7_checkAll 37 = .ok (.iaload, 1) := by decide +kernel
theorem dX7_checkAll_38 : decode cX7_checkAll 38 = .ok (.iadd, 1) := by decide +kernel
theorem dX7_checkAll_39 : decode cX7_checkAll 39 = .ok (.invokevirtual 62, 3) := by decide +kernel
theorem dX7_checkAll_42 : decode cX7_checkAll 42 = .ok (.aload_n 0, 1) := by decide +kernel
theorem dX7_checkAll_43 : decode cX7_checkAll 43 = .ok (.iload_n 2, 1) := by decide +kernel
theorem dX7_checkAll_44 : decode cX7_checkAll 44 = .ok (.bipush 8, 2) := by decide +kernel
theorem dX7_checkAll_46 : decode cX7_checkAll 46 = .ok (.iconst 0, 1) := by decide +kernel
theorem dX7_checkAll_47 : decode cX7_checkAll 47 = .ok (.invokevirtual 62, 3) := by decide +kernel
theorem dX7_checkAll_50 : decode cX7_checkAll 50 = .ok (.iinc 1 1, 3) := by decide +kernel
theorem dX7_checkAll_53 : decode cX7_checkAll 53 = .ok (.goto (-51), 3) := by decide +kernel
theorem dX7_checkAll_56 : decode cX7_checkAll 56 = .ok (.return_, 1) := by decide +kernel
theorem dX7_whyOut_0 : decode cX7_whyOut 0 = .ok (.aload_n 0, 1) := by decide +kernel
theorem dX7_whyOut_1 : decode cX7_whyOut 1 = .ok (.iload_n 1, 1) := by decide +kernel
theorem dX7_whyOut_2 : decode cX7_whyOut 2 = .ok (.iconst 2, 1) := by decide +kernel
theorem dX7_whyOut_3 : decode cX7_whyOut 3 = .ok (.invokevirtual 66, 3) := by decide +kernel
theorem dX7_whyOut_6 : decode cX7_whyOut 6 = .ok (.ifCond .ne 7, 3) := by decide +kernel
theorem dX7_whyOut_9 : decode cX7_whyOut 9 = .ok (.iconst 1, 1) := by decide +kernel
theorem dX7_whyOut_10 : decode cX7_whyOut 10 = .ok (.goto 46, 3) := by decide +kernel
theorem dX7_whyOut_13 : decode cX7_whyOut 13 = .ok (.aload_n 0, 1) := by decide +kernel
theorem dX7_whyOut_14 : decode cX7_whyOut 14 = .ok (.iload_n 1, 1) := by decide +kernel
theorem dX7_whyOut_15 : decode cX7_whyOut 15 = .ok (.bipush 7, 2) := by decide +kernel
theorem dX7_whyOut_17 : decode cX7_whyOut 17 = .ok (.invokevirtual 66, 3) := by decide +kernel
theorem dX7_whyOut_20 : decode cX7_whyOut 20 = .ok (.aload_n 0, 1) := by decide +kernel
theorem dX7_whyOut_21 : decode cX7_whyOut 21 = .ok (.getfield 7, 3) := by decide +kernel
theorem dX7_whyOut_24 : decode cX7_whyOut 24 = .ok (.bipush 10, 2) := by decide +kernel
theorem dX7_whyOut_26 : decode cX7_whyOut 26 = .ok (.iaload, 1) := by decide +kernel
theorem dX7_whyOut_27 : decode cX7_whyOut 27 = .ok (.if_icmp .ge 7, 3) := by decide +kernel
theorem dX7_whyOut_30 : decode cX7_whyOut 30 = .ok (.iconst 2, 1) := by decide +kernel
theorem dX7_whyOut_31 : decode cX7_whyOut 31 = .ok (.goto 25, 3) := by decide +kernel
theorem dX7_whyOut_34 : decode cX7_whyOut 34 = .ok (.aload_n 0, 1) := by decide +kernel
theorem dX7_whyOut_35 : decode cX7_whyOut 35 = .ok (.iload_n 1, 1) := by decide +kernel
theorem dX7_whyOut_36 : decode cX7_whyOut 36 = .ok (.bipush 9, 2) := by decide +kernel
theorem dX7_whyOut_38 : decode cX7_whyOut 38 = .ok (.invokevirtual 66, 3) := by decide +kernel
theorem dX7_whyOut_41 : decode cX7_whyOut 41 = .ok (.aload_n 0, 1) := by decide +kernel
theorem dX7_whyOut_42 : decode cX7_whyOut 42 = .ok (.getfield 7, 3) := by decide +kernel
theorem dX7_whyOut_45 : decode cX7_whyOut 45 = .ok (.bipush 10, 2) := by decide +kernel
theorem dX7_whyOut_47 : decode cX7_whyOut 47 = .ok (.iaload, 1) := by decide +kernel
theorem dX7_whyOut_48 : decode cX7_whyOut 48 = .ok (.if_icmp .lt 7, 3) := by decide +kernel
theorem dX7_whyOut_51 : decode cX7_whyOut 51 = .ok (.iconst 3, 1) := by decide +kernel
theorem dX7_whyOut_52 : decode cX7_whyOut 52 = .ok (.goto 4, 3) := by decide +kernel
theorem dX7_whyOut_55 : decode cX7_whyOut 55 = .ok (.iconst 0, 1) := by decide +kernel
theorem dX7_whyOut_56 : decode cX7_whyOut 56 = .ok (.ireturn, 1) := by decide +kernel
theorem dX7_beginDay_0 : decode cX7_beginDay 0 = .ok (.iconst 0, 1) := by decide +kernel
theorem dX7_beginDay_1 : decode cX7_beginDay 1 = .ok (.istore_n 1, 1) := by decide +kernel
theorem dX7_beginDay_2 : decode cX7_beginDay 2 = .ok (.iload_n 1, 1) := by decide +kernel
theorem dX7_beginDay_3 : decode cX7_beginDay 3 = .ok (.aload_n 0, 1) := by decide +kernel
theorem dX7_beginDay_4 : decode cX7_beginDay 4 = .ok (.getfield 7, 3) := by decide +kernel
theorem dX7_beginDay_7 : decode cX7_beginDay 7 = .ok (.bipush 13, 2) := by decide +kernel
theorem dX7_beginDay_9 : decode cX7_beginDay 9 = .ok (.iaload, 1) := by decide +kernel
theorem dX7_beginDay_10 : decode cX7_beginDay 10 = .ok (.if_icmp .ge 68, 3) := by decide +kernel
theorem dX7_beginDay_13 : decode cX7_beginDay 13 = .ok (.aload_n 0, 1) := by decide +kernel
theorem dX7_beginDay_14 : decode cX7_beginDay 14 = .ok (.iload_n 1, 1) := by decide +kernel
theorem dX7_beginDay_15 : decode cX7_beginDay 15 = .ok (.bipush 13, 2) := by decide +kernel
theorem dX7_beginDay_17 : decode cX7_beginDay 17 = .ok (.aload_n 0, 1) := by decide +kernel
theorem dX7_beginDay_18 : decode cX7_beginDay 18 = .ok (.iload_n 1, 1) := by decide +kernel
theorem dX7_beginDay_19 : decode cX7_beginDay 19 = .ok (.invokevirtual 112, 3) := by decide +kernel
theorem dX7_beginDay_22 : decode cX7_beginDay 22 = .ok (.invokevirtual 62, 3) := by decide +kernel
theorem dX7_beginDay_25 : decode cX7_beginDay 25 = .ok (.aload_n 0, 1) := by decide +kernel
theorem dX7_beginDay_26 : decode cX7_beginDay 26 = .ok (.iload_n 1, 1) := by decide +kernel
theorem dX7_beginDay_27 : decode cX7_beginDay 27 = .ok (.bipush 19, 2) := by decide +kernel
theorem dX7_beginDay_29 : decode cX7_beginDay 29 = .ok (.aload_n 0, 1) := by decide +kernel
theorem dX7_beginDay_30 : decode cX7_beginDay 30 = .ok (.iload_n 1, 1) := by decide +kernel
theorem dX7_beginDay_31 : decode cX7_beginDay 31 = .ok (.invokevirtual 112, 3) := by decide +kernel
theorem dX7_beginDay_34 : decode cX7_beginDay 34 = .ok (.ifCond .ne 7, 3) := by decide +kernel
theorem dX7_beginDay_37 : decode cX7_beginDay 37 = .ok (.iconst 1, 1) := by decide +kernel
theorem dX7_beginDay_38 : decode cX7_beginDay 38 = .ok (.goto 4, 3) := by decide +kernel
theorem dX7_beginDay_41 : decode cX7_beginDay 41 = .ok (.iconst 0, 1) := by decide +kernel
theorem dX7_beginDay_42 : decode cX7_beginDay 42 = .ok (.invokevirtual 62, 3) := by decide +kernel
theorem dX7_beginDay_45 : decode cX7_beginDay 45 = .ok (.aload_n 0, 1) := by decide +kernel
theorem dX7_beginDay_46 : decode cX7_beginDay 46 = .ok (.iload_n 1, 1) := by decide +kernel
theorem dX7_beginDay_47 : decode cX7_beginDay 47 = .ok (.bipush 11, 2) := by decide +kernel
theorem dX7_beginDay_49 : decode cX7_beginDay 49 = .ok (.bipush (-6), 2) := by decide +kernel
theorem dX7_beginDay_51 : decode cX7_beginDay 51 = .ok (.invokevirtual 62, 3) := by decide +kernel
theorem dX7_beginDay_54 : decode cX7_beginDay 54 = .ok (.aload_n 0, 1) := by decide +kernel
theorem dX7_beginDay_55 : decode cX7_beginDay 55 = .ok (.iload_n 1, 1) := by decide +kernel
theorem dX7_beginDay_56 : decode cX7_beginDay 56 = .ok (.bipush 12, 2) := by decide +kernel
theorem dX7_beginDay_58 : decode cX7_beginDay 58 = .ok (.bipush (-6), 2) := by decide +kernel
theorem dX7_beginDay_60 : decode cX7_beginDay 60 = .ok (.invokevirtual 62, 3) := by decide +kernel
theorem dX7_beginDay_63 : decode cX7_beginDay 63 = .ok (.aload_n 0, 1) := by decide +kernel
theorem dX7_beginDay_64 : decode cX7_beginDay 64 = .ok (.iload_n 1, 1) := by decide +kernel
theorem dX7_beginDay_65 : decode cX7_beginDay 65 = .ok (.bipush 14, 2) := by decide +kernel
theorem dX7_beginDay_67 : decode cX7_beginDay 67 = .ok (.bipush (-6), 2) := by decide +kernel
theorem dX7_beginDay_69 : decode cX7_beginDay 69 = .ok (.invokevirtual 62, 3) := by decide +kernel
theorem dX7_beginDay_72 : decode cX7_beginDay 72 = .ok (.iinc 1 1, 3) := by decide +kernel
theorem dX7_beginDay_75 : decode cX7_beginDay 75 = .ok (.goto (-73), 3) := by decide +kernel
theorem dX7_beginDay_78 : decode cX7_beginDay 78 = .ok (.iconst 0, 1) := by decide +kernel
theorem dX7_beginDay_79 : decode cX7_beginDay 79 = .ok (.istore_n 1, 1) := by decide +kernel
theorem dX7_beginDay_80 : decode cX7_beginDay 80 = .ok (.iload_n 1, 1) := by decide +kernel
theorem dX7_beginDay_81 : decode cX7_beginDay 81 = .ok (.aload_n 0, 1) := by decide +kernel
theorem dX7_beginDay_82 : decode cX7_beginDay 82 = .ok (.getfield 7, 3) := by decide +kernel
theorem dX7_beginDay_85 : decode cX7_beginDay 85 = .ok (.bipush 12, 2) := by decide +kernel
theorem dX7_beginDay_87 : decode cX7_beginDay 87 = .ok (.iaload, 1) := by decide +kernel
theorem dX7_beginDay_88 : decode cX7_beginDay 88 = .ok (.if_icmp .ge 24, 3) := by decide +kernel
theorem dX7_beginDay_91 : decode cX7_beginDay 91 = .ok (.aload_n 0, 1) := by decide +kernel
theorem dX7_beginDay_92 : decode cX7_beginDay 92 = .ok (.getfield 7, 3) := by decide +kernel
theorem dX7_beginDay_95 : decode cX7_beginDay 95 = .ok (.bipush 32, 2) := by decide +kernel
theorem dX7_beginDay_97 : decode cX7_beginDay 97 = .ok (.iconst 4, 1) := by decide +kernel
theorem dX7_beginDay_98 : decode cX7_beginDay 98 = .ok (.iload_n 1, 1) := by decide +kernel
theorem dX7_beginDay_99 : decode cX7_beginDay 99 = .ok (.imul, 1) := by decide +kernel
theorem dX7_beginDay_100 : decode cX7_beginDay 100 = .ok (.iadd, 1) := by decide +kernel
theorem dX7_beginDay_101 : decode cX7_beginDay 101 = .ok (.iconst 3, 1) := by decide +kernel
theorem dX7_beginDay_102 : decode cX7_beginDay 102 = .ok (.iadd, 1) := by decide +kernel
theorem dX7_beginDay_103 : decode cX7_beginDay 103 = .ok (.bipush (-6), 2) := by decide +kernel
theorem dX7_beginDay_105 : decode cX7_beginDay 105 = .ok (.iastore, 1) := by decide +kernel
theorem dX7_beginDay_106 : decode cX7_beginDay 106 = .ok (.iinc 1 1, 3) := by decide +kernel
theorem dX7_beginDay_109 : decode cX7_beginDay 109 = .ok (.goto (-29), 3) := by decide +kernel
theorem dX7_beginDay_112 : decode cX7_beginDay 112 = .ok (.return_, 1) := by decide +kernel
theorem dX7_isKindAt_0 : decode cX7_isKindAt 0 = .ok (.aload_n 0, 1) := by decide +kernel
theorem dX7_isKindAt_1 : decode cX7_isKindAt 1 = .ok (.iload_n 1, 1) := by decide +kernel
theorem dX7_isKindAt_2 : decode cX7_isKindAt 2 = .ok (.invokevirtual 54, 3) := by decide +kernel
theorem dX7_isKindAt_5 : decode cX7_isKindAt 5 = .ok (.ifCond .eq 12, 3) := by decide +kernel
theorem dX7_isKindAt_8 : decode cX7_isKindAt 8 = .ok (.aload_n 0, 1) := by decide +kernel
theorem dX7_isKindAt_9 : decode cX7_isKindAt 9 = .ok (.iload_n 1, 1) := by decide +kernel
theorem dX7_isKindAt_10 : decode cX7_isKindAt 10 = .ok (.iconst 3, 1) := by decide +kernel
theorem dX7_isKindAt_11 : decode cX7_isKindAt 11 = .ok (.invokevirtual 58, 3) := by decide +kernel
theorem dX7_isKindAt_14 : decode cX7_isKindAt 14 = .ok (.goto 5, 3) := by decide +kernel
theorem dX7_isKindAt_17 : decode cX7_isKindAt 17 = .ok (.bipush (-6), 2) := by decide +kernel
theorem dX7_isKindAt_19 : decode cX7_isKindAt 19 = .ok (.istore 4, 2) := by decide +kernel
theorem dX7_isKindAt_21 : decode cX7_isKindAt 21 = .ok (.iload 4, 2) := by decide +kernel
theorem dX7_isKindAt_23 : decode cX7_isKindAt 23 = .ok (.ifCond .lt 24, 3) := by decide +kernel
theorem dX7_isKindAt_26 : decode cX7_isKindAt 26 = .ok (.iload 4, 2) := by decide +kernel
theorem dX7_isKindAt_28 : decode cX7_isKindAt 28 = .ok (.iload_n 3, 1) := by decide +kernel
theorem dX7_isKindAt_29 : decode cX7_isKindAt 29 = .ok (.if_icmp .eq 18, 3) := by decide +kernel
theorem dX7_isKindAt_32 : decode cX7_isKindAt 32 = .ok (.aload_n 0, 1) := by decide +kernel
theorem dX7_isKindAt_33 : decode cX7_isKindAt 33 = .ok (.iload 4, 2) := by decide +kernel
theorem dX7_isKindAt_35 : decode cX7_isKindAt 35 = .ok (.iconst 0, 1) := by decide +kernel
theorem dX7_isKindAt_36 : decode cX7_isKindAt 36 = .ok (.invokevirtual 66, 3) := by decide +kernel
theorem dX7_isKindAt_39 : decode cX7_isKindAt 39 = .ok (.iload_n 2, 1) := by decide +kernel
theorem dX7_isKindAt_40 : decode cX7_isKindAt 40 = .ok (.if_icmp .ne 7, 3) := by decide +kernel
theorem dX7_isKindAt_43 : decode cX7_isKindAt 43 = .ok (.iconst 1, 1) := by decide +kernel
theorem dX7_isKindAt_44 : decode cX7_isKindAt 44 = .ok (.goto 4, 3) := by decide +kernel
theorem dX7_isKindAt_47 : decode cX7_isKindAt 47 = .ok (.iconst 0, 1) := by decide +kernel
theorem dX7_isKindAt_48 : decode cX7_isKindAt 48 = .ok (.ireturn, 1) := by decide +kernel
theorem dX7_isApart_0 : decode cX7_isApart 0 = .ok (.aload_n 0, 1) := by decide +kernel
theorem dX7_isApart_1 : decode cX7_isApart 1 = .ok (.iload_n 2, 1) := by decide +kernel
theorem dX7_isApart_2 : decode cX7_isApart 2 = .ok (.iconst 1, 1) := by decide +kernel
theorem dX7_isApart_3 : decode cX7_isApart 3 = .ok (.isub, 1) := by decide +kernel
theorem dX7_isApart_4 : decode cX7_isApart 4 = .ok (.aload_n 0, 1) := by decide +kernel
theorem dX7_isApart_5 : decode cX7_isApart 5 = .ok (.iload_n 1, 1) := by decide +kernel
theorem dX7_isApart_6 : decode cX7_isApart 6 = .ok (.iconst 0, 1) := by decide +kernel
theorem dX7_isApart_7 : decode cX7_isApart 7 = .ok (.invokevirtual 66, 3) := by decide +kernel
theorem dX7_isApart_10 : decode cX7_isApart 10 = .ok (.iload_n 1, 1) := by decide +kernel
theorem dX7_isApart_11 : decode cX7_isApart 11 = .ok (.invokevirtual 115, 3) := by decide +kernel
theorem dX7_isApart_14 : decode cX7_isApart 14 = .ok (.ifCond .ne 24, 3) := by decide +kernel
theorem dX7_isApart_17 : decode cX7_isApart 17 = .ok (.aload_n 0, 1) := by decide +kernel
theorem dX7_isApart_18 : decode cX7_isApart 18 = .ok (.iload_n 2, 1) := by decide +kernel
theorem dX7_isApart_19 : decode cX7_isApart 19 = .ok (.iconst 1, 1) := by decide +kernel
theorem dX7_isApart_20 : decode cX7_isApart 20 = .ok (.iadd, 1) := by decide +kernel
theorem dX7_isApart_21 : decode cX7_isApart 21 = .ok (.aload_n 0, 1) := by decide +kernel
theorem dX7_isApart_22 : decode cX7_isApart 22 = .ok (.iload_n 1, 1) := by decide +kernel
theorem dX7_isApart_23 : decode cX7_isApart 23 = .ok (.iconst 0, 1) := by decide +kernel
theorem dX7_isApart_24 : decode cX7_isApart 24 = .ok (.invokevirtual 66, 3) := by decide +kernel
theorem dX7_isApart_27 : decode cX7_isApart 27 = .ok (.iload_n 1, 1) := by decide +kernel
theorem dX7_isApart_28 : decode cX7_isApart 28 = .ok (.invokevirtual 115, 3) := by decide +kernel
theorem dX7_isApart_31 : decode cX7_isApart 31 = .ok (.ifCond .ne 7, 3) := by decide +kernel
theorem dX7_isApart_34 : decode cX7_isApart 34 = .ok (.iconst 1, 1) := by decide +kernel
theorem dX7_isApart_35 : decode cX7_isApart 35 = .ok (.goto 4, 3) := by decide +kernel
theorem dX7_isApart_38 : decode cX7_isApart 38 = .ok (.iconst 0, 1) := by decide +kernel
theorem dX7_isApart_39 : decode cX7_isApart 39 = .ok (.ireturn, 1) := by decide +kernel
theorem dX7_put_0 : decode cX7_put 0 = .ok (.aload_n 0, 1) := by decide +kernel
theorem dX7_put_1 : decode cX7_put 1 = .ok (.iload_n 1, 1) := by decide +kernel
theorem dX7_put_2 : decode cX7_put 2 = .ok (.bipush 11, 2) := by decide +kernel
theorem dX7_put_4 : decode cX7_put 4 = .ok (.iload_n 2, 1) := by decide +kernel
theorem dX7_put_5 : decode cX7_put 5 = .ok (.invokevirtual 62, 3) := by decide +kernel
theorem dX7_put_8 : decode cX7_put 8 = .ok (.aload_n 0, 1) := by decide +kernel
theorem dX7_put_9 : decode cX7_put 9 = .ok (.getfield 7, 3) := by decide +kernel
theorem dX7_put_12 : decode cX7_put 12 = .ok (.bipush 32, 2) := by decide +kernel
theorem dX7_put_14 : decode cX7_put 14 = .ok (.iconst 4, 1) := by decide +kernel
theorem dX7_put_15 : decode cX7_put 15 = .ok (.iload_n 2, 1) := by decide +kernel
theorem dX7_put_16 : decode cX7_put 16 = .ok (.imul, 1) := by decide +kernel
theorem dX7_put_17 : decode cX7_put 17 = .ok (.iadd, 1) := by decide +kernel
theorem dX7_put_18 : decode cX7_put 18 = .ok (.iconst 3, 1) := by decide +kernel
theorem dX7_put_19 : decode cX7_put 19 = .ok (.iadd, 1) := by decide +kernel
theorem dX7_put_20 : decode cX7_put 20 = .ok (.iload_n 1, 1) := by decide +kernel
theorem dX7_put_21 : decode cX7_put 21 = .ok (.iastore, 1) := by decide +kernel
theorem dX7_put_22 : decode cX7_put 22 = .ok (.return_, 1) := by decide +kernel
theorem dX7_choose_0 : decode cX7_choose 0 = .ok (.iconst 0, 1) := by decide +kernel
theorem dX7_choose_1 : decode cX7_choose 1 = .ok (.istore_n 2, 1) := by decide +kernel
theorem dX7_choose_2 : decode cX7_choose 2 = .ok (.iload_n 2, 1) := by decide +kernel
theorem dX7_choose_3 : decode cX7_choose 3 = .ok (.aload_n 0, 1) := by decide +kernel
theorem dX7_choose_4 : decode cX7_choose 4 = .ok (.iload_n 1, 1) := by decide +kernel
theorem dX7_choose_5 : decode cX7_choose 5 = .ok (.iconst 2, 1) := by decide +kernel
theorem dX7_choose_6 : decode cX7_choose 6 = .ok (.invokevirtual 66, 3) := by decide +kernel
theorem dX7_choose_9 : decode cX7_choose 9 = .ok (.if_icmp .ge 43, 3) := by decide +kernel
theorem dX7_choose_12 : decode cX7_choose 12 = .ok (.aload_n 0, 1) := by decide +kernel
theorem dX7_choose_13 : decode cX7_choose 13 = .ok (.iload_n 1, 1) := by decide +kernel
theorem dX7_choose_14 : decode cX7_choose 14 = .ok (.iconst 3, 1) := by decide +kernel
theorem dX7_choose_15 : decode cX7_choose 15 = .ok (.iload_n 2, 1) := by decide +kernel
theorem dX7_choose_16 : decode cX7_choose 16 = .ok (.iadd, 1) := by decide +kernel
theorem dX7_choose_17 : decode cX7_choose 17 = .ok (.invokevirtual 66, 3) := by decide +kernel
theorem dX7_choose_20 : decode cX7_choose 20 = .ok (.istore_n 3, 1) := by decide +kernel
theorem dX7_choose_21 : decode cX7_choose 21 = .ok (.aload_n 0, 1) := by decide +kernel
theorem dX7_choose_22 : decode cX7_choose 22 = .ok (.iload_n 3, 1) := by decide +kernel
theorem dX7_choose_23 : decode cX7_choose 23 = .ok (.iconst 3, 1) := by decide +kernel
theorem dX7_choose_24 : decode cX7_choose 24 = .ok (.invokevirtual 58, 3) := by decide +kernel
theorem dX7_choose_27 : decode cX7_choose 27 = .ok (.ifCond .ge 19, 3) := by decide +kernel
theorem dX7_choose_30 : decode cX7_choose 30 = .ok (.aload_n 0, 1) := by decide +kernel
theorem dX7_choose_31 : decode cX7_choose 31 = .ok (.iload_n 1, 1) := by decide +kernel
theorem dX7_choose_32 : decode cX7_choose 32 = .ok (.iload_n 3, 1) := by decide +kernel
theorem dX7_choose_33 : decode cX7_choose 33 = .ok (.invokevirtual 118, 3) := by decide +kernel
theorem dX7_choose_36 : decode cX7_choose 36 = .ok (.ifCond .eq 10, 3) := by decide +kernel
theorem dX7_choose_39 : decode cX7_choose 39 = .ok (.aload_n 0, 1) := by decide +kernel
theorem dX7_choose_40 : decode cX7_choose 40 = .ok (.iload_n 1, 1) := by decide +kernel
theorem dX7_choose_41 : decode cX7_choose 41 = .ok (.iload_n 3, 1) := by decide +kernel
theorem dX7_choose_42 : decode cX7_choose 42 = .ok (.invokevirtual 122, 3) := by decide +kernel
theorem dX7_choose_45 : decode cX7_choose 45 = .ok (.return_, 1) := by decide +kernel
theorem dX7_choose_46 : decode cX7_choose 46 = .ok (.iinc 2 1, 3) := by decide +kernel
theorem dX7_choose_49 : decode cX7_choose 49 = .ok (.goto (-47), 3) := by decide +kernel
theorem dX7_choose_52 : decode cX7_choose 52 = .ok (.aload_n 0, 1) := by decide +kernel
theorem dX7_choose_53 : decode cX7_choose 53 = .ok (.iload_n 1, 1) := by decide +kernel
theorem dX7_choose_54 : decode cX7_choose 54 = .ok (.bipush 13, 2) := by decide +kernel
theorem dX7_choose_56 : decode cX7_choose 56 = .ok (.iconst 4, 1) := by decide +kernel
theorem dX7_choose_57 : decode cX7_choose 57 = .ok (.invokevirtual 62, 3) := by decide +kernel
theorem dX7_choose_60 : decode cX7_choose 60 = .ok (.return_, 1) := by decide +kernel
theorem dX7_isToDraw_0 : decode cX7_isToDraw 0 = .ok (.aload_n 0, 1) := by decide +kernel
theorem dX7_isToDraw_1 : decode cX7_isToDraw 1 = .ok (.iload_n 1, 1) := by decide +kernel
theorem dX7_isToDraw_2 : decode cX7_isToDraw 2 = .ok (.bipush 19, 2) := by decide +kernel
theorem dX7_isToDraw_4 : decode cX7_isToDraw 4 = .ok (.invokevirtual 66, 3) := by decide +kernel
theorem dX7_isToDraw_7 : decode cX7_isToDraw 7 = .ok (.iconst 1, 1) := by decide +kernel
theorem dX7_isToDraw_8 : decode cX7_isToDraw 8 = .ok (.if_icmp .ne 17, 3) := by decide +kernel
theorem dX7_isToDraw_11 : decode cX7_isToDraw 11 = .ok (.aload_n 0, 1) := by decide +kernel
theorem dX7_isToDraw_12 : decode cX7_isToDraw 12 = .ok (.iload_n 1, 1) := by decide +kernel
theorem dX7_isToDraw_13 : decode cX7_isToDraw 13 = .ok (.bipush 14, 2) := by decide +kernel
theorem dX7_isToDraw_15 : decode cX7_isToDraw 15 = .ok (.invokevirtual 66, 3) := by decide +kernel
theorem dX7_isToDraw_18 : decode cX7_isToDraw 18 = .ok (.ifCond .ge 7, 3) := by decide +kernel
theorem dX7_isToDraw_21 : decode cX7_isToDraw 21 = .ok (.iconst 1, 1) := by decide +kernel
theorem dX7_isToDraw_22 : decode cX7_isToDraw 22 = .ok (.goto 4, 3) := by decide +kernel
theorem dX7_isToDraw_25 : decode cX7_isToDraw 25 = .ok (.iconst 0, 1) := by decide +kernel
theorem dX7_isToDraw_26 : decode cX7_isToDraw 26 = .ok (.ireturn, 1) := by decide +kernel
theorem dX7_ticketsOf_0 : decode cX7_ticketsOf 0 = .ok (.iconst 1, 1) := by decide +kernel
theorem dX7_ticketsOf_1 : decode cX7_ticketsOf 1 = .ok (.aload_n 0, 1) := by decide +kernel
theorem dX7_ticketsOf_2 : decode cX7_ticketsOf 2 = .ok (.iload_n 1, 1) := by decide +kernel
theorem dX7_ticketsOf_3 : decode cX7_ticketsOf 3 = .ok (.bipush 6, 2) := by decide +kernel
theorem dX7_ticketsOf_5 : decode cX7_ticketsOf 5 = .ok (.invokevirtual 66, 3) := by decide +kernel
theorem dX7_ticketsOf_8 : decode cX7_ticketsOf 8 = .ok (.iadd, 1) := by decide +kernel
theorem dX7_ticketsOf_9 : decode cX7_ticketsOf 9 = .ok (.istore_n 2, 1) := by decide +kernel
theorem dX7_ticketsOf_10 : decode cX7_ticketsOf 10 = .ok (.iload_n 2, 1) := by decide +kernel
theorem dX7_ticketsOf_11 : decode cX7_ticketsOf 11 = .ok (.aload_n 0, 1) := by decide +kernel
theorem dX7_ticketsOf_12 : decode cX7_ticketsOf 12 = .ok (.getfield 7, 3) := by decide +kernel
theorem dX7_ticketsOf_15 : decode cX7_ticketsOf 15 = .ok (.iconst 0, 1) := by decide +kernel
theorem dX7_ticketsOf_16 : decode cX7_ticketsOf 16 = .ok (.iaload, 1) := by decide +kernel
theorem dX7_ticketsOf_17 : decode cX7_ticketsOf 17 = .ok (.if_icmp .ge 7, 3) := by decide +kernel
theorem dX7_ticketsOf_20 : decode cX7_ticketsOf 20 = .ok (.iload_n 2, 1) := by decide +kernel
theorem dX7_ticketsOf_21 : decode cX7_ticketsOf 21 = .ok (.goto 9, 3) := by decide +kernel
theorem dX7_ticketsOf_24 : decode cX7_ticketsOf 24 = .ok (.aload_n 0, 1) := by decide +kernel
theorem dX7_ticketsOf_25 : decode cX7_ticketsOf 25 = .ok (.getfield 7, 3) := by decide +kernel
theorem dX7_ticketsOf_28 : decode cX7_ticketsOf 28 = .ok (.iconst 0, 1) := by decide +kernel
theorem dX7_ticketsOf_29 : decode cX7_ticketsOf 29 = .ok (.iaload, 1) := by decide +kernel
theorem dX7_ticketsOf_30 : decode cX7_ticketsOf 30 = .ok (.ireturn, 1) := by decide +kernel
theorem dX7_drawOne_0 : decode cX7_drawOne 0 = .ok (.aload_n 0, 1) := by decide +kernel
theorem dX7_drawOne_1 : decode cX7_drawOne 1 = .ok (.getfield 7, 3) := by decide +kernel
theorem dX7_drawOne_4 : decode cX7_drawOne 4 = .ok (.bipush 11, 2) := by decide +kernel
theorem dX7_drawOne_6 : decode cX7_drawOne 6 = .ok (.bipush 75, 2) := by decide +kernel
theorem dX7_drawOne_8 : decode cX7_drawOne 8 = .ok (.aload_n 0, 1) := by decide +kernel
theorem dX7_drawOne_9 : decode cX7_drawOne 9 = .ok (.getfield 7, 3) := by decide +kernel
theorem dX7_drawOne_12 : decode cX7_drawOne 12 = .ok (.bipush 11, 2) := by decide +kernel
theorem dX7_drawOne_14 : decode cX7_drawOne 14 = .ok (.iaload, 1) := by decide +kernel
theorem dX7_drawOne_15 : decode cX7_drawOne 15 = .ok (.imul, 1) := by decide +kernel
theorem dX7_drawOne_16 : decode cX7_drawOne 16 = .ok (.bipush 74, 2) := by decide +kernel
theorem dX7_drawOne_18 : decode cX7_drawOne 18 = .ok (.iadd, 1) := by decide +kernel
theorem dX7_drawOne_19 : decode cX7_drawOne 19 = .ok (.ldc 125, 2) := by decide +kernel
theorem dX7_drawOne_21 : decode cX7_drawOne 21 = .ok (.irem, 1) := by decide +kernel
theorem dX7_drawOne_22 : decode cX7_drawOne 22 = .ok (.iastore, 1) := by decide +kernel
theorem dX7_drawOne_23 : decode cX7_drawOne 23 = .ok (.aload_n 0, 1) := by decide +kernel
theorem dX7_drawOne_24 : decode cX7_drawOne 24 = .ok (.getfield 7, 3) := by decide +kernel
theorem dX7_drawOne_27 : decode cX7_drawOne 27 = .ok (.bipush 11, 2) := by decide +kernel
theorem dX7_drawOne_29 : decode cX7_drawOne 29 = .ok (.iaload, 1) := by decide +kernel
theorem dX7_drawOne_30 : decode cX7_drawOne 30 = .ok (.iload_n 1, 1) := by decide +kernel
theorem dX7_drawOne_31 : decode cX7_drawOne 31 = .ok (.irem, 1) := by decide +kernel
theorem dX7_drawOne_32 : decode cX7_drawOne 32 = .ok (.istore_n 2, 1) := by decide +kernel
theorem dX7_drawOne_33 : decode cX7_drawOne 33 = .ok (.iconst 0, 1) := by decide +kernel
theorem dX7_drawOne_34 : decode cX7_drawOne 34 = .ok (.istore_n 3, 1) := by decide +kernel
theorem dX7_drawOne_35 : decode cX7_drawOne 35 = .ok (.aload_n 0, 1) := by decide +kernel
theorem dX7_drawOne_36 : decode cX7_drawOne 36 = .ok (.iload_n 3, 1) := by decide +kernel
theorem dX7_drawOne_37 : decode cX7_drawOne 37 = .ok (.invokevirtual 126, 3) := by decide +kernel
theorem dX7_drawOne_40 : decode cX7_drawOne 40 = .ok (.ifCond .eq 12, 3) := by decide +kernel
theorem dX7_drawOne_43 : decode cX7_drawOne 43 = .ok (.iload_n 2, 1) := by decide +kernel
theorem dX7_drawOne_44 : decode cX7_drawOne 44 = .ok (.aload_n 0, 1) := by decide +kernel
theorem dX7_drawOne_45 : decode cX7_drawOne 45 = .ok (.iload_n 3, 1) := by decide +kernel
theorem dX7_drawOne_46 : decode cX7_drawOne 46 = .ok (.invokevirtual 129, 3) := by decide +kernel
theorem dX7_drawOne_49 : decode cX7_drawOne 49 = .ok (.if_icmp .lt 29, 3) := by decide +kernel
theorem dX7_drawOne_52 : decode cX7_drawOne 52 = .ok (.iload_n 2, 1) := by decide +kernel
theorem dX7_drawOne_53 : decode cX7_drawOne 53 = .ok (.aload_n 0, 1) := by decide +kernel
theorem dX7_drawOne_54 : decode cX7_drawOne 54 = .ok (.iload_n 3, 1) := by decide +kernel
theorem dX7_drawOne_55 : decode cX7_drawOne 55 = .ok (.invokevirtual 126, 3) := by decide +kernel
theorem dX7_drawOne_58 : decode cX7_drawOne 58 = .ok (.ifCond .eq 11, 3) := by decide +kernel
theorem dX7_drawOne_61 : decode cX7_drawOne 61 = .ok (.aload_n 0, 1) := by decide +kernel
theorem dX7_drawOne_62 : decode cX7_drawOne 62 = .ok (.iload_n 3, 1) := by decide +kernel
theorem dX7_drawOne_63 : decode cX7_drawOne 63 = .ok (.invokevirtual 129, 3) := by decide +kernel
theorem dX7_drawOne_66 : decode cX7_drawOne 66 = .ok (.goto 4, 3) := by decide +kernel
theorem dX7_drawOne_69 : decode cX7_drawOne 69 = .ok (.iconst 0, 1) := by decide +kernel
theorem dX7_drawOne_70 : decode cX7_drawOne 70 = .ok (.isub, 1) := by decide +kernel
theorem dX7_drawOne_71 : decode cX7_drawOne 71 = .ok (.istore_n 2, 1) := by decide +kernel
theorem dX7_drawOne_72 : decode cX7_drawOne 72 = .ok (.iinc 3 1, 3) := by decide +kernel
theorem dX7_drawOne_75 : decode cX7_drawOne 75 = .ok (.goto (-40), 3) := by decide +kernel
theorem dX7_drawOne_78 : decode cX7_drawOne 78 = .ok (.iload_n 3, 1) := by decide +kernel
theorem dX7_drawOne_79 : decode cX7_drawOne 79 = .ok (.ireturn, 1) := by decide +kernel
theorem dX7_drawAll_0 : decode cX7_drawAll 0 = .ok (.iconst 0, 1) := by decide +kernel
theorem dX7_drawAll_1 : decode cX7_drawAll 1 = .ok (.istore_n 1, 1) := by decide +kernel
theorem dX7_drawAll_2 : decode cX7_drawAll 2 = .ok (.iconst 1, 1) := by decide +kernel
theorem dX7_drawAll_3 : decode cX7_drawAll 3 = .ok (.istore_n 2, 1) := by decide +kernel
theorem dX7_drawAll_4 : decode cX7_drawAll 4 = .ok (.iload_n 2, 1) := by decide +kernel
theorem dX7_drawAll_5 : decode cX7_drawAll 5 = .ok (.ifCond .eq 90, 3) := by decide +kernel
theorem dX7_drawAll_8 : decode cX7_drawAll 8 = .ok (.iconst 0, 1) := by decide +kernel
theorem dX7_drawAll_9 : decode cX7_drawAll 9 = .ok (.istore_n 3, 1) := by decide +kernel
theorem dX7_drawAll_10 : decode cX7_drawAll 10 = .ok (.iconst 0, 1) := by decide +kernel
theorem dX7_drawAll_11 : decode cX7_drawAll 11 = .ok (.istore 4, 2) := by decide +kernel
theorem dX7_drawAll_13 : decode cX7_drawAll 13 = .ok (.iload 4, 2) := by decide +kernel
theorem dX7_drawAll_15 : decode cX7_drawAll 15 = .ok (.aload_n 0, 1) := by decide +kernel
theorem dX7_drawAll_16 : decode cX7_drawAll 16 = .ok (.getfield 7, 3) := by decide +kernel
theorem dX7_drawAll_19 : decode cX7_drawAll 19 = .ok (.bipush 13, 2) := by decide +kernel
theorem dX7_drawAll_21 : decode cX7_drawAll 21 = .ok (.iaload, 1) := by decide +kernel
theorem dX7_drawAll_22 : decode cX7_drawAll 22 = .ok (.if_icmp .ge 31, 3) := by decide +kernel
theorem dX7_drawAll_25 : decode cX7_drawAll 25 = .ok (.iload_n 3, 1) := by decide +kernel
theorem dX7_drawAll_26 : decode cX7_drawAll 26 = .ok (.aload_n 0, 1) := by decide +kernel
theorem dX7_drawAll_27 : decode cX7_drawAll 27 = .ok (.iload 4, 2) := by decide +kernel
theorem dX7_drawAll_29 : decode cX7_drawAll 29 = .ok (.invokevirtual 126, 3) := by decide +kernel
theorem dX7_drawAll_32 : decode cX7_drawAll 32 = .ok (.ifCond .eq 12, 3) := by decide +kernel
theorem dX7_drawAll_35 : decode cX7_drawAll 35 = .ok (.aload_n 0, 1) := by decide +kernel
theorem dX7_drawAll_36 : decode cX7_drawAll 36 = .ok (.iload 4, 2) := by decide +kernel
theorem dX7_drawAll_38 : decode cX7_drawAll 38 = .ok (.invokevirtual 129, 3) := by decide +kernel
theorem dX7_drawAll_41 : decode cX7_drawAll 41 = .ok (.goto 4, 3) := by decide +kernel
theorem dX7_drawAll_44 : decode cX7_drawAll 44 = .ok (.iconst 0, 1) := by decide +kernel
theorem dX7_drawAll_45 : decode cX7_drawAll 45 = .ok (.iadd, 1) := by decide +kernel
theorem dX7_drawAll_46 : decode cX7_drawAll 46 = .ok (.istore_n 3, 1) := by decide +kernel
theorem dX7_drawAll_47 : decode cX7_drawAll 47 = .ok (.iinc 4 1, 3) := by decide +kernel
theorem dX7_drawAll_50 : decode cX7_drawAll 50 = .ok (.goto (-37), 3) := by decide +kernel
theorem dX7_drawAll_53 : decode cX7_drawAll 53 = .ok (.iload_n 3, 1) := by decide +kernel
theorem dX7_drawAll_54 : decode cX7_drawAll 54 = .ok (.ifCond .le 7, 3) := by decide +kernel
theorem dX7_drawAll_57 : decode cX7_drawAll 57 = .ok (.iconst 1, 1) := by decide +kernel
theorem dX7_drawAll_58 : decode cX7_drawAll 58 = .ok (.goto 4, 3) := by decide +kernel
theorem dX7_drawAll_61 : decode cX7_drawAll 61 = .ok (.iconst 0, 1) := by decide +kernel
theorem dX7_drawAll_62 : decode cX7_drawAll 62 = .ok (.istore_n 2, 1) := by decide +kernel
theorem dX7_drawAll_63 : decode cX7_drawAll 63 = .ok (.iload_n 2, 1) := by decide +kernel
theorem dX7_drawAll_64 : decode cX7_drawAll 64 = .ok (.ifCond .eq 28, 3) := by decide +kernel
theorem dX7_drawAll_67 : decode cX7_drawAll 67 = .ok (.aload_n 0, 1) := by decide +kernel
theorem dX7_drawAll_68 : decode cX7_drawAll 68 = .ok (.iload_n 3, 1) := by decide +kernel
theorem dX7_drawAll_69 : decode cX7_drawAll 69 = .ok (.invokevirtual 132, 3) := by decide +kernel
theorem dX7_drawAll_72 : decode cX7_drawAll 72 = .ok (.istore 4, 2) := by decide +kernel
theorem dX7_drawAll_74 : decode cX7_drawAll 74 = .ok (.aload_n 0, 1) := by decide +kernel
theorem dX7_drawAll_75 : decode cX7_drawAll 75 = .ok (.iload 4, 2) := by decide +kernel
theorem dX7_drawAll_77 : decode cX7_drawAll 77 = .ok (.bipush 14, 2) := by decide +kernel
theorem dX7_drawAll_79 : decode cX7_drawAll 79 = .ok (.iload_n 1, 1) := by decide +kernel
theorem dX7_drawAll_80 : decode cX7_drawAll 80 = .ok (.invokevirtual 62, 3) := by decide +kernel
theorem dX7_drawAll_83 : decode cX7_drawAll 83 = .ok (.iinc 1 1, 3) := by decide +kernel
theorem dX7_drawAll_86 : decode cX7_drawAll 86 = .ok (.aload_n 0, 1) := by decide +kernel
theorem dX7_drawAll_87 : decode cX7_drawAll 87 = .ok (.iload 4, 2) := by decide +kernel
theorem dX7_drawAll_89 : decode cX7_drawAll 89 = .ok (.invokevirtual 135, 3) := by decide +kernel
theorem dX7_drawAll_92 : decode cX7_drawAll 92 = .ok (.goto (-88), 3) := by decide +kernel
theorem dX7_drawAll_95 : decode cX7_drawAll 95 = .ok (.return_, 1) := by decide +kernel
theorem dX7_drawnAt_0 : decode cX7_drawnAt 0 = .ok (.iconst 0, 1) := by decide +kernel
theorem dX7_drawnAt_1 : decode cX7_drawnAt 1 = .ok (.istore_n 2, 1) := by decide +kernel
theorem dX7_drawnAt_2 : decode cX7_drawnAt 2 = .ok (.iload_n 2, 1) := by decide +kernel
theorem dX7_drawnAt_3 : decode cX7_drawnAt 3 = .ok (.aload_n 0, 1) := by decide +kernel
theorem dX7_drawnAt_4 : decode cX7_drawnAt 4 = .ok (.getfield 7, 3) := by decide +kernel
theorem dX7_drawnAt_7 : decode cX7_drawnAt 7 = .ok (.bipush 13, 2) := by decide +kernel
theorem dX7_drawnAt_9 : decode cX7_drawnAt 9 = .ok (.iaload, 1) := by decide +kernel
theorem dX7_drawnAt_10 : decode cX7_drawnAt 10 = .ok (.if_icmp .ge 22, 3) := by decide +kernel
theorem dX7_drawnAt_13 : decode cX7_drawnAt 13 = .ok (.aload_n 0, 1) := by decide +kernel
theorem dX7_drawnAt_14 : decode cX7_drawnAt 14 = .ok (.iload_n 2, 1) := by decide +kernel
theorem dX7_drawnAt_15 : decode cX7_drawnAt 15 = .ok (.bipush 14, 2) := by decide +kernel
theorem dX7_drawnAt_17 : decode cX7_drawnAt 17 = .ok (.invokevirtual 66, 3) := by decide +kernel
theorem dX7_drawnAt_20 : decode cX7_drawnAt 20 = .ok (.iload_n 1, 1) := by decide +kernel
theorem dX7_drawnAt_21 : decode cX7_drawnAt 21 = .ok (.if_icmp .ne 5, 3) := by decide +kernel
theorem dX7_drawnAt_24 : decode cX7_drawnAt 24 = .ok (.iload_n 2, 1) := by decide +kernel
theorem dX7_drawnAt_25 : decode cX7_drawnAt 25 = .ok (.ireturn, 1) := by decide +kernel
theorem dX7_drawnAt_26 : decode cX7_drawnAt 26 = .ok (.iinc 2 1, 3) := by decide +kernel
theorem dX7_drawnAt_29 : decode cX7_drawnAt 29 = .ok (.goto (-27), 3) := by decide +kernel
theorem dX7_drawnAt_32 : decode cX7_drawnAt 32 = .ok (.bipush (-6), 2) := by decide +kernel
theorem dX7_drawnAt_34 : decode cX7_drawnAt 34 = .ok (.ireturn, 1) := by decide +kernel
theorem dX7_cook_0 : decode cX7_cook 0 = .ok (.aload_n 0, 1) := by decide +kernel
theorem dX7_cook_1 : decode cX7_cook 1 = .ok (.iload_n 1, 1) := by decide +kernel
theorem dX7_cook_2 : decode cX7_cook 2 = .ok (.iconst 1, 1) := by decide +kernel
theorem dX7_cook_3 : decode cX7_cook 3 = .ok (.invokevirtual 66, 3) := by decide +kernel
theorem dX7_cook_6 : decode cX7_cook 6 = .ok (.istore_n 2, 1) := by decide +kernel
theorem dX7_cook_7 : decode cX7_cook 7 = .ok (.iconst 0, 1) := by decide +kernel
theorem dX7_cook_8 : decode cX7_cook 8 = .ok (.istore_n 3, 1) := by decide +kernel
theorem dX7_cook_9 : decode cX7_cook 9 = .ok (.iload_n 3, 1) := by decide +kernel
theorem dX7_cook_10 : decode cX7_cook 10 = .ok (.iload_n 2, 1) := by decide +kernel
theorem dX7_cook_11 : decode cX7_cook 11 = .ok (.iadd, 1) := by decide +kernel
theorem dX7_cook_12 : decode cX7_cook 12 = .ok (.aload_n 0, 1) := by decide +kernel
theorem dX7_cook_13 : decode cX7_cook 13 = .ok (.getfield 7, 3) := by decide +kernel
theorem dX7_cook_16 : decode cX7_cook 16 = .ok (.bipush 8, 2) := by decide +kernel
theorem dX7_cook_18 : decode cX7_cook 18 = .ok (.iaload, 1) := by decide +kernel
theorem dX7_cook_19 : decode cX7_cook 19 = .ok (.if_icmp .gt 89, 3) := by decide +kernel
theorem dX7_cook_22 : decode cX7_cook 22 = .ok (.aload_n 0, 1) := by decide +kernel
theorem dX7_cook_23 : decode cX7_cook 23 = .ok (.iload_n 1, 1) := by decide +kernel
theorem dX7_cook_24 : decode cX7_cook 24 = .ok (.bipush 12, 2) := by decide +kernel
theorem dX7_cook_26 : decode cX7_cook 26 = .ok (.invokevirtual 66, 3) := by decide +kernel
theorem dX7_cook_29 : decode cX7_cook 29 = .ok (.ifCond .ge 79, 3) := by decide +kernel
theorem dX7_cook_32 : decode cX7_cook 32 = .ok (.iconst 1, 1) := by decide +kernel
theorem dX7_cook_33 : decode cX7_cook 33 = .ok (.iload_n 2, 1) := by decide +kernel
theorem dX7_cook_34 : decode cX7_cook 34 = .ok (.ishl, 1) := by decide +kernel
theorem dX7_cook_35 : decode cX7_cook 35 = .ok (.iconst 1, 1) := by decide +kernel
theorem dX7_cook_36 : decode cX7_cook 36 = .ok (.isub, 1) := by decide +kernel
theorem dX7_cook_37 : decode cX7_cook 37 = .ok (.iload_n 3, 1) := by decide +kernel
theorem dX7_cook_38 : decode cX7_cook 38 = .ok (.ishl, 1) := by decide +kernel
theorem dX7_cook_39 : decode cX7_cook 39 = .ok (.istore 4, 2) := by decide +kernel
theorem dX7_cook_41 : decode cX7_cook 41 = .ok (.aload_n 0, 1) := by decide +kernel
theorem dX7_cook_42 : decode cX7_cook 42 = .ok (.getfield 139, 3) := by decide +kernel
theorem dX7_cook_45 : decode cX7_cook 45 = .ok (.iload 4, 2) := by decide +kernel
theorem dX7_cook_47 : decode cX7_cook 47 = .ok (.iand, 1) := by decide +kernel
theorem dX7_cook_48 : decode cX7_cook 48 = .ok (.ifCond .ne 25, 3) := by decide +kernel
theorem dX7_cook_51 : decode cX7_cook 51 = .ok (.aload_n 0, 1) := by decide +kernel
theorem dX7_cook_52 : decode cX7_cook 52 = .ok (.dup, 1) := by decide +kernel
theorem dX7_cook_53 : decode cX7_cook 53 = .ok (.getfield 139, 3) := by decide +kernel
theorem dX7_cook_56 : decode cX7_cook 56 = .ok (.iload 4, 2) := by decide +kernel
theorem dX7_cook_58 : decode cX7_cook 58 = .ok (.ior, 1) := by decide +kernel
theorem dX7_cook_59 : decode cX7_cook 59 = .ok (.putfield 139, 3) := by decide +kernel
theorem dX7_cook_62 : decode cX7_cook 62 = .ok (.aload_n 0, 1) := by decide +kernel
theorem dX7_cook_63 : decode cX7_cook 63 = .ok (.iload_n 1, 1) := by decide +kernel
theorem dX7_cook_64 : decode cX7_cook 64 = .ok (.bipush 12, 2) := by decide +kernel
theorem dX7_cook_66 : decode cX7_cook 66 = .ok (.iload_n 3, 1) := by decide +kernel
theorem dX7_cook_67 : decode cX7_cook 67 = .ok (.invokevirtual 62, 3) := by decide +kernel
theorem dX7_cook_70 : decode cX7_cook 70 = .ok (.goto 32, 3) := by decide +kernel
theorem dX7_cook_73 : decode cX7_cook 73 = .ok (.aload_n 0, 1) := by decide +kernel
theorem dX7_cook_74 : decode cX7_cook 74 = .ok (.getfield 142, 3) := by decide +kernel
theorem dX7_cook_77 : decode cX7_cook 77 = .ok (.iload 4, 2) := by decide +kernel
theorem dX7_cook_79 : decode cX7_cook 79 = .ok (.iand, 1) := by decide +kernel
theorem dX7_cook_80 : decode cX7_cook 80 = .ok (.ifCond .ne 22, 3) := by decide +kernel
theorem dX7_cook_83 : decode cX7_cook 83 = .ok (.aload_n 0, 1) := by decide +kernel
theorem dX7_cook_84 : decode cX7_cook 84 = .ok (.dup, 1) := by decide +kernel
theorem dX7_cook_85 : decode cX7_cook 85 = .ok (.getfield 142, 3) := by decide +kernel
theorem dX7_cook_88 : decode cX7_cook 88 = .ok (.iload 4, 2) := by decide +kernel
theorem dX7_cook_90 : decode cX7_cook 90 = .ok (.ior, 1) := by decide +kernel
theorem dX7_cook_91 : decode cX7_cook 91 = .ok (.putfield 142, 3) := by decide +kernel
theorem dX7_cook_94 : decode cX7_cook 94 = .ok (.aload_n 0, 1) := by decide +kernel
theorem dX7_cook_95 : decode cX7_cook 95 = .ok (.iload_n 1, 1) := by decide +kernel
theorem dX7_cook_96 : decode cX7_cook 96 = .ok (.bipush 12, 2) := by decide +kernel
theorem dX7_cook_98 : decode cX7_cook 98 = .ok (.iload_n 3, 1) := by decide +kernel
theorem dX7_cook_99 : decode cX7_cook 99 = .ok (.invokevirtual 62, 3) := by decide +kernel
theorem dX7_cook_102 : decode cX7_cook 102 = .ok (.iinc 3 1, 3) := by decide +kernel
theorem dX7_cook_105 : decode cX7_cook 105 = .ok (.goto (-96), 3) := by decide +kernel
theorem dX7_cook_108 : decode cX7_cook 108 = .ok (.aload_n 0, 1) := by decide +kernel
theorem dX7_cook_109 : decode cX7_cook 109 = .ok (.iload_n 1, 1) := by decide +kernel
theorem dX7_cook_110 : decode cX7_cook 110 = .ok (.bipush 12, 2) := by decide +kernel
theorem dX7_cook_112 : decode cX7_cook 112 = .ok (.invokevirtual 66, 3) := by decide +kernel
theorem dX7_cook_115 : decode cX7_cook 115 = .ok (.ifCond .ge 63, 3) := by decide +kernel
theorem dX7_cook_118 : decode cX7_cook 118 = .ok (.aload_n 0, 1) := by decide +kernel
theorem dX7_cook_119 : decode cX7_cook 119 = .ok (.getfield 7, 3) := by decide +kernel
theorem dX7_cook_122 : decode cX7_cook 122 = .ok (.bipush 32, 2) := by decide +kernel
theorem dX7_cook_124 : decode cX7_cook 124 = .ok (.iconst 4, 1) := by decide +kernel
theorem dX7_cook_125 : decode cX7_cook 125 = .ok (.aload_n 0, 1) := by decide +kernel
theorem dX7_cook_126 : decode cX7_cook 126 = .ok (.iload_n 1, 1) := by decide +kernel
theorem dX7_cook_127 : decode cX7_cook 127 = .ok (.bipush 11, 2) := by decide +kernel
theorem dX7_cook_129 : decode cX7_cook 129 = .ok (.invokevirtual 66, 3) := by decide +kernel
theorem dX7_cook_132 : decode cX7_cook 132 = .ok (.imul, 1) := by decide +kernel
theorem dX7_cook_133 : decode cX7_cook 133 = .ok (.iadd, 1) := by decide +kernel
theorem dX7_cook_134 : decode cX7_cook 134 = .ok (.iconst 3, 1) := by decide +kernel
theorem dX7_cook_135 : decode cX7_cook 135 = .ok (.iadd, 1) := by decide +kernel
theorem dX7_cook_136 : decode cX7_cook 136 = .ok (.bipush (-6), 2) := by decide +kernel
theorem dX7_cook_138 : decode cX7_cook 138 = .ok (.iastore, 1) := by decide +kernel
theorem dX7_cook_139 : decode cX7_cook 139 = .ok (.aload_n 0, 1) := by decide +kernel
theorem dX7_cook_140 : decode cX7_cook 140 = .ok (.iload_n 1, 1) := by decide +kernel
theorem dX7_cook_141 : decode cX7_cook 141 = .ok (.bipush 11, 2) := by decide +kernel
theorem dX7_cook_143 : decode cX7_cook 143 = .ok (.bipush (-6), 2) := by decide +kernel
theorem dX7_cook_145 : decode cX7_cook 145 = .ok (.invokevirtual 62, 3) := by decide +kernel
theorem dX7_cook_148 : decode cX7_cook 148 = .ok (.aload_n 0, 1) := by decide +kernel
theorem dX7_cook_149 : decode cX7_cook 149 = .ok (.iload_n 1, 1) := by decide +kernel
theorem dX7_cook_150 : decode cX7_cook 150 = .ok (.bipush 13, 2) := by decide +kernel
theorem dX7_cook_152 : decode cX7_cook 152 = .ok (.iconst 5, 1) := by decide +kernel
theorem dX7_cook_153 : decode cX7_cook 153 = .ok (.invokevirtual 62, 3) := by decide +kernel
theorem dX7_cook_156 : decode cX7_cook 156 = .ok (.aload_n 0, 1) := by decide +kernel
theorem dX7_cook_157 : decode cX7_cook 157 = .ok (.getfield 7, 3) := by decide +kernel
theorem dX7_cook_160 : decode cX7_cook 160 = .ok (.bipush 7, 2) := by decide +kernel
theorem dX7_cook_162 : decode cX7_cook 162 = .ok (.iaload, 1) := by decide +kernel
theorem dX7_cook_163 : decode cX7_cook 163 = .ok (.ifCond .le 15, 3) := by decide +kernel
theorem dX7_cook_166 : decode cX7_cook 166 = .ok (.aload_n 0, 1) := by decide +kernel
theorem dX7_cook_167 : decode cX7_cook 167 = .ok (.iload_n 1, 1) := by decide +kernel
theorem dX7_cook_168 : decode cX7_cook 168 = .ok (.aload_n 0, 1) := by decide +kernel
theorem dX7_cook_169 : decode cX7_cook 169 = .ok (.getfield 7, 3) := by decide +kernel
theorem dX7_cook_172 : decode cX7_cook 172 = .ok (.bipush 7, 2) := by decide +kernel
theorem dX7_cook_174 : decode cX7_cook 174 = .ok (.iaload, 1) := by decide +kernel
theorem dX7_cook_175 : decode cX7_cook 175 = .ok (.invokevirtual 86, 3) := by decide +kernel
theorem dX7_cook_178 : decode cX7_cook 178 = .ok (.return_, 1) := by decide +kernel
theorem dX7_cookAll_0 : decode cX7_cookAll 0 = .ok (.aload_n 0, 1) := by decide +kernel
theorem dX7_cookAll_1 : decode cX7_cookAll 1 = .ok (.iconst 0, 1) := by decide +kernel
theorem dX7_cookAll_2 : decode cX7_cookAll 2 = .ok (.putfield 139, 3) := by decide +kernel
theorem dX7_cookAll_5 : decode cX7_cookAll 5 = .ok (.aload_n 0, 1) := by decide +kernel
theorem dX7_cookAll_6 : decode cX7_cookAll 6 = .ok (.iconst 0, 1) := by decide +kernel
theorem dX7_cookAll_7 : decode cX7_cookAll 7 = .ok (.putfield 142, 3) := by decide +kernel
theorem dX7_cookAll_10 : decode cX7_cookAll 10 = .ok (.iconst 0, 1) := by decide +kernel
theorem dX7_cookAll_11 : decode cX7_cookAll 11 = .ok (.istore_n 1, 1) := by decide +kernel
theorem dX7_cookAll_12 : decode cX7_cookAll 12 = .ok (.aload_n 0, 1) := by decide +kernel
theorem dX7_cookAll_13 : decode cX7_cookAll 13 = .ok (.iload_n 1, 1) := by decide +kernel
theorem dX7_cookAll_14 : decode cX7_cookAll 14 = .ok (.invokevirtual 145, 3) := by decide +kernel
theorem dX7_cookAll_17 : decode cX7_cookAll 17 = .ok (.istore_n 2, 1) := by decide +kernel
theorem dX7_cookAll_18 : decode cX7_cookAll 18 = .ok (.iload_n 2, 1) := by decide +kernel
theorem dX7_cookAll_19 : decode cX7_cookAll 19 = .ok (.ifCond .lt 30, 3) := by decide +kernel
theorem dX7_cookAll_22 : decode cX7_cookAll 22 = .ok (.aload_n 0, 1) := by decide +kernel
theorem dX7_cookAll_23 : decode cX7_cookAll 23 = .ok (.iload_n 2, 1) := by decide +kernel
theorem dX7_cookAll_24 : decode cX7_cookAll 24 = .ok (.bipush 11, 2) := by decide +kernel
theorem dX7_cookAll_26 : decode cX7_cookAll 26 = .ok (.invokevirtual 66, 3) := by decide +kernel
theorem dX7_cookAll_29 : decode cX7_cookAll 29 = .ok (.ifCond .lt 8, 3) := by decide +kernel
theorem dX7_cookAll_32 : decode cX7_cookAll 32 = .ok (.aload_n 0, 1) := by decide +kernel
theorem dX7_cookAll_33 : decode cX7_cookAll 33 = .ok (.iload_n 2, 1) := by decide +kernel
theorem dX7_cookAll_34 : decode cX7_cookAll 34 = .ok (.invokevirtual 148, 3) := by decide +kernel
theorem dX7_cookAll_37 : decode cX7_cookAll 37 = .ok (.iinc 1 1, 3) := by decide +kernel
theorem dX7_cookAll_40 : decode cX7_cookAll 40 = .ok (.aload_n 0, 1) := by decide +kernel
theorem dX7_cookAll_41 : decode cX7_cookAll 41 = .ok (.iload_n 1, 1) := by decide +kernel
theorem dX7_cookAll_42 : decode cX7_cookAll 42 = .ok (.invokevirtual 145, 3) := by decide +kernel
theorem dX7_cookAll_45 : decode cX7_cookAll 45 = .ok (.istore_n 2, 1) := by decide +kernel
theorem dX7_cookAll_46 : decode cX7_cookAll 46 = .ok (.goto (-28), 3) := by decide +kernel
theorem dX7_cookAll_49 : decode cX7_cookAll 49 = .ok (.return_, 1) := by decide +kernel
theorem dX7_swapAll_0 : decode cX7_swapAll 0 = .ok (.iconst 0, 1) := by decide +kernel
theorem dX7_swapAll_1 : decode cX7_swapAll 1 = .ok (.istore_n 1, 1) := by decide +kernel
theorem dX7_swapAll_2 : decode cX7_swapAll 2 = .ok (.iload_n 1, 1) := by decide +kernel
theorem dX7_swapAll_3 : decode cX7_swapAll 3 = .ok (.aload_n 0, 1) := by decide +kernel
theorem dX7_swapAll_4 : decode cX7_swapAll 4 = .ok (.getfield 7, 3) := by decide +kernel
theorem dX7_swapAll_7 : decode cX7_swapAll 7 = .ok (.bipush 14, 2) := by decide +kernel
theorem dX7_swapAll_9 : decode cX7_swapAll 9 = .ok (.iaload, 1) := by decide +kernel
theorem dX7_swapAll_10 : decode cX7_swapAll 10 = .ok (.if_icmp .ge 181, 3) := by decide +kernel
theorem dX7_swapAll_13 : decode cX7_swapAll 13 = .ok (.aload_n 0, 1) := by decide +kernel
theorem dX7_swapAll_14 : decode cX7_swapAll 14 = .ok (.getfield 7, 3) := by decide +kernel
theorem dX7_swapAll_17 : decode cX7_swapAll 17 = .ok (.bipush 16, 2) := by decide +kernel
theorem dX7_swapAll_19 : decode cX7_swapAll 19 = .ok (.iconst 2, 1) := by decide +kernel
theorem dX7_swapAll_20 : decode cX7_swapAll 20 = .ok (.iload_n 1, 1) := by decide +kernel
theorem dX7_swapAll_21 : decode cX7_swapAll 21 = .ok (.imul, 1) := by decide +kernel
theorem dX7_swapAll_22 : decode cX7_swapAll 22 = .ok (.iadd, 1) := by decide +kernel
theorem dX7_swapAll_23 : decode cX7_swapAll 23 = .ok (.iaload, 1) := by decide +kernel
theorem dX7_swapAll_24 : decode cX7_swapAll 24 = .ok (.istore_n 2, 1) := by decide +kernel
theorem dX7_swapAll_25 : decode cX7_swapAll 25 = .ok (.aload_n 0, 1) := by decide +kernel
theorem dX7_swapAll_26 : decode cX7_swapAll 26 = .ok (.getfield 7, 3) := by decide +kernel
theorem dX7_swapAll_29 : decode cX7_swapAll 29 = .ok (.bipush 16, 2) := by decide +kernel
theorem dX7_swapAll_31 : decode cX7_swapAll 31 = .ok (.iconst 2, 1) := by decide +kernel
theorem dX7_swapAll_32 : decode cX7_swapAll 32 = .ok (.iload_n 1, 1) := by decide +kernel
theorem dX7_swapAll_33 : decode cX7_swapAll 33 = .ok (.imul, 1) := by decide +kernel
theorem dX7_swapAll_34 : decode cX7_swapAll 34 = .ok (.iadd, 1) := by decide +kernel
theorem dX7_swapAll_35 : decode cX7_swapAll 35 = .ok (.iconst 1, 1) := by decide +kernel
theorem dX7_swapAll_36 : decode cX7_swapAll 36 = .ok (.iadd, 1) := by decide +kernel
theorem dX7_swapAll_37 : decode cX7_swapAll 37 = .ok (.iaload, 1) := by decide +kernel
theorem dX7_swapAll_38 : decode cX7_swapAll 38 = .ok (.istore_n 3, 1) := by decide +kernel
theorem dX7_swapAll_39 : decode cX7_swapAll 39 = .ok (.aload_n 0, 1) := by decide +kernel
theorem dX7_swapAll_40 : decode cX7_swapAll 40 = .ok (.iload_n 2, 1) := by decide +kernel
theorem dX7_swapAll_41 : decode cX7_swapAll 41 = .ok (.bipush 11, 2) := by decide +kernel
theorem dX7_swapAll_43 : decode cX7_swapAll 43 = .ok (.invokevirtual 66, 3) := by decide +kernel
theorem dX7_swapAll_46 : decode cX7_swapAll 46 = .ok (.istore 4, 2) := by decide +kernel
theorem dX7_swapAll_48 : decode cX7_swapAll 48 = .ok (.aload_n 0, 1) := by decide +kernel
theorem dX7_swapAll_49 : decode cX7_swapAll 49 = .ok (.iload_n 3, 1) := by decide +kernel
theorem dX7_swapAll_50 : decode cX7_swapAll 50 = .ok (.bipush 11, 2) := by decide +kernel
theorem dX7_swapAll_52 : decode cX7_swapAll 52 = .ok (.invokevirtual 66, 3) := by decide +kernel
theorem dX7_swapAll_55 : decode cX7_swapAll 55 = .ok (.istore 5, 2) := by decide +kernel
theorem dX7_swapAll_57 : decode cX7_swapAll 57 = .ok (.iload 4, 2) := by decide +kernel
theorem dX7_swapAll_59 : decode cX7_swapAll 59 = .ok (.ifCond .lt 126, 3) := by decide +kernel
theorem dX7_swapAll_62 : decode cX7_swapAll 62 = .ok (.iload 5, 2) := by decide +kernel
theorem dX7_swapAll_64 : decode cX7_swapAll 64 = .ok (.ifCond .lt 121, 3) := by decide +kernel
theorem dX7_swapAll_67 : decode cX7_swapAll 67 = .ok (.aload_n 0, 1) := by decide +kernel
theorem dX7_swapAll_68 : decode cX7_swapAll 68 = .ok (.iload_n 2, 1) := by decide +kernel
theorem dX7_swapAll_69 : decode cX7_swapAll 69 = .ok (.iload 5, 2) := by decide +kernel
theorem dX7_swapAll_71 : decode cX7_swapAll 71 = .ok (.invokevirtual 122, 3) := by decide +kernel
theorem dX7_swapAll_74 : decode cX7_swapAll 74 = .ok (.aload_n 0, 1) := by decide +kernel
theorem dX7_swapAll_75 : decode cX7_swapAll 75 = .ok (.iload_n 3, 1) := by decide +kernel
theorem dX7_swapAll_76 : decode cX7_swapAll 76 = .ok (.iload 4, 2) := by decide +kernel
theorem dX7_swapAll_78 : decode cX7_swapAll 78 = .ok (.invokevirtual 122, 3) := by decide +kernel
theorem dX7_swapAll_81 : decode cX7_swapAll 81 = .ok (.aload_n 0, 1) := by decide +kernel
theorem dX7_swapAll_82 : decode cX7_swapAll 82 = .ok (.iload_n 2, 1) := by decide +kernel
theorem dX7_swapAll_83 : decode cX7_swapAll 83 = .ok (.iload 5, 2) := by decide +kernel
theorem dX7_swapAll_85 : decode cX7_swapAll 85 = .ok (.invokevirtual 118, 3) := by decide +kernel
theorem dX7_swapAll_88 : decode cX7_swapAll 88 = .ok (.ifCond .eq 17, 3) := by decide +kernel
theorem dX7_swapAll_91 : decode cX7_swapAll 91 = .ok (.aload_n 0, 1) := by decide +kernel
theorem dX7_swapAll_92 : decode cX7_swapAll 92 = .ok (.iload_n 3, 1) := by decide +kernel
theorem dX7_swapAll_93 : decode cX7_swapAll 93 = .ok (.iload 4, 2) := by decide +kernel
theorem dX7_swapAll_95 : decode cX7_swapAll 95 = .ok (.invokevirtual 118, 3) := by decide +kernel
theorem dX7_swapAll_98 : decode cX7_swapAll 98 = .ok (.ifCond .eq 7, 3) := by decide +kernel
theorem dX7_swapAll_101 : decode cX7_swapAll 101 = .ok (.iconst 1, 1) := by decide +kernel
theorem dX7_swapAll_102 : decode cX7_swapAll 102 = .ok (.goto 4, 3) := by decide +kernel
theorem dX7_swapAll_105 : decode cX7_swapAll 105 = .ok (.iconst 0, 1) := by decide +kernel
theorem dX7_swapAll_106 : decode cX7_swapAll 106 = .ok (.istore 6, 2) := by decide +kernel
theorem dX7_swapAll_108 : decode cX7_swapAll 108 = .ok (.iload 6, 2) := by decide +kernel
theorem dX7_swapAll_110 : decode cX7_swapAll 110 = .ok (.ifCond .eq 61, 3) := by decide +kernel
theorem dX7_swapAll_113 : decode cX7_swapAll 113 = .ok (.aload_n 0, 1) := by decide +kernel
theorem dX7_swapAll_114 : decode cX7_swapAll 114 = .ok (.iload_n 2, 1) := by decide +kernel
theorem dX7_swapAll_115 : decode cX7_swapAll 115 = .ok (.bipush 18, 2) := by decide +kernel
theorem dX7_swapAll_117 : decode cX7_swapAll 117 = .ok (.aload_n 0, 1) := by decide +kernel
theorem dX7_swapAll_118 : decode cX7_swapAll 118 = .ok (.iload_n 2, 1) := by decide +kernel
theorem dX7_swapAll_119 : decode cX7_swapAll 119 = .ok (.bipush 18, 2) := by decide +kernel
theorem dX7_swapAll_121 : decode cX7_swapAll 121 = .ok (.invokevirtual 66, 3) := by decide +kernel
theorem dX7_swapAll_124 : decode cX7_swapAll 124 = .ok (.aload_n 0, 1) := by decide +kernel
theorem dX7_swapAll_125 : decode cX7_swapAll 125 = .ok (.getfield 7, 3) := by decide +kernel
theorem dX7_swapAll_128 : decode cX7_swapAll 128 = .ok (.bipush 9, 2) := by decide +kernel
theorem dX7_swapAll_130 : decode cX7_swapAll 130 = .ok (.iaload, 1) := by decide +kernel
theorem dX7_swapAll_131 : decode cX7_swapAll 131 = .ok (.iadd, 1) := by decide +kernel
theorem dX7_swapAll_132 : decode cX7_swapAll 132 = .ok (.invokevirtual 62, 3) := by decide +kernel
theorem dX7_swapAll_135 : decode cX7_swapAll 135 = .ok (.aload_n 0, 1) := by decide +kernel
theorem dX7_swapAll_136 : decode cX7_swapAll 136 = .ok (.iload_n 3, 1) := by decide +kernel
theorem dX7_swapAll_137 : decode cX7_swapAll 137 = .ok (.bipush 18, 2) := by decide +kernel
theorem dX7_swapAll_139 : decode cX7_swapAll 139 = .ok (.aload_n 0, 1) := by decide +kernel
theorem dX7_swapAll_140 : decode cX7_swapAll 140 = .ok (.iload_n 3, 1) := by decide +kernel
theorem dX7_swapAll_141 : decode cX7_swapAll 141 = .ok (.bipush 18, 2) := by decide +kernel
theorem dX7_swapAll_143 : decode cX7_swapAll 143 = .ok (.invokevirtual 66, 3) := by decide +kernel
theorem dX7_swapAll_146 : decode cX7_swapAll 146 = .ok (.aload_n 0, 1) := by decide +kernel
theorem dX7_swapAll_147 : decode cX7_swapAll 147 = .ok (.getfield 7, 3) := by decide +kernel
theorem dX7_swapAll_150 : decode cX7_swapAll 150 = .ok (.bipush 9, 2) := by decide +kernel
theorem dX7_swapAll_152 : decode cX7_swapAll 152 = .ok (.iaload, 1) := by decide +kernel
theorem dX7_swapAll_153 : decode cX7_swapAll 153 = .ok (.iadd, 1) := by decide +kernel
theorem dX7_swapAll_154 : decode cX7_swapAll 154 = .ok (.invokevirtual 62, 3) := by decide +kernel
theorem dX7_swapAll_157 : decode cX7_swapAll 157 = .ok (.aload_n 0, 1) := by decide +kernel
theorem dX7_swapAll_158 : decode cX7_swapAll 158 = .ok (.getfield 7, 3) := by decide +kernel
theorem dX7_swapAll_161 : decode cX7_swapAll 161 = .ok (.bipush 15, 2) := by decide +kernel
theorem dX7_swapAll_163 : decode cX7_swapAll 163 = .ok (.dup2, 1) := by decide +kernel
theorem dX7_swapAll_164 : decode cX7_swapAll 164 = .ok (.iaload, 1) := by decide +kernel
theorem dX7_swapAll_165 : decode cX7_swapAll 165 = .ok (.iconst 1, 1) := by decide +kernel
theorem dX7_swapAll_166 : decode cX7_swapAll 166 = .ok (.iadd, 1) := by decide +kernel
theorem dX7_swapAll_167 : decode cX7_swapAll 167 = .ok (.iastore, 1) := by decide +kernel
theorem dX7_swapAll_168 : decode cX7_swapAll 168 = .ok (.goto 17, 3) := by decide +kernel
theorem dX7_swapAll_171 : decode cX7_swapAll 171 = .ok (.aload_n 0, 1) := by decide +kernel
theorem dX7_swapAll_172 : decode cX7_swapAll 172 = .ok (.iload_n 2, 1) := by decide +kernel
theorem dX7_swapAll_173 : decode cX7_swapAll 173 = .ok (.iload 4, 2) := by decide +kernel
theorem dX7_swapAll_175 : decode cX7_swapAll 175 = .ok (.invokevirtual 122, 3) := by decide +kernel
theorem dX7_swapAll_178 : decode cX7_swapAll 178 = .ok (.aload_n 0, 1) := by decide +kernel
theorem dX7_swapAll_179 : decode cX7_swapAll 179 = .ok (.iload_n 3, 1) := by decide +kernel
theorem dX7_swapAll_180 : decode cX7_swapAll 180 = .ok (.iload 5, 2) := by decide +kernel
theorem dX7_swapAll_182 : decode cX7_swapAll 182 = .ok (.invokevirtual 122, 3) := by decide +kernel
theorem dX7_swapAll_185 : decode cX7_swapAll 185 = .ok (.iinc 1 1, 3) := by decide +kernel
theorem dX7_swapAll_188 : decode cX7_swapAll 188 = .ok (.goto (-186), 3) := by decide +kernel
theorem dX7_swapAll_191 : decode cX7_swapAll 191 = .ok (.aload_n 0, 1) := by decide +kernel
theorem dX7_swapAll_192 : decode cX7_swapAll 192 = .ok (.getfield 7, 3) := by decide +kernel
theorem dX7_swapAll_195 : decode cX7_swapAll 195 = .ok (.bipush 14, 2) := by decide +kernel
theorem dX7_swapAll_197 : decode cX7_swapAll 197 = .ok (.iconst 0, 1) := by decide +kernel
theorem dX7_swapAll_198 : decode cX7_swapAll 198 = .ok (.iastore, 1) := by decide +kernel
theorem dX7_swapAll_199 : decode cX7_swapAll 199 = .ok (.return_, 1) := by decide +kernel
theorem dX7_trade_0 : decode cX7_trade 0 = .ok (.iconst 0, 1) := by decide +kernel
theorem dX7_trade_1 : decode cX7_trade 1 = .ok (.istore_n 1, 1) := by decide +kernel
theorem dX7_trade_2 : decode cX7_trade 2 = .ok (.iload_n 1, 1) := by decide +kernel
theorem dX7_trade_3 : decode cX7_trade 3 = .ok (.aload_n 0, 1) := by decide +kernel
theorem dX7_trade_4 : decode cX7_trade 4 = .ok (.getfield 7, 3) := by decide +kernel
theorem dX7_trade_7 : decode cX7_trade 7 = .ok (.bipush 13, 2) := by decide +kernel
theorem dX7_trade_9 : decode cX7_trade 9 = .ok (.iaload, 1) := by decide +kernel
theorem dX7_trade_10 : decode cX7_trade 10 = .ok (.if_icmp .ge 130, 3) := by decide +kernel
theorem dX7_trade_13 : decode cX7_trade 13 = .ok (.aload_n 0, 1) := by decide +kernel
theorem dX7_trade_14 : decode cX7_trade 14 = .ok (.iload_n 1, 1) := by decide +kernel
theorem dX7_trade_15 : decode cX7_trade 15 = .ok (.bipush 11, 2) := by decide +kernel
theorem dX7_trade_17 : decode cX7_trade 17 = .ok (.invokevirtual 66, 3) := by decide +kernel
theorem dX7_trade_20 : decode cX7_trade 20 = .ok (.istore_n 2, 1) := by decide +kernel
theorem dX7_trade_21 : decode cX7_trade 21 = .ok (.iload_n 2, 1) := by decide +kernel
theorem dX7_trade_22 : decode cX7_trade 22 = .ok (.ifCond .lt 90, 3) := by decide +kernel
theorem dX7_trade_25 : decode cX7_trade 25 = .ok (.aload_n 0, 1) := by decide +kernel
theorem dX7_trade_26 : decode cX7_trade 26 = .ok (.iload_n 1, 1) := by decide +kernel
theorem dX7_trade_27 : decode cX7_trade 27 = .ok (.bipush 16, 2) := by decide +kernel
theorem dX7_trade_29 : decode cX7_trade 29 = .ok (.aload_n 0, 1) := by decide +kernel
theorem dX7_trade_30 : decode cX7_trade 30 = .ok (.iload_n 1, 1) := by decide +kernel
theorem dX7_trade_31 : decode cX7_trade 31 = .ok (.bipush 16, 2) := by decide +kernel
theorem dX7_trade_33 : decode cX7_trade 33 = .ok (.invokevirtual 66, 3) := by decide +kernel
theorem dX7_trade_36 : decode cX7_trade 36 = .ok (.aload_n 0, 1) := by decide +kernel
theorem dX7_trade_37 : decode cX7_trade 37 = .ok (.iload_n 2, 1) := by decide +kernel
theorem dX7_trade_38 : decode cX7_trade 38 = .ok (.iconst 0, 1) := by decide +kernel
theorem dX7_trade_39 : decode cX7_trade 39 = .ok (.invokevirtual 58, 3) := by decide +kernel
theorem dX7_trade_42 : decode cX7_trade 42 = .ok (.iadd, 1) := by decide +kernel
theorem dX7_trade_43 : decode cX7_trade 43 = .ok (.invokevirtual 62, 3) := by decide +kernel
theorem dX7_trade_46 : decode cX7_trade 46 = .ok (.aload_n 0, 1) := by decide +kernel
theorem dX7_trade_47 : decode cX7_trade 47 = .ok (.iload_n 1, 1) := by decide +kernel
theorem dX7_trade_48 : decode cX7_trade 48 = .ok (.bipush 10, 2) := by decide +kernel
theorem dX7_trade_50 : decode cX7_trade 50 = .ok (.aload_n 0, 1) := by decide +kernel
theorem dX7_trade_51 : decode cX7_trade 51 = .ok (.iload_n 1, 1) := by decide +kernel
theorem dX7_trade_52 : decode cX7_trade 52 = .ok (.bipush 10, 2) := by decide +kernel
theorem dX7_trade_54 : decode cX7_trade 54 = .ok (.invokevirtual 66, 3) := by decide +kernel
theorem dX7_trade_57 : decode cX7_trade 57 = .ok (.iconst 1, 1) := by decide +kernel
theorem dX7_trade_58 : decode cX7_trade 58 = .ok (.iadd, 1) := by decide +kernel
theorem dX7_trade_59 : decode cX7_trade 59 = .ok (.invokevirtual 62, 3) := by decide +kernel
theorem dX7_trade_62 : decode cX7_trade 62 = .ok (.aload_n 0, 1) := by decide +kernel
theorem dX7_trade_63 : decode cX7_trade 63 = .ok (.iload_n 1, 1) := by decide +kernel
theorem dX7_trade_64 : decode cX7_trade 64 = .ok (.bipush 6, 2) := by decide +kernel
theorem dX7_trade_66 : decode cX7_trade 66 = .ok (.iconst 0, 1) := by decide +kernel
theorem dX7_trade_67 : decode cX7_trade 67 = .ok (.invokevirtual 62, 3) := by decide +kernel
theorem dX7_trade_70 : decode cX7_trade 70 = .ok (.aload_n 0, 1) := by decide +kernel
theorem dX7_trade_71 : decode cX7_trade 71 = .ok (.getfield 7, 3) := by decide +kernel
theorem dX7_trade_74 : decode cX7_trade 74 = .ok (.bipush 32, 2) := by decide +kernel
theorem dX7_trade_76 : decode cX7_trade 76 = .ok (.iconst 4, 1) := by decide +kernel
theorem dX7_trade_77 : decode cX7_trade 77 = .ok (.iload_n 2, 1) := by decide +kernel
theorem dX7_trade_78 : decode cX7_trade 78 = .ok (.imul, 1) := by decide +kernel
theorem dX7_trade_79 : decode cX7_trade 79 = .ok (.iadd, 1) := by decide +kernel
theorem dX7_trade_80 : decode cX7_trade 80 = .ok (.iconst 1, 1) := by decide +kernel
theorem dX7_trade_81 : decode cX7_trade 81 = .ok (.iadd, 1) := by decide +kernel
theorem dX7_trade_82 : decode cX7_trade 82 = .ok (.dup2, 1) := by decide +kernel
theorem dX7_trade_83 : decode cX7_trade 83 = .ok (.iaload, 1) := by decide +kernel
theorem dX7_trade_84 : decode cX7_trade 84 = .ok (.iconst 1, 1) := by decide +kernel
theorem dX7_trade_85 : decode cX7_trade 85 = .ok (.iadd, 1) := by decide +kernel
theorem dX7_trade_86 : decode cX7_trade 86 = .ok (.iastore, 1) := by decide +kernel
theorem dX7_trade_87 : decode cX7_trade 87 = .ok (.aload_n 0, 1) := by decide +kernel
theorem dX7_trade_88 : decode cX7_trade 88 = .ok (.getfield 7, 3) := by decide +kernel
theorem dX7_trade_91 : decode cX7_trade 91 = .ok (.bipush 32, 2) := by decide +kernel
theorem dX7_trade_93 : decode cX7_trade 93 = .ok (.iconst 4, 1) := by decide +kernel
theorem dX7_trade_94 : decode cX7_trade 94 = .ok (.iload_n 2, 1) := by decide +kernel
theorem dX7_trade_95 : decode cX7_trade 95 = .ok (.imul, 1) := by decide +kernel
theorem dX7_trade_96 : decode cX7_trade 96 = .ok (.iadd, 1) := by decide +kernel
theorem dX7_trade_97 : decode cX7_trade 97 = .ok (.iconst 2, 1) := by decide +kernel
theorem dX7_trade_98 : decode cX7_trade 98 = .ok (.iadd, 1) := by decide +kernel
theorem dX7_trade_99 : decode cX7_trade 99 = .ok (.dup2, 1) := by decide +kernel
theorem dX7_trade_100 : decode cX7_trade 100 = .ok (.iaload, 1) := by decide +kernel
theorem dX7_trade_101 : decode cX7_trade 101 = .ok (.aload_n 0, 1) := by decide +kernel
theorem dX7_trade_102 : decode cX7_trade 102 = .ok (.iload_n 2, 1) := by decide +kernel
theorem dX7_trade_103 : decode cX7_trade 103 = .ok (.iconst 0, 1) := by decide +kernel
theorem dX7_trade_104 : decode cX7_trade 104 = .ok (.invokevirtual 58, 3) := by decide +kernel
theorem dX7_trade_107 : decode cX7_trade 107 = .ok (.iadd, 1) := by decide +kernel
theorem dX7_trade_108 : decode cX7_trade 108 = .ok (.iastore, 1) := by decide +kernel
theorem dX7_trade_109 : decode cX7_trade 109 = .ok (.goto 25, 3) := by decide +kernel
theorem dX7_trade_112 : decode cX7_trade 112 = .ok (.aload_n 0, 1) := by decide +kernel
theorem dX7_trade_113 : decode cX7_trade 113 = .ok (.iload_n 1, 1) := by decide +kernel
theorem dX7_trade_114 : decode cX7_trade 114 = .ok (.bipush 6, 2) := by decide +kernel
theorem dX7_trade_116 : decode cX7_trade 116 = .ok (.aload_n 0, 1) := by decide +kernel
theorem dX7_trade_117 : decode cX7_trade 117 = .ok (.iload_n 1, 1) := by decide +kernel
theorem dX7_trade_118 : decode cX7_trade 118 = .ok (.bipush 6, 2) := by decide +kernel
theorem dX7_trade_120 : decode cX7_trade 120 = .ok (.invokevirtual 66, 3) := by decide +kernel
theorem dX7_trade_123 : decode cX7_trade 123 = .ok (.aload_n 0, 1) := by decide +kernel
theorem dX7_trade_124 : decode cX7_trade 124 = .ok (.iload_n 1, 1) := by decide +kernel
theorem dX7_trade_125 : decode cX7_trade 125 = .ok (.bipush 19, 2) := by decide +kernel
theorem dX7_trade_127 : decode cX7_trade 127 = .ok (.invokevirtual 66, 3) := by decide +kernel
theorem dX7_trade_130 : decode cX7_trade 130 = .ok (.iadd, 1) := by decide +kernel
theorem dX7_trade_131 : decode cX7_trade 131 = .ok (.invokevirtual 62, 3) := by decide +kernel
theorem dX7_trade_134 : decode cX7_trade 134 = .ok (.iinc 1 1, 3) := by decide +kernel
theorem dX7_trade_137 : decode cX7_trade 137 = .ok (.goto (-135), 3) := by decide +kernel
theorem dX7_trade_140 : decode cX7_trade 140 = .ok (.return_, 1) := by decide +kernel
theorem dX7_passDay_0 : decode cX7_passDay 0 = .ok (.aload_n 0, 1) := by decide +kernel
theorem dX7_passDay_1 : decode cX7_passDay 1 = .ok (.invokevirtual 151, 3) := by decide +kernel
theorem dX7_passDay_4 : decode cX7_passDay 4 = .ok (.aload_n 0, 1) := by decide +kernel
theorem dX7_passDay_5 : decode cX7_passDay 5 = .ok (.invokevirtual 154, 3) := by decide +kernel
theorem dX7_passDay_8 : decode cX7_passDay 8 = .ok (.aload_n 0, 1) := by decide +kernel
theorem dX7_passDay_9 : decode cX7_passDay 9 = .ok (.invokevirtual 157, 3) := by decide +kernel
theorem dX7_passDay_12 : decode cX7_passDay 12 = .ok (.aload_n 0, 1) := by decide +kernel
theorem dX7_passDay_13 : decode cX7_passDay 13 = .ok (.invokevirtual 160, 3) := by decide +kernel
theorem dX7_passDay_16 : decode cX7_passDay 16 = .ok (.aload_n 0, 1) := by decide +kernel
theorem dX7_passDay_17 : decode cX7_passDay 17 = .ok (.invokevirtual 163, 3) := by decide +kernel
theorem dX7_passDay_20 : decode cX7_passDay 20 = .ok (.aload_n 0, 1) := by decide +kernel
theorem dX7_passDay_21 : decode cX7_passDay 21 = .ok (.invokevirtual 166, 3) := by decide +kernel
theorem dX7_passDay_24 : decode cX7_passDay 24 = .ok (.aload_n 0, 1) := by decide +kernel
theorem dX7_passDay_25 : decode cX7_passDay 25 = .ok (.getfield 7, 3) := by decide +kernel
theorem dX7_passDay_28 : decode cX7_passDay 28 = .ok (.bipush 10, 2) := by decide +kernel
theorem dX7_passDay_30 : decode cX7_passDay 30 = .ok (.dup2, 1) := by decide +kernel
theorem dX7_passDay_31 : decode cX7_passDay 31 = .ok (.iaload, 1) := by decide +kernel
theorem dX7_passDay_32 : decode cX7_passDay 32 = .ok (.iconst 1, 1) := by decide +kernel
theorem dX7_passDay_33 : decode cX7_passDay 33 = .ok (.iadd, 1) := by decide +kernel
theorem dX7_passDay_34 : decode cX7_passDay 34 = .ok (.iastore, 1) := by decide +kernel
theorem dX7_passDay_35 : decode cX7_passDay 35 = .ok (.iconst 0, 1) := by decide +kernel
theorem dX7_passDay_36 : decode cX7_passDay 36 = .ok (.istore_n 1, 1) := by decide +kernel
theorem dX7_passDay_37 : decode cX7_passDay 37 = .ok (.iload_n 1, 1) := by decide +kernel
theorem dX7_passDay_38 : decode cX7_passDay 38 = .ok (.aload_n 0, 1) := by decide +kernel
theorem dX7_passDay_39 : decode cX7_passDay 39 = .ok (.getfield 7, 3) := by decide +kernel
theorem dX7_passDay_42 : decode cX7_passDay 42 = .ok (.bipush 13, 2) := by decide +kernel
theorem dX7_passDay_44 : decode cX7_passDay 44 = .ok (.iaload, 1) := by decide +kernel
theorem dX7_passDay_45 : decode cX7_passDay 45 = .ok (.if_icmp .ge 36, 3) := by decide +kernel
theorem dX7_passDay_48 : decode cX7_passDay 48 = .ok (.aload_n 0, 1) := by decide +kernel
theorem dX7_passDay_49 : decode cX7_passDay 49 = .ok (.getfield 7, 3) := by decide +kernel
theorem dX7_passDay_52 : decode cX7_passDay 52 = .ok (.sipush 392, 3) := by decide +kernel
theorem dX7_passDay_55 : decode cX7_passDay 55 = .ok (.sipush 200, 3) := by decide +kernel
theorem dX7_passDay_58 : decode cX7_passDay 58 = .ok (.iload_n 1, 1) := by decide +kernel
theorem dX7_passDay_59 : decode cX7_passDay 59 = .ok (.imul, 1) := by decide +kernel
theorem dX7_passDay_60 : decode cX7_passDay 60 = .ok (.iadd, 1) := by decide +kernel
theorem dX7_passDay_61 : decode cX7_passDay 61 = .ok (.aload_n 0, 1) := by decide +kernel
theorem dX7_passDay_62 : decode cX7_passDay 62 = .ok (.getfield 7, 3) := by decide +kernel
theorem dX7_passDay_65 : decode cX7_passDay 65 = .ok (.bipush 10, 2) := by decide +kernel
theorem dX7_passDay_67 : decode cX7_passDay 67 = .ok (.iaload, 1) := by decide +kernel
theorem dX7_passDay_68 : decode cX7_passDay 68 = .ok (.sipush 200, 3) := by decide +kernel
theorem dX7_passDay_71 : decode cX7_passDay 71 = .ok (.irem, 1) := by decide +kernel
theorem dX7_passDay_72 : decode cX7_passDay 72 = .ok (.iadd, 1) := by decide +kernel
theorem dX7_passDay_73 : decode cX7_passDay 73 = .ok (.iconst 0, 1) := by decide +kernel
theorem dX7_passDay_74 : decode cX7_passDay 74 = .ok (.iastore, 1) := by decide +kernel
theorem dX7_passDay_75 : decode cX7_passDay 75 = .ok (.iinc 1 1, 3) := by decide +kernel
theorem dX7_passDay_78 : decode cX7_passDay 78 = .ok (.goto (-41), 3) := by decide +kernel
theorem dX7_passDay_81 : decode cX7_passDay 81 = .ok (.return_, 1) := by decide +kernel
theorem dX7_tryDays_0 : decode cX7_tryDays 0 = .ok (.iload_n 1, 1) := by decide +kernel
theorem dX7_tryDays_1 : decode cX7_tryDays 1 = .ok (.iconst 1, 1) := by decide +kernel
theorem dX7_tryDays_2 : decode cX7_tryDays 2 = .ok (.bipush 60, 2) := by decide +kernel
theorem dX7_tryDays_4 : decode cX7_tryDays 4 = .ok (.invokestatic 35, 3) := by decide +kernel
theorem dX7_tryDays_7 : decode cX7_tryDays 7 = .ok (.ifCond .ne 6, 3) := by decide +kernel
theorem dX7_tryDays_10 : decode cX7_tryDays 10 = .ok (.bipush (-2), 2) := by decide +kernel
theorem dX7_tryDays_12 : decode cX7_tryDays 12 = .ok (.ireturn, 1) := by decide +kernel
theorem dX7_tryDays_13 : decode cX7_tryDays 13 = .ok (.aload_n 0, 1) := by decide +kernel
theorem dX7_tryDays_14 : decode cX7_tryDays 14 = .ok (.iload_n 2, 1) := by decide +kernel
theorem dX7_tryDays_15 : decode cX7_tryDays 15 = .ok (.invokevirtual 78, 3) := by decide +kernel
theorem dX7_tryDays_18 : decode cX7_tryDays 18 = .ok (.iconst 0, 1) := by decide +kernel
theorem dX7_tryDays_19 : decode cX7_tryDays 19 = .ok (.istore_n 3, 1) := by decide +kernel
theorem dX7_tryDays_20 : decode cX7_tryDays 20 = .ok (.iload_n 3, 1) := by decide +kernel
theorem dX7_tryDays_21 : decode cX7_tryDays 21 = .ok (.iload_n 1, 1) := by decide +kernel
theorem dX7_tryDays_22 : decode cX7_tryDays 22 = .ok (.if_icmp .ge 13, 3) := by decide +kernel
theorem dX7_tryDays_25 : decode cX7_tryDays 25 = .ok (.aload_n 0, 1) := by decide +kernel
theorem dX7_tryDays_26 : decode cX7_tryDays 26 = .ok (.invokevirtual 169, 3) := by decide +kernel
theorem dX7_tryDays_29 : decode cX7_tryDays 29 = .ok (.iinc 3 1, 3) := by decide +kernel
theorem dX7_tryDays_32 : decode cX7_tryDays 32 = .ok (.goto (-12), 3) := by decide +kernel
theorem dX7_tryDays_35 : decode cX7_tryDays 35 = .ok (.aload_n 0, 1) := by decide +kernel
theorem dX7_tryDays_36 : decode cX7_tryDays 36 = .ok (.getfield 7, 3) := by decide +kernel
theorem dX7_tryDays_39 : decode cX7_tryDays 39 = .ok (.bipush 10, 2) := by decide +kernel
theorem dX7_tryDays_41 : decode cX7_tryDays 41 = .ok (.iaload, 1) := by decide +kernel
theorem dX7_tryDays_42 : decode cX7_tryDays 42 = .ok (.ireturn, 1) := by decide +kernel
theorem dX7_days_0 : decode cX7_days 0 = .ok (.aload_n 0, 1) := by decide +kernel
theorem dX7_days_1 : decode cX7_days 1 = .ok (.iload_n 1, 1) := by decide +kernel
theorem dX7_days_2 : decode cX7_days 2 = .ok (.iconst 1, 1) := by decide +kernel
theorem dX7_days_3 : decode cX7_days 3 = .ok (.invokevirtual 172, 3) := by decide +kernel
theorem dX7_days_6 : decode cX7_days 6 = .ok (.ireturn, 1) := by decide +kernel
theorem dX7_ofCart_0 : decode cX7_ofCart 0 = .ok (.aload_n 0, 1) := by decide +kernel
theorem dX7_ofCart_1 : decode cX7_ofCart 1 = .ok (.iload_n 1, 1) := by decide +kernel
theorem dX7_ofCart_2 : decode cX7_ofCart 2 = .ok (.invokevirtual 72, 3) := by decide +kernel
theorem dX7_ofCart_5 : decode cX7_ofCart 5 = .ok (.ifCond .ne 5, 3) := by decide +kernel
theorem dX7_ofCart_8 : decode cX7_ofCart 8 = .ok (.iconst (-1), 1) := by decide +kernel
theorem dX7_ofCart_9 : decode cX7_ofCart 9 = .ok (.ireturn, 1) := by decide +kernel
theorem dX7_ofCart_10 : decode cX7_ofCart 10 = .ok (.iload_n 2, 1) := by decide +kernel
theorem dX7_ofCart_11 : decode cX7_ofCart 11 = .ok (.tableswitch 176 0 15 #[77, 77, 77, 84, 84, 84, 108, 108, 108, 115, 128, 136, 144, 152, 160, 168], 77) := by decide +kernel
theorem dX7_ofCart_88 : decode cX7_ofCart 88 = .ok (.aload_n 0, 1) := by decide +kernel
theorem dX7_ofCart_89 : decode cX7_ofCart 89 = .ok (.iload_n 1, 1) := by decide +kernel
theorem dX7_ofCart_90 : decode cX7_ofCart 90 = .ok (.iload_n 2, 1) := by decide +kernel
theorem dX7_ofCart_91 : decode cX7_ofCart 91 = .ok (.invokevirtual 66, 3) := by decide +kernel
theorem dX7_ofCart_94 : decode cX7_ofCart 94 = .ok (.ireturn, 1) := by decide +kernel
theorem dX7_ofCart_95 : decode cX7_ofCart 95 = .ok (.iload_n 2, 1) := by decide +kernel
theorem dX7_ofCart_96 : decode cX7_ofCart 96 = .ok (.iconst 3, 1) := by decide +kernel
theorem dX7_ofCart_97 : decode cX7_ofCart 97 = .ok (.isub, 1) := by decide +kernel
theorem dX7_ofCart_98 : decode cX7_ofCart 98 = .ok (.aload_n 0, 1) := by decide +kernel
theorem dX7_ofCart_99 : decode cX7_ofCart 99 = .ok (.iload_n 1, 1) := by decide +kernel
theorem dX7_ofCart_100 : decode cX7_ofCart 100 = .ok (.iconst 2, 1) := by decide +kernel
theorem dX7_ofCart_101 : decode cX7_ofCart 101 = .ok (.invokevirtual 66, 3) := by decide +kernel
theorem dX7_ofCart_104 : decode cX7_ofCart 104 = .ok (.if_icmp .ge 12, 3) := by decide +kernel
theorem dX7_ofCart_107 : decode cX7_ofCart 107 = .ok (.aload_n 0, 1) := by decide +kernel
theorem dX7_ofCart_108 : decode cX7_ofCart 108 = .ok (.iload_n 1, 1) := by decide +kernel
theorem dX7_ofCart_109 : decode cX7_ofCart 109 = .ok (.iload_n 2, 1) := by decide +kernel
theorem dX7_ofCart_110 : decode cX7_ofCart 110 = .ok (.invokevirtual 66, 3) := by decide +kernel
theorem dX7_ofCart_113 : decode cX7_ofCart 113 = .ok (.goto 5, 3) := by decide +kernel
theorem dX7_ofCart_116 : decode cX7_ofCart 116 = .ok (.bipush (-6), 2) := by decide +kernel
theorem dX7_ofCart_118 : decode cX7_ofCart 118 = .ok (.ireturn, 1) := by decide +kernel
theorem dX7_ofCart_119 : decode cX7_ofCart 119 = .ok (.aload_n 0, 1) := by decide +kernel
theorem dX7_ofCart_120 : decode cX7_ofCart 120 = .ok (.iload_n 1, 1) := by decide +kernel
theorem dX7_ofCart_121 : decode cX7_ofCart 121 = .ok (.iload_n 2, 1) := by decide +kernel
theorem dX7_ofCart_122 : decode cX7_ofCart 122 = .ok (.invokevirtual 66, 3) := by decide +kernel
theorem dX7_ofCart_125 : decode cX7_ofCart 125 = .ok (.ireturn, 1) := by decide +kernel
theorem dX7_ofCart_126 : decode cX7_ofCart 126 = .ok (.aload_n 0, 1) := by decide +kernel
theorem dX7_ofCart_127 : decode cX7_ofCart 127 = .ok (.iload_n 1, 1) := by decide +kernel
theorem dX7_ofCart_128 : decode cX7_ofCart 128 = .ok (.aload_n 0, 1) := by decide +kernel
theorem dX7_ofCart_129 : decode cX7_ofCart 129 = .ok (.getfield 7, 3) := by decide +kernel
theorem dX7_ofCart_132 : decode cX7_ofCart 132 = .ok (.bipush 10, 2) := by decide +kernel
theorem dX7_ofCart_134 : decode cX7_ofCart 134 = .ok (.iaload, 1) := by decide +kernel
theorem dX7_ofCart_135 : decode cX7_ofCart 135 = .ok (.invokevirtual 69, 3) := by decide +kernel
theorem dX7_ofCart_138 : decode cX7_ofCart 138 = .ok (.ireturn, 1) := by decide +kernel
theorem dX7_ofCart_139 : decode cX7_ofCart 139 = .ok (.aload_n 0, 1) := by decide +kernel
theorem dX7_ofCart_140 : decode cX7_ofCart 140 = .ok (.iload_n 1, 1) := by decide +kernel
theorem dX7_ofCart_141 : decode cX7_ofCart 141 = .ok (.bipush 9, 2) := by decide +kernel
theorem dX7_ofCart_143 : decode cX7_ofCart 143 = .ok (.invokevirtual 66, 3) := by decide +kernel
theorem dX7_ofCart_146 : decode cX7_ofCart 146 = .ok (.ireturn, 1) := by decide +kernel
theorem dX7_ofCart_147 : decode cX7_ofCart 147 = .ok (.aload_n 0, 1) := by decide +kernel
theorem dX7_ofCart_148 : decode cX7_ofCart 148 = .ok (.iload_n 1, 1) := by decide +kernel
theorem dX7_ofCart_149 : decode cX7_ofCart 149 = .ok (.bipush 10, 2) := by decide +kernel
theorem dX7_ofCart_151 : decode cX7_ofCart 151 = .ok (.invokevirtual 66, 3) := by decide +kernel
theorem dX7_ofCart_154 : decode cX7_ofCart 154 = .ok (.ireturn, 1) := by decide +kernel
theorem dX7_ofCart_155 : decode cX7_ofCart 155 = .ok (.aload_n 0, 1) := by decide +kernel
theorem dX7_ofCart_156 : decode cX7_ofCart 156 = .ok (.iload_n 1, 1) := by decide +kernel
theorem dX7_ofCart_157 : decode cX7_ofCart 157 = .ok (.bipush 11, 2) := by decide +kernel
theorem dX7_ofCart_159 : decode cX7_ofCart 159 = .ok (.invokevirtual 66, 3) := by decide +kernel
theorem dX7_ofCart_162 : decode cX7_ofCart 162 = .ok (.ireturn, 1) := by decide +kernel
theorem dX7_ofCart_163 : decode cX7_ofCart 163 = .ok (.aload_n 0, 1) := by decide +kernel
theorem dX7_ofCart_164 : decode cX7_ofCart 164 = .ok (.iload_n 1, 1) := by decide +kernel
theorem dX7_ofCart_165 : decode cX7_ofCart 165 = .ok (.bipush 12, 2) := by decide +kernel
theorem dX7_ofCart_167 : decode cX7_ofCart 167 = .ok (.invokevirtual 66, 3) := by decide +kernel
theorem dX7_ofCart_170 : decode cX7_ofCart 170 = .ok (.ireturn, 1) := by decide +kernel
theorem dX7_ofCart_171 : decode cX7_ofCart 171 = .ok (.aload_n 0, 1) := by decide +kernel
theorem dX7_ofCart_172 : decode cX7_ofCart 172 = .ok (.iload_n 1, 1) := by decide +kernel
theorem dX7_ofCart_173 : decode cX7_ofCart 173 = .ok (.bipush 13, 2) := by decide +kernel
theorem dX7_ofCart_175 : decode cX7_ofCart 175 = .ok (.invokevirtual 66, 3) := by decide +kernel
theorem dX7_ofCart_178 : decode cX7_ofCart 178 = .ok (.ireturn, 1) := by decide +kernel
theorem dX7_ofCart_179 : decode cX7_ofCart 179 = .ok (.aload_n 0, 1) := by decide +kernel
theorem dX7_ofCart_180 : decode cX7_ofCart 180 = .ok (.iload_n 1, 1) := by decide +kernel
theorem dX7_ofCart_181 : decode cX7_ofCart 181 = .ok (.bipush 14, 2) := by decide +kernel
theorem dX7_ofCart_183 : decode cX7_ofCart 183 = .ok (.invokevirtual 66, 3) := by decide +kernel
theorem dX7_ofCart_186 : decode cX7_ofCart 186 = .ok (.ireturn, 1) := by decide +kernel
theorem dX7_ofCart_187 : decode cX7_ofCart 187 = .ok (.bipush (-2), 2) := by decide +kernel
theorem dX7_ofCart_189 : decode cX7_ofCart 189 = .ok (.ireturn, 1) := by decide +kernel
theorem dX7_money_0 : decode cX7_money 0 = .ok (.aload_n 0, 1) := by decide +kernel
theorem dX7_money_1 : decode cX7_money 1 = .ok (.iload_n 1, 1) := by decide +kernel
theorem dX7_money_2 : decode cX7_money 2 = .ok (.invokevirtual 72, 3) := by decide +kernel
theorem dX7_money_5 : decode cX7_money 5 = .ok (.ifCond .ne 7, 3) := by decide +kernel
theorem dX7_money_8 : decode cX7_money 8 = .ok (.ldc2_w 175, 3) := by decide +kernel
theorem dX7_money_11 : decode cX7_money 11 = .ok (.lreturn, 1) := by decide +kernel
theorem dX7_money_12 : decode cX7_money 12 = .ok (.iload_n 2, 1) := by decide +kernel
theorem dX7_money_13 : decode cX7_money 13 = .ok (.ifCond .ne 12, 3) := by decide +kernel
theorem dX7_money_16 : decode cX7_money 16 = .ok (.aload_n 0, 1) := by decide +kernel
theorem dX7_money_17 : decode cX7_money 17 = .ok (.iload_n 1, 1) := by decide +kernel
theorem dX7_money_18 : decode cX7_money 18 = .ok (.invokevirtual 106, 3) := by decide +kernel
theorem dX7_money_21 : decode cX7_money 21 = .ok (.i2l, 1) := by decide +kernel
theorem dX7_money_22 : decode cX7_money 22 = .ok (.goto 30, 3) := by decide +kernel
theorem dX7_money_25 : decode cX7_money 25 = .ok (.iload_n 2, 1) := by decide +kernel
theorem dX7_money_26 : decode cX7_money 26 = .ok (.iconst 1, 1) := by decide +kernel
theorem dX7_money_27 : decode cX7_money 27 = .ok (.iconst 4, 1) := by decide +kernel
theorem dX7_money_28 : decode cX7_money 28 = .ok (.invokestatic 35, 3) := by decide +kernel
theorem dX7_money_31 : decode cX7_money 31 = .ok (.ifCond .eq 18, 3) := by decide +kernel
theorem dX7_money_34 : decode cX7_money 34 = .ok (.aload_n 0, 1) := by decide +kernel
theorem dX7_money_35 : decode cX7_money 35 = .ok (.iload_n 1, 1) := by decide +kernel
theorem dX7_money_36 : decode cX7_money 36 = .ok (.bipush 15, 2) := by decide +kernel
theorem dX7_money_38 : decode cX7_money 38 = .ok (.iload_n 2, 1) := by decide +kernel
theorem dX7_money_39 : decode cX7_money 39 = .ok (.iadd, 1) := by decide +kernel
theorem dX7_money_40 : decode cX7_money 40 = .ok (.iconst 1, 1) := by decide +kernel
theorem dX7_money_41 : decode cX7_money 41 = .ok (.isub, 1) := by decide +kernel
theorem dX7_money_42 : decode cX7_money 42 = .ok (.invokevirtual 66, 3) := by decide +kernel
theorem dX7_money_45 : decode cX7_money 45 = .ok (.i2l, 1) := by decide +kernel
theorem dX7_money_46 : decode cX7_money 46 = .ok (.goto 6, 3) := by decide +kernel
theorem dX7_money_49 : decode cX7_money 49 = .ok (.ldc2_w 177, 3) := by decide +kernel
theorem dX7_money_52 : decode cX7_money 52 = .ok (.lreturn, 1) := by decide +kernel
theorem dX7_ofPitch_0 : decode cX7_ofPitch 0 = .ok (.aload_n 0, 1) := by decide +kernel
theorem dX7_ofPitch_1 : decode cX7_ofPitch 1 = .ok (.iload_n 1, 1) := by decide +kernel
theorem dX7_ofPitch_2 : decode cX7_ofPitch 2 = .ok (.invokevirtual 54, 3) := by decide +kernel
theorem dX7_ofPitch_5 : decode cX7_ofPitch 5 = .ok (.ifCond .ne 5, 3) := by decide +kernel
theorem dX7_ofPitch_8 : decode cX7_ofPitch 8 = .ok (.iconst (-1), 1) := by decide +kernel
theorem dX7_ofPitch_9 : decode cX7_ofPitch 9 = .ok (.ireturn, 1) := by decide +kernel
theorem dX7_ofPitch_10 : decode cX7_ofPitch 10 = .ok (.iload_n 2, 1) := by decide +kernel
theorem dX7_ofPitch_11 : decode cX7_ofPitch 11 = .ok (.iconst 0, 1) := by decide +kernel
theorem dX7_ofPitch_12 : decode cX7_ofPitch 12 = .ok (.iconst 3, 1) := by decide +kernel
theorem dX7_ofPitch_13 : decode cX7_ofPitch 13 = .ok (.invokestatic 35, 3) := by decide +kernel
theorem dX7_ofPitch_16 : decode cX7_ofPitch 16 = .ok (.ifCond .eq 12, 3) := by decide +kernel
theorem dX7_ofPitch_19 : decode cX7_ofPitch 19 = .ok (.aload_n 0, 1) := by decide +kernel
theorem dX7_ofPitch_20 : decode cX7_ofPitch 20 = .ok (.iload_n 1, 1) := by decide +kernel
theorem dX7_ofPitch_21 : decode cX7_ofPitch 21 = .ok (.iload_n 2, 1) := by decide +kernel
theorem dX7_ofPitch_22 : decode cX7_ofPitch 22 = .ok (.invokevirtual 58, 3) := by decide +kernel
theorem dX7_ofPitch_25 : decode cX7_ofPitch 25 = .ok (.goto 5, 3) := by decide +kernel
theorem dX7_ofPitch_28 : decode cX7_ofPitch 28 = .ok (.bipush (-2), 2) := by decide +kernel
theorem dX7_ofPitch_30 : decode cX7_ofPitch 30 = .ok (.ireturn, 1) := by decide +kernel
theorem dX7_atPitches_0 : decode cX7_atPitches 0 = .ok (.iconst 0, 1) := by decide +kernel
theorem dX7_atPitches_1 : decode cX7_atPitches 1 = .ok (.istore_n 1, 1) := by decide +kernel
theorem dX7_atPitches_2 : decode cX7_atPitches 2 = .ok (.iconst 0, 1) := by decide +kernel
theorem dX7_atPitches_3 : decode cX7_atPitches 3 = .ok (.istore_n 2, 1) := by decide +kernel
theorem dX7_atPitches_4 : decode cX7_atPitches 4 = .ok (.iload_n 2, 1) := by decide +kernel
theorem dX7_atPitches_5 : decode cX7_atPitches 5 = .ok (.aload_n 0, 1) := by decide +kernel
theorem dX7_atPitches_6 : decode cX7_atPitches 6 = .ok (.getfield 7, 3) := by decide +kernel
theorem dX7_atPitches_9 : decode cX7_atPitches 9 = .ok (.bipush 13, 2) := by decide +kernel
theorem dX7_atPitches_11 : decode cX7_atPitches 11 = .ok (.iaload, 1) := by decide +kernel
theorem dX7_atPitches_12 : decode cX7_atPitches 12 = .ok (.if_icmp .ge 27, 3) := by decide +kernel
theorem dX7_atPitches_15 : decode cX7_atPitches 15 = .ok (.iload_n 1, 1) := by decide +kernel
theorem dX7_atPitches_16 : decode cX7_atPitches 16 = .ok (.aload_n 0, 1) := by decide +kernel
theorem dX7_atPitches_17 : decode cX7_atPitches 17 = .ok (.iload_n 2, 1) := by decide +kernel
theorem dX7_atPitches_18 : decode cX7_atPitches 18 = .ok (.bipush 11, 2) := by decide +kernel
theorem dX7_atPitches_20 : decode cX7_atPitches 20 = .ok (.invokevirtual 66, 3) := by decide +kernel
theorem dX7_atPitches_23 : decode cX7_atPitches 23 = .ok (.ifCond .lt 7, 3) := by decide +kernel
theorem dX7_atPitches_26 : decode cX7_atPitches 26 = .ok (.iconst 1, 1) := by decide +kernel
theorem dX7_atPitches_27 : decode cX7_atPitches 27 = .ok (.goto 4, 3) := by decide +kernel
theorem dX7_atPitches_30 : decode cX7_atPitches 30 = .ok (.iconst 0, 1) := by decide +kernel
theorem dX7_atPitches_31 : decode cX7_atPitches 31 = .ok (.iadd, 1) := by decide +kernel
theorem dX7_atPitches_32 : decode cX7_atPitches 32 = .ok (.istore_n 1, 1) := by decide +kernel
theorem dX7_atPitches_33 : decode cX7_atPitches 33 = .ok (.iinc 2 1, 3) := by decide +kernel
theorem dX7_atPitches_36 : decode cX7_atPitches 36 = .ok (.goto (-32), 3) := by decide +kernel
theorem dX7_atPitches_39 : decode cX7_atPitches 39 = .ok (.iload_n 1, 1) := by decide +kernel
theorem dX7_atPitches_40 : decode cX7_atPitches 40 = .ok (.ireturn, 1) := by decide +kernel
theorem dX7_count_0 : decode cX7_count 0 = .ok (.iload_n 1, 1) := by decide +kernel
theorem dX7_count_1 : decode cX7_count 1 = .ok (.bipush 8, 2) := by decide +kernel
theorem dX7_count_3 : decode cX7_count 3 = .ok (.bipush 17, 2) := by decide +kernel
theorem dX7_count_5 : decode cX7_count 5 = .ok (.invokestatic 35, 3) := by decide +kernel
theorem dX7_count_8 : decode cX7_count 8 = .ok (.ifCond .eq 13, 3) := by decide +kernel
theorem dX7_count_11 : decode cX7_count 11 = .ok (.aload_n 0, 1) := by decide +kernel
theorem dX7_count_12 : decode cX7_count 12 = .ok (.getfield 7, 3) := by decide +kernel
theorem dX7_count_15 : decode cX7_count 15 = .ok (.iload_n 1, 1) := by decide +kernel
theorem dX7_count_16 : decode cX7_count 16 = .ok (.bipush 8, 2) := by decide +kernel
theorem dX7_count_18 : decode cX7_count 18 = .ok (.isub, 1) := by decide +kernel
theorem dX7_count_19 : decode cX7_count 19 = .ok (.iaload, 1) := by decide +kernel
theorem dX7_count_20 : decode cX7_count 20 = .ok (.ireturn, 1) := by decide +kernel
theorem dX7_count_21 : decode cX7_count 21 = .ok (.iload_n 1, 1) := by decide +kernel
theorem dX7_count_22 : decode cX7_count 22 = .ok (.tableswitch 162 0 19 #[94, 102, 110, 118, 126, 131, 139, 144, 162, 162, 162, 162, 162, 162, 162, 162, 162, 162, 149, 154], 94) := by decide +kernel
theorem dX7_count_116 : decode cX7_count 116 = .ok (.aload_n 0, 1) := by decide +kernel
theorem dX7_count_117 : decode cX7_count 117 = .ok (.getfield 7, 3) := by decide +kernel
theorem dX7_count_120 : decode cX7_count 120 = .ok (.bipush 10, 2) := by decide +kernel
theorem dX7_count_122 : decode cX7_count 122 = .ok (.iaload, 1) := by decide +kernel
theorem dX7_count_123 : decode cX7_count 123 = .ok (.ireturn, 1) := by decide +kernel
theorem dX7_count_124 : decode cX7_count 124 = .ok (.aload_n 0, 1) := by decide +kernel
theorem dX7_count_125 : decode cX7_count 125 = .ok (.getfield 7, 3) := by decide +kernel
theorem dX7_count_128 : decode cX7_count 128 = .ok (.bipush 13, 2) := by decide +kernel
theorem dX7_count_130 : decode cX7_count 130 = .ok (.iaload, 1) := by decide +kernel
theorem dX7_count_131 : decode cX7_count 131 = .ok (.ireturn, 1) := by decide +kernel
theorem dX7_count_132 : decode cX7_count 132 = .ok (.aload_n 0, 1) := by decide +kernel
theorem dX7_count_133 : decode cX7_count 133 = .ok (.getfield 7, 3) := by decide +kernel
theorem dX7_count_136 : decode cX7_count 136 = .ok (.bipush 12, 2) := by decide +kernel
theorem dX7_count_138 : decode cX7_count 138 = .ok (.iaload, 1) := by decide +kernel
theorem dX7_count_139 : decode cX7_count 139 = .ok (.ireturn, 1) := by decide +kernel
theorem dX7_count_140 : decode cX7_count 140 = .ok (.aload_n 0, 1) := by decide +kernel
theorem dX7_count_141 : decode cX7_count 141 = .ok (.getfield 7, 3) := by decide +kernel
theorem dX7_count_144 : decode cX7_count 144 = .ok (.bipush 11, 2) := by decide +kernel
theorem dX7_count_146 : decode cX7_count 146 = .ok (.iaload, 1) := by decide +kernel
theorem dX7_count_147 : decode cX7_count 147 = .ok (.ireturn, 1) := by decide +kernel
theorem dX7_count_148 : decode cX7_count 148 = .ok (.aload_n 0, 1) := by decide +kernel
theorem dX7_count_149 : decode cX7_count 149 = .ok (.invokevirtual 94, 3) := by decide +kernel
theorem dX7_count_152 : decode cX7_count 152 = .ok (.ireturn, 1) := by decide +kernel
theorem dX7_count_153 : decode cX7_count 153 = .ok (.aload_n 0, 1) := by decide +kernel
theorem dX7_count_154 : decode cX7_count 154 = .ok (.getfield 7, 3) := by decide +kernel
theorem dX7_count_157 : decode cX7_count 157 = .ok (.bipush 14, 2) := by decide +kernel
theorem dX7_count_159 : decode cX7_count 159 = .ok (.iaload, 1) := by decide +kernel
theorem dX7_count_160 : decode cX7_count 160 = .ok (.ireturn, 1) := by decide +kernel
theorem dX7_count_161 : decode cX7_count 161 = .ok (.aload_n 0, 1) := by decide +kernel
theorem dX7_count_162 : decode cX7_count 162 = .ok (.getfield 179, 3) := by decide +kernel
theorem dX7_count_165 : decode cX7_count 165 = .ok (.ireturn, 1) := by decide +kernel
theorem dX7_count_166 : decode cX7_count 166 = .ok (.aload_n 0, 1) := by decide +kernel
theorem dX7_count_167 : decode cX7_count 167 = .ok (.getfield 39, 3) := by decide +kernel
theorem dX7_count_170 : decode cX7_count 170 = .ok (.ireturn, 1) := by decide +kernel
theorem dX7_count_171 : decode cX7_count 171 = .ok (.aload_n 0, 1) := by decide +kernel
theorem dX7_count_172 : decode cX7_count 172 = .ok (.invokevirtual 182, 3) := by decide +kernel
theorem dX7_count_175 : decode cX7_count 175 = .ok (.ireturn, 1) := by decide +kernel
theorem dX7_count_176 : decode cX7_count 176 = .ok (.aload_n 0, 1) := by decide +kernel
theorem dX7_count_177 : decode cX7_count 177 = .ok (.getfield 7, 3) := by decide +kernel
theorem dX7_count_180 : decode cX7_count 180 = .ok (.bipush 15, 2) := by decide +kernel
theorem dX7_count_182 : decode cX7_count 182 = .ok (.iaload, 1) := by decide +kernel
theorem dX7_count_183 : decode cX7_count 183 = .ok (.ireturn, 1) := by decide +kernel
theorem dX7_count_184 : decode cX7_count 184 = .ok (.bipush (-2), 2) := by decide +kernel
theorem dX7_count_186 : decode cX7_count 186 = .ok (.ireturn, 1) := by decide +kernel
theorem dX7_pointsOn_0 : decode cX7_pointsOn 0 = .ok (.aload_n 0, 1) := by decide +kernel
theorem dX7_pointsOn_1 : decode cX7_pointsOn 1 = .ok (.iload_n 1, 1) := by decide +kernel
theorem dX7_pointsOn_2 : decode cX7_pointsOn 2 = .ok (.invokevirtual 72, 3) := by decide +kernel
theorem dX7_pointsOn_5 : decode cX7_pointsOn 5 = .ok (.ifCond .ne 5, 3) := by decide +kernel
theorem dX7_pointsOn_8 : decode cX7_pointsOn 8 = .ok (.iconst (-1), 1) := by decide +kernel
theorem dX7_pointsOn_9 : decode cX7_pointsOn 9 = .ok (.ireturn, 1) := by decide +kernel
theorem dX7_pointsOn_10 : decode cX7_pointsOn 10 = .ok (.iload_n 2, 1) := by decide +kernel
theorem dX7_pointsOn_11 : decode cX7_pointsOn 11 = .ok (.aload_n 0, 1) := by decide +kernel
theorem dX7_pointsOn_12 : decode cX7_pointsOn 12 = .ok (.getfield 7, 3) := by decide +kernel
theorem dX7_pointsOn_15 : decode cX7_pointsOn 15 = .ok (.bipush 10, 2) := by decide +kernel
theorem dX7_pointsOn_17 : decode cX7_pointsOn 17 = .ok (.iaload, 1) := by decide +kernel
theorem dX7_pointsOn_18 : decode cX7_pointsOn 18 = .ok (.aload_n 0, 1) := by decide +kernel
theorem dX7_pointsOn_19 : decode cX7_pointsOn 19 = .ok (.getfield 7, 3) := by decide +kernel
theorem dX7_pointsOn_22 : decode cX7_pointsOn 22 = .ok (.bipush 10, 2) := by decide +kernel
theorem dX7_pointsOn_24 : decode cX7_pointsOn 24 = .ok (.iaload, 1) := by decide +kernel
theorem dX7_pointsOn_25 : decode cX7_pointsOn 25 = .ok (.sipush 400, 3) := by decide +kernel
theorem dX7_pointsOn_28 : decode cX7_pointsOn 28 = .ok (.iadd, 1) := by decide +kernel
theorem dX7_pointsOn_29 : decode cX7_pointsOn 29 = .ok (.invokestatic 35, 3) := by decide +kernel
theorem dX7_pointsOn_32 : decode cX7_pointsOn 32 = .ok (.ifCond .eq 12, 3) := by decide +kernel
theorem dX7_pointsOn_35 : decode cX7_pointsOn 35 = .ok (.aload_n 0, 1) := by decide +kernel
theorem dX7_pointsOn_36 : decode cX7_pointsOn 36 = .ok (.iload_n 1, 1) := by decide +kernel
theorem dX7_pointsOn_37 : decode cX7_pointsOn 37 = .ok (.iload_n 2, 1) := by decide +kernel
theorem dX7_pointsOn_38 : decode cX7_pointsOn 38 = .ok (.invokevirtual 69, 3) := by decide +kernel
theorem dX7_pointsOn_41 : decode cX7_pointsOn 41 = .ok (.goto 5, 3) := by decide +kernel
theorem dX7_pointsOn_44 : decode cX7_pointsOn 44 = .ok (.bipush (-2), 2) := by decide +kernel
theorem dX7_pointsOn_46 : decode cX7_pointsOn 46 = .ok (.ireturn, 1) := by decide +kernel
theorem dX7_wouldHave_0 : decode cX7_wouldHave 0 = .ok (.aload_n 0, 1) := by decide +kernel
theorem dX7_wouldHave_1 : decode cX7_wouldHave 1 = .ok (.iload_n 1, 1) := by decide +kernel
theorem dX7_wouldHave_2 : decode cX7_wouldHave 2 = .ok (.invokevirtual 72, 3) := by decide +kernel
theorem dX7_wouldHave_5 : decode cX7_wouldHave 5 = .ok (.ifCond .ne 5, 3) := by decide +kernel
theorem dX7_wouldHave_8 : decode cX7_wouldHave 8 = .ok (.iconst (-1), 1) := by decide +kernel
theorem dX7_wouldHave_9 : decode cX7_wouldHave 9 = .ok (.ireturn, 1) := by decide +kernel
theorem dX7_wouldHave_10 : decode cX7_wouldHave 10 = .ok (.aload_n 0, 1) := by decide +kernel
theorem dX7_wouldHave_11 : decode cX7_wouldHave 11 = .ok (.invokevirtual 185, 3) := by decide +kernel
theorem dX7_wouldHave_14 : decode cX7_wouldHave 14 = .ok (.aload_n 0, 1) := by decide +kernel
theorem dX7_wouldHave_15 : decode cX7_wouldHave 15 = .ok (.invokevirtual 169, 3) := by decide +kernel
theorem dX7_wouldHave_18 : decode cX7_wouldHave 18 = .ok (.aload_n 0, 1) := by decide +kernel
theorem dX7_wouldHave_19 : decode cX7_wouldHave 19 = .ok (.iload_n 1, 1) := by decide +kernel
theorem dX7_wouldHave_20 : decode cX7_wouldHave 20 = .ok (.bipush 11, 2) := by decide +kernel
theorem dX7_wouldHave_22 : decode cX7_wouldHave 22 = .ok (.invokevirtual 66, 3) := by decide +kernel
theorem dX7_wouldHave_25 : decode cX7_wouldHave 25 = .ok (.istore_n 2, 1) := by decide +kernel
theorem dX7_wouldHave_26 : decode cX7_wouldHave 26 = .ok (.aload_n 0, 1) := by decide +kernel
theorem dX7_wouldHave_27 : decode cX7_wouldHave 27 = .ok (.invokevirtual 188, 3) := by decide +kernel
theorem dX7_wouldHave_30 : decode cX7_wouldHave 30 = .ok (.iload_n 2, 1) := by decide +kernel
theorem dX7_wouldHave_31 : decode cX7_wouldHave 31 = .ok (.ireturn, 1) := by decide +kernel
theorem dX7_ifWished_0 : decode cX7_ifWished 0 = .ok (.aload_n 0, 1) := by decide +kernel
theorem dX7_ifWished_1 : decode cX7_ifWished 1 = .ok (.iload_n 1, 1) := by decide +kernel
theorem dX7_ifWished_2 : decode cX7_ifWished 2 = .ok (.invokevirtual 72, 3) := by decide +kernel
theorem dX7_ifWished_5 : decode cX7_ifWished 5 = .ok (.ifCond .eq 11, 3) := by decide +kernel
theorem dX7_ifWished_8 : decode cX7_ifWished 8 = .ok (.aload_n 0, 1) := by decide +kernel
theorem dX7_ifWished_9 : decode cX7_ifWished 9 = .ok (.iload_n 2, 1) := by decide +kernel
theorem dX7_ifWished_10 : decode cX7_ifWished 10 = .ok (.invokevirtual 54, 3) := by decide +kernel
theorem dX7_ifWished_13 : decode cX7_ifWished 13 = .ok (.ifCond .ne 5, 3) := by decide +kernel
theorem dX7_ifWished_16 : decode cX7_ifWished 16 = .ok (.iconst (-1), 1) := by decide +kernel
theorem dX7_ifWished_17 : decode cX7_ifWished 17 = .ok (.ireturn, 1) := by decide +kernel
theorem dX7_ifWished_18 : decode cX7_ifWished 18 = .ok (.aload_n 0, 1) := by decide +kernel
theorem dX7_ifWished_19 : decode cX7_ifWished 19 = .ok (.invokevirtual 185, 3) := by decide +kernel
theorem dX7_ifWished_22 : decode cX7_ifWished 22 = .ok (.aload_n 0, 1) := by decide +kernel
theorem dX7_ifWished_23 : decode cX7_ifWished 23 = .ok (.iload_n 1, 1) := by decide +kernel
theorem dX7_ifWished_24 : decode cX7_ifWished 24 = .ok (.iconst 2, 1) := by decide +kernel
theorem dX7_ifWished_25 : decode cX7_ifWished 25 = .ok (.iconst 1, 1) := by decide +kernel
theorem dX7_ifWished_26 : decode cX7_ifWished 26 = .ok (.invokevirtual 62, 3) := by decide +kernel
theorem dX7_ifWished_29 : decode cX7_ifWished 29 = .ok (.aload_n 0, 1) := by decide +kernel
theorem dX7_ifWished_30 : decode cX7_ifWished 30 = .ok (.iload_n 1, 1) := by decide +kernel
theorem dX7_ifWished_31 : decode cX7_ifWished 31 = .ok (.iconst 3, 1) := by decide +kernel
theorem dX7_ifWished_32 : decode cX7_ifWished 32 = .ok (.iload_n 2, 1) := by decide +kernel
theorem dX7_ifWished_33 : decode cX7_ifWished 33 = .ok (.invokevirtual 62, 3) := by decide +kernel
theorem dX7_ifWished_36 : decode cX7_ifWished 36 = .ok (.aload_n 0, 1) := by decide +kernel
theorem dX7_ifWished_37 : decode cX7_ifWished 37 = .ok (.invokevirtual 169, 3) := by decide +kernel
theorem dX7_ifWished_40 : decode cX7_ifWished 40 = .ok (.aload_n 0, 1) := by decide +kernel
theorem dX7_ifWished_41 : decode cX7_ifWished 41 = .ok (.iload_n 1, 1) := by decide +kernel
theorem dX7_ifWished_42 : decode cX7_ifWished 42 = .ok (.bipush 11, 2) := by decide +kernel
theorem dX7_ifWished_44 : decode cX7_ifWished 44 = .ok (.invokevirtual 66, 3) := by decide +kernel
theorem dX7_ifWished_47 : decode cX7_ifWished 47 = .ok (.istore_n 3, 1) := by decide +kernel
theorem dX7_ifWished_48 : decode cX7_ifWished 48 = .ok (.aload_n 0, 1) := by decide +kernel
theorem dX7_ifWished_49 : decode cX7_ifWished 49 = .ok (.invokevirtual 188, 3) := by decide +kernel
theorem dX7_ifWished_52 : decode cX7_ifWished 52 = .ok (.iload_n 3, 1) := by decide +kernel
theorem dX7_ifWished_53 : decode cX7_ifWished 53 = .ok (.ireturn, 1) := by decide +kernel
theorem dX7_firstDay_0 : decode cX7_firstDay 0 = .ok (.aload_n 0, 1) := by decide +kernel
theorem dX7_firstDay_1 : decode cX7_firstDay 1 = .ok (.iload_n 1, 1) := by decide +kernel
theorem dX7_firstDay_2 : decode cX7_firstDay 2 = .ok (.invokevirtual 72, 3) := by decide +kernel
theorem dX7_firstDay_5 : decode cX7_firstDay 5 = .ok (.ifCond .ne 5, 3) := by decide +kernel
theorem dX7_firstDay_8 : decode cX7_firstDay 8 = .ok (.iconst (-1), 1) := by decide +kernel
theorem dX7_firstDay_9 : decode cX7_firstDay 9 = .ok (.ireturn, 1) := by decide +kernel
theorem dX7_firstDay_10 : decode cX7_firstDay 10 = .ok (.aload_n 0, 1) := by decide +kernel
theorem dX7_firstDay_11 : decode cX7_firstDay 11 = .ok (.invokevirtual 185, 3) := by decide +kernel
theorem dX7_firstDay_14 : decode cX7_firstDay 14 = .ok (.bipush (-6), 2) := by decide +kernel
theorem dX7_firstDay_16 : decode cX7_firstDay 16 = .ok (.istore_n 2, 1) := by decide +kernel
theorem dX7_firstDay_17 : decode cX7_firstDay 17 = .ok (.iconst 0, 1) := by decide +kernel
theorem dX7_firstDay_18 : decode cX7_firstDay 18 = .ok (.istore_n 3, 1) := by decide +kernel
theorem dX7_firstDay_19 : decode cX7_firstDay 19 = .ok (.iload_n 3, 1) := by decide +kernel
theorem dX7_firstDay_20 : decode cX7_firstDay 20 = .ok (.bipush 60, 2) := by decide +kernel
theorem dX7_firstDay_22 : decode cX7_firstDay 22 = .ok (.if_icmp .ge 34, 3) := by decide +kernel
theorem dX7_firstDay_25 : decode cX7_firstDay 25 = .ok (.iload_n 2, 1) := by decide +kernel
theorem dX7_firstDay_26 : decode cX7_firstDay 26 = .ok (.ifCond .ge 30, 3) := by decide +kernel
theorem dX7_firstDay_29 : decode cX7_firstDay 29 = .ok (.aload_n 0, 1) := by decide +kernel
theorem dX7_firstDay_30 : decode cX7_firstDay 30 = .ok (.invokevirtual 169, 3) := by decide +kernel
theorem dX7_firstDay_33 : decode cX7_firstDay 33 = .ok (.aload_n 0, 1) := by decide +kernel
theorem dX7_firstDay_34 : decode cX7_firstDay 34 = .ok (.iload_n 1, 1) := by decide +kernel
theorem dX7_firstDay_35 : decode cX7_firstDay 35 = .ok (.bipush 11, 2) := by decide +kernel
theorem dX7_firstDay_37 : decode cX7_firstDay 37 = .ok (.invokevirtual 66, 3) := by decide +kernel
theorem dX7_firstDay_40 : decode cX7_firstDay 40 = .ok (.ifCond .lt 7, 3) := by decide +kernel
theorem dX7_firstDay_43 : decode cX7_firstDay 43 = .ok (.iload_n 3, 1) := by decide +kernel
theorem dX7_firstDay_44 : decode cX7_firstDay 44 = .ok (.goto 5, 3) := by decide +kernel
theorem dX7_firstDay_47 : decode cX7_firstDay 47 = .ok (.bipush (-6), 2) := by decide +kernel
theorem dX7_firstDay_49 : decode cX7_firstDay 49 = .ok (.istore_n 2, 1) := by decide +kernel
theorem dX7_firstDay_50 : decode cX7_firstDay 50 = .ok (.iinc 3 1, 3) := by decide +kernel
theorem dX7_firstDay_53 : decode cX7_firstDay 53 = .ok (.goto (-34), 3) := by decide +kernel
theorem dX7_firstDay_56 : decode cX7_firstDay 56 = .ok (.aload_n 0, 1) := by decide +kernel
theorem dX7_firstDay_57 : decode cX7_firstDay 57 = .ok (.invokevirtual 188, 3) := by decide +kernel
theorem dX7_firstDay_60 : decode cX7_firstDay 60 = .ok (.iload_n 2, 1) := by decide +kernel
theorem dX7_firstDay_61 : decode cX7_firstDay 61 = .ok (.ireturn, 1) := by decide +kernel
theorem dX7_daysOf_0 : decode cX7_daysOf 0 = .ok (.aload_n 0, 1) := by decide +kernel
theorem dX7_daysOf_1 : decode cX7_daysOf 1 = .ok (.iload_n 1, 1) := by decide +kernel
theorem dX7_daysOf_2 : decode cX7_daysOf 2 = .ok (.invokevirtual 72, 3) := by decide +kernel
theorem dX7_daysOf_5 : decode cX7_daysOf 5 = .ok (.ifCond .ne 5, 3) := by decide +kernel
theorem dX7_daysOf_8 : decode cX7_daysOf 8 = .ok (.iconst (-1), 1) := by decide +kernel
theorem dX7_daysOf_9 : decode cX7_daysOf 9 = .ok (.ireturn, 1) := by decide +kernel
theorem dX7_daysOf_10 : decode cX7_daysOf 10 = .ok (.iload_n 2, 1) := by decide +kernel
theorem dX7_daysOf_11 : decode cX7_daysOf 11 = .ok (.iconst 1, 1) := by decide +kernel
theorem dX7_daysOf_12 : decode cX7_daysOf 12 = .ok (.bipush 60, 2) := by decide +kernel
theorem dX7_daysOf_14 : decode cX7_daysOf 14 = .ok (.invokestatic 35, 3) := by decide +kernel
theorem dX7_daysOf_17 : decode cX7_daysOf 17 = .ok (.ifCond .ne 6, 3) := by decide +kernel
theorem dX7_daysOf_20 : decode cX7_daysOf 20 = .ok (.bipush (-2), 2) := by decide +kernel
theorem dX7_daysOf_22 : decode cX7_daysOf 22 = .ok (.ireturn, 1) := by decide +kernel
theorem dX7_daysOf_23 : decode cX7_daysOf 23 = .ok (.aload_n 0, 1) := by decide +kernel
theorem dX7_daysOf_24 : decode cX7_daysOf 24 = .ok (.invokevirtual 185, 3) := by decide +kernel
theorem dX7_daysOf_27 : decode cX7_daysOf 27 = .ok (.aload_n 0, 1) := by decide +kernel
theorem dX7_daysOf_28 : decode cX7_daysOf 28 = .ok (.iload_n 1, 1) := by decide +kernel
theorem dX7_daysOf_29 : decode cX7_daysOf 29 = .ok (.bipush 10, 2) := by decide +kernel
theorem dX7_daysOf_31 : decode cX7_daysOf 31 = .ok (.invokevirtual 66, 3) := by decide +kernel
theorem dX7_daysOf_34 : decode cX7_daysOf 34 = .ok (.istore_n 3, 1) := by decide +kernel
theorem dX7_daysOf_35 : decode cX7_daysOf 35 = .ok (.iconst 0, 1) := by decide +kernel
theorem dX7_daysOf_36 : decode cX7_daysOf 36 = .ok (.istore 4, 2) := by decide +kernel
theorem dX7_daysOf_38 : decode cX7_daysOf 38 = .ok (.iload 4, 2) := by decide +kernel
theorem dX7_daysOf_40 : decode cX7_daysOf 40 = .ok (.iload_n 2, 1) := by decide +kernel
theorem dX7_daysOf_41 : decode cX7_daysOf 41 = .ok (.if_icmp .ge 13, 3) := by decide +kernel
theorem dX7_daysOf_44 : decode cX7_daysOf 44 = .ok (.aload_n 0, 1) := by decide +kernel
theorem dX7_daysOf_45 : decode cX7_daysOf 45 = .ok (.invokevirtual 169, 3) := by decide +kernel
theorem dX7_daysOf_48 : decode cX7_daysOf 48 = .ok (.iinc 4 1, 3) := by decide +kernel
theorem dX7_daysOf_51 : decode cX7_daysOf 51 = .ok (.goto (-13), 3) := by decide +kernel
theorem dX7_daysOf_54 : decode cX7_daysOf 54 = .ok (.aload_n 0, 1) := by decide +kernel
theorem dX7_daysOf_55 : decode cX7_daysOf 55 = .ok (.iload_n 1, 1) := by decide +kernel
theorem dX7_daysOf_56 : decode cX7_daysOf 56 = .ok (.bipush 10, 2) := by decide +kernel
theorem dX7_daysOf_58 : decode cX7_daysOf 58 = .ok (.invokevirtual 66, 3) := by decide +kernel
theorem dX7_daysOf_61 : decode cX7_daysOf 61 = .ok (.iload_n 3, 1) := by decide +kernel
theorem dX7_daysOf_62 : decode cX7_daysOf 62 = .ok (.isub, 1) := by decide +kernel
theorem dX7_daysOf_63 : decode cX7_daysOf 63 = .ok (.istore 4, 2) := by decide +kernel
theorem dX7_daysOf_65 : decode cX7_daysOf 65 = .ok (.aload_n 0, 1) := by decide +kernel
theorem dX7_daysOf_66 : decode cX7_daysOf 66 = .ok (.invokevirtual 188, 3) := by decide +kernel
theorem dX7_daysOf_69 : decode cX7_daysOf 69 = .ok (.iload 4, 2) := by decide +kernel
theorem dX7_daysOf_71 : decode cX7_daysOf 71 = .ok (.ireturn, 1) := by decide +kernel
theorem dX7_luckySeed_0 : decode cX7_luckySeed 0 = .ok (.aload_n 0, 1) := by decide +kernel
theorem dX7_luckySeed_1 : decode cX7_luckySeed 1 = .ok (.iload_n 1, 1) := by decide +kernel
theorem dX7_luckySeed_2 : decode cX7_luckySeed 2 = .ok (.invokevirtual 72, 3) := by decide +kernel
theorem dX7_luckySeed_5 : decode cX7_luckySeed 5 = .ok (.ifCond .eq 11, 3) := by decide +kernel
theorem dX7_luckySeed_8 : decode cX7_luckySeed 8 = .ok (.aload_n 0, 1) := by decide +kernel
theorem dX7_luckySeed_9 : decode cX7_luckySeed 9 = .ok (.iload_n 2, 1) := by decide +kernel
theorem dX7_luckySeed_10 : decode cX7_luckySeed 10 = .ok (.invokevirtual 75, 3) := by decide +kernel
theorem dX7_luckySeed_13 : decode cX7_luckySeed 13 = .ok (.ifCond .ne 5, 3) := by decide +kernel
theorem dX7_luckySeed_16 : decode cX7_luckySeed 16 = .ok (.iconst (-1), 1) := by decide +kernel
theorem dX7_luckySeed_17 : decode cX7_luckySeed 17 = .ok (.ireturn, 1) := by decide +kernel
theorem dX7_luckySeed_18 : decode cX7_luckySeed 18 = .ok (.aload_n 0, 1) := by decide +kernel
theorem dX7_luckySeed_19 : decode cX7_luckySeed 19 = .ok (.invokevirtual 185, 3) := by decide +kernel
theorem dX7_luckySeed_22 : decode cX7_luckySeed 22 = .ok (.bipush (-6), 2) := by decide +kernel
theorem dX7_luckySeed_24 : decode cX7_luckySeed 24 = .ok (.istore_n 3, 1) := by decide +kernel
theorem dX7_luckySeed_25 : decode cX7_luckySeed 25 = .ok (.iconst 0, 1) := by decide +kernel
theorem dX7_luckySeed_26 : decode cX7_luckySeed 26 = .ok (.istore 4, 2) := by decide +kernel
theorem dX7_luckySeed_28 : decode cX7_luckySeed 28 = .ok (.iload 4, 2) := by decide +kernel
theorem dX7_luckySeed_30 : decode cX7_luckySeed 30 = .ok (.sipush 200, 3) := by decide +kernel
theorem dX7_luckySeed_33 : decode cX7_luckySeed 33 = .ok (.if_icmp .ge 62, 3) := by decide +kernel
theorem dX7_luckySeed_36 : decode cX7_luckySeed 36 = .ok (.iload_n 3, 1) := by decide +kernel
theorem dX7_luckySeed_37 : decode cX7_luckySeed 37 = .ok (.ifCond .ge 58, 3) := by decide +kernel
theorem dX7_luckySeed_40 : decode cX7_luckySeed 40 = .ok (.aload_n 0, 1) := by decide +kernel
theorem dX7_luckySeed_41 : decode cX7_luckySeed 41 = .ok (.getfield 7, 3) := by decide +kernel
theorem dX7_luckySeed_44 : decode cX7_luckySeed 44 = .ok (.bipush 11, 2) := by decide +kernel
theorem dX7_luckySeed_46 : decode cX7_luckySeed 46 = .ok (.iload 4, 2) := by decide +kernel
theorem dX7_luckySeed_48 : decode cX7_luckySeed 48 = .ok (.iastore, 1) := by decide +kernel
theorem dX7_luckySeed_49 : decode cX7_luckySeed 49 = .ok (.aload_n 0, 1) := by decide +kernel
theorem dX7_luckySeed_50 : decode cX7_luckySeed 50 = .ok (.invokevirtual 169, 3) := by decide +kernel
theorem dX7_luckySeed_53 : decode cX7_luckySeed 53 = .ok (.aload_n 0, 1) := by decide +kernel
theorem dX7_luckySeed_54 : decode cX7_luckySeed 54 = .ok (.iload_n 1, 1) := by decide +kernel
theorem dX7_luckySeed_55 : decode cX7_luckySeed 55 = .ok (.bipush 11, 2) := by decide +kernel
theorem dX7_luckySeed_57 : decode cX7_luckySeed 57 = .ok (.invokevirtual 66, 3) := by decide +kernel
theorem dX7_luckySeed_60 : decode cX7_luckySeed 60 = .ok (.istore 5, 2) := by decide +kernel
theorem dX7_luckySeed_62 : decode cX7_luckySeed 62 = .ok (.iload 5, 2) := by decide +kernel
theorem dX7_luckySeed_64 : decode cX7_luckySeed 64 = .ok (.ifCond .lt 18, 3) := by decide +kernel
theorem dX7_luckySeed_67 : decode cX7_luckySeed 67 = .ok (.iload_n 2, 1) := by decide +kernel
theorem dX7_luckySeed_68 : decode cX7_luckySeed 68 = .ok (.ifCond .lt 9, 3) := by decide +kernel
theorem dX7_luckySeed_71 : decode cX7_luckySeed 71 = .ok (.iload 5, 2) := by decide +kernel
theorem dX7_luckySeed_73 : decode cX7_luckySeed 73 = .ok (.iload_n 2, 1) := by decide +kernel
theorem dX7_luckySeed_74 : decode cX7_luckySeed 74 = .ok (.if_icmp .ne 8, 3) := by decide +kernel
theorem dX7_luckySeed_77 : decode cX7_luckySeed 77 = .ok (.iload 4, 2) := by decide +kernel
theorem dX7_luckySeed_79 : decode cX7_luckySeed 79 = .ok (.goto 5, 3) := by decide +kernel
theorem dX7_luckySeed_82 : decode cX7_luckySeed 82 = .ok (.bipush (-6), 2) := by decide +kernel
theorem dX7_luckySeed_84 : decode cX7_luckySeed 84 = .ok (.istore_n 3, 1) := by decide +kernel
theorem dX7_luckySeed_85 : decode cX7_luckySeed 85 = .ok (.aload_n 0, 1) := by decide +kernel
theorem dX7_luckySeed_86 : decode cX7_luckySeed 86 = .ok (.invokevirtual 188, 3) := by decide +kernel
theorem dX7_luckySeed_89 : decode cX7_luckySeed 89 = .ok (.iinc 4 1, 3) := by decide +kernel
theorem dX7_luckySeed_92 : decode cX7_luckySeed 92 = .ok (.goto (-64), 3) := by decide +kernel
theorem dX7_luckySeed_95 : decode cX7_luckySeed 95 = .ok (.iload_n 3, 1) := by decide +kernel
theorem dX7_luckySeed_96 : decode cX7_luckySeed 96 = .ok (.ireturn, 1) := by decide +kernel
theorem dX7_whyNot_0 : decode cX7_whyNot 0 = .ok (.aload_n 0, 1) := by decide +kernel
theorem dX7_whyNot_1 : decode cX7_whyNot 1 = .ok (.iload_n 1, 1) := by decide +kernel
theorem dX7_whyNot_2 : decode cX7_whyNot 2 = .ok (.invokevirtual 72, 3) := by decide +kernel
theorem dX7_whyNot_5 : decode cX7_whyNot 5 = .ok (.ifCond .eq 11, 3) := by decide +kernel
theorem dX7_whyNot_8 : decode cX7_whyNot 8 = .ok (.aload_n 0, 1) := by decide +kernel
theorem dX7_whyNot_9 : decode cX7_whyNot 9 = .ok (.iload_n 2, 1) := by decide +kernel
theorem dX7_whyNot_10 : decode cX7_whyNot 10 = .ok (.invokevirtual 54, 3) := by decide +kernel
theorem dX7_whyNot_13 : decode cX7_whyNot 13 = .ok (.ifCond .ne 5, 3) := by decide +kernel
theorem dX7_whyNot_16 : decode cX7_whyNot 16 = .ok (.iconst (-1), 1) := by decide +kernel
theorem dX7_whyNot_17 : decode cX7_whyNot 17 = .ok (.ireturn, 1) := by decide +kernel
theorem dX7_whyNot_18 : decode cX7_whyNot 18 = .ok (.aload_n 0, 1) := by decide +kernel
theorem dX7_whyNot_19 : decode cX7_whyNot 19 = .ok (.iload_n 2, 1) := by decide +kernel
theorem dX7_whyNot_20 : decode cX7_whyNot 20 = .ok (.iconst 3, 1) := by decide +kernel
theorem dX7_whyNot_21 : decode cX7_whyNot 21 = .ok (.invokevirtual 58, 3) := by decide +kernel
theorem dX7_whyNot_24 : decode cX7_whyNot 24 = .ok (.istore_n 3, 1) := by decide +kernel
theorem dX7_whyNot_25 : decode cX7_whyNot 25 = .ok (.iload_n 3, 1) := by decide +kernel
theorem dX7_whyNot_26 : decode cX7_whyNot 26 = .ok (.ifCond .lt 12, 3) := by decide +kernel
theorem dX7_whyNot_29 : decode cX7_whyNot 29 = .ok (.iload_n 3, 1) := by decide +kernel
theorem dX7_whyNot_30 : decode cX7_whyNot 30 = .ok (.iload_n 1, 1) := by decide +kernel
theorem dX7_whyNot_31 : decode cX7_whyNot 31 = .ok (.if_icmp .eq 7, 3) := by decide +kernel
theorem dX7_whyNot_34 : decode cX7_whyNot 34 = .ok (.iconst 1, 1) := by decide +kernel
theorem dX7_whyNot_35 : decode cX7_whyNot 35 = .ok (.goto 17, 3) := by decide +kernel
theorem dX7_whyNot_38 : decode cX7_whyNot 38 = .ok (.aload_n 0, 1) := by decide +kernel
theorem dX7_whyNot_39 : decode cX7_whyNot 39 = .ok (.iload_n 1, 1) := by decide +kernel
theorem dX7_whyNot_40 : decode cX7_whyNot 40 = .ok (.iload_n 2, 1) := by decide +kernel
theorem dX7_whyNot_41 : decode cX7_whyNot 41 = .ok (.invokevirtual 118, 3) := by decide +kernel
theorem dX7_whyNot_44 : decode cX7_whyNot 44 = .ok (.ifCond .eq 7, 3) := by decide +kernel
theorem dX7_whyNot_47 : decode cX7_whyNot 47 = .ok (.iconst 0, 1) := by decide +kernel
theorem dX7_whyNot_48 : decode cX7_whyNot 48 = .ok (.goto 4, 3) := by decide +kernel
theorem dX7_whyNot_51 : decode cX7_whyNot 51 = .ok (.iconst 2, 1) := by decide +kernel
theorem dX7_whyNot_52 : decode cX7_whyNot 52 = .ok (.ireturn, 1) := by decide +kernel
theorem dX7_put__0 : decode cX7_put_ 0 = .ok (.iconst 0, 1) := by decide +kernel
theorem dX7_put__1 : decode cX7_put_ 1 = .ok (.istore_n 3, 1) := by decide +kernel
theorem dX7_put__2 : decode cX7_put_ 2 = .ok (.lload_n 1, 1) := by decide +kernel
theorem dX7_put__3 : decode cX7_put_ 3 = .ok (.lstore 4, 2) := by decide +kernel
theorem dX7_put__5 : decode cX7_put_ 5 = .ok (.iload_n 3, 1) := by decide +kernel
theorem dX7_put__6 : decode cX7_put_ 6 = .ok (.bipush 8, 2) := by decide +kernel
theorem dX7_put__8 : decode cX7_put_ 8 = .ok (.if_icmp .ge 47, 3) := by decide +kernel
theorem dX7_put__11 : decode cX7_put_ 11 = .ok (.lload 4, 2) := by decide +kernel
theorem dX7_put__13 : decode cX7_put_ 13 = .ok (.ldc2_w 191, 3) := by decide +kernel
theorem dX7_put__16 : decode cX7_put_ 16 = .ok (.land, 1) := by decide +kernel
theorem dX7_put__17 : decode cX7_put_ 17 = .ok (.lconst 0, 1) := by decide +kernel
theorem dX7_put__18 : decode cX7_put_ 18 = .ok (.lcmp, 1) := by decide +kernel
theorem dX7_put__19 : decode cX7_put_ 19 = .ok (.ifCond .eq 36, 3) := by decide +kernel
theorem dX7_put__22 : decode cX7_put_ 22 = .ok (.lload 4, 2) := by decide +kernel
theorem dX7_put__24 : decode cX7_put_ 24 = .ok (.ldc2_w 191, 3) := by decide +kernel
theorem dX7_put__27 : decode cX7_put_ 27 = .ok (.land, 1) := by decide +kernel
theorem dX7_put__28 : decode cX7_put_ 28 = .ok (.l2i, 1) := by decide +kernel
theorem dX7_put__29 : decode cX7_put_ 29 = .ok (.bipush 33, 2) := by decide +kernel
theorem dX7_put__31 : decode cX7_put_ 31 = .ok (.bipush 126, 2) := by decide +kernel
theorem dX7_put__33 : decode cX7_put_ 33 = .ok (.invokestatic 35, 3) := by decide +kernel
theorem dX7_put__36 : decode cX7_put_ 36 = .ok (.ifCond .ne 6, 3) := by decide +kernel
theorem dX7_put__39 : decode cX7_put_ 39 = .ok (.bipush (-2), 2) := by decide +kernel
theorem dX7_put__41 : decode cX7_put_ 41 = .ok (.ireturn, 1) := by decide +kernel
theorem dX7_put__42 : decode cX7_put_ 42 = .ok (.iinc 3 1, 3) := by decide +kernel
theorem dX7_put__45 : decode cX7_put_ 45 = .ok (.lload 4, 2) := by decide +kernel
theorem dX7_put__47 : decode cX7_put_ 47 = .ok (.bipush 8, 2) := by decide +kernel
theorem dX7_put__49 : decode cX7_put_ 49 = .ok (.lushr, 1) := by decide +kernel
theorem dX7_put__50 : decode cX7_put_ 50 = .ok (.lstore 4, 2) := by decide +kernel
theorem dX7_put__52 : decode cX7_put_ 52 = .ok (.goto (-47), 3) := by decide +kernel
theorem dX7_put__55 : decode cX7_put_ 55 = .ok (.iload_n 3, 1) := by decide +kernel
theorem dX7_put__56 : decode cX7_put_ 56 = .ok (.ifCond .eq 10, 3) := by decide +kernel
theorem dX7_put__59 : decode cX7_put_ 59 = .ok (.lload 4, 2) := by decide +kernel
theorem dX7_put__61 : decode cX7_put_ 61 = .ok (.lconst 0, 1) := by decide +kernel
theorem dX7_put__62 : decode cX7_put_ 62 = .ok (.lcmp, 1) := by decide +kernel
theorem dX7_put__63 : decode cX7_put_ 63 = .ok (.ifCond .eq 6, 3) := by decide +kernel
theorem dX7_put__66 : decode cX7_put_ 66 = .ok (.bipush (-2), 2) := by decide +kernel
theorem dX7_put__68 : decode cX7_put_ 68 = .ok (.ireturn, 1) := by decide +kernel
theorem dX7_put__69 : decode cX7_put_ 69 = .ok (.aload_n 0, 1) := by decide +kernel
theorem dX7_put__70 : decode cX7_put_ 70 = .ok (.getfield 179, 3) := by decide +kernel
theorem dX7_put__73 : decode cX7_put_ 73 = .ok (.iload_n 3, 1) := by decide +kernel
theorem dX7_put__74 : decode cX7_put_ 74 = .ok (.iadd, 1) := by decide +kernel
theorem dX7_put__75 : decode cX7_put_ 75 = .ok (.bipush 80, 2) := by decide +kernel
theorem dX7_put__77 : decode cX7_put_ 77 = .ok (.if_icmp .le 6, 3) := by decide +kernel
theorem dX7_put__80 : decode cX7_put_ 80 = .ok (.bipush (-4), 2) := by decide +kernel
theorem dX7_put__82 : decode cX7_put_ 82 = .ok (.ireturn, 1) := by decide +kernel
theorem dX7_put__83 : decode cX7_put_ 83 = .ok (.iconst 0, 1) := by decide +kernel
theorem dX7_put__84 : decode cX7_put_ 84 = .ok (.istore 6, 2) := by decide +kernel
theorem dX7_put__86 : decode cX7_put_ 86 = .ok (.iload 6, 2) := by decide +kernel
theorem dX7_put__88 : decode cX7_put_ 88 = .ok (.iload_n 3, 1) := by decide +kernel
theorem dX7_put__89 : decode cX7_put_ 89 = .ok (.if_icmp .ge 37, 3) := by decide +kernel
theorem dX7_put__92 : decode cX7_put_ 92 = .ok (.aload_n 0, 1) := by decide +kernel
theorem dX7_put__93 : decode cX7_put_ 93 = .ok (.getfield 26, 3) := by decide +kernel
theorem dX7_put__96 : decode cX7_put_ 96 = .ok (.aload_n 0, 1) := by decide +kernel
theorem dX7_put__97 : decode cX7_put_ 97 = .ok (.getfield 179, 3) := by decide +kernel
theorem dX7_put__100 : decode cX7_put_ 100 = .ok (.iload 6, 2) := by decide +kernel
theorem dX7_put__102 : decode cX7_put_ 102 = .ok (.iadd, 1) := by decide +kernel
theorem dX7_put__103 : decode cX7_put_ 103 = .ok (.lload_n 1, 1) := by decide +kernel
theorem dX7_put__104 : decode cX7_put_ 104 = .ok (.bipush 8, 2) := by decide +kernel
theorem dX7_put__106 : decode cX7_put_ 106 = .ok (.iload_n 3, 1) := by decide +kernel
theorem dX7_put__107 : decode cX7_put_ 107 = .ok (.iconst 1, 1) := by decide +kernel
theorem dX7_put__108 : decode cX7_put_ 108 = .ok (.isub, 1) := by decide +kernel
theorem dX7_put__109 : decode cX7_put_ 109 = .ok (.iload 6, 2) := by decide +kernel
theorem dX7_put__111 : decode cX7_put_ 111 = .ok (.isub, 1) := by decide +kernel
theorem dX7_put__112 : decode cX7_put_ 112 = .ok (.imul, 1) := by decide +kernel
theorem dX7_put__113 : decode cX7_put_ 113 = .ok (.lshr, 1) := by decide +kernel
theorem dX7_put__114 : decode cX7_put_ 114 = .ok (.ldc2_w 191, 3) := by decide +kernel
theorem dX7_put__117 : decode cX7_put_ 117 = .ok (.land, 1) := by decide +kernel
theorem dX7_put__118 : decode cX7_put_ 118 = .ok (.l2i, 1) := by decide +kernel
theorem dX7_put__119 : decode cX7_put_ 119 = .ok (.iastore, 1) := by decide +kernel
theorem dX7_put__120 : decode cX7_put_ 120 = .ok (.iinc 6 1, 3) := by decide +kernel
theorem dX7_put__123 : decode cX7_put_ 123 = .ok (.goto (-37), 3) := by decide +kernel
theorem dX7_put__126 : decode cX7_put_ 126 = .ok (.aload_n 0, 1) := by decide +kernel
theorem dX7_put__127 : decode cX7_put_ 127 = .ok (.dup, 1) := by decide +kernel
theorem dX7_put__128 : decode cX7_put_ 128 = .ok (.getfield 179, 3) := by decide +kernel
theorem dX7_put__131 : decode cX7_put_ 131 = .ok (.iload_n 3, 1) := by decide +kernel
theorem dX7_put__132 : decode cX7_put_ 132 = .ok (.iadd, 1) := by decide +kernel
theorem dX7_put__133 : decode cX7_put_ 133 = .ok (.putfield 179, 3) := by decide +kernel
theorem dX7_put__136 : decode cX7_put_ 136 = .ok (.aload_n 0, 1) := by decide +kernel
theorem dX7_put__137 : decode cX7_put_ 137 = .ok (.getfield 179, 3) := by decide +kernel
theorem dX7_put__140 : decode cX7_put_ 140 = .ok (.ireturn, 1) := by decide +kernel
theorem dX7_wipe_0 : decode cX7_wipe 0 = .ok (.aload_n 0, 1) := by decide +kernel
theorem dX7_wipe_1 : decode cX7_wipe 1 = .ok (.getfield 179, 3) := by decide +kernel
theorem dX7_wipe_4 : decode cX7_wipe 4 = .ok (.istore_n 1, 1) := by decide +kernel
theorem dX7_wipe_5 : decode cX7_wipe 5 = .ok (.aload_n 0, 1) := by decide +kernel
theorem dX7_wipe_6 : decode cX7_wipe 6 = .ok (.iconst 0, 1) := by decide +kernel
theorem dX7_wipe_7 : decode cX7_wipe 7 = .ok (.putfield 179, 3) := by decide +kernel
theorem dX7_wipe_10 : decode cX7_wipe 10 = .ok (.iload_n 1, 1) := by decide +kernel
theorem dX7_wipe_11 : decode cX7_wipe 11 = .ok (.ireturn, 1) := by decide +kernel
theorem dX7_next_0 : decode cX7_next 0 = .ok (.aload_n 0, 1) := by decide +kernel
theorem dX7_next_1 : decode cX7_next 1 = .ok (.getfield 193, 3) := by decide +kernel
theorem dX7_next_4 : decode cX7_next 4 = .ok (.aload_n 0, 1) := by decide +kernel
theorem dX7_next_5 : decode cX7_next 5 = .ok (.getfield 179, 3) := by decide +kernel
theorem dX7_next_8 : decode cX7_next 8 = .ok (.if_icmp .ge 15, 3) := by decide +kernel
theorem dX7_next_11 : decode cX7_next 11 = .ok (.aload_n 0, 1) := by decide +kernel
theorem dX7_next_12 : decode cX7_next 12 = .ok (.getfield 26, 3) := by decide +kernel
theorem dX7_next_15 : decode cX7_next 15 = .ok (.aload_n 0, 1) := by decide +kernel
theorem dX7_next_16 : decode cX7_next 16 = .ok (.getfield 193, 3) := by decide +kernel
theorem dX7_next_19 : decode cX7_next 19 = .ok (.iaload, 1) := by decide +kernel
theorem dX7_next_20 : decode cX7_next 20 = .ok (.goto 4, 3) := by decide +kernel
theorem dX7_next_23 : decode cX7_next 23 = .ok (.iconst 0, 1) := by decide +kernel
theorem dX7_next_24 : decode cX7_next 24 = .ok (.ireturn, 1) := by decide +kernel
theorem dX7_takeOne_0 : decode cX7_takeOne 0 = .ok (.aload_n 0, 1) := by decide +kernel
theorem dX7_takeOne_1 : decode cX7_takeOne 1 = .ok (.aload_n 0, 1) := by decide +kernel
theorem dX7_takeOne_2 : decode cX7_takeOne 2 = .ok (.getfield 196, 3) := by decide +kernel
theorem dX7_takeOne_5 : decode cX7_takeOne 5 = .ok (.ifCond .ne 15, 3) := by decide +kernel
theorem dX7_takeOne_8 : decode cX7_takeOne 8 = .ok (.aload_n 0, 1) := by decide +kernel
theorem dX7_takeOne_9 : decode cX7_takeOne 9 = .ok (.invokevirtual 200, 3) := by decide +kernel
theorem dX7_takeOne_12 : decode cX7_takeOne 12 = .ok (.iload_n 2, 1) := by decide +kernel
theorem dX7_takeOne_13 : decode cX7_takeOne 13 = .ok (.iload_n 3, 1) := by decide +kernel
theorem dX7_takeOne_14 : decode cX7_takeOne 14 = .ok (.invokestatic 35, 3) := by decide +kernel
theorem dX7_takeOne_17 : decode cX7_takeOne 17 = .ok (.ifCond .ne 7, 3) := by decide +kernel
theorem dX7_takeOne_20 : decode cX7_takeOne 20 = .ok (.iconst 1, 1) := by decide +kernel
theorem dX7_takeOne_21 : decode cX7_takeOne 21 = .ok (.goto 4, 3) := by decide +kernel
theorem dX7_takeOne_24 : decode cX7_takeOne 24 = .ok (.iconst 0, 1) := by decide +kernel
theorem dX7_takeOne_25 : decode cX7_takeOne 25 = .ok (.putfield 196, 3) := by decide +kernel
theorem dX7_takeOne_28 : decode cX7_takeOne 28 = .ok (.aload_n 0, 1) := by decide +kernel
theorem dX7_takeOne_29 : decode cX7_takeOne 29 = .ok (.getfield 196, 3) := by decide +kernel
theorem dX7_takeOne_32 : decode cX7_takeOne 32 = .ok (.ifCond .ne 32, 3) := by decide +kernel
theorem dX7_takeOne_35 : decode cX7_takeOne 35 = .ok (.aload_n 0, 1) := by decide +kernel
theorem dX7_takeOne_36 : decode cX7_takeOne 36 = .ok (.getfield 32, 3) := by decide +kernel
theorem dX7_takeOne_39 : decode cX7_takeOne 39 = .ok (.iconst 4, 1) := by decide +kernel
theorem dX7_takeOne_40 : decode cX7_takeOne 40 = .ok (.aload_n 0, 1) := by decide +kernel
theorem dX7_takeOne_41 : decode cX7_takeOne 41 = .ok (.getfield 203, 3) := by decide +kernel
theorem dX7_takeOne_44 : decode cX7_takeOne 44 = .ok (.imul, 1) := by decide +kernel
theorem dX7_takeOne_45 : decode cX7_takeOne 45 = .ok (.iload_n 1, 1) := by decide +kernel
theorem dX7_takeOne_46 : decode cX7_takeOne 46 = .ok (.iadd, 1) := by decide +kernel
theorem dX7_takeOne_47 : decode cX7_takeOne 47 = .ok (.aload_n 0, 1) := by decide +kernel
theorem dX7_takeOne_48 : decode cX7_takeOne 48 = .ok (.invokevirtual 200, 3) := by decide +kernel
theorem dX7_takeOne_51 : decode cX7_takeOne 51 = .ok (.iload_n 2, 1) := by decide +kernel
theorem dX7_takeOne_52 : decode cX7_takeOne 52 = .ok (.isub, 1) := by decide +kernel
theorem dX7_takeOne_53 : decode cX7_takeOne 53 = .ok (.iastore, 1) := by decide +kernel
theorem dX7_takeOne_54 : decode cX7_takeOne 54 = .ok (.aload_n 0, 1) := by decide +kernel
theorem dX7_takeOne_55 : decode cX7_takeOne 55 = .ok (.dup, 1) := by decide +kernel
theorem dX7_takeOne_56 : decode cX7_takeOne 56 = .ok (.getfield 193, 3) := by decide +kernel
theorem dX7_takeOne_59 : decode cX7_takeOne 59 = .ok (.iconst 1, 1) := by decide +kernel
theorem dX7_takeOne_60 : decode cX7_takeOne 60 = .ok (.iadd, 1) := by decide +kernel
theorem dX7_takeOne_61 : decode cX7_takeOne 61 = .ok (.putfield 193, 3) := by decide +kernel
theorem dX7_takeOne_64 : decode cX7_takeOne 64 = .ok (.return_, 1) := by decide +kernel
theorem dX7_takeNumber_0 : decode cX7_takeNumber 0 = .ok (.aload_n 0, 1) := by decide +kernel
theorem dX7_takeNumber_1 : decode cX7_takeNumber 1 = .ok (.iconst 0, 1) := by decide +kernel
theorem dX7_takeNumber_2 : decode cX7_takeNumber 2 = .ok (.bipush 48, 2) := by decide +kernel
theorem dX7_takeNumber_4 : decode cX7_takeNumber 4 = .ok (.bipush 57, 2) := by decide +kernel
theorem dX7_takeNumber_6 : decode cX7_takeNumber 6 = .ok (.invokevirtual 206, 3) := by decide +kernel
theorem dX7_takeNumber_9 : decode cX7_takeNumber 9 = .ok (.iconst 4, 1) := by decide +kernel
theorem dX7_takeNumber_10 : decode cX7_takeNumber 10 = .ok (.aload_n 0, 1) := by decide +kernel
theorem dX7_takeNumber_11 : decode cX7_takeNumber 11 = .ok (.getfield 203, 3) := by decide +kernel
theorem dX7_takeNumber_14 : decode cX7_takeNumber 14 = .ok (.imul, 1) := by decide +kernel
theorem dX7_takeNumber_15 : decode cX7_takeNumber 15 = .ok (.istore_n 1, 1) := by decide +kernel
theorem dX7_takeNumber_16 : decode cX7_takeNumber 16 = .ok (.aload_n 0, 1) := by decide +kernel
theorem dX7_takeNumber_17 : decode cX7_takeNumber 17 = .ok (.getfield 196, 3) := by decide +kernel
theorem dX7_takeNumber_20 : decode cX7_takeNumber 20 = .ok (.ifCond .ne 74, 3) := by decide +kernel
theorem dX7_takeNumber_23 : decode cX7_takeNumber 23 = .ok (.aload_n 0, 1) := by decide +kernel
theorem dX7_takeNumber_24 : decode cX7_takeNumber 24 = .ok (.getfield 32, 3) := by decide +kernel
theorem dX7_takeNumber_27 : decode cX7_takeNumber 27 = .ok (.iload_n 1, 1) := by decide +kernel
theorem dX7_takeNumber_28 : decode cX7_takeNumber 28 = .ok (.iaload, 1) := by decide +kernel
theorem dX7_takeNumber_29 : decode cX7_takeNumber 29 = .ok (.ifCond .le 65, 3) := by decide +kernel
theorem dX7_takeNumber_32 : decode cX7_takeNumber 32 = .ok (.aload_n 0, 1) := by decide +kernel
theorem dX7_takeNumber_33 : decode cX7_takeNumber 33 = .ok (.invokevirtual 200, 3) := by decide +kernel
theorem dX7_takeNumber_36 : decode cX7_takeNumber 36 = .ok (.bipush 48, 2) := by decide +kernel
theorem dX7_takeNumber_38 : decode cX7_takeNumber 38 = .ok (.bipush 57, 2) := by decide +kernel
theorem dX7_takeNumber_40 : decode cX7_takeNumber 40 = .ok (.invokestatic 35, 3) := by decide +kernel
theorem dX7_takeNumber_43 : decode cX7_takeNumber 43 = .ok (.ifCond .eq 51, 3) := by decide +kernel
theorem dX7_takeNumber_46 : decode cX7_takeNumber 46 = .ok (.aload_n 0, 1) := by decide +kernel
theorem dX7_takeNumber_47 : decode cX7_takeNumber 47 = .ok (.getfield 32, 3) := by decide +kernel
theorem dX7_takeNumber_50 : decode cX7_takeNumber 50 = .ok (.iload_n 1, 1) := by decide +kernel
theorem dX7_takeNumber_51 : decode cX7_takeNumber 51 = .ok (.bipush 10, 2) := by decide +kernel
theorem dX7_takeNumber_53 : decode cX7_takeNumber 53 = .ok (.aload_n 0, 1) := by decide +kernel
theorem dX7_takeNumber_54 : decode cX7_takeNumber 54 = .ok (.getfield 32, 3) := by decide +kernel
theorem dX7_takeNumber_57 : decode cX7_takeNumber 57 = .ok (.iload_n 1, 1) := by decide +kernel
theorem dX7_takeNumber_58 : decode cX7_takeNumber 58 = .ok (.iaload, 1) := by decide +kernel
theorem dX7_takeNumber_59 : decode cX7_takeNumber 59 = .ok (.imul, 1) := by decide +kernel
theorem dX7_takeNumber_60 : decode cX7_takeNumber 60 = .ok (.aload_n 0, 1) := by decide +kernel
theorem dX7_takeNumber_61 : decode cX7_takeNumber 61 = .ok (.invokevirtual 200, 3) := by decide +kernel
theorem dX7_takeNumber_64 : decode cX7_takeNumber 64 = .ok (.iadd, 1) := by decide +kernel
theorem dX7_takeNumber_65 : decode cX7_takeNumber 65 = .ok (.bipush 48, 2) := by decide +kernel
theorem dX7_takeNumber_67 : decode cX7_takeNumber 67 = .ok (.isub, 1) := by decide +kernel
theorem dX7_takeNumber_68 : decode cX7_takeNumber 68 = .ok (.iastore, 1) := by decide +kernel
theorem dX7_takeNumber_69 : decode cX7_takeNumber 69 = .ok (.aload_n 0, 1) := by decide +kernel
theorem dX7_takeNumber_70 : decode cX7_takeNumber 70 = .ok (.dup, 1) := by decide +kernel
theorem dX7_takeNumber_71 : decode cX7_takeNumber 71 = .ok (.getfield 193, 3) := by decide +kernel
theorem dX7_takeNumber_74 : decode cX7_takeNumber 74 = .ok (.iconst 1, 1) := by decide +kernel
theorem dX7_takeNumber_75 : decode cX7_takeNumber 75 = .ok (.iadd, 1) := by decide +kernel
theorem dX7_takeNumber_76 : decode cX7_takeNumber 76 = .ok (.putfield 193, 3) := by decide +kernel
theorem dX7_takeNumber_79 : decode cX7_takeNumber 79 = .ok (.aload_n 0, 1) := by decide +kernel
theorem dX7_takeNumber_80 : decode cX7_takeNumber 80 = .ok (.aload_n 0, 1) := by decide +kernel
theorem dX7_takeNumber_81 : decode cX7_takeNumber 81 = .ok (.invokevirtual 200, 3) := by decide +kernel
theorem dX7_takeNumber_84 : decode cX7_takeNumber 84 = .ok (.bipush 48, 2) := by decide +kernel
theorem dX7_takeNumber_86 : decode cX7_takeNumber 86 = .ok (.bipush 57, 2) := by decide +kernel
theorem dX7_takeNumber_88 : decode cX7_takeNumber 88 = .ok (.invokestatic 35, 3) := by decide +kernel
theorem dX7_takeNumber_91 : decode cX7_takeNumber 91 = .ok (.putfield 196, 3) := by decide +kernel
theorem dX7_takeNumber_94 : decode cX7_takeNumber 94 = .ok (.return_, 1) := by decide +kernel
theorem dX7_takeWishes_0 : decode cX7_takeWishes 0 = .ok (.aload_n 0, 1) := by decide +kernel
theorem dX7_takeWishes_1 : decode cX7_takeWishes 1 = .ok (.iconst 0, 1) := by decide +kernel
theorem dX7_takeWishes_2 : decode cX7_takeWishes 2 = .ok (.bipush 65, 2) := by decide +kernel
theorem dX7_takeWishes_4 : decode cX7_takeWishes 4 = .ok (.bipush 80, 2) := by decide +kernel
theorem dX7_takeWishes_6 : decode cX7_takeWishes 6 = .ok (.invokevirtual 206, 3) := by decide +kernel
theorem dX7_takeWishes_9 : decode cX7_takeWishes 9 = .ok (.iconst 1, 1) := by decide +kernel
theorem dX7_takeWishes_10 : decode cX7_takeWishes 10 = .ok (.istore_n 1, 1) := by decide +kernel
theorem dX7_takeWishes_11 : decode cX7_takeWishes 11 = .ok (.iload_n 1, 1) := by decide +kernel
theorem dX7_takeWishes_12 : decode cX7_takeWishes 12 = .ok (.iconst 3, 1) := by decide +kernel
theorem dX7_takeWishes_13 : decode cX7_takeWishes 13 = .ok (.if_icmp .gt 54, 3) := by decide +kernel
theorem dX7_takeWishes_16 : decode cX7_takeWishes 16 = .ok (.aload_n 0, 1) := by decide +kernel
theorem dX7_takeWishes_17 : decode cX7_takeWishes 17 = .ok (.getfield 32, 3) := by decide +kernel
theorem dX7_takeWishes_20 : decode cX7_takeWishes 20 = .ok (.iconst 4, 1) := by decide +kernel
theorem dX7_takeWishes_21 : decode cX7_takeWishes 21 = .ok (.aload_n 0, 1) := by decide +kernel
theorem dX7_takeWishes_22 : decode cX7_takeWishes 22 = .ok (.getfield 203, 3) := by decide +kernel
theorem dX7_takeWishes_25 : decode cX7_takeWishes 25 = .ok (.imul, 1) := by decide +kernel
theorem dX7_takeWishes_26 : decode cX7_takeWishes 26 = .ok (.iload_n 1, 1) := by decide +kernel
theorem dX7_takeWishes_27 : decode cX7_takeWishes 27 = .ok (.iadd, 1) := by decide +kernel
theorem dX7_takeWishes_28 : decode cX7_takeWishes 28 = .ok (.bipush (-6), 2) := by decide +kernel
theorem dX7_takeWishes_30 : decode cX7_takeWishes 30 = .ok (.iastore, 1) := by decide +kernel
theorem dX7_takeWishes_31 : decode cX7_takeWishes 31 = .ok (.aload_n 0, 1) := by decide +kernel
theorem dX7_takeWishes_32 : decode cX7_takeWishes 32 = .ok (.getfield 196, 3) := by decide +kernel
theorem dX7_takeWishes_35 : decode cX7_takeWishes 35 = .ok (.ifCond .ne 26, 3) := by decide +kernel
theorem dX7_takeWishes_38 : decode cX7_takeWishes 38 = .ok (.aload_n 0, 1) := by decide +kernel
theorem dX7_takeWishes_39 : decode cX7_takeWishes 39 = .ok (.invokevirtual 200, 3) := by decide +kernel
theorem dX7_takeWishes_42 : decode cX7_takeWishes 42 = .ok (.bipush 48, 2) := by decide +kernel
theorem dX7_takeWishes_44 : decode cX7_takeWishes 44 = .ok (.bipush 57, 2) := by decide +kernel
theorem dX7_takeWishes_46 : decode cX7_takeWishes 46 = .ok (.invokestatic 35, 3) := by decide +kernel
theorem dX7_takeWishes_49 : decode cX7_takeWishes 49 = .ok (.ifCond .eq 12, 3) := by decide +kernel
theorem dX7_takeWishes_52 : decode cX7_takeWishes 52 = .ok (.aload_n 0, 1) := by decide +kernel
theorem dX7_takeWishes_53 : decode cX7_takeWishes 53 = .ok (.iload_n 1, 1) := by decide +kernel
theorem dX7_takeWishes_54 : decode cX7_takeWishes 54 = .ok (.bipush 48, 2) := by decide +kernel
theorem dX7_takeWishes_56 : decode cX7_takeWishes 56 = .ok (.bipush 57, 2) := by decide +kernel
theorem dX7_takeWishes_58 : decode cX7_takeWishes 58 = .ok (.invokevirtual 206, 3) := by decide +kernel
theorem dX7_takeWishes_61 : decode cX7_takeWishes 61 = .ok (.iinc 1 1, 3) := by decide +kernel
theorem dX7_takeWishes_64 : decode cX7_takeWishes 64 = .ok (.goto (-53), 3) := by decide +kernel
theorem dX7_takeWishes_67 : decode cX7_takeWishes 67 = .ok (.return_, 1) := by decide +kernel
theorem dX7_takeOrder_0 : decode cX7_takeOrder 0 = .ok (.aload_n 0, 1) := by decide +kernel
theorem dX7_takeOrder_1 : decode cX7_takeOrder 1 = .ok (.invokevirtual 200, 3) := by decide +kernel
theorem dX7_takeOrder_4 : decode cX7_takeOrder 4 = .ok (.istore_n 1, 1) := by decide +kernel
theorem dX7_takeOrder_5 : decode cX7_takeOrder 5 = .ok (.aload_n 0, 1) := by decide +kernel
theorem dX7_takeOrder_6 : decode cX7_takeOrder 6 = .ok (.dup, 1) := by decide +kernel
theorem dX7_takeOrder_7 : decode cX7_takeOrder 7 = .ok (.getfield 193, 3) := by decide +kernel
theorem dX7_takeOrder_10 : decode cX7_takeOrder 10 = .ok (.iconst 1, 1) := by decide +kernel
theorem dX7_takeOrder_11 : decode cX7_takeOrder 11 = .ok (.iadd, 1) := by decide +kernel
theorem dX7_takeOrder_12 : decode cX7_takeOrder 12 = .ok (.putfield 193, 3) := by decide +kernel
theorem dX7_takeOrder_15 : decode cX7_takeOrder 15 = .ok (.iload_n 1, 1) := by decide +kernel
theorem dX7_takeOrder_16 : decode cX7_takeOrder 16 = .ok (.lookupswitch 120 #[(99, 80), (100, 113), (102, 59), (115, 92), (119, 52)], 52) := by decide +kernel
theorem dX7_takeOrder_68 : decode cX7_takeOrder 68 = .ok (.aload_n 0, 1) := by decide +kernel
theorem dX7_takeOrder_69 : decode cX7_takeOrder 69 = .ok (.invokevirtual 209, 3) := by decide +kernel
theorem dX7_takeOrder_72 : decode cX7_takeOrder 72 = .ok (.goto 79, 3) := by decide +kernel
theorem dX7_takeOrder_75 : decode cX7_takeOrder 75 = .ok (.aload_n 0, 1) := by decide +kernel
theorem dX7_takeOrder_76 : decode cX7_takeOrder 76 = .ok (.iconst 0, 1) := by decide +kernel
theorem dX7_takeOrder_77 : decode cX7_takeOrder 77 = .ok (.bipush 65, 2) := by decide +kernel
theorem dX7_takeOrder_79 : decode cX7_takeOrder 79 = .ok (.bipush 80, 2) := by decide +kernel
theorem dX7_takeOrder_81 : decode cX7_takeOrder 81 = .ok (.invokevirtual 206, 3) := by decide +kernel
theorem dX7_takeOrder_84 : decode cX7_takeOrder 84 = .ok (.aload_n 0, 1) := by decide +kernel
theorem dX7_takeOrder_85 : decode cX7_takeOrder 85 = .ok (.iconst 1, 1) := by decide +kernel
theorem dX7_takeOrder_86 : decode cX7_takeOrder 86 = .ok (.bipush 49, 2) := by decide +kernel
theorem dX7_takeOrder_88 : decode cX7_takeOrder 88 = .ok (.bipush 57, 2) := by decide +kernel
theorem dX7_takeOrder_90 : decode cX7_takeOrder 90 = .ok (.invokevirtual 206, 3) := by decide +kernel
theorem dX7_takeOrder_93 : decode cX7_takeOrder 93 = .ok (.goto 58, 3) := by decide +kernel
theorem dX7_takeOrder_96 : decode cX7_takeOrder 96 = .ok (.aload_n 0, 1) := by decide +kernel
theorem dX7_takeOrder_97 : decode cX7_takeOrder 97 = .ok (.iconst 0, 1) := by decide +kernel
theorem dX7_takeOrder_98 : decode cX7_takeOrder 98 = .ok (.bipush 65, 2) := by decide +kernel
theorem dX7_takeOrder_100 : decode cX7_takeOrder 100 = .ok (.bipush 80, 2) := by decide +kernel
theorem dX7_takeOrder_102 : decode cX7_takeOrder 102 = .ok (.invokevirtual 206, 3) := by decide +kernel
theorem dX7_takeOrder_105 : decode cX7_takeOrder 105 = .ok (.goto 46, 3) := by decide +kernel
theorem dX7_takeOrder_108 : decode cX7_takeOrder 108 = .ok (.aload_n 0, 1) := by decide +kernel
theorem dX7_takeOrder_109 : decode cX7_takeOrder 109 = .ok (.iconst 0, 1) := by decide +kernel
theorem dX7_takeOrder_110 : decode cX7_takeOrder 110 = .ok (.bipush 65, 2) := by decide +kernel
theorem dX7_takeOrder_112 : decode cX7_takeOrder 112 = .ok (.bipush 80, 2) := by decide +kernel
theorem dX7_takeOrder_114 : decode cX7_takeOrder 114 = .ok (.invokevirtual 206, 3) := by decide +kernel
theorem dX7_takeOrder_117 : decode cX7_takeOrder 117 = .ok (.aload_n 0, 1) := by decide +kernel
theorem dX7_takeOrder_118 : decode cX7_takeOrder 118 = .ok (.iconst 1, 1) := by decide +kernel
theorem dX7_takeOrder_119 : decode cX7_takeOrder 119 = .ok (.bipush 65, 2) := by decide +kernel
theorem dX7_takeOrder_121 : decode cX7_takeOrder 121 = .ok (.bipush 80, 2) := by decide +kernel
theorem dX7_takeOrder_123 : decode cX7_takeOrder 123 = .ok (.invokevirtual 206, 3) := by decide +kernel
theorem dX7_takeOrder_126 : decode cX7_takeOrder 126 = .ok (.goto 25, 3) := by decide +kernel
theorem dX7_takeOrder_129 : decode cX7_takeOrder 129 = .ok (.aload_n 0, 1) := by decide +kernel
theorem dX7_takeOrder_130 : decode cX7_takeOrder 130 = .ok (.invokevirtual 212, 3) := by decide +kernel
theorem dX7_takeOrder_133 : decode cX7_takeOrder 133 = .ok (.goto 18, 3) := by decide +kernel
theorem dX7_takeOrder_136 : decode cX7_takeOrder 136 = .ok (.aload_n 0, 1) := by decide +kernel
theorem dX7_takeOrder_137 : decode cX7_takeOrder 137 = .ok (.dup, 1) := by decide +kernel
theorem dX7_takeOrder_138 : decode cX7_takeOrder 138 = .ok (.getfield 193, 3) := by decide +kernel
theorem dX7_takeOrder_141 : decode cX7_takeOrder 141 = .ok (.iconst 1, 1) := by decide +kernel
theorem dX7_takeOrder_142 : decode cX7_takeOrder 142 = .ok (.isub, 1) := by decide +kernel
theorem dX7_takeOrder_143 : decode cX7_takeOrder 143 = .ok (.putfield 193, 3) := by decide +kernel
theorem dX7_takeOrder_146 : decode cX7_takeOrder 146 = .ok (.aload_n 0, 1) := by decide +kernel
theorem dX7_takeOrder_147 : decode cX7_takeOrder 147 = .ok (.iconst 1, 1) := by decide +kernel
theorem dX7_takeOrder_148 : decode cX7_takeOrder 148 = .ok (.putfield 196, 3) := by decide +kernel
theorem dX7_takeOrder_151 : decode cX7_takeOrder 151 = .ok (.aload_n 0, 1) := by decide +kernel
theorem dX7_takeOrder_152 : decode cX7_takeOrder 152 = .ok (.getfield 196, 3) := by decide +kernel
theorem dX7_takeOrder_155 : decode cX7_takeOrder 155 = .ok (.ifCond .ne 23, 3) := by decide +kernel
theorem dX7_takeOrder_158 : decode cX7_takeOrder 158 = .ok (.aload_n 0, 1) := by decide +kernel
theorem dX7_takeOrder_159 : decode cX7_takeOrder 159 = .ok (.getfield 29, 3) := by decide +kernel
theorem dX7_takeOrder_162 : decode cX7_takeOrder 162 = .ok (.aload_n 0, 1) := by decide +kernel
theorem dX7_takeOrder_163 : decode cX7_takeOrder 163 = .ok (.getfield 203, 3) := by decide +kernel
theorem dX7_takeOrder_166 : decode cX7_takeOrder 166 = .ok (.iload_n 1, 1) := by decide +kernel
theorem dX7_takeOrder_167 : decode cX7_takeOrder 167 = .ok (.iastore, 1) := by decide +kernel
theorem dX7_takeOrder_168 : decode cX7_takeOrder 168 = .ok (.aload_n 0, 1) := by decide +kernel
theorem dX7_takeOrder_169 : decode cX7_takeOrder 169 = .ok (.dup, 1) := by decide +kernel
theorem dX7_takeOrder_170 : decode cX7_takeOrder 170 = .ok (.getfield 203, 3) := by decide +kernel
theorem dX7_takeOrder_173 : decode cX7_takeOrder 173 = .ok (.iconst 1, 1) := by decide +kernel
theorem dX7_takeOrder_174 : decode cX7_takeOrder 174 = .ok (.iadd, 1) := by decide +kernel
theorem dX7_takeOrder_175 : decode cX7_takeOrder 175 = .ok (.putfield 203, 3) := by decide +kernel
theorem dX7_takeOrder_178 : decode cX7_takeOrder 178 = .ok (.return_, 1) := by decide +kernel
theorem dX7_fault_0 : decode cX7_fault 0 = .ok (.aload_n 0, 1) := by decide +kernel
theorem dX7_fault_1 : decode cX7_fault 1 = .ok (.iconst 0, 1) := by decide +kernel
theorem dX7_fault_2 : decode cX7_fault 2 = .ok (.putfield 193, 3) := by decide +kernel
theorem dX7_fault_5 : decode cX7_fault 5 = .ok (.aload_n 0, 1) := by decide +kernel
theorem dX7_fault_6 : decode cX7_fault 6 = .ok (.iconst 0, 1) := by decide +kernel
theorem dX7_fault_7 : decode cX7_fault 7 = .ok (.putfield 196, 3) := by decide +kernel
theorem dX7_fault_10 : decode cX7_fault 10 = .ok (.aload_n 0, 1) := by decide +kernel
theorem dX7_fault_11 : decode cX7_fault 11 = .ok (.iconst 0, 1) := by decide +kernel
theorem dX7_fault_12 : decode cX7_fault 12 = .ok (.putfield 203, 3) := by decide +kernel
theorem dX7_fault_15 : decode cX7_fault 15 = .ok (.aload_n 0, 1) := by decide +kernel
theorem dX7_fault_16 : decode cX7_fault 16 = .ok (.invokevirtual 215, 3) := by decide +kernel
theorem dX7_fault_19 : decode cX7_fault 19 = .ok (.aload_n 0, 1) := by decide +kernel
theorem dX7_fault_20 : decode cX7_fault 20 = .ok (.getfield 196, 3) := by decide +kernel
theorem dX7_fault_23 : decode cX7_fault 23 = .ok (.ifCond .ne 56, 3) := by decide +kernel
theorem dX7_fault_26 : decode cX7_fault 26 = .ok (.aload_n 0, 1) := by decide +kernel
theorem dX7_fault_27 : decode cX7_fault 27 = .ok (.getfield 193, 3) := by decide +kernel
theorem dX7_fault_30 : decode cX7_fault 30 = .ok (.aload_n 0, 1) := by decide +kernel
theorem dX7_fault_31 : decode cX7_fault 31 = .ok (.getfield 179, 3) := by decide +kernel
theorem dX7_fault_34 : decode cX7_fault 34 = .ok (.if_icmp .ge 45, 3) := by decide +kernel
theorem dX7_fault_37 : decode cX7_fault 37 = .ok (.aload_n 0, 1) := by decide +kernel
theorem dX7_fault_38 : decode cX7_fault 38 = .ok (.aload_n 0, 1) := by decide +kernel
theorem dX7_fault_39 : decode cX7_fault 39 = .ok (.invokevirtual 200, 3) := by decide +kernel
theorem dX7_fault_42 : decode cX7_fault 42 = .ok (.bipush 59, 2) := by decide +kernel
theorem dX7_fault_44 : decode cX7_fault 44 = .ok (.if_icmp .eq 7, 3) := by decide +kernel
theorem dX7_fault_47 : decode cX7_fault 47 = .ok (.iconst 1, 1) := by decide +kernel
theorem dX7_fault_48 : decode cX7_fault 48 = .ok (.goto 4, 3) := by decide +kernel
theorem dX7_fault_51 : decode cX7_fault 51 = .ok (.iconst 0, 1) := by decide +kernel
theorem dX7_fault_52 : decode cX7_fault 52 = .ok (.putfield 196, 3) := by decide +kernel
theorem dX7_fault_55 : decode cX7_fault 55 = .ok (.aload_n 0, 1) := by decide +kernel
theorem dX7_fault_56 : decode cX7_fault 56 = .ok (.getfield 196, 3) := by decide +kernel
theorem dX7_fault_59 : decode cX7_fault 59 = .ok (.ifCond .ne (-40), 3) := by decide +kernel
theorem dX7_fault_62 : decode cX7_fault 62 = .ok (.aload_n 0, 1) := by decide +kernel
theorem dX7_fault_63 : decode cX7_fault 63 = .ok (.dup, 1) := by decide +kernel
theorem dX7_fault_64 : decode cX7_fault 64 = .ok (.getfield 193, 3) := by decide +kernel
theorem dX7_fault_67 : decode cX7_fault 67 = .ok (.iconst 1, 1) := by decide +kernel
theorem dX7_fault_68 : decode cX7_fault 68 = .ok (.iadd, 1) := by decide +kernel
theorem dX7_fault_69 : decode cX7_fault 69 = .ok (.putfield 193, 3) := by decide +kernel
theorem dX7_fault_72 : decode cX7_fault 72 = .ok (.aload_n 0, 1) := by decide +kernel
theorem dX7_fault_73 : decode cX7_fault 73 = .ok (.invokevirtual 215, 3) := by decide +kernel
theorem dX7_fault_76 : decode cX7_fault 76 = .ok (.goto (-57), 3) := by decide +kernel
theorem dX7_fault_79 : decode cX7_fault 79 = .ok (.aload_n 0, 1) := by decide +kernel
theorem dX7_fault_80 : decode cX7_fault 80 = .ok (.getfield 196, 3) := by decide +kernel
theorem dX7_fault_83 : decode cX7_fault 83 = .ok (.ifCond .eq 10, 3) := by decide +kernel
theorem dX7_fault_86 : decode cX7_fault 86 = .ok (.aload_n 0, 1) := by decide +kernel
theorem dX7_fault_87 : decode cX7_fault 87 = .ok (.getfield 193, 3) := by decide +kernel
theorem dX7_fault_90 : decode cX7_fault 90 = .ok (.goto 5, 3) := by decide +kernel
theorem dX7_fault_93 : decode cX7_fault 93 = .ok (.bipush (-6), 2) := by decide +kernel
theorem dX7_fault_95 : decode cX7_fault 95 = .ok (.ireturn, 1) := by decide +kernel
theorem dX7_carry_0 : decode cX7_carry 0 = .ok (.iconst 4, 1) := by decide +kernel
theorem dX7_carry_1 : decode cX7_carry 1 = .ok (.iload_n 1, 1) := by decide +kernel
theorem dX7_carry_2 : decode cX7_carry 2 = .ok (.imul, 1) := by decide +kernel
theorem dX7_carry_3 : decode cX7_carry 3 = .ok (.istore_n 2, 1) := by decide +kernel
theorem dX7_carry_4 : decode cX7_carry 4 = .ok (.aload_n 0, 1) := by decide +kernel
theorem dX7_carry_5 : decode cX7_carry 5 = .ok (.getfield 29, 3) := by decide +kernel
theorem dX7_carry_8 : decode cX7_carry 8 = .ok (.iload_n 1, 1) := by decide +kernel
theorem dX7_carry_9 : decode cX7_carry 9 = .ok (.iaload, 1) := by decide +kernel
theorem dX7_carry_10 : decode cX7_carry 10 = .ok (.lookupswitch 132 #[(99, 100), (102, 78), (115, 112), (119, 42)], 42) := by decide +kernel
theorem dX7_carry_52 : decode cX7_carry 52 = .ok (.aload_n 0, 1) := by decide +kernel
theorem dX7_carry_53 : decode cX7_carry 53 = .ok (.aload_n 0, 1) := by decide +kernel
theorem dX7_carry_54 : decode cX7_carry 54 = .ok (.getfield 32, 3) := by decide +kernel
theorem dX7_carry_57 : decode cX7_carry 57 = .ok (.iload_n 2, 1) := by decide +kernel
theorem dX7_carry_58 : decode cX7_carry 58 = .ok (.iaload, 1) := by decide +kernel
theorem dX7_carry_59 : decode cX7_carry 59 = .ok (.aload_n 0, 1) := by decide +kernel
theorem dX7_carry_60 : decode cX7_carry 60 = .ok (.getfield 32, 3) := by decide +kernel
theorem dX7_carry_63 : decode cX7_carry 63 = .ok (.iload_n 2, 1) := by decide +kernel
theorem dX7_carry_64 : decode cX7_carry 64 = .ok (.iconst 1, 1) := by decide +kernel
theorem dX7_carry_65 : decode cX7_carry 65 = .ok (.iadd, 1) := by decide +kernel
theorem dX7_carry_66 : decode cX7_carry 66 = .ok (.iaload, 1) := by decide +kernel
theorem dX7_carry_67 : decode cX7_carry 67 = .ok (.aload_n 0, 1) := by decide +kernel
theorem dX7_carry_68 : decode cX7_carry 68 = .ok (.getfield 32, 3) := by decide +kernel
theorem dX7_carry_71 : decode cX7_carry 71 = .ok (.iload_n 2, 1) := by decide +kernel
theorem dX7_carry_72 : decode cX7_carry 72 = .ok (.iconst 2, 1) := by decide +kernel
theorem dX7_carry_73 : decode cX7_carry 73 = .ok (.iadd, 1) := by decide +kernel
theorem dX7_carry_74 : decode cX7_carry 74 = .ok (.iaload, 1) := by decide +kernel
theorem dX7_carry_75 : decode cX7_carry 75 = .ok (.aload_n 0, 1) := by decide +kernel
theorem dX7_carry_76 : decode cX7_carry 76 = .ok (.getfield 32, 3) := by decide +kernel
theorem dX7_carry_79 : decode cX7_carry 79 = .ok (.iload_n 2, 1) := by decide +kernel
theorem dX7_carry_80 : decode cX7_carry 80 = .ok (.iconst 3, 1) := by decide +kernel
theorem dX7_carry_81 : decode cX7_carry 81 = .ok (.iadd, 1) := by decide +kernel
theorem dX7_carry_82 : decode cX7_carry 82 = .ok (.iaload, 1) := by decide +kernel
theorem dX7_carry_83 : decode cX7_carry 83 = .ok (.iconst 0, 1) := by decide +kernel
theorem dX7_carry_84 : decode cX7_carry 84 = .ok (.invokevirtual 82, 3) := by decide +kernel
theorem dX7_carry_87 : decode cX7_carry 87 = .ok (.ireturn, 1) := by decide +kernel
theorem dX7_carry_88 : decode cX7_carry 88 = .ok (.aload_n 0, 1) := by decide +kernel
theorem dX7_carry_89 : decode cX7_carry 89 = .ok (.aload_n 0, 1) := by decide +kernel
theorem dX7_carry_90 : decode cX7_carry 90 = .ok (.getfield 32, 3) := by decide +kernel
theorem dX7_carry_93 : decode cX7_carry 93 = .ok (.iload_n 2, 1) := by decide +kernel
theorem dX7_carry_94 : decode cX7_carry 94 = .ok (.iaload, 1) := by decide +kernel
theorem dX7_carry_95 : decode cX7_carry 95 = .ok (.iconst 1, 1) := by decide +kernel
theorem dX7_carry_96 : decode cX7_carry 96 = .ok (.aload_n 0, 1) := by decide +kernel
theorem dX7_carry_97 : decode cX7_carry 97 = .ok (.getfield 32, 3) := by decide +kernel
theorem dX7_carry_100 : decode cX7_carry 100 = .ok (.iload_n 2, 1) := by decide +kernel
theorem dX7_carry_101 : decode cX7_carry 101 = .ok (.iconst 1, 1) := by decide +kernel
theorem dX7_carry_102 : decode cX7_carry 102 = .ok (.iadd, 1) := by decide +kernel
theorem dX7_carry_103 : decode cX7_carry 103 = .ok (.iaload, 1) := by decide +kernel
theorem dX7_carry_104 : decode cX7_carry 104 = .ok (.iadd, 1) := by decide +kernel
theorem dX7_carry_105 : decode cX7_carry 105 = .ok (.iconst 0, 1) := by decide +kernel
theorem dX7_carry_106 : decode cX7_carry 106 = .ok (.invokevirtual 90, 3) := by decide +kernel
theorem dX7_carry_109 : decode cX7_carry 109 = .ok (.ireturn, 1) := by decide +kernel
theorem dX7_carry_110 : decode cX7_carry 110 = .ok (.aload_n 0, 1) := by decide +kernel
theorem dX7_carry_111 : decode cX7_carry 111 = .ok (.aload_n 0, 1) := by decide +kernel
theorem dX7_carry_112 : decode cX7_carry 112 = .ok (.getfield 32, 3) := by decide +kernel
theorem dX7_carry_115 : decode cX7_carry 115 = .ok (.iload_n 2, 1) := by decide +kernel
theorem dX7_carry_116 : decode cX7_carry 116 = .ok (.iaload, 1) := by decide +kernel
theorem dX7_carry_117 : decode cX7_carry 117 = .ok (.iconst 0, 1) := by decide +kernel
theorem dX7_carry_118 : decode cX7_carry 118 = .ok (.invokevirtual 98, 3) := by decide +kernel
theorem dX7_carry_121 : decode cX7_carry 121 = .ok (.ireturn, 1) := by decide +kernel
theorem dX7_carry_122 : decode cX7_carry 122 = .ok (.aload_n 0, 1) := by decide +kernel
theorem dX7_carry_123 : decode cX7_carry 123 = .ok (.aload_n 0, 1) := by decide +kernel
theorem dX7_carry_124 : decode cX7_carry 124 = .ok (.getfield 32, 3) := by decide +kernel
theorem dX7_carry_127 : decode cX7_carry 127 = .ok (.iload_n 2, 1) := by decide +kernel
theorem dX7_carry_128 : decode cX7_carry 128 = .ok (.iaload, 1) := by decide +kernel
theorem dX7_carry_129 : decode cX7_carry 129 = .ok (.aload_n 0, 1) := by decide +kernel
theorem dX7_carry_130 : decode cX7_carry 130 = .ok (.getfield 32, 3) := by decide +kernel
theorem dX7_carry_133 : decode cX7_carry 133 = .ok (.iload_n 2, 1) := by decide +kernel
theorem dX7_carry_134 : decode cX7_carry 134 = .ok (.iconst 1, 1) := by decide +kernel
theorem dX7_carry_135 : decode cX7_carry 135 = .ok (.iadd, 1) := by decide +kernel
theorem dX7_carry_136 : decode cX7_carry 136 = .ok (.iaload, 1) := by decide +kernel
theorem dX7_carry_137 : decode cX7_carry 137 = .ok (.iconst 0, 1) := by decide +kernel
theorem dX7_carry_138 : decode cX7_carry 138 = .ok (.invokevirtual 102, 3) := by decide +kernel
theorem dX7_carry_141 : decode cX7_carry 141 = .ok (.ireturn, 1) := by decide +kernel
theorem dX7_carry_142 : decode cX7_carry 142 = .ok (.aload_n 0, 1) := by decide +kernel
theorem dX7_carry_143 : decode cX7_carry 143 = .ok (.aload_n 0, 1) := by decide +kernel
theorem dX7_carry_144 : decode cX7_carry 144 = .ok (.getfield 32, 3) := by decide +kernel
theorem dX7_carry_147 : decode cX7_carry 147 = .ok (.iload_n 2, 1) := by decide +kernel
theorem dX7_carry_148 : decode cX7_carry 148 = .ok (.iaload, 1) := by decide +kernel
theorem dX7_carry_149 : decode cX7_carry 149 = .ok (.iconst 0, 1) := by decide +kernel
theorem dX7_carry_150 : decode cX7_carry 150 = .ok (.invokevirtual 172, 3) := by decide +kernel
theorem dX7_carry_153 : decode cX7_carry 153 = .ok (.ireturn, 1) := by decide +kernel
theorem dX7_carryOut_0 : decode cX7_carryOut 0 = .ok (.aload_n 0, 1) := by decide +kernel
theorem dX7_carryOut_1 : decode cX7_carryOut 1 = .ok (.invokevirtual 218, 3) := by decide +kernel
theorem dX7_carryOut_4 : decode cX7_carryOut 4 = .ok (.ifCond .lt 6, 3) := by decide +kernel
theorem dX7_carryOut_7 : decode cX7_carryOut 7 = .ok (.bipush (-3), 2) := by decide +kernel
theorem dX7_carryOut_9 : decode cX7_carryOut 9 = .ok (.ireturn, 1) := by decide +kernel
theorem dX7_carryOut_10 : decode cX7_carryOut 10 = .ok (.aload_n 0, 1) := by decide +kernel
theorem dX7_carryOut_11 : decode cX7_carryOut 11 = .ok (.invokevirtual 43, 3) := by decide +kernel
theorem dX7_carryOut_14 : decode cX7_carryOut 14 = .ok (.iconst 0, 1) := by decide +kernel
theorem dX7_carryOut_15 : decode cX7_carryOut 15 = .ok (.istore_n 1, 1) := by decide +kernel
theorem dX7_carryOut_16 : decode cX7_carryOut 16 = .ok (.iload_n 1, 1) := by decide +kernel
theorem dX7_carryOut_17 : decode cX7_carryOut 17 = .ok (.aload_n 0, 1) := by decide +kernel
theorem dX7_carryOut_18 : decode cX7_carryOut 18 = .ok (.getfield 203, 3) := by decide +kernel
theorem dX7_carryOut_21 : decode cX7_carryOut 21 = .ok (.if_icmp .ge 17, 3) := by decide +kernel
theorem dX7_carryOut_24 : decode cX7_carryOut 24 = .ok (.aload_n 0, 1) := by decide +kernel
theorem dX7_carryOut_25 : decode cX7_carryOut 25 = .ok (.iload_n 1, 1) := by decide +kernel
theorem dX7_carryOut_26 : decode cX7_carryOut 26 = .ok (.invokevirtual 221, 3) := by decide +kernel
theorem dX7_carryOut_29 : decode cX7_carryOut 29 = .ok (.ifCond .lt 9, 3) := by decide +kernel
theorem dX7_carryOut_32 : decode cX7_carryOut 32 = .ok (.iinc 1 1, 3) := by decide +kernel
theorem dX7_carryOut_35 : decode cX7_carryOut 35 = .ok (.goto (-19), 3) := by decide +kernel
theorem dX7_carryOut_38 : decode cX7_carryOut 38 = .ok (.aload_n 0, 1) := by decide +kernel
theorem dX7_carryOut_39 : decode cX7_carryOut 39 = .ok (.iconst 0, 1) := by decide +kernel
theorem dX7_carryOut_40 : decode cX7_carryOut 40 = .ok (.putfield 179, 3) := by decide +kernel
theorem dX7_carryOut_43 : decode cX7_carryOut 43 = .ok (.iload_n 1, 1) := by decide +kernel
theorem dX7_carryOut_44 : decode cX7_carryOut 44 = .ok (.ireturn, 1) := by decide +kernel
theorem dX7_undo_0 : decode cX7_undo 0 = .ok (.aload_n 0, 1) := by decide +kernel
theorem dX7_undo_1 : decode cX7_undo 1 = .ok (.getfield 39, 3) := by decide +kernel
theorem dX7_undo_4 : decode cX7_undo 4 = .ok (.ifCond .ne 6, 3) := by decide +kernel
theorem dX7_undo_7 : decode cX7_undo 7 = .ok (.bipush (-5), 2) := by decide +kernel
theorem dX7_undo_9 : decode cX7_undo 9 = .ok (.ireturn, 1) := by decide +kernel
theorem dX7_undo_10 : decode cX7_undo 10 = .ok (.aload_n 0, 1) := by decide +kernel
theorem dX7_undo_11 : decode cX7_undo 11 = .ok (.dup, 1) := by decide +kernel
theorem dX7_undo_12 : decode cX7_undo 12 = .ok (.getfield 39, 3) := by decide +kernel
theorem dX7_undo_15 : decode cX7_undo 15 = .ok (.iconst 1, 1) := by decide +kernel
theorem dX7_undo_16 : decode cX7_undo 16 = .ok (.isub, 1) := by decide +kernel
theorem dX7_undo_17 : decode cX7_undo 17 = .ok (.putfield 39, 3) := by decide +kernel
theorem dX7_undo_20 : decode cX7_undo 20 = .ok (.iconst 0, 1) := by decide +kernel
theorem dX7_undo_21 : decode cX7_undo 21 = .ok (.istore_n 1, 1) := by decide +kernel
theorem dX7_undo_22 : decode cX7_undo 22 = .ok (.iload_n 1, 1) := by decide +kernel
theorem dX7_undo_23 : decode cX7_undo 23 = .ok (.sipush 3592, 3) := by decide +kernel
theorem dX7_undo_26 : decode cX7_undo 26 = .ok (.if_icmp .ge 30, 3) := by decide +kernel
theorem dX7_undo_29 : decode cX7_undo 29 = .ok (.aload_n 0, 1) := by decide +kernel
theorem dX7_undo_30 : decode cX7_undo 30 = .ok (.getfield 7, 3) := by decide +kernel
theorem dX7_undo_33 : decode cX7_undo 33 = .ok (.iload_n 1, 1) := by decide +kernel
theorem dX7_undo_34 : decode cX7_undo 34 = .ok (.aload_n 0, 1) := by decide +kernel
theorem dX7_undo_35 : decode cX7_undo 35 = .ok (.getfield 13, 3) := by decide +kernel
theorem dX7_undo_38 : decode cX7_undo 38 = .ok (.sipush 3592, 3) := by decide +kernel
theorem dX7_undo_41 : decode cX7_undo 41 = .ok (.aload_n 0, 1) := by decide +kernel
theorem dX7_undo_42 : decode cX7_undo 42 = .ok (.getfield 39, 3) := by decide +kernel
theorem dX7_undo_45 : decode cX7_undo 45 = .ok (.imul, 1) := by decide +kernel
theorem dX7_undo_46 : decode cX7_undo 46 = .ok (.iload_n 1, 1) := by decide +kernel
theorem dX7_undo_47 : decode cX7_undo 47 = .ok (.iadd, 1) := by decide +kernel
theorem dX7_undo_48 : decode cX7_undo 48 = .ok (.iaload, 1) := by decide +kernel
theorem dX7_undo_49 : decode cX7_undo 49 = .ok (.iastore, 1) := by decide +kernel
theorem dX7_undo_50 : decode cX7_undo 50 = .ok (.iinc 1 1, 3) := by decide +kernel
theorem dX7_undo_53 : decode cX7_undo 53 = .ok (.goto (-31), 3) := by decide +kernel
theorem dX7_undo_56 : decode cX7_undo 56 = .ok (.aload_n 0, 1) := by decide +kernel
theorem dX7_undo_57 : decode cX7_undo 57 = .ok (.getfield 39, 3) := by decide +kernel
theorem dX7_undo_60 : decode cX7_undo 60 = .ok (.ireturn, 1) := by decide +kernel
theorem dX7_save_0 : decode cX7_save 0 = .ok (.iload_n 1, 1) := by decide +kernel
theorem dX7_save_1 : decode cX7_save 1 = .ok (.iconst 0, 1) := by decide +kernel
theorem dX7_save_2 : decode cX7_save 2 = .ok (.iconst 1, 1) := by decide +kernel
theorem dX7_save_3 : decode cX7_save 3 = .ok (.invokestatic 35, 3) := by decide +kernel
theorem dX7_save_6 : decode cX7_save 6 = .ok (.ifCond .ne 6, 3) := by decide +kernel
theorem dX7_save_9 : decode cX7_save 9 = .ok (.bipush (-2), 2) := by decide +kernel
theorem dX7_save_11 : decode cX7_save 11 = .ok (.ireturn, 1) := by decide +kernel
theorem dX7_save_12 : decode cX7_save 12 = .ok (.iconst 0, 1) := by decide +kernel
theorem dX7_save_13 : decode cX7_save 13 = .ok (.istore_n 2, 1) := by decide +kernel
theorem dX7_save_14 : decode cX7_save 14 = .ok (.iload_n 2, 1) := by decide +kernel
theorem dX7_save_15 : decode cX7_save 15 = .ok (.sipush 3592, 3) := by decide +kernel
theorem dX7_save_18 : decode cX7_save 18 = .ok (.if_icmp .ge 27, 3) := by decide +kernel
theorem dX7_save_21 : decode cX7_save 21 = .ok (.aload_n 0, 1) := by decide +kernel
theorem dX7_save_22 : decode cX7_save 22 = .ok (.getfield 16, 3) := by decide +kernel
theorem dX7_save_25 : decode cX7_save 25 = .ok (.sipush 3592, 3) := by decide +kernel
theorem dX7_save_28 : decode cX7_save 28 = .ok (.iload_n 1, 1) := by decide +kernel
theorem dX7_save_29 : decode cX7_save 29 = .ok (.imul, 1) := by decide +kernel
theorem dX7_save_30 : decode cX7_save 30 = .ok (.iload_n 2, 1) := by decide +kernel
theorem dX7_save_31 : decode cX7_save 31 = .ok (.iadd, 1) := by decide +kernel
theorem dX7_save_32 : decode cX7_save 32 = .ok (.aload_n 0, 1) := by decide +kernel
theorem dX7_save_33 : decode cX7_save 33 = .ok (.getfield 7, 3) := by decide +kernel
theorem dX7_save_36 : decode cX7_save 36 = .ok (.iload_n 2, 1) := by decide +kernel
theorem dX7_save_37 : decode cX7_save 37 = .ok (.iaload, 1) := by decide +kernel
theorem dX7_save_38 : decode cX7_save 38 = .ok (.iastore, 1) := by decide +kernel
theorem dX7_save_39 : decode cX7_save 39 = .ok (.iinc 2 1, 3) := by decide +kernel
theorem dX7_save_42 : decode cX7_save 42 = .ok (.goto (-28), 3) := by decide +kernel
theorem dX7_save_45 : decode cX7_save 45 = .ok (.aload_n 0, 1) := by decide +kernel
theorem dX7_save_46 : decode cX7_save 46 = .ok (.getfield 19, 3) := by decide +kernel
theorem dX7_save_49 : decode cX7_save 49 = .ok (.iload_n 1, 1) := by decide +kernel
theorem dX7_save_50 : decode cX7_save 50 = .ok (.iconst 1, 1) := by decide +kernel
theorem dX7_save_51 : decode cX7_save 51 = .ok (.bastore, 1) := by decide +kernel
theorem dX7_save_52 : decode cX7_save 52 = .ok (.aload_n 0, 1) := by decide +kernel
theorem dX7_save_53 : decode cX7_save 53 = .ok (.getfield 7, 3) := by decide +kernel
theorem dX7_save_56 : decode cX7_save 56 = .ok (.bipush 10, 2) := by decide +kernel
theorem dX7_save_58 : decode cX7_save 58 = .ok (.iaload, 1) := by decide +kernel
theorem dX7_save_59 : decode cX7_save 59 = .ok (.ireturn, 1) := by decide +kernel
theorem dX7_restore_0 : decode cX7_restore 0 = .ok (.iload_n 1, 1) := by decide +kernel
theorem dX7_restore_1 : decode cX7_restore 1 = .ok (.iconst 0, 1) := by decide +kernel
theorem dX7_restore_2 : decode cX7_restore 2 = .ok (.iconst 1, 1) := by decide +kernel
theorem dX7_restore_3 : decode cX7_restore 3 = .ok (.invokestatic 35, 3) := by decide +kernel
theorem dX7_restore_6 : decode cX7_restore 6 = .ok (.ifCond .ne 6, 3) := by decide +kernel
theorem dX7_restore_9 : decode cX7_restore 9 = .ok (.bipush (-2), 2) := by decide +kernel
theorem dX7_restore_11 : decode cX7_restore 11 = .ok (.ireturn, 1) := by decide +kernel
theorem dX7_restore_12 : decode cX7_restore 12 = .ok (.aload_n 0, 1) := by decide +kernel
theorem dX7_restore_13 : decode cX7_restore 13 = .ok (.getfield 19, 3) := by decide +kernel
theorem dX7_restore_16 : decode cX7_restore 16 = .ok (.iload_n 1, 1) := by decide +kernel
theorem dX7_restore_17 : decode cX7_restore 17 = .ok (.baload, 1) := by decide +kernel
theorem dX7_restore_18 : decode cX7_restore 18 = .ok (.ifCond .ne 6, 3) := by decide +kernel
theorem dX7_restore_21 : decode cX7_restore 21 = .ok (.bipush (-5), 2) := by decide +kernel
theorem dX7_restore_23 : decode cX7_restore 23 = .ok (.ireturn, 1) := by decide +kernel
theorem dX7_restore_24 : decode cX7_restore 24 = .ok (.aload_n 0, 1) := by decide +kernel
theorem dX7_restore_25 : decode cX7_restore 25 = .ok (.invokevirtual 43, 3) := by decide +kernel
theorem dX7_restore_28 : decode cX7_restore 28 = .ok (.iconst 0, 1) := by decide +kernel
theorem dX7_restore_29 : decode cX7_restore 29 = .ok (.istore_n 2, 1) := by decide +kernel
theorem dX7_restore_30 : decode cX7_restore 30 = .ok (.iload_n 2, 1) := by decide +kernel
theorem dX7_restore_31 : decode cX7_restore 31 = .ok (.sipush 3592, 3) := by decide +kernel
theorem dX7_restore_34 : decode cX7_restore 34 = .ok (.if_icmp .ge 27, 3) := by decide +kernel
theorem dX7_restore_37 : decode cX7_restore 37 = .ok (.aload_n 0, 1) := by decide +kernel
theorem dX7_restore_38 : decode cX7_restore 38 = .ok (.getfield 7, 3) := by decide +kernel
theorem dX7_restore_41 : decode cX7_restore 41 = .ok (.iload_n 2, 1) := by decide +kernel
theorem dX7_restore_42 : decode cX7_restore 42 = .ok (.aload_n 0, 1) := by decide +kernel
theorem dX7_restore_43 : decode cX7_restore 43 = .ok (.getfield 16, 3) := by decide +kernel
theorem dX7_restore_46 : decode cX7_restore 46 = .ok (.sipush 3592, 3) := by decide +kernel
theorem dX7_restore_49 : decode cX7_restore 49 = .ok (.iload_n 1, 1) := by decide +kernel
theorem dX7_restore_50 : decode cX7_restore 50 = .ok (.imul, 1) := by decide +kernel
theorem dX7_restore_51 : decode cX7_restore 51 = .ok (.iload_n 2, 1) := by decide +kernel
theorem dX7_restore_52 : decode cX7_restore 52 = .ok (.iadd, 1) := by decide +kernel
theorem dX7_restore_53 : decode cX7_restore 53 = .ok (.iaload, 1) := by decide +kernel
theorem dX7_restore_54 : decode cX7_restore 54 = .ok (.iastore, 1) := by decide +kernel
theorem dX7_restore_55 : decode cX7_restore 55 = .ok (.iinc 2 1, 3) := by decide +kernel
theorem dX7_restore_58 : decode cX7_restore 58 = .ok (.goto (-28), 3) := by decide +kernel
theorem dX7_restore_61 : decode cX7_restore 61 = .ok (.aload_n 0, 1) := by decide +kernel
theorem dX7_restore_62 : decode cX7_restore 62 = .ok (.getfield 7, 3) := by decide +kernel
theorem dX7_restore_65 : decode cX7_restore 65 = .ok (.bipush 10, 2) := by decide +kernel
theorem dX7_restore_67 : decode cX7_restore 67 = .ok (.iaload, 1) := by decide +kernel
theorem dX7_restore_68 : decode cX7_restore 68 = .ok (.ireturn, 1) := by decide +kernel
end
section
theorem dL_law_0 : decode cL_law 0 = .ok (.new 7, 3) := by decide +kernel
theorem dL_law_3 : decode cL_law 3 = .ok (.dup, 1) := by decide +kernel
theorem dL_law_4 : decode cL_law 4 = .ok (.invokespecial 9, 3) := by decide +kernel
theorem dL_law_7 : decode cL_law 7 = .ok (.astore_n 1, 1) := by decide +kernel
theorem dL_law_8 : decode cL_law 8 = .ok (.new 10, 3) := by decide +kernel
theorem dL_law_11 : decode cL_law 11 = .ok (.dup, 1) := by decide +kernel
theorem dL_law_12 : decode cL_law 12 = .ok (.invokespecial 12, 3) := by decide +kernel
theorem dL_law_15 : decode cL_law 15 = .ok (.astore_n 2, 1) := by decide +kernel
theorem dL_law_16 : decode cL_law 16 = .ok (.iconst 0, 1) := by decide +kernel
theorem dL_law_17 : decode cL_law 17 = .ok (.istore_n 3, 1) := by decide +kernel
theorem dL_law_18 : decode cL_law 18 = .ok (.iload_n 3, 1) := by decide +kernel
theorem dL_law_19 : decode cL_law 19 = .ok (.aload_n 0, 1) := by decide +kernel
theorem dL_law_20 : decode cL_law 20 = .ok (.arraylength, 1) := by decide +kernel
theorem dL_law_21 : decode cL_law 21 = .ok (.iconst 5, 1) := by decide +kernel
theorem dL_law_22 : decode cL_law 22 = .ok (.isub, 1) := by decide +kernel
theorem dL_law_23 : decode cL_law 23 = .ok (.if_icmp .gt 974, 3) := by decide +kernel
theorem dL_law_26 : decode cL_law 26 = .ok (.aload_n 0, 1) := by decide +kernel
theorem dL_law_27 : decode cL_law 27 = .ok (.iload_n 3, 1) := by decide +kernel
theorem dL_law_28 : decode cL_law 28 = .ok (.iaload, 1) := by decide +kernel
theorem dL_law_29 : decode cL_law 29 = .ok (.bipush 31, 2) := by decide +kernel
theorem dL_law_31 : decode cL_law 31 = .ok (.iand, 1) := by decide +kernel
theorem dL_law_32 : decode cL_law 32 = .ok (.tableswitch 959 0 28 #[132, 165, 188, 211, 244, 277, 330, 363, 386, 419, 452, 475, 508, 541, 574, 597, 630, 653, 686, 709, 742, 775, 808, 861, 874, 887, 900, 913, 936], 132) := by decide +kernel
theorem dL_law_164 : decode cL_law 164 = .ok (.aload_n 1, 1) := by decide +kernel
theorem dL_law_165 : decode cL_law 165 = .ok (.aload_n 0, 1) := by decide +kernel
theorem dL_law_166 : decode cL_law 166 = .ok (.iload_n 3, 1) := by decide +kernel
theorem dL_law_167 : decode cL_law 167 = .ok (.iconst 1, 1) := by decide +kernel
theorem dL_law_168 : decode cL_law 168 = .ok (.iadd, 1) := by decide +kernel
theorem dL_law_169 : decode cL_law 169 = .ok (.iaload, 1) := by decide +kernel
theorem dL_law_170 : decode cL_law 170 = .ok (.aload_n 0, 1) := by decide +kernel
theorem dL_law_171 : decode cL_law 171 = .ok (.iload_n 3, 1) := by decide +kernel
theorem dL_law_172 : decode cL_law 172 = .ok (.iconst 2, 1) := by decide +kernel
theorem dL_law_173 : decode cL_law 173 = .ok (.iadd, 1) := by decide +kernel
theorem dL_law_174 : decode cL_law 174 = .ok (.iaload, 1) := by decide +kernel
theorem dL_law_175 : decode cL_law 175 = .ok (.invokevirtual 13, 3) := by decide +kernel
theorem dL_law_178 : decode cL_law 178 = .ok (.aload_n 2, 1) := by decide +kernel
theorem dL_law_179 : decode cL_law 179 = .ok (.aload_n 0, 1) := by decide +kernel
theorem dL_law_180 : decode cL_law 180 = .ok (.iload_n 3, 1) := by decide +kernel
theorem dL_law_181 : decode cL_law 181 = .ok (.iconst 1, 1) := by decide +kernel
theorem dL_law_182 : decode cL_law 182 = .ok (.iadd, 1) := by decide +kernel
theorem dL_law_183 : decode cL_law 183 = .ok (.iaload, 1) := by decide +kernel
theorem dL_law_184 : decode cL_law 184 = .ok (.aload_n 0, 1) := by decide +kernel
theorem dL_law_185 : decode cL_law 185 = .ok (.iload_n 3, 1) := by decide +kernel
theorem dL_law_186 : decode cL_law 186 = .ok (.iconst 2, 1) := by decide +kernel
theorem dL_law_187 : decode cL_law 187 = .ok (.iadd, 1) := by decide +kernel
theorem dL_law_188 : decode cL_law 188 = .ok (.iaload, 1) := by decide +kernel
theorem dL_law_189 : decode cL_law 189 = .ok (.invokevirtual 17, 3) := by decide +kernel
theorem dL_law_192 : decode cL_law 192 = .ok (.if_icmp .eq 799, 3) := by decide +kernel
theorem dL_law_195 : decode cL_law 195 = .ok (.iconst 0, 1) := by decide +kernel
theorem dL_law_196 : decode cL_law 196 = .ok (.ireturn, 1) := by decide +kernel
theorem dL_law_197 : decode cL_law 197 = .ok (.aload_n 1, 1) := by decide +kernel
theorem dL_law_198 : decode cL_law 198 = .ok (.aload_n 0, 1) := by decide +kernel
theorem dL_law_199 : decode cL_law 199 = .ok (.iload_n 3, 1) := by decide +kernel
theorem dL_law_200 : decode cL_law 200 = .ok (.iconst 1, 1) := by decide +kernel
theorem dL_law_201 : decode cL_law 201 = .ok (.iadd, 1) := by decide +kernel
theorem dL_law_202 : decode cL_law 202 = .ok (.iaload, 1) := by decide +kernel
theorem dL_law_203 : decode cL_law 203 = .ok (.invokevirtual 18, 3) := by decide +kernel
theorem dL_law_206 : decode cL_law 206 = .ok (.pop, 1) := by decide +kernel
theorem dL_law_207 : decode cL_law 207 = .ok (.aload_n 2, 1) := by decide +kernel
theorem dL_law_208 : decode cL_law 208 = .ok (.aload_n 0, 1) := by decide +kernel
theorem dL_law_209 : decode cL_law 209 = .ok (.iload_n 3, 1) := by decide +kernel
theorem dL_law_210 : decode cL_law 210 = .ok (.iconst 1, 1) := by decide +kernel
theorem dL_law_211 : decode cL_law 211 = .ok (.iadd, 1) := by decide +kernel
theorem dL_law_212 : decode cL_law 212 = .ok (.iaload, 1) := by decide +kernel
theorem dL_law_213 : decode cL_law 213 = .ok (.invokevirtual 22, 3) := by decide +kernel
theorem dL_law_216 : decode cL_law 216 = .ok (.pop, 1) := by decide +kernel
theorem dL_law_217 : decode cL_law 217 = .ok (.goto 774, 3) := by decide +kernel
theorem dL_law_220 : decode cL_law 220 = .ok (.aload_n 1, 1) := by decide +kernel
theorem dL_law_221 : decode cL_law 221 = .ok (.aload_n 0, 1) := by decide +kernel
theorem dL_law_222 : decode cL_law 222 = .ok (.iload_n 3, 1) := by decide +kernel
theorem dL_law_223 : decode cL_law 223 = .ok (.iconst 1, 1) := by decide +kernel
theorem dL_law_224 : decode cL_law 224 = .ok (.iadd, 1) := by decide +kernel
theorem dL_law_225 : decode cL_law 225 = .ok (.iaload, 1) := by decide +kernel
theorem dL_law_226 : decode cL_law 226 = .ok (.invokevirtual 23, 3) := by decide +kernel
theorem dL_law_229 : decode cL_law 229 = .ok (.pop, 1) := by decide +kernel
theorem dL_law_230 : decode cL_law 230 = .ok (.aload_n 2, 1) := by decide +kernel
theorem dL_law_231 : decode cL_law 231 = .ok (.aload_n 0, 1) := by decide +kernel
theorem dL_law_232 : decode cL_law 232 = .ok (.iload_n 3, 1) := by decide +kernel
theorem dL_law_233 : decode cL_law 233 = .ok (.iconst 1, 1) := by decide +kernel
theorem dL_law_234 : decode cL_law 234 = .ok (.iadd, 1) := by decide +kernel
theorem dL_law_235 : decode cL_law 235 = .ok (.iaload, 1) := by decide +kernel
theorem dL_law_236 : decode cL_law 236 = .ok (.invokevirtual 26, 3) := by decide +kernel
theorem dL_law_239 : decode cL_law 239 = .ok (.pop, 1) := by decide +kernel
theorem dL_law_240 : decode cL_law 240 = .ok (.goto 751, 3) := by decide +kernel
theorem dL_law_243 : decode cL_law 243 = .ok (.aload_n 1, 1) := by decide +kernel
theorem dL_law_244 : decode cL_law 244 = .ok (.aload_n 0, 1) := by decide +kernel
theorem dL_law_245 : decode cL_law 245 = .ok (.iload_n 3, 1) := by decide +kernel
theorem dL_law_246 : decode cL_law 246 = .ok (.iconst 1, 1) := by decide +kernel
theorem dL_law_247 : decode cL_law 247 = .ok (.iadd, 1) := by decide +kernel
theorem dL_law_248 : decode cL_law 248 = .ok (.iaload, 1) := by decide +kernel
theorem dL_law_249 : decode cL_law 249 = .ok (.aload_n 0, 1) := by decide +kernel
theorem dL_law_250 : decode cL_law 250 = .ok (.iload_n 3, 1) := by decide +kernel
theorem dL_law_251 : decode cL_law 251 = .ok (.iconst 2, 1) := by decide +kernel
theorem dL_law_252 : decode cL_law 252 = .ok (.iadd, 1) := by decide +kernel
theorem dL_law_253 : decode cL_law 253 = .ok (.iaload, 1) := by decide +kernel
theorem dL_law_254 : decode cL_law 254 = .ok (.invokevirtual 27, 3) := by decide +kernel
theorem dL_law_257 : decode cL_law 257 = .ok (.pop, 1) := by decide +kernel
theorem dL_law_258 : decode cL_law 258 = .ok (.aload_n 2, 1) := by decide +kernel
theorem dL_law_259 : decode cL_law 259 = .ok (.aload_n 0, 1) := by decide +kernel
theorem dL_law_260 : decode cL_law 260 = .ok (.iload_n 3, 1) := by decide +kernel
theorem dL_law_261 : decode cL_law 261 = .ok (.iconst 1, 1) := by decide +kernel
theorem dL_law_262 : decode cL_law 262 = .ok (.iadd, 1) := by decide +kernel
theorem dL_law_263 : decode cL_law 263 = .ok (.iaload, 1) := by decide +kernel
theorem dL_law_264 : decode cL_law 264 = .ok (.aload_n 0, 1) := by decide +kernel
theorem dL_law_265 : decode cL_law 265 = .ok (.iload_n 3, 1) := by decide +kernel
theorem dL_law_266 : decode cL_law 266 = .ok (.iconst 2, 1) := by decide +kernel
theorem dL_law_267 : decode cL_law 267 = .ok (.iadd, 1) := by decide +kernel
theorem dL_law_268 : decode cL_law 268 = .ok (.iaload, 1) := by decide +kernel
theorem dL_law_269 : decode cL_law 269 = .ok (.invokevirtual 30, 3) := by decide +kernel
theorem dL_law_272 : decode cL_law 272 = .ok (.pop, 1) := by decide +kernel
theorem dL_law_273 : decode cL_law 273 = .ok (.goto 718, 3) := by decide +kernel
theorem dL_law_276 : decode cL_law 276 = .ok (.aload_n 1, 1) := by decide +kernel
theorem dL_law_277 : decode cL_law 277 = .ok (.aload_n 0, 1) := by decide +kernel
theorem dL_law_278 : decode cL_law 278 = .ok (.iload_n 3, 1) := by decide +kernel
theorem dL_law_279 : decode cL_law 279 = .ok (.iconst 1, 1) := by decide +kernel
theorem dL_law_280 : decode cL_law 280 = .ok (.iadd, 1) := by decide +kernel
theorem dL_law_281 : decode cL_law 281 = .ok (.iaload, 1) := by decide +kernel
theorem dL_law_282 : decode cL_law 282 = .ok (.aload_n 0, 1) := by decide +kernel
theorem dL_law_283 : decode cL_law 283 = .ok (.iload_n 3, 1) := by decide +kernel
theorem dL_law_284 : decode cL_law 284 = .ok (.iconst 2, 1) := by decide +kernel
theorem dL_law_285 : decode cL_law 285 = .ok (.iadd, 1) := by decide +kernel
theorem dL_law_286 : decode cL_law 286 = .ok (.iaload, 1) := by decide +kernel
theorem dL_law_287 : decode cL_law 287 = .ok (.invokevirtual 31, 3) := by decide +kernel
theorem dL_law_290 : decode cL_law 290 = .ok (.pop, 1) := by decide +kernel
theorem dL_law_291 : decode cL_law 291 = .ok (.aload_n 2, 1) := by decide +kernel
theorem dL_law_292 : decode cL_law 292 = .ok (.aload_n 0, 1) := by decide +kernel
theorem dL_law_293 : decode cL_law 293 = .ok (.iload_n 3, 1) := by decide +kernel
theorem dL_law_294 : decode cL_law 294 = .ok (.iconst 1, 1) := by decide +kernel
theorem dL_law_295 : decode cL_law 295 = .ok (.iadd, 1) := by decide +kernel
theorem dL_law_296 : decode cL_law 296 = .ok (.iaload, 1) := by decide +kernel
theorem dL_law_297 : decode cL_law 297 = .ok (.aload_n 0, 1) := by decide +kernel
theorem dL_law_298 : decode cL_law 298 = .ok (.iload_n 3, 1) := by decide +kernel
theorem dL_law_299 : decode cL_law 299 = .ok (.iconst 2, 1) := by decide +kernel
theorem dL_law_300 : decode cL_law 300 = .ok (.iadd, 1) := by decide +kernel
theorem dL_law_301 : decode cL_law 301 = .ok (.iaload, 1) := by decide +kernel
theorem dL_law_302 : decode cL_law 302 = .ok (.invokevirtual 34, 3) := by decide +kernel
theorem dL_law_305 : decode cL_law 305 = .ok (.pop, 1) := by decide +kernel
theorem dL_law_306 : decode cL_law 306 = .ok (.goto 685, 3) := by decide +kernel
theorem dL_law_309 : decode cL_law 309 = .ok (.aload_n 1, 1) := by decide +kernel
theorem dL_law_310 : decode cL_law 310 = .ok (.aload_n 0, 1) := by decide +kernel
theorem dL_law_311 : decode cL_law 311 = .ok (.iload_n 3, 1) := by decide +kernel
theorem dL_law_312 : decode cL_law 312 = .ok (.iconst 1, 1) := by decide +kernel
theorem dL_law_313 : decode cL_law 313 = .ok (.iadd, 1) := by decide +kernel
theorem dL_law_314 : decode cL_law 314 = .ok (.iaload, 1) := by decide +kernel
theorem dL_law_315 : decode cL_law 315 = .ok (.aload_n 0, 1) := by decide +kernel
theorem dL_law_316 : decode cL_law 316 = .ok (.iload_n 3, 1) := by decide +kernel
theorem dL_law_317 : decode cL_law 317 = .ok (.iconst 2, 1) := by decide +kernel
theorem dL_law_318 : decode cL_law 318 = .ok (.iadd, 1) := by decide +kernel
theorem dL_law_319 : decode cL_law 319 = .ok (.iaload, 1) := by decide +kernel
theorem dL_law_320 : decode cL_law 320 = .ok (.aload_n 0, 1) := by decide +kernel
theorem dL_law_321 : decode cL_law 321 = .ok (.iload_n 3, 1) := by decide +kernel
theorem dL_law_322 : decode cL_law 322 = .ok (.iconst 3, 1) := by decide +kernel
theorem dL_law_323 : decode cL_law 323 = .ok (.iadd, 1) := by decide +kernel
theorem dL_law_324 : decode cL_law 324 = .ok (.iaload, 1) := by decide +kernel
theorem dL_law_325 : decode cL_law 325 = .ok (.aload_n 0, 1) := by decide +kernel
theorem dL_law_326 : decode cL_law 326 = .ok (.iload_n 3, 1) := by decide +kernel
theorem dL_law_327 : decode cL_law 327 = .ok (.iconst 4, 1) := by decide +kernel
theorem dL_law_328 : decode cL_law 328 = .ok (.iadd, 1) := by decide +kernel
theorem dL_law_329 : decode cL_law 329 = .ok (.iaload, 1) := by decide +kernel
theorem dL_law_330 : decode cL_law 330 = .ok (.invokevirtual 35, 3) := by decide +kernel
theorem dL_law_333 : decode cL_law 333 = .ok (.pop, 1) := by decide +kernel
theorem dL_law_334 : decode cL_law 334 = .ok (.aload_n 2, 1) := by decide +kernel
theorem dL_law_335 : decode cL_law 335 = .ok (.aload_n 0, 1) := by decide +kernel
theorem dL_law_336 : decode cL_law 336 = .ok (.iload_n 3, 1) := by decide +kernel
theorem dL_law_337 : decode cL_law 337 = .ok (.iconst 1, 1) := by decide +kernel
theorem dL_law_338 : decode cL_law 338 = .ok (.iadd, 1) := by decide +kernel
theorem dL_law_339 : decode cL_law 339 = .ok (.iaload, 1) := by decide +kernel
theorem dL_law_340 : decode cL_law 340 = .ok (.aload_n 0, 1) := by decide +kernel
theorem dL_law_341 : decode cL_law 341 = .ok (.iload_n 3, 1) := by decide +kernel
theorem dL_law_342 : decode cL_law 342 = .ok (.iconst 2, 1) := by decide +kernel
theorem dL_law_343 : decode cL_law 343 = .ok (.iadd, 1) := by decide +kernel
theorem dL_law_344 : decode cL_law 344 = .ok (.iaload, 1) := by decide +kernel
theorem dL_law_345 : decode cL_law 345 = .ok (.aload_n 0, 1) := by decide +kernel
theorem dL_law_346 : decode cL_law 346 = .ok (.iload_n 3, 1) := by decide +kernel
theorem dL_law_347 : decode cL_law 347 = .ok (.iconst 3, 1) := by decide +kernel
theorem dL_law_348 : decode cL_law 348 = .ok (.iadd, 1) := by decide +kernel
theorem dL_law_349 : decode cL_law 349 = .ok (.iaload, 1) := by decide +kernel
theorem dL_law_350 : decode cL_law 350 = .ok (.aload_n 0, 1) := by decide +kernel
theorem dL_law_351 : decode cL_law 351 = .ok (.iload_n 3, 1) := by decide +kernel
theorem dL_law_352 : decode cL_law 352 = .ok (.iconst 4, 1) := by decide +kernel
theorem dL_law_353 : decode cL_law 353 = .ok (.iadd, 1) := by decide +kernel
theorem dL_law_354 : decode cL_law 354 = .ok (.iaload, 1) := by decide +kernel
theorem dL_law_355 : decode cL_law 355 = .ok (.invokevirtual 39, 3) := by decide +kernel
theorem dL_law_358 : decode cL_law 358 = .ok (.pop, 1) := by decide +kernel
theorem dL_law_359 : decode cL_law 359 = .ok (.goto 632, 3) := by decide +kernel
theorem dL_law_362 : decode cL_law 362 = .ok (.aload_n 1, 1) := by decide +kernel
theorem dL_law_363 : decode cL_law 363 = .ok (.aload_n 0, 1) := by decide +kernel
theorem dL_law_364 : decode cL_law 364 = .ok (.iload_n 3, 1) := by decide +kernel
theorem dL_law_365 : decode cL_law 365 = .ok (.iconst 1, 1) := by decide +kernel
theorem dL_law_366 : decode cL_law 366 = .ok (.iadd, 1) := by decide +kernel
theorem dL_law_367 : decode cL_law 367 = .ok (.iaload, 1) := by decide +kernel
theorem dL_law_368 : decode cL_law 368 = .ok (.aload_n 0, 1) := by decide +kernel
theorem dL_law_369 : decode cL_law 369 = .ok (.iload_n 3, 1) := by decide +kernel
theorem dL_law_370 : decode cL_law 370 = .ok (.iconst 2, 1) := by decide +kernel
theorem dL_law_371 : decode cL_law 371 = .ok (.iadd, 1) := by decide +kernel
theorem dL_law_372 : decode cL_law 372 = .ok (.iaload, 1) := by decide +kernel
theorem dL_law_373 : decode cL_law 373 = .ok (.invokevirtual 40, 3) := by decide +kernel
theorem dL_law_376 : decode cL_law 376 = .ok (.pop, 1) := by decide +kernel
theorem dL_law_377 : decode cL_law 377 = .ok (.aload_n 2, 1) := by decide +kernel
theorem dL_law_378 : decode cL_law 378 = .ok (.aload_n 0, 1) := by decide +kernel
theorem dL_law_379 : decode cL_law 379 = .ok (.iload_n 3, 1) := by decide +kernel
theorem dL_law_380 : decode cL_law 380 = .ok (.iconst 1, 1) := by decide +kernel
theorem dL_law_381 : decode cL_law 381 = .ok (.iadd, 1) := by decide +kernel
theorem dL_law_382 : decode cL_law 382 = .ok (.iaload, 1) := by decide +kernel
theorem dL_law_383 : decode cL_law 383 = .ok (.aload_n 0, 1) := by decide +kernel
theorem dL_law_384 : decode cL_law 384 = .ok (.iload_n 3, 1) := by decide +kernel
theorem dL_law_385 : decode cL_law 385 = .ok (.iconst 2, 1) := by decide +kernel
theorem dL_law_386 : decode cL_law 386 = .ok (.iadd, 1) := by decide +kernel
theorem dL_law_387 : decode cL_law 387 = .ok (.iaload, 1) := by decide +kernel
theorem dL_law_388 : decode cL_law 388 = .ok (.invokevirtual 43, 3) := by decide +kernel
theorem dL_law_391 : decode cL_law 391 = .ok (.pop, 1) := by decide +kernel
theorem dL_law_392 : decode cL_law 392 = .ok (.goto 599, 3) := by decide +kernel
theorem dL_law_395 : decode cL_law 395 = .ok (.aload_n 1, 1) := by decide +kernel
theorem dL_law_396 : decode cL_law 396 = .ok (.aload_n 0, 1) := by decide +kernel
theorem dL_law_397 : decode cL_law 397 = .ok (.iload_n 3, 1) := by decide +kernel
theorem dL_law_398 : decode cL_law 398 = .ok (.iconst 1, 1) := by decide +kernel
theorem dL_law_399 : decode cL_law 399 = .ok (.iadd, 1) := by decide +kernel
theorem dL_law_400 : decode cL_law 400 = .ok (.iaload, 1) := by decide +kernel
theorem dL_law_401 : decode cL_law 401 = .ok (.invokevirtual 44, 3) := by decide +kernel
theorem dL_law_404 : decode cL_law 404 = .ok (.pop, 1) := by decide +kernel
theorem dL_law_405 : decode cL_law 405 = .ok (.aload_n 2, 1) := by decide +kernel
theorem dL_law_406 : decode cL_law 406 = .ok (.aload_n 0, 1) := by decide +kernel
theorem dL_law_407 : decode cL_law 407 = .ok (.iload_n 3, 1) := by decide +kernel
theorem dL_law_408 : decode cL_law 408 = .ok (.iconst 1, 1) := by decide +kernel
theorem dL_law_409 : decode cL_law 409 = .ok (.iadd, 1) := by decide +kernel
theorem dL_law_410 : decode cL_law 410 = .ok (.iaload, 1) := by decide +kernel
theorem dL_law_411 : decode cL_law 411 = .ok (.invokevirtual 47, 3) := by decide +kernel
theorem dL_law_414 : decode cL_law 414 = .ok (.pop, 1) := by decide +kernel
theorem dL_law_415 : decode cL_law 415 = .ok (.goto 576, 3) := by decide +kernel
theorem dL_law_418 : decode cL_law 418 = .ok (.aload_n 1, 1) := by decide +kernel
theorem dL_law_419 : decode cL_law 419 = .ok (.aload_n 0, 1) := by decide +kernel
theorem dL_law_420 : decode cL_law 420 = .ok (.iload_n 3, 1) := by decide +kernel
theorem dL_law_421 : decode cL_law 421 = .ok (.iconst 1, 1) := by decide +kernel
theorem dL_law_422 : decode cL_law 422 = .ok (.iadd, 1) := by decide +kernel
theorem dL_law_423 : decode cL_law 423 = .ok (.iaload, 1) := by decide +kernel
theorem dL_law_424 : decode cL_law 424 = .ok (.aload_n 0, 1) := by decide +kernel
theorem dL_law_425 : decode cL_law 425 = .ok (.iload_n 3, 1) := by decide +kernel
theorem dL_law_426 : decode cL_law 426 = .ok (.iconst 2, 1) := by decide +kernel
theorem dL_law_427 : decode cL_law 427 = .ok (.iadd, 1) := by decide +kernel
theorem dL_law_428 : decode cL_law 428 = .ok (.iaload, 1) := by decide +kernel
theorem dL_law_429 : decode cL_law 429 = .ok (.invokevirtual 48, 3) := by decide +kernel
theorem dL_law_432 : decode cL_law 432 = .ok (.pop, 1) := by decide +kernel
theorem dL_law_433 : decode cL_law 433 = .ok (.aload_n 2, 1) := by decide +kernel
theorem dL_law_434 : decode cL_law 434 = .ok (.aload_n 0, 1) := by decide +kernel
theorem dL_law_435 : decode cL_law 435 = .ok (.iload_n 3, 1) := by decide +kernel
theorem dL_law_436 : decode cL_law 436 = .ok (.iconst 1, 1) := by decide +kernel
theorem dL_law_437 : decode cL_law 437 = .ok (.iadd, 1) := by decide +kernel
theorem dL_law_438 : decode cL_law 438 = .ok (.iaload, 1) := by decide +kernel
theorem dL_law_439 : decode cL_law 439 = .ok (.aload_n 0, 1) := by decide +kernel
theorem dL_law_440 : decode cL_law 440 = .ok (.iload_n 3, 1) := by decide +kernel
theorem dL_law_441 : decode cL_law 441 = .ok (.iconst 2, 1) := by decide +kernel
theorem dL_law_442 : decode cL_law 442 = .ok (.iadd, 1) := by decide +kernel
theorem dL_law_443 : decode cL_law 443 = .ok (.iaload, 1) := by decide +kernel
theorem dL_law_444 : decode cL_law 444 = .ok (.invokevirtual 51, 3) := by decide +kernel
theorem dL_law_447 : decode cL_law 447 = .ok (.pop, 1) := by decide +kernel
theorem dL_law_448 : decode cL_law 448 = .ok (.goto 543, 3) := by decide +kernel
theorem dL_law_451 : decode cL_law 451 = .ok (.aload_n 1, 1) := by decide +kernel
theorem dL_law_452 : decode cL_law 452 = .ok (.aload_n 0, 1) := by decide +kernel
theorem dL_law_453 : decode cL_law 453 = .ok (.iload_n 3, 1) := by decide +kernel
theorem dL_law_454 : decode cL_law 454 = .ok (.iconst 1, 1) := by decide +kernel
theorem dL_law_455 : decode cL_law 455 = .ok (.iadd, 1) := by decide +kernel
theorem dL_law_456 : decode cL_law 456 = .ok (.iaload, 1) := by decide +kernel
theorem dL_law_457 : decode cL_law 457 = .ok (.aload_n 0, 1) := by decide +kernel
theorem dL_law_458 : decode cL_law 458 = .ok (.iload_n 3, 1) := by decide +kernel
theorem dL_law_459 : decode cL_law 459 = .ok (.iconst 2, 1) := by decide +kernel
theorem dL_law_460 : decode cL_law 460 = .ok (.iadd, 1) := by decide +kernel
theorem dL_law_461 : decode cL_law 461 = .ok (.iaload, 1) := by decide +kernel
theorem dL_law_462 : decode cL_law 462 = .ok (.invokevirtual 52, 3) := by decide +kernel
theorem dL_law_465 : decode cL_law 465 = .ok (.pop, 1) := by decide +kernel
theorem dL_law_466 : decode cL_law 466 = .ok (.aload_n 2, 1) := by decide +kernel
theorem dL_law_467 : decode cL_law 467 = .ok (.aload_n 0, 1) := by decide +kernel
theorem dL_law_468 : decode cL_law 468 = .ok (.iload_n 3, 1) := by decide +kernel
theorem dL_law_469 : decode cL_law 469 = .ok (.iconst 1, 1) := by decide +kernel
theorem dL_law_470 : decode cL_law 470 = .ok (.iadd, 1) := by decide +kernel
theorem dL_law_471 : decode cL_law 471 = .ok (.iaload, 1) := by decide +kernel
theorem dL_law_472 : decode cL_law 472 = .ok (.aload_n 0, 1) := by decide +kernel
theorem dL_law_473 : decode cL_law 473 = .ok (.iload_n 3, 1) := by decide +kernel
theorem dL_law_474 : decode cL_law 474 = .ok (.iconst 2, 1) := by decide +kernel
theorem dL_law_475 : decode cL_law 475 = .ok (.iadd, 1) := by decide +kernel
theorem dL_law_476 : decode cL_law 476 = .ok (.iaload, 1) := by decide +kernel
theorem dL_law_477 : decode cL_law 477 = .ok (.invokevirtual 55, 3) := by decide +kernel
theorem dL_law_480 : decode cL_law 480 = .ok (.pop, 1) := by decide +kernel
theorem dL_law_481 : decode cL_law 481 = .ok (.goto 510, 3) := by decide +kernel
theorem dL_law_484 : decode cL_law 484 = .ok (.aload_n 1, 1) := by decide +kernel
theorem dL_law_485 : decode cL_law 485 = .ok (.aload_n 0, 1) := by decide +kernel
theorem dL_law_486 : decode cL_law 486 = .ok (.iload_n 3, 1) := by decide +kernel
theorem dL_law_487 : decode cL_law 487 = .ok (.iconst 1, 1) := by decide +kernel
theorem dL_law_488 : decode cL_law 488 = .ok (.iadd, 1) := by decide +kernel
theorem dL_law_489 : decode cL_law 489 = .ok (.iaload, 1) := by decide +kernel
theorem dL_law_490 : decode cL_law 490 = .ok (.invokevirtual 56, 3) := by decide +kernel
theorem dL_law_493 : decode cL_law 493 = .ok (.pop, 1) := by decide +kernel
theorem dL_law_494 : decode cL_law 494 = .ok (.aload_n 2, 1) := by decide +kernel
theorem dL_law_495 : decode cL_law 495 = .ok (.aload_n 0, 1) := by decide +kernel
theorem dL_law_496 : decode cL_law 496 = .ok (.iload_n 3, 1) := by decide +kernel
theorem dL_law_497 : decode cL_law 497 = .ok (.iconst 1, 1) := by decide +kernel
theorem dL_law_498 : decode cL_law 498 = .ok (.iadd, 1) := by decide +kernel
theorem dL_law_499 : decode cL_law 499 = .ok (.iaload, 1) := by decide +kernel
theorem dL_law_500 : decode cL_law 500 = .ok (.invokevirtual 59, 3) := by decide +kernel
theorem dL_law_503 : decode cL_law 503 = .ok (.pop, 1) := by decide +kernel
theorem dL_law_504 : decode cL_law 504 = .ok (.goto 487, 3) := by decide +kernel
theorem dL_law_507 : decode cL_law 507 = .ok (.aload_n 1, 1) := by decide +kernel
theorem dL_law_508 : decode cL_law 508 = .ok (.aload_n 0, 1) := by decide +kernel
theorem dL_law_509 : decode cL_law 509 = .ok (.iload_n 3, 1) := by decide +kernel
theorem dL_law_510 : decode cL_law 510 = .ok (.iconst 1, 1) := by decide +kernel
theorem dL_law_511 : decode cL_law 511 = .ok (.iadd, 1) := by decide +kernel
theorem dL_law_512 : decode cL_law 512 = .ok (.iaload, 1) := by decide +kernel
theorem dL_law_513 : decode cL_law 513 = .ok (.aload_n 0, 1) := by decide +kernel
theorem dL_law_514 : decode cL_law 514 = .ok (.iload_n 3, 1) := by decide +kernel
theorem dL_law_515 : decode cL_law 515 = .ok (.iconst 2, 1) := by decide +kernel
theorem dL_law_516 : decode cL_law 516 = .ok (.iadd, 1) := by decide +kernel
theorem dL_law_517 : decode cL_law 517 = .ok (.iaload, 1) := by decide +kernel
theorem dL_law_518 : decode cL_law 518 = .ok (.invokevirtual 60, 3) := by decide +kernel
theorem dL_law_521 : decode cL_law 521 = .ok (.pop, 1) := by decide +kernel
theorem dL_law_522 : decode cL_law 522 = .ok (.aload_n 2, 1) := by decide +kernel
theorem dL_law_523 : decode cL_law 523 = .ok (.aload_n 0, 1) := by decide +kernel
theorem dL_law_524 : decode cL_law 524 = .ok (.iload_n 3, 1) := by decide +kernel
theorem dL_law_525 : decode cL_law 525 = .ok (.iconst 1, 1) := by decide +kernel
theorem dL_law_526 : decode cL_law 526 = .ok (.iadd, 1) := by decide +kernel
theorem dL_law_527 : decode cL_law 527 = .ok (.iaload, 1) := by decide +kernel
theorem dL_law_528 : decode cL_law 528 = .ok (.aload_n 0, 1) := by decide +kernel
theorem dL_law_529 : decode cL_law 529 = .ok (.iload_n 3, 1) := by decide +kernel
theorem dL_law_530 : decode cL_law 530 = .ok (.iconst 2, 1) := by decide +kernel
theorem dL_law_531 : decode cL_law 531 = .ok (.iadd, 1) := by decide +kernel
theorem dL_law_532 : decode cL_law 532 = .ok (.iaload, 1) := by decide +kernel
theorem dL_law_533 : decode cL_law 533 = .ok (.invokevirtual 63, 3) := by decide +kernel
theorem dL_law_536 : decode cL_law 536 = .ok (.pop, 1) := by decide +kernel
theorem dL_law_537 : decode cL_law 537 = .ok (.goto 454, 3) := by decide +kernel
theorem dL_law_540 : decode cL_law 540 = .ok (.aload_n 1, 1) := by decide +kernel
theorem dL_law_541 : decode cL_law 541 = .ok (.aload_n 0, 1) := by decide +kernel
theorem dL_law_542 : decode cL_law 542 = .ok (.iload_n 3, 1) := by decide +kernel
theorem dL_law_543 : decode cL_law 543 = .ok (.iconst 1, 1) := by decide +kernel
theorem dL_law_544 : decode cL_law 544 = .ok (.iadd, 1) := by decide +kernel
theorem dL_law_545 : decode cL_law 545 = .ok (.iaload, 1) := by decide +kernel
theorem dL_law_546 : decode cL_law 546 = .ok (.aload_n 0, 1) := by decide +kernel
theorem dL_law_547 : decode cL_law 547 = .ok (.iload_n 3, 1) := by decide +kernel
theorem dL_law_548 : decode cL_law 548 = .ok (.iconst 2, 1) := by decide +kernel
theorem dL_law_549 : decode cL_law 549 = .ok (.iadd, 1) := by decide +kernel
theorem dL_law_550 : decode cL_law 550 = .ok (.iaload, 1) := by decide +kernel
theorem dL_law_551 : decode cL_law 551 = .ok (.invokevirtual 64, 3) := by decide +kernel
theorem dL_law_554 : decode cL_law 554 = .ok (.pop2, 1) := by decide +kernel
theorem dL_law_555 : decode cL_law 555 = .ok (.aload_n 2, 1) := by decide +kernel
theorem dL_law_556 : decode cL_law 556 = .ok (.aload_n 0, 1) := by decide +kernel
theorem dL_law_557 : decode cL_law 557 = .ok (.iload_n 3, 1) := by decide +kernel
theorem dL_law_558 : decode cL_law 558 = .ok (.iconst 1, 1) := by decide +kernel
theorem dL_law_559 : decode cL_law 559 = .ok (.iadd, 1) := by decide +kernel
theorem dL_law_560 : decode cL_law 560 = .ok (.iaload, 1) := by decide +kernel
theorem dL_law_561 : decode cL_law 561 = .ok (.aload_n 0, 1) := by decide +kernel
theorem dL_law_562 : decode cL_law 562 = .ok (.iload_n 3, 1) := by decide +kernel
theorem dL_law_563 : decode cL_law 563 = .ok (.iconst 2, 1) := by decide +kernel
theorem dL_law_564 : decode cL_law 564 = .ok (.iadd, 1) := by decide +kernel
theorem dL_law_565 : decode cL_law 565 = .ok (.iaload, 1) := by decide +kernel
theorem dL_law_566 : decode cL_law 566 = .ok (.invokevirtual 68, 3) := by decide +kernel
theorem dL_law_569 : decode cL_law 569 = .ok (.pop2, 1) := by decide +kernel
theorem dL_law_570 : decode cL_law 570 = .ok (.goto 421, 3) := by decide +kernel
theorem dL_law_573 : decode cL_law 573 = .ok (.aload_n 1, 1) := by decide +kernel
theorem dL_law_574 : decode cL_law 574 = .ok (.aload_n 0, 1) := by decide +kernel
theorem dL_law_575 : decode cL_law 575 = .ok (.iload_n 3, 1) := by decide +kernel
theorem dL_law_576 : decode cL_law 576 = .ok (.iconst 1, 1) := by decide +kernel
theorem dL_law_577 : decode cL_law 577 = .ok (.iadd, 1) := by decide +kernel
theorem dL_law_578 : decode cL_law 578 = .ok (.iaload, 1) := by decide +kernel
theorem dL_law_579 : decode cL_law 579 = .ok (.aload_n 0, 1) := by decide +kernel
theorem dL_law_580 : decode cL_law 580 = .ok (.iload_n 3, 1) := by decide +kernel
theorem dL_law_581 : decode cL_law 581 = .ok (.iconst 2, 1) := by decide +kernel
theorem dL_law_582 : decode cL_law 582 = .ok (.iadd, 1) := by decide +kernel
theorem dL_law_583 : decode cL_law 583 = .ok (.iaload, 1) := by decide +kernel
theorem dL_law_584 : decode cL_law 584 = .ok (.invokevirtual 69, 3) := by decide +kernel
theorem dL_law_587 : decode cL_law 587 = .ok (.pop, 1) := by decide +kernel
theorem dL_law_588 : decode cL_law 588 = .ok (.aload_n 2, 1) := by decide +kernel
theorem dL_law_589 : decode cL_law 589 = .ok (.aload_n 0, 1) := by decide +kernel
theorem dL_law_590 : decode cL_law 590 = .ok (.iload_n 3, 1) := by decide +kernel
theorem dL_law_591 : decode cL_law 591 = .ok (.iconst 1, 1) := by decide +kernel
theorem dL_law_592 : decode cL_law 592 = .ok (.iadd, 1) := by decide +kernel
theorem dL_law_593 : decode cL_law 593 = .ok (.iaload, 1) := by decide +kernel
theorem dL_law_594 : decode cL_law 594 = .ok (.aload_n 0, 1) := by decide +kernel
theorem dL_law_595 : decode cL_law 595 = .ok (.iload_n 3, 1) := by decide +kernel
theorem dL_law_596 : decode cL_law 596 = .ok (.iconst 2, 1) := by decide +kernel
theorem dL_law_597 : decode cL_law 597 = .ok (.iadd, 1) := by decide +kernel
theorem dL_law_598 : decode cL_law 598 = .ok (.iaload, 1) := by decide +kernel
theorem dL_law_599 : decode cL_law 599 = .ok (.invokevirtual 72, 3) := by decide +kernel
theorem dL_law_602 : decode cL_law 602 = .ok (.pop, 1) := by decide +kernel
theorem dL_law_603 : decode cL_law 603 = .ok (.goto 388, 3) := by decide +kernel
theorem dL_law_606 : decode cL_law 606 = .ok (.aload_n 1, 1) := by decide +kernel
theorem dL_law_607 : decode cL_law 607 = .ok (.aload_n 0, 1) := by decide +kernel
theorem dL_law_608 : decode cL_law 608 = .ok (.iload_n 3, 1) := by decide +kernel
theorem dL_law_609 : decode cL_law 609 = .ok (.iconst 1, 1) := by decide +kernel
theorem dL_law_610 : decode cL_law 610 = .ok (.iadd, 1) := by decide +kernel
theorem dL_law_611 : decode cL_law 611 = .ok (.iaload, 1) := by decide +kernel
theorem dL_law_612 : decode cL_law 612 = .ok (.invokevirtual 73, 3) := by decide +kernel
theorem dL_law_615 : decode cL_law 615 = .ok (.pop, 1) := by decide +kernel
theorem dL_law_616 : decode cL_law 616 = .ok (.aload_n 2, 1) := by decide +kernel
theorem dL_law_617 : decode cL_law 617 = .ok (.aload_n 0, 1) := by decide +kernel
theorem dL_law_618 : decode cL_law 618 = .ok (.iload_n 3, 1) := by decide +kernel
theorem dL_law_619 : decode cL_law 619 = .ok (.iconst 1, 1) := by decide +kernel
theorem dL_law_620 : decode cL_law 620 = .ok (.iadd, 1) := by decide +kernel
theorem dL_law_621 : decode cL_law 621 = .ok (.iaload, 1) := by decide +kernel
theorem dL_law_622 : decode cL_law 622 = .ok (.invokevirtual 76, 3) := by decide +kernel
theorem dL_law_625 : decode cL_law 625 = .ok (.pop, 1) := by decide +kernel
theorem dL_law_626 : decode cL_law 626 = .ok (.goto 365, 3) := by decide +kernel
theorem dL_law_629 : decode cL_law 629 = .ok (.aload_n 1, 1) := by decide +kernel
theorem dL_law_630 : decode cL_law 630 = .ok (.aload_n 0, 1) := by decide +kernel
theorem dL_law_631 : decode cL_law 631 = .ok (.iload_n 3, 1) := by decide +kernel
theorem dL_law_632 : decode cL_law 632 = .ok (.iconst 1, 1) := by decide +kernel
theorem dL_law_633 : decode cL_law 633 = .ok (.iadd, 1) := by decide +kernel
theorem dL_law_634 : decode cL_law 634 = .ok (.iaload, 1) := by decide +kernel
theorem dL_law_635 : decode cL_law 635 = .ok (.aload_n 0, 1) := by decide +kernel
theorem dL_law_636 : decode cL_law 636 = .ok (.iload_n 3, 1) := by decide +kernel
theorem dL_law_637 : decode cL_law 637 = .ok (.iconst 2, 1) := by decide +kernel
theorem dL_law_638 : decode cL_law 638 = .ok (.iadd, 1) := by decide +kernel
theorem dL_law_639 : decode cL_law 639 = .ok (.iaload, 1) := by decide +kernel
theorem dL_law_640 : decode cL_law 640 = .ok (.invokevirtual 77, 3) := by decide +kernel
theorem dL_law_643 : decode cL_law 643 = .ok (.pop, 1) := by decide +kernel
theorem dL_law_644 : decode cL_law 644 = .ok (.aload_n 2, 1) := by decide +kernel
theorem dL_law_645 : decode cL_law 645 = .ok (.aload_n 0, 1) := by decide +kernel
theorem dL_law_646 : decode cL_law 646 = .ok (.iload_n 3, 1) := by decide +kernel
theorem dL_law_647 : decode cL_law 647 = .ok (.iconst 1, 1) := by decide +kernel
theorem dL_law_648 : decode cL_law 648 = .ok (.iadd, 1) := by decide +kernel
theorem dL_law_649 : decode cL_law 649 = .ok (.iaload, 1) := by decide +kernel
theorem dL_law_650 : decode cL_law 650 = .ok (.aload_n 0, 1) := by decide +kernel
theorem dL_law_651 : decode cL_law 651 = .ok (.iload_n 3, 1) := by decide +kernel
theorem dL_law_652 : decode cL_law 652 = .ok (.iconst 2, 1) := by decide +kernel
theorem dL_law_653 : decode cL_law 653 = .ok (.iadd, 1) := by decide +kernel
theorem dL_law_654 : decode cL_law 654 = .ok (.iaload, 1) := by decide +kernel
theorem dL_law_655 : decode cL_law 655 = .ok (.invokevirtual 80, 3) := by decide +kernel
theorem dL_law_658 : decode cL_law 658 = .ok (.pop, 1) := by decide +kernel
theorem dL_law_659 : decode cL_law 659 = .ok (.goto 332, 3) := by decide +kernel
theorem dL_law_662 : decode cL_law 662 = .ok (.aload_n 1, 1) := by decide +kernel
theorem dL_law_663 : decode cL_law 663 = .ok (.aload_n 0, 1) := by decide +kernel
theorem dL_law_664 : decode cL_law 664 = .ok (.iload_n 3, 1) := by decide +kernel
theorem dL_law_665 : decode cL_law 665 = .ok (.iconst 1, 1) := by decide +kernel
theorem dL_law_666 : decode cL_law 666 = .ok (.iadd, 1) := by decide +kernel
theorem dL_law_667 : decode cL_law 667 = .ok (.iaload, 1) := by decide +kernel
theorem dL_law_668 : decode cL_law 668 = .ok (.invokevirtual 81, 3) := by decide +kernel
theorem dL_law_671 : decode cL_law 671 = .ok (.pop, 1) := by decide +kernel
theorem dL_law_672 : decode cL_law 672 = .ok (.aload_n 2, 1) := by decide +kernel
theorem dL_law_673 : decode cL_law 673 = .ok (.aload_n 0, 1) := by decide +kernel
theorem dL_law_674 : decode cL_law 674 = .ok (.iload_n 3, 1) := by decide +kernel
theorem dL_law_675 : decode cL_law 675 = .ok (.iconst 1, 1) := by decide +kernel
theorem dL_law_676 : decode cL_law 676 = .ok (.iadd, 1) := by decide +kernel
theorem dL_law_677 : decode cL_law 677 = .ok (.iaload, 1) := by decide +kernel
theorem dL_law_678 : decode cL_law 678 = .ok (.invokevirtual 84, 3) := by decide +kernel
theorem dL_law_681 : decode cL_law 681 = .ok (.pop, 1) := by decide +kernel
theorem dL_law_682 : decode cL_law 682 = .ok (.goto 309, 3) := by decide +kernel
theorem dL_law_685 : decode cL_law 685 = .ok (.aload_n 1, 1) := by decide +kernel
theorem dL_law_686 : decode cL_law 686 = .ok (.aload_n 0, 1) := by decide +kernel
theorem dL_law_687 : decode cL_law 687 = .ok (.iload_n 3, 1) := by decide +kernel
theorem dL_law_688 : decode cL_law 688 = .ok (.iconst 1, 1) := by decide +kernel
theorem dL_law_689 : decode cL_law 689 = .ok (.iadd, 1) := by decide +kernel
theorem dL_law_690 : decode cL_law 690 = .ok (.iaload, 1) := by decide +kernel
theorem dL_law_691 : decode cL_law 691 = .ok (.aload_n 0, 1) := by decide +kernel
theorem dL_law_692 : decode cL_law 692 = .ok (.iload_n 3, 1) := by decide +kernel
theorem dL_law_693 : decode cL_law 693 = .ok (.iconst 2, 1) := by decide +kernel
theorem dL_law_694 : decode cL_law 694 = .ok (.iadd, 1) := by decide +kernel
theorem dL_law_695 : decode cL_law 695 = .ok (.iaload, 1) := by decide +kernel
theorem dL_law_696 : decode cL_law 696 = .ok (.invokevirtual 85, 3) := by decide +kernel
theorem dL_law_699 : decode cL_law 699 = .ok (.pop, 1) := by decide +kernel
theorem dL_law_700 : decode cL_law 700 = .ok (.aload_n 2, 1) := by decide +kernel
theorem dL_law_701 : decode cL_law 701 = .ok (.aload_n 0, 1) := by decide +kernel
theorem dL_law_702 : decode cL_law 702 = .ok (.iload_n 3, 1) := by decide +kernel
theorem dL_law_703 : decode cL_law 703 = .ok (.iconst 1, 1) := by decide +kernel
theorem dL_law_704 : decode cL_law 704 = .ok (.iadd, 1) := by decide +kernel
theorem dL_law_705 : decode cL_law 705 = .ok (.iaload, 1) := by decide +kernel
theorem dL_law_706 : decode cL_law 706 = .ok (.aload_n 0, 1) := by decide +kernel
theorem dL_law_707 : decode cL_law 707 = .ok (.iload_n 3, 1) := by decide +kernel
theorem dL_law_708 : decode cL_law 708 = .ok (.iconst 2, 1) := by decide +kernel
theorem dL_law_709 : decode cL_law 709 = .ok (.iadd, 1) := by decide +kernel
theorem dL_law_710 : decode cL_law 710 = .ok (.iaload, 1) := by decide +kernel
theorem dL_law_711 : decode cL_law 711 = .ok (.invokevirtual 88, 3) := by decide +kernel
theorem dL_law_714 : decode cL_law 714 = .ok (.pop, 1) := by decide +kernel
theorem dL_law_715 : decode cL_law 715 = .ok (.goto 276, 3) := by decide +kernel
theorem dL_law_718 : decode cL_law 718 = .ok (.aload_n 1, 1) := by decide +kernel
theorem dL_law_719 : decode cL_law 719 = .ok (.aload_n 0, 1) := by decide +kernel
theorem dL_law_720 : decode cL_law 720 = .ok (.iload_n 3, 1) := by decide +kernel
theorem dL_law_721 : decode cL_law 721 = .ok (.iconst 1, 1) := by decide +kernel
theorem dL_law_722 : decode cL_law 722 = .ok (.iadd, 1) := by decide +kernel
theorem dL_law_723 : decode cL_law 723 = .ok (.iaload, 1) := by decide +kernel
theorem dL_law_724 : decode cL_law 724 = .ok (.invokevirtual 89, 3) := by decide +kernel
theorem dL_law_727 : decode cL_law 727 = .ok (.pop, 1) := by decide +kernel
theorem dL_law_728 : decode cL_law 728 = .ok (.aload_n 2, 1) := by decide +kernel
theorem dL_law_729 : decode cL_law 729 = .ok (.aload_n 0, 1) := by decide +kernel
theorem dL_law_730 : decode cL_law 730 = .ok (.iload_n 3, 1) := by decide +kernel
theorem dL_law_731 : decode cL_law 731 = .ok (.iconst 1, 1) := by decide +kernel
theorem dL_law_732 : decode cL_law 732 = .ok (.iadd, 1) := by decide +kernel
theorem dL_law_733 : decode cL_law 733 = .ok (.iaload, 1) := by decide +kernel
theorem dL_law_734 : decode cL_law 734 = .ok (.invokevirtual 92, 3) := by decide +kernel
theorem dL_law_737 : decode cL_law 737 = .ok (.pop, 1) := by decide +kernel
theorem dL_law_738 : decode cL_law 738 = .ok (.goto 253, 3) := by decide +kernel
theorem dL_law_741 : decode cL_law 741 = .ok (.aload_n 1, 1) := by decide +kernel
theorem dL_law_742 : decode cL_law 742 = .ok (.aload_n 0, 1) := by decide +kernel
theorem dL_law_743 : decode cL_law 743 = .ok (.iload_n 3, 1) := by decide +kernel
theorem dL_law_744 : decode cL_law 744 = .ok (.iconst 1, 1) := by decide +kernel
theorem dL_law_745 : decode cL_law 745 = .ok (.iadd, 1) := by decide +kernel
theorem dL_law_746 : decode cL_law 746 = .ok (.iaload, 1) := by decide +kernel
theorem dL_law_747 : decode cL_law 747 = .ok (.aload_n 0, 1) := by decide +kernel
theorem dL_law_748 : decode cL_law 748 = .ok (.iload_n 3, 1) := by decide +kernel
theorem dL_law_749 : decode cL_law 749 = .ok (.iconst 2, 1) := by decide +kernel
theorem dL_law_750 : decode cL_law 750 = .ok (.iadd, 1) := by decide +kernel
theorem dL_law_751 : decode cL_law 751 = .ok (.iaload, 1) := by decide +kernel
theorem dL_law_752 : decode cL_law 752 = .ok (.invokevirtual 93, 3) := by decide +kernel
theorem dL_law_755 : decode cL_law 755 = .ok (.pop, 1) := by decide +kernel
theorem dL_law_756 : decode cL_law 756 = .ok (.aload_n 2, 1) := by decide +kernel
theorem dL_law_757 : decode cL_law 757 = .ok (.aload_n 0, 1) := by decide +kernel
theorem dL_law_758 : decode cL_law 758 = .ok (.iload_n 3, 1) := by decide +kernel
theorem dL_law_759 : decode cL_law 759 = .ok (.iconst 1, 1) := by decide +kernel
theorem dL_law_760 : decode cL_law 760 = .ok (.iadd, 1) := by decide +kernel
theorem dL_law_761 : decode cL_law 761 = .ok (.iaload, 1) := by decide +kernel
theorem dL_law_762 : decode cL_law 762 = .ok (.aload_n 0, 1) := by decide +kernel
theorem dL_law_763 : decode cL_law 763 = .ok (.iload_n 3, 1) := by decide +kernel
theorem dL_law_764 : decode cL_law 764 = .ok (.iconst 2, 1) := by decide +kernel
theorem dL_law_765 : decode cL_law 765 = .ok (.iadd, 1) := by decide +kernel
theorem dL_law_766 : decode cL_law 766 = .ok (.iaload, 1) := by decide +kernel
theorem dL_law_767 : decode cL_law 767 = .ok (.invokevirtual 96, 3) := by decide +kernel
theorem dL_law_770 : decode cL_law 770 = .ok (.pop, 1) := by decide +kernel
theorem dL_law_771 : decode cL_law 771 = .ok (.goto 220, 3) := by decide +kernel
theorem dL_law_774 : decode cL_law 774 = .ok (.aload_n 1, 1) := by decide +kernel
theorem dL_law_775 : decode cL_law 775 = .ok (.aload_n 0, 1) := by decide +kernel
theorem dL_law_776 : decode cL_law 776 = .ok (.iload_n 3, 1) := by decide +kernel
theorem dL_law_777 : decode cL_law 777 = .ok (.iconst 1, 1) := by decide +kernel
theorem dL_law_778 : decode cL_law 778 = .ok (.iadd, 1) := by decide +kernel
theorem dL_law_779 : decode cL_law 779 = .ok (.iaload, 1) := by decide +kernel
theorem dL_law_780 : decode cL_law 780 = .ok (.aload_n 0, 1) := by decide +kernel
theorem dL_law_781 : decode cL_law 781 = .ok (.iload_n 3, 1) := by decide +kernel
theorem dL_law_782 : decode cL_law 782 = .ok (.iconst 2, 1) := by decide +kernel
theorem dL_law_783 : decode cL_law 783 = .ok (.iadd, 1) := by decide +kernel
theorem dL_law_784 : decode cL_law 784 = .ok (.iaload, 1) := by decide +kernel
theorem dL_law_785 : decode cL_law 785 = .ok (.invokevirtual 97, 3) := by decide +kernel
theorem dL_law_788 : decode cL_law 788 = .ok (.pop, 1) := by decide +kernel
theorem dL_law_789 : decode cL_law 789 = .ok (.aload_n 2, 1) := by decide +kernel
theorem dL_law_790 : decode cL_law 790 = .ok (.aload_n 0, 1) := by decide +kernel
theorem dL_law_791 : decode cL_law 791 = .ok (.iload_n 3, 1) := by decide +kernel
theorem dL_law_792 : decode cL_law 792 = .ok (.iconst 1, 1) := by decide +kernel
theorem dL_law_793 : decode cL_law 793 = .ok (.iadd, 1) := by decide +kernel
theorem dL_law_794 : decode cL_law 794 = .ok (.iaload, 1) := by decide +kernel
theorem dL_law_795 : decode cL_law 795 = .ok (.aload_n 0, 1) := by decide +kernel
theorem dL_law_796 : decode cL_law 796 = .ok (.iload_n 3, 1) := by decide +kernel
theorem dL_law_797 : decode cL_law 797 = .ok (.iconst 2, 1) := by decide +kernel
theorem dL_law_798 : decode cL_law 798 = .ok (.iadd, 1) := by decide +kernel
theorem dL_law_799 : decode cL_law 799 = .ok (.iaload, 1) := by decide +kernel
theorem dL_law_800 : decode cL_law 800 = .ok (.invokevirtual 100, 3) := by decide +kernel
theorem dL_law_803 : decode cL_law 803 = .ok (.pop, 1) := by decide +kernel
theorem dL_law_804 : decode cL_law 804 = .ok (.goto 187, 3) := by decide +kernel
theorem dL_law_807 : decode cL_law 807 = .ok (.aload_n 1, 1) := by decide +kernel
theorem dL_law_808 : decode cL_law 808 = .ok (.aload_n 0, 1) := by decide +kernel
theorem dL_law_809 : decode cL_law 809 = .ok (.iload_n 3, 1) := by decide +kernel
theorem dL_law_810 : decode cL_law 810 = .ok (.iconst 1, 1) := by decide +kernel
theorem dL_law_811 : decode cL_law 811 = .ok (.iadd, 1) := by decide +kernel
theorem dL_law_812 : decode cL_law 812 = .ok (.iaload, 1) := by decide +kernel
theorem dL_law_813 : decode cL_law 813 = .ok (.aload_n 0, 1) := by decide +kernel
theorem dL_law_814 : decode cL_law 814 = .ok (.iload_n 3, 1) := by decide +kernel
theorem dL_law_815 : decode cL_law 815 = .ok (.iconst 2, 1) := by decide +kernel
theorem dL_law_816 : decode cL_law 816 = .ok (.iadd, 1) := by decide +kernel
theorem dL_law_817 : decode cL_law 817 = .ok (.iaload, 1) := by decide +kernel
theorem dL_law_818 : decode cL_law 818 = .ok (.invokevirtual 101, 3) := by decide +kernel
theorem dL_law_821 : decode cL_law 821 = .ok (.pop, 1) := by decide +kernel
theorem dL_law_822 : decode cL_law 822 = .ok (.aload_n 2, 1) := by decide +kernel
theorem dL_law_823 : decode cL_law 823 = .ok (.aload_n 0, 1) := by decide +kernel
theorem dL_law_824 : decode cL_law 824 = .ok (.iload_n 3, 1) := by decide +kernel
theorem dL_law_825 : decode cL_law 825 = .ok (.iconst 1, 1) := by decide +kernel
theorem dL_law_826 : decode cL_law 826 = .ok (.iadd, 1) := by decide +kernel
theorem dL_law_827 : decode cL_law 827 = .ok (.iaload, 1) := by decide +kernel
theorem dL_law_828 : decode cL_law 828 = .ok (.aload_n 0, 1) := by decide +kernel
theorem dL_law_829 : decode cL_law 829 = .ok (.iload_n 3, 1) := by decide +kernel
theorem dL_law_830 : decode cL_law 830 = .ok (.iconst 2, 1) := by decide +kernel
theorem dL_law_831 : decode cL_law 831 = .ok (.iadd, 1) := by decide +kernel
theorem dL_law_832 : decode cL_law 832 = .ok (.iaload, 1) := by decide +kernel
theorem dL_law_833 : decode cL_law 833 = .ok (.invokevirtual 104, 3) := by decide +kernel
theorem dL_law_836 : decode cL_law 836 = .ok (.pop, 1) := by decide +kernel
theorem dL_law_837 : decode cL_law 837 = .ok (.goto 154, 3) := by decide +kernel
theorem dL_law_840 : decode cL_law 840 = .ok (.aload_n 1, 1) := by decide +kernel
theorem dL_law_841 : decode cL_law 841 = .ok (.aload_n 0, 1) := by decide +kernel
theorem dL_law_842 : decode cL_law 842 = .ok (.iload_n 3, 1) := by decide +kernel
theorem dL_law_843 : decode cL_law 843 = .ok (.iconst 1, 1) := by decide +kernel
theorem dL_law_844 : decode cL_law 844 = .ok (.iadd, 1) := by decide +kernel
theorem dL_law_845 : decode cL_law 845 = .ok (.iaload, 1) := by decide +kernel
theorem dL_law_846 : decode cL_law 846 = .ok (.i2l, 1) := by decide +kernel
theorem dL_law_847 : decode cL_law 847 = .ok (.bipush 32, 2) := by decide +kernel
theorem dL_law_849 : decode cL_law 849 = .ok (.lshl, 1) := by decide +kernel
theorem dL_law_850 : decode cL_law 850 = .ok (.aload_n 0, 1) := by decide +kernel
theorem dL_law_851 : decode cL_law 851 = .ok (.iload_n 3, 1) := by decide +kernel
theorem dL_law_852 : decode cL_law 852 = .ok (.iconst 2, 1) := by decide +kernel
theorem dL_law_853 : decode cL_law 853 = .ok (.iadd, 1) := by decide +kernel
theorem dL_law_854 : decode cL_law 854 = .ok (.iaload, 1) := by decide +kernel
theorem dL_law_855 : decode cL_law 855 = .ok (.i2l, 1) := by decide +kernel
theorem dL_law_856 : decode cL_law 856 = .ok (.ldc2_w 105, 3) := by decide +kernel
theorem dL_law_859 : decode cL_law 859 = .ok (.land, 1) := by decide +kernel
theorem dL_law_860 : decode cL_law 860 = .ok (.lor, 1) := by decide +kernel
theorem dL_law_861 : decode cL_law 861 = .ok (.invokevirtual 107, 3) := by decide +kernel
theorem dL_law_864 : decode cL_law 864 = .ok (.pop, 1) := by decide +kernel
theorem dL_law_865 : decode cL_law 865 = .ok (.aload_n 2, 1) := by decide +kernel
theorem dL_law_866 : decode cL_law 866 = .ok (.aload_n 0, 1) := by decide +kernel
theorem dL_law_867 : decode cL_law 867 = .ok (.iload_n 3, 1) := by decide +kernel
theorem dL_law_868 : decode cL_law 868 = .ok (.iconst 1, 1) := by decide +kernel
theorem dL_law_869 : decode cL_law 869 = .ok (.iadd, 1) := by decide +kernel
theorem dL_law_870 : decode cL_law 870 = .ok (.iaload, 1) := by decide +kernel
theorem dL_law_871 : decode cL_law 871 = .ok (.i2l, 1) := by decide +kernel
theorem dL_law_872 : decode cL_law 872 = .ok (.bipush 32, 2) := by decide +kernel
theorem dL_law_874 : decode cL_law 874 = .ok (.lshl, 1) := by decide +kernel
theorem dL_law_875 : decode cL_law 875 = .ok (.aload_n 0, 1) := by decide +kernel
theorem dL_law_876 : decode cL_law 876 = .ok (.iload_n 3, 1) := by decide +kernel
theorem dL_law_877 : decode cL_law 877 = .ok (.iconst 2, 1) := by decide +kernel
theorem dL_law_878 : decode cL_law 878 = .ok (.iadd, 1) := by decide +kernel
theorem dL_law_879 : decode cL_law 879 = .ok (.iaload, 1) := by decide +kernel
theorem dL_law_880 : decode cL_law 880 = .ok (.i2l, 1) := by decide +kernel
theorem dL_law_881 : decode cL_law 881 = .ok (.ldc2_w 105, 3) := by decide +kernel
theorem dL_law_884 : decode cL_law 884 = .ok (.land, 1) := by decide +kernel
theorem dL_law_885 : decode cL_law 885 = .ok (.lor, 1) := by decide +kernel
theorem dL_law_886 : decode cL_law 886 = .ok (.invokevirtual 111, 3) := by decide +kernel
theorem dL_law_889 : decode cL_law 889 = .ok (.pop, 1) := by decide +kernel
theorem dL_law_890 : decode cL_law 890 = .ok (.goto 101, 3) := by decide +kernel
theorem dL_law_893 : decode cL_law 893 = .ok (.aload_n 1, 1) := by decide +kernel
theorem dL_law_894 : decode cL_law 894 = .ok (.invokevirtual 112, 3) := by decide +kernel
theorem dL_law_897 : decode cL_law 897 = .ok (.pop, 1) := by decide +kernel
theorem dL_law_898 : decode cL_law 898 = .ok (.aload_n 2, 1) := by decide +kernel
theorem dL_law_899 : decode cL_law 899 = .ok (.invokevirtual 116, 3) := by decide +kernel
theorem dL_law_902 : decode cL_law 902 = .ok (.pop, 1) := by decide +kernel
theorem dL_law_903 : decode cL_law 903 = .ok (.goto 88, 3) := by decide +kernel
theorem dL_law_906 : decode cL_law 906 = .ok (.aload_n 1, 1) := by decide +kernel
theorem dL_law_907 : decode cL_law 907 = .ok (.invokevirtual 117, 3) := by decide +kernel
theorem dL_law_910 : decode cL_law 910 = .ok (.pop, 1) := by decide +kernel
theorem dL_law_911 : decode cL_law 911 = .ok (.aload_n 2, 1) := by decide +kernel
theorem dL_law_912 : decode cL_law 912 = .ok (.invokevirtual 120, 3) := by decide +kernel
theorem dL_law_915 : decode cL_law 915 = .ok (.pop, 1) := by decide +kernel
theorem dL_law_916 : decode cL_law 916 = .ok (.goto 75, 3) := by decide +kernel
theorem dL_law_919 : decode cL_law 919 = .ok (.aload_n 1, 1) := by decide +kernel
theorem dL_law_920 : decode cL_law 920 = .ok (.invokevirtual 121, 3) := by decide +kernel
theorem dL_law_923 : decode cL_law 923 = .ok (.pop, 1) := by decide +kernel
theorem dL_law_924 : decode cL_law 924 = .ok (.aload_n 2, 1) := by decide +kernel
theorem dL_law_925 : decode cL_law 925 = .ok (.invokevirtual 124, 3) := by decide +kernel
theorem dL_law_928 : decode cL_law 928 = .ok (.pop, 1) := by decide +kernel
theorem dL_law_929 : decode cL_law 929 = .ok (.goto 62, 3) := by decide +kernel
theorem dL_law_932 : decode cL_law 932 = .ok (.aload_n 1, 1) := by decide +kernel
theorem dL_law_933 : decode cL_law 933 = .ok (.invokevirtual 125, 3) := by decide +kernel
theorem dL_law_936 : decode cL_law 936 = .ok (.pop, 1) := by decide +kernel
theorem dL_law_937 : decode cL_law 937 = .ok (.aload_n 2, 1) := by decide +kernel
theorem dL_law_938 : decode cL_law 938 = .ok (.invokevirtual 128, 3) := by decide +kernel
theorem dL_law_941 : decode cL_law 941 = .ok (.pop, 1) := by decide +kernel
theorem dL_law_942 : decode cL_law 942 = .ok (.goto 49, 3) := by decide +kernel
theorem dL_law_945 : decode cL_law 945 = .ok (.aload_n 1, 1) := by decide +kernel
theorem dL_law_946 : decode cL_law 946 = .ok (.aload_n 0, 1) := by decide +kernel
theorem dL_law_947 : decode cL_law 947 = .ok (.iload_n 3, 1) := by decide +kernel
theorem dL_law_948 : decode cL_law 948 = .ok (.iconst 1, 1) := by decide +kernel
theorem dL_law_949 : decode cL_law 949 = .ok (.iadd, 1) := by decide +kernel
theorem dL_law_950 : decode cL_law 950 = .ok (.iaload, 1) := by decide +kernel
theorem dL_law_951 : decode cL_law 951 = .ok (.invokevirtual 129, 3) := by decide +kernel
theorem dL_law_954 : decode cL_law 954 = .ok (.pop, 1) := by decide +kernel
theorem dL_law_955 : decode cL_law 955 = .ok (.aload_n 2, 1) := by decide +kernel
theorem dL_law_956 : decode cL_law 956 = .ok (.aload_n 0, 1) := by decide +kernel
theorem dL_law_957 : decode cL_law 957 = .ok (.iload_n 3, 1) := by decide +kernel
theorem dL_law_958 : decode cL_law 958 = .ok (.iconst 1, 1) := by decide +kernel
theorem dL_law_959 : decode cL_law 959 = .ok (.iadd, 1) := by decide +kernel
theorem dL_law_960 : decode cL_law 960 = .ok (.iaload, 1) := by decide +kernel
theorem dL_law_961 : decode cL_law 961 = .ok (.invokevirtual 132, 3) := by decide +kernel
theorem dL_law_964 : decode cL_law 964 = .ok (.pop, 1) := by decide +kernel
theorem dL_law_965 : decode cL_law 965 = .ok (.goto 26, 3) := by decide +kernel
theorem dL_law_968 : decode cL_law 968 = .ok (.aload_n 1, 1) := by decide +kernel
theorem dL_law_969 : decode cL_law 969 = .ok (.aload_n 0, 1) := by decide +kernel
theorem dL_law_970 : decode cL_law 970 = .ok (.iload_n 3, 1) := by decide +kernel
theorem dL_law_971 : decode cL_law 971 = .ok (.iconst 1, 1) := by decide +kernel
theorem dL_law_972 : decode cL_law 972 = .ok (.iadd, 1) := by decide +kernel
theorem dL_law_973 : decode cL_law 973 = .ok (.iaload, 1) := by decide +kernel
theorem dL_law_974 : decode cL_law 974 = .ok (.invokevirtual 133, 3) := by decide +kernel
theorem dL_law_977 : decode cL_law 977 = .ok (.pop, 1) := by decide +kernel
theorem dL_law_978 : decode cL_law 978 = .ok (.aload_n 2, 1) := by decide +kernel
theorem dL_law_979 : decode cL_law 979 = .ok (.aload_n 0, 1) := by decide +kernel
theorem dL_law_980 : decode cL_law 980 = .ok (.iload_n 3, 1) := by decide +kernel
theorem dL_law_981 : decode cL_law 981 = .ok (.iconst 1, 1) := by decide +kernel
theorem dL_law_982 : decode cL_law 982 = .ok (.iadd, 1) := by decide +kernel
theorem dL_law_983 : decode cL_law 983 = .ok (.iaload, 1) := by decide +kernel
theorem dL_law_984 : decode cL_law 984 = .ok (.invokevirtual 136, 3) := by decide +kernel
theorem dL_law_987 : decode cL_law 987 = .ok (.pop, 1) := by decide +kernel
theorem dL_law_988 : decode cL_law 988 = .ok (.goto 3, 3) := by decide +kernel
theorem dL_law_991 : decode cL_law 991 = .ok (.iinc 3 5, 3) := by decide +kernel
theorem dL_law_994 : decode cL_law 994 = .ok (.goto (-976), 3) := by decide +kernel
theorem dL_law_997 : decode cL_law 997 = .ok (.iconst 1, 1) := by decide +kernel
theorem dL_law_998 : decode cL_law 998 = .ok (.ireturn, 1) := by decide +kernel
end
section
/-! MY OWN KIT: one region of cells at mm_lo, mm_lo + 1 ..; which kind of cell stands at which place is fixed (kT), references between them too (kR); what changes is ints (M.1) and longs (M.2), by place and slot. -/
abbrev mm_M : Type := (Nat → Nat → Int32) × (Nat → Nat → Int64)
abbrev mm_R : Type := Nat → Nat → Option Nat
abbrev mm_Ws : Type := mm_R × Nat × mm_M
abbrev mm_G : Type := va_G × (Nat → ClassId) × (Nat → Nat)
abbrev mm_lo (G : mm_G) : Nat := G.2.2 0
abbrev mm_A (G : mm_G) : Nat → Prop := fun q => mm_lo G ≤ q
def sI (M : mm_M) (o k : Nat) (v : Int32) : mm_M := (fun o' k' => if o' = o ∧ k' = k then v else M.1 o' k', M.2)
def sL (M : mm_M) (o k : Nat) (v : Int64) : mm_M := (M.1, fun o' k' => if o' = o ∧ k' = k then v else M.2 o' k')
def sC (M : mm_M) (o : Nat) (f : Nat → Int32) : mm_M := (fun o' k' => if o' = o then f k' else M.1 o' k', M.2)
def sR (R : mm_R) (o k : Nat) (v : Option Nat) : mm_R := fun o' k' => if o' = o ∧ k' = k then v else R o' k'
/-- kinds: 0 Cart, 1 History, 2 Pad, 3 Pitch, 4 State, 5 CartPitches, 6 the model, 7 char[], 8 int[], 9 boolean[], 10 Cart[], 11 Pitch[], 12 State[]; of an array its length -/
def kS (r : Nat) : Nat × Nat := if r = 0 then (4, 0) else if r = 1 then (8, 10) else if r = 2 then (11, 10) else if r = 3 then (10, 16) else if r = 4 then (8, 8) else if r = 5 then (8, 8) else if r = 6 then (8, 16) else if r = 7 then (8, 16) else if r < 18 then (3, 0) else if (r - 18) % 3 = 0 then (0, 0) else if (r - 18) % 3 = 1 then (8, 3) else (8, 200)
def kT (o : Nat) : Nat × Nat := if o = 0 then (5, 0) else if o < 133 then kS ((o - 1) % 66) else if o = 133 then (1, 0) else if o = 134 then (12, 7) else if o < 729 then kS ((o - 135) % 66) else if o = 729 then (2, 0) else if o = 730 then (7, 80) else if o = 731 then (6, 0) else if o = 732 then (8, 3592) else if o = 733 then (8, 21552) else if o = 734 then (8, 7184) else if o = 735 then (9, 2) else if o = 736 then (8, 3592) else if o = 737 then (8, 80) else if o = 738 then (8, 29) else if o = 739 then (8, 116) else (99, 0)
def rS (o r k : Nat) : Option Nat := if r = 0 then (if 7 ≤ k ∧ k ≤ 13 then some (o + (k - 6)) else none) else if r = 2 then (if k < 10 then some (o + 6 + k) else none) else if r = 3 then (if k < 16 then some (o + 15 + 3 * k) else none) else if 18 ≤ r ∧ (r - 18) % 3 = 0 then (if k = 16 then some (o + 1) else if k = 17 then some (o + 2) else none) else none
def kR : mm_R := fun o k => if o = 0 then (if k = 0 then some 1 else if k = 1 then some 67 else if k = 2 then some 133 else if k = 3 then some 597 else if k = 4 then some 663 else if k = 5 then some 729 else none) else if o < 133 then rS o ((o - 1) % 66) k else if o = 133 then (if k = 0 then some 134 else none) else if o = 134 then (if k < 7 then some (135 + 66 * k) else none) else if o < 729 then rS o ((o - 135) % 66) k else if o = 729 then (if k = 0 then some 730 else none) else if o = 731 then (if k = 0 then some 732 else if k = 1 then some 733 else if k = 3 then some 734 else if k = 4 then some 735 else if k = 5 then some 736 else if k = 6 then some 737 else if k = 13 then some 738 else if k = 14 then some 739 else none) else none
def mm_q (G : mm_G) (r : Option Nat) : Value := va_rf (r.map (fun a => mm_lo G + a))
theorem mm_q_some {G : mm_G} {r : Option Nat} {b : Nat} (h : r = some b) : mm_q G r = .ref (mm_lo G + b) := by subst h; rfl
def mm_e (G : mm_G) (I : Nat → Int32) (L : Nat → Int64) (R : Nat → Option Nat) (q : Nat × Nat) : va_E := match q.1 with
  | 0 => .inr (0, [.int (I 0), .int (I 1), .int (I 2), .int (I 3), .int (I 4), .int (I 5), .int (I 6), .int (I 7), .int (I 8), .int (I 9), .int (I 10), .int (I 11), .long (L 12), .long (L 13), .long (L 14), .long (L 15), mm_q G (R 16), mm_q G (R 17)])
  | 1 => .inr (1, [mm_q G (R 0), .int (I 1), .int (I 2)])
  | 2 => .inr (2, [mm_q G (R 0), .int (I 1)])
  | 3 => .inr (3, [.int (I 0), .int (I 1), .int (I 2), .int (I 3)])
  | 4 => .inr (4, [.int (I 0), .int (I 1), .int (I 2), .int (I 3), .int (I 4), .int (I 5), .int (I 6), mm_q G (R 7), mm_q G (R 8), mm_q G (R 9), mm_q G (R 10), mm_q G (R 11), mm_q G (R 12), mm_q G (R 13), .int (I 14)])
  | 5 => .inr (5, [mm_q G (R 0), mm_q G (R 1), mm_q G (R 2), mm_q G (R 3), mm_q G (R 4), mm_q G (R 5)])
  | 6 => .inr (6, [mm_q G (R 0), mm_q G (R 1), .int (I 2), mm_q G (R 3), mm_q G (R 4), mm_q G (R 5), mm_q G (R 6), .int (I 7), .int (I 8), .int (I 9), .int (I 10), .int (I 11), .int (I 12), mm_q G (R 13), mm_q G (R 14)])
  | 7 => .inl (G.2.1 0, (q.2, .inl I))
  | 8 => .inl (G.2.1 1, (q.2, .inl I))
  | 9 => .inl (G.2.1 2, (q.2, .inl I))
  | 10 => .inl (G.2.1 3, (q.2, .inr (.inr (.inr (.inr (fun j => (R j).map (fun a => mm_lo G + a)))))))
  | 11 => .inl (G.2.1 4, (q.2, .inr (.inr (.inr (.inr (fun j => (R j).map (fun a => mm_lo G + a)))))))
  | _ => .inl (G.2.1 5, (q.2, .inr (.inr (.inr (.inr (fun j => (R j).map (fun a => mm_lo G + a)))))))
def mm_tys (G : mm_G) : List (ClassId × FieldType) := [(G.2.1 0, .char), (G.2.1 1, .int), (G.2.1 2, .boolean), (G.2.1 3, .object "CartPitches$Cart"), (G.2.1 4, .object "CartPitches$Pitch"), (G.2.1 5, .object "CartPitches$State")]
def mm_en (G : mm_G) (R : mm_R) (M : mm_M) (o : Nat) : va_E := mm_e G (M.1 o) (M.2 o) (R o) (kT o)
def mm_W (G : mm_G) (R : mm_R) (N : Nat) (M : mm_M) : va_W := (List.range N).map fun o => (mm_lo G + o, mm_en G R M o)
theorem mm_Wg {G : mm_G} {R : mm_R} {N : Nat} {M : mm_M} {o : Nat} (h : o < N) : (mm_W G R N M)[o]? = some (mm_lo G + o, mm_en G R M o) := by
  unfold mm_W
  rw [List.getElem?_map, List.getElem?_range h]
  rfl
theorem mm_Wi {G : mm_G} {R : mm_R} {N : Nat} {M : mm_M} {k : Nat} {q : Nat × va_E} (h : (mm_W G R N M)[k]? = some q) : k < N ∧ q = (mm_lo G + k, mm_en G R M k) := by
  have hk : k < N := by
    have := (List.getElem?_eq_some_iff.mp h).1
    unfold mm_W at this
    simpa using this
  rw [mm_Wg hk] at h
  exact ⟨hk, (Option.some.inj h).symm⟩
theorem mm_Wd {G : mm_G} {R : mm_R} {N : Nat} {M : mm_M} : va_D (mm_A G) (mm_W G R N M) := by
  refine ⟨fun i j p q hi hj h => ?_, fun k q hk => ?_⟩
  · have a := (mm_Wi hi).2
    have b := (mm_Wi hj).2
    subst a; subst b
    exact Nat.add_left_cancel h
  · have a := (mm_Wi hk).2
    subst a
    exact Nat.le_add_right _ _
def mm_P (G : mm_G) (R : mm_R) (N : Nat) (M : mm_M) (H : Heap) : Prop := va_P G.1 vwCl (mm_W G R N M) H
/-- one cell is written -/
theorem mm_upd {G : mm_G} {R R1 : mm_R} {N : Nat} {M M1 : mm_M} {H H1 : Heap} {o : Nat} (hM : mm_P G R N M H) (oq : ∀ q : Nat, q ≠ mm_lo G + o → H1[q]? = H[q]?) (he : va_at G.1 vwCl (mm_lo G + o, mm_en G R1 M1 o) H1) (hs : ∀ o', o' ≠ o → mm_en G R1 M1 o' = mm_en G R M o') : mm_P G R1 N M1 H1 := by
  intro k q hk
  obtain ⟨hkN, e⟩ := mm_Wi hk
  subst e
  by_cases h : k = o
  · subst h; exact he
  · rw [hs k h]
    exact (hM k _ (mm_Wg hkN)).kept (oq _ (fun z => h (Nat.add_left_cancel z)))
theorem mm_en_I {G : mm_G} {R : mm_R} {M : mm_M} {o k : Nat} {v : Int32} : ∀ o', o' ≠ o → mm_en G R (sI M o k v) o' = mm_en G R M o' := by
  intro o' h
  have e : (sI M o k v).1 o' = M.1 o' := by funext j; simp [sI, h]
  unfold mm_en
  rw [e]
  rfl
theorem mm_en_L {G : mm_G} {R : mm_R} {M : mm_M} {o k : Nat} {v : Int64} : ∀ o', o' ≠ o → mm_en G R (sL M o k v) o' = mm_en G R M o' := by
  intro o' h
  have e : (sL M o k v).2 o' = M.2 o' := by funext j; simp [sL, h]
  unfold mm_en
  rw [e]
  rfl
theorem mm_en_C {G : mm_G} {R : mm_R} {M : mm_M} {o : Nat} {f : Nat → Int32} : ∀ o', o' ≠ o → mm_en G R (sC M o f) o' = mm_en G R M o' := by
  intro o' h
  have e : (sC M o f).1 o' = M.1 o' := by funext j; simp [sC, h]
  unfold mm_en
  rw [e]
  rfl
theorem mm_en_R {G : mm_G} {R : mm_R} {M : mm_M} {o k : Nat} {v : Option Nat} : ∀ o', o' ≠ o → mm_en G (sR R o k v) M o' = mm_en G R M o' := by
  intro o' h
  have e : (sR R o k v) o' = R o' := by funext j; simp [sR, h]
  unfold mm_en
  rw [e]
theorem sI_at (M : mm_M) (o k : Nat) (v : Int32) : (sI M o k v).1 o = fun j => if j = k then v else M.1 o j := by funext j; simp [sI]
theorem sI_long (M : mm_M) (o k : Nat) (v : Int32) (o' : Nat) : (sI M o k v).2 o' = M.2 o' := rfl
theorem sL_at (M : mm_M) (o k : Nat) (v : Int64) : (sL M o k v).2 o = fun j => if j = k then v else M.2 o j := by funext j; simp [sL]
theorem sL_int (M : mm_M) (o k : Nat) (v : Int64) (o' : Nat) : (sL M o k v).1 o' = M.1 o' := rfl
theorem sR_at (R : mm_R) (o k : Nat) (v : Option Nat) : (sR R o k v) o = fun j => if j = k then v else R o j := by funext j; simp [sR]
-- the tables' words
def mm_good : List Cond := lw_tbl.filter goodWord
theorem mm_in {w : Cond} (i : Nat) (h : lw_tbl[i]? = some w) (hg : goodWord w = true) : w ∈ mm_good := List.mem_filter.mpr ⟨List.mem_of_getElem? h, hg⟩
def mm_ws (y : MethodName) (cc : ByteArray) (n : Nat) (ret : Option FieldType) : List Cond := Cond.code y cc n ret :: mm_good
theorem mm_gd {w : Cond} (h : w ∈ mm_good) : w ∈ mm_good ∧ ((w.onTables && w.keeps) = true ∨ ∃ ty, w = .arrayClass ty) := ⟨h, good_of_word (List.mem_filter.mp h).2⟩
theorem mm_gws {y : MethodName} {cc : ByteArray} {n : Nat} {ret : Option FieldType} (h : Cond.code y cc n ret ∈ mm_good) : GoodIn mm_good (mm_ws y cc n ret) := by
  intro w hw
  rcases List.mem_cons.mp hw with rfl | hw
  · exact mm_gd h
  · exact mm_gd hw
theorem mm_gV {own : String} {idx : Nat} {C : String} {y : MethodName} {cc : ByteArray} {n : Nat} {ret : Option FieldType} (h1 : Cond.methodLink own idx y ∈ mm_good) (h2 : Cond.instanceMethod y ∈ mm_good) (h3 : Cond.selects C y y ∈ mm_good) (h4 : Cond.initialized C ∈ mm_good) (h5 : Cond.code y cc n ret ∈ mm_good) : GoodIn mm_good (wsV own idx C y (mm_ws y cc n ret)) := by
  intro w hw
  unfold wsV at hw
  rcases List.mem_append.mp hw with hw | hw
  · simp only [List.mem_cons, List.not_mem_nil, or_false] at hw
    rcases hw with rfl | rfl | rfl | rfl
    · exact mm_gd h1
    · exact mm_gd h2
    · exact mm_gd h3
    · exact mm_gd h4
  · exact mm_gws h5 w hw
theorem mm_gS {own : String} {idx : Nat} {y : MethodName} {cc : ByteArray} {n : Nat} {ret : Option FieldType} (h1 : Cond.methodLink own idx y ∈ mm_good) (h2 : Cond.static y ∈ mm_good) (h4 : Cond.initialized y.cls ∈ mm_good) (h5 : Cond.code y cc n ret ∈ mm_good) : GoodIn mm_good (va_wsS own idx y (mm_ws y cc n ret)) := by
  intro w hw
  unfold va_wsS at hw
  rcases List.mem_append.mp hw with hw | hw
  · simp only [List.mem_cons, List.not_mem_nil, or_false] at hw
    rcases hw with rfl | rfl | rfl
    · exact mm_gd h1
    · exact mm_gd h2
    · exact mm_gd h4
  · exact mm_gws h5 w hw
/-- links between nest mates, arrays of references: words that are said of a state -/
def mm_N (U : State) : Prop := (∀ (own : String) (i : Nat) (r n d h : String), Cond.fieldLinkNest own i r n d h ∈ lw_tbl → va_Nw (.fieldLinkNest own i r n d h) U) ∧ (∀ (own : String) (i : Nat) (y : MethodName) (h : String), Cond.methodLinkNest own i y h ∈ lw_tbl → va_Nw (.methodLinkNest own i y h) U) ∧ (∀ C : String, Cond.arrayOver (.object C) ∈ lw_tbl → va_AO C U)
theorem mm_N.warm {s U : State} (hW : s.WarmedH U.vm) (h : mm_N s) : mm_N U := ⟨fun own i r n d x hw => va_Nw.warmF hW (h.1 own i r n d x hw), fun own i y x hw => va_Nw.warmM hW (h.2.1 own i y x hw), fun C hw => va_AO.moved hW.alike (h.2.2 C hw)⟩
theorem mm_N.same {u U : State} (e : u.vm = U.vm) (h : mm_N u) : mm_N U := ⟨fun own i r n d x hw => va_Nw.same rfl e (h.1 own i r n d x hw), fun own i y x hw => va_Nw.same rfl e (h.2.1 own i y x hw), fun C hw => va_AO.moved (by rw [e]; exact Vm.Alike.refl _) (h.2.2 C hw)⟩
def mm_K (G : mm_G) (U : State) : Prop := va_K G.1 vwCl (mm_tys G) U ∧ mm_N U
theorem mm_K.warm {G : mm_G} {s U : State} (hW : s.WarmedH U.vm) (h : mm_K G s) : mm_K G U := ⟨va_K.moved hW.alike h.1, h.2.warm hW⟩
theorem mm_K.same {G : mm_G} {u U : State} (e : u.vm = U.vm) (h : mm_K G u) : mm_K G U := ⟨va_K.moved (by rw [e]; exact Vm.Alike.refl _) h.1, h.2.same e⟩
-- the three static arrays
def mm_f0 (j : Nat) : Int32 := if j = 0 then 8 else if j = 1 then 60 else if j = 2 then 2 else if j = 3 then 12 else if j = 4 then 14 else if j = 5 then 90 else if j = 6 then 500 else if j = 7 then 2 else if j = 8 then 11 else 200
def mm_f1 (j : Nat) : Int32 := if j = 0 then 1 else if j = 1 then 1 else if j = 2 then 1 else if j = 3 then 3 else if j = 4 then 1 else if j = 5 then 1 else if j = 6 then 0 else if j = 7 then 0 else if j = 8 then 6 else 0
def mm_f2 (j : Nat) : Int32 := if j = 0 then 20 else if j = 1 then 200 else if j = 2 then 8 else if j = 3 then 30 else if j = 4 then 60 else if j = 5 then 200 else if j = 6 then 10000 else if j = 7 then 9 else if j = 8 then 14 else 5000
def mm_Z1 (G : mm_G) (n : String) (t : Nat) (f : Nat → Int32) (U : State) (H : Heap) : Prop := va_Z "CartPitches" n "[I" (.ref t) (mm_A G) U H ∧ va_T .int t 10 (fun j => .int (f j)) (mm_A G) U H
def mm_Z (G : mm_G) (U : State) (H : Heap) : Prop := mm_Z1 G "FIRST_VALUE" (G.2.2 1) mm_f0 U H ∧ mm_Z1 G "LEAST_VALUE" (G.2.2 2) mm_f1 U H ∧ mm_Z1 G "MOST_VALUE" (G.2.2 3) mm_f2 U H
theorem mm_Z1.go {G : mm_G} {n : String} {t : Nat} {f : Nat → Int32} {u U : State} {H H1 : Heap} (hvm : u.vm.Alike U.vm) (hq : ∀ a : Nat, a < H.size → ¬ mm_A G a → H1[a]? = H[a]?) (h : mm_Z1 G n t f u H) : mm_Z1 G n t f U H1 := ⟨(h.1.moved hvm).kept hq, (h.2.moved hvm).kept hq⟩
theorem mm_Z.go {G : mm_G} {u U : State} {H H1 : Heap} (hvm : u.vm.Alike U.vm) (hq : ∀ a : Nat, a < H.size → ¬ mm_A G a → H1[a]? = H[a]?) (h : mm_Z G u H) : mm_Z G U H1 := ⟨h.1.go hvm hq, h.2.1.go hvm hq, h.2.2.go hvm hq⟩
/-- a method's world; behind makers its size too -/
def mm_B (G : mm_G) (w : mm_Ws) (U : State) : Prop := mm_P G w.1 w.2.1 w.2.2 U.heap ∧ mm_K G U ∧ mm_Z G U U.heap ∧ mm_lo G ≤ U.heap.size
def mm_Bc (G : mm_G) (w : mm_Ws) (U : State) : Prop := U.heap.size = mm_lo G + w.2.1 ∧ mm_B G w U
theorem mm_blind {G : mm_G} {vs : List Value} {w : mm_Ws} : FrameBlind (va_Pc vs (mm_B G w)) := fun a U g mk q => ⟨q.1, q.2.1, mm_K.same (u := U) (U := U.calling g mk a) rfl q.2.2.1, q.2.2.2.1.go (u := U) (U := U.calling g mk a) (Vm.Alike.refl U.vm) (fun _ _ _ => rfl), q.2.2.2.2⟩
theorem mm_blindc {G : mm_G} {vs : List Value} {w : mm_Ws} : FrameBlind (va_Pc vs (mm_Bc G w)) := fun a U g mk q => ⟨q.1, q.2.1, q.2.2.1, mm_K.same (u := U) (U := U.calling g mk a) rfl q.2.2.2.1, q.2.2.2.2.1.go (u := U) (U := U.calling g mk a) (Vm.Alike.refl U.vm) (fun _ _ _ => rfl), q.2.2.2.2.2⟩
/-- what a walk carries -/
def mm_C (G : mm_G) (p : Program) (s : State) (m : MethodId) (args : Array Value) (meth : Method) (c : Code) (own : String) (cc : ByteArray) (nL : Nat) (ret : Option FieldType) : Prop :=
  p.tables.exec = Jvm.exec ∧ c.code = cc ∧ meth.sig.returnType = ret ∧ (∀ w ∈ mm_good, w.before args s = true) ∧ s.vm.findClass own = some m.cls ∧ c.maxLocals = nL ∧ meth.locks = false ∧ mm_K G s ∧ mm_Z G s s.heap ∧ mm_lo G ≤ s.heap.size
section MMR
variable {p : Program} {l : Launch} {e : Env} {Rm : Room} {s : State} {m : MethodId} {args : Array Value} {below : List Frame} {meth : Method} {c : Code} {H : Heap} {locs : List Loc} {cells slots : Nat} {Q : State → Prop}
variable {cc : ByteArray} {pc : Nat} {ls : Array Slot} {rest : List Value} {G : mm_G} {own : String} {nL : Nat} {ret : Option FieldType} {R : mm_R} {N : Nat} {M : mm_M} {o : Nat}
theorem mm_get (C : mm_C G p s m args meth c own cc nL ret) (hM : mm_P G R N M H) (ho : o < N) {ci Nf k index : Nat} {Cn : String} {T : u_T} {fs : List Value} (he : mm_en G R M o = .inr (ci, fs)) (hc : vwCl[ci]? = some (Cn, T, Nf)) (hw : ∀ w ∈ u_ws Cn T Nf, w ∈ mm_good) (hk : k < Nf) (hs : (T k).1 = Cn) (hlink : Cond.fieldLink own index Cn (T k).2.1 (T k).2.2.1 ∈ mm_good) {v : Value} (hv : fs[k]? = some v) (hdg : decode cc pc = .ok (.getfield index, 3))
    (kk : W p l e Rm s m args below meth c H locs cells slots Q (F0 m (pc + 3) ls (v :: rest))) : W p l e Rm s m args below meth c H locs cells slots Q (F0 m pc ls (.ref (mm_lo G + o) :: rest)) := by
  obtain ⟨hx, hb, -, hts, hown, -, -, hK, -⟩ := C
  exact va_get (D := G.1) (cl := vwCl) (ci := ci) (v := v) (C := Cn) (T := T) (N := Nf) hx hb hts hw hown hK.1 hM o (by rw [mm_Wg ho, he]) hc k hk (hts _ hlink) (fun _ h9 => by rw [hs] at h9; exact h9) hv hdg kk
/-- a field is written, not final: the cell behind it, all others as they were -/
theorem mm_put0 (C : mm_C G p s m args meth c own cc nL ret) (hM : mm_P G R N M H) (hS : va_S (mm_A G) s.heap H locs) (ho : o < N) {ci Nf k index : Nat} {Cn : String} {T : u_T} {fs : List Value} (he : mm_en G R M o = .inr (ci, fs)) (hc : vwCl[ci]? = some (Cn, T, Nf)) (hw : ∀ w ∈ u_ws Cn T Nf, w ∈ mm_good) (ty0 : Nat → FieldType) (hty : ∀ k, k < Nf → parseFieldDescriptor (T k).2.2.1 = some (ty0 k)) (hnm : ∀ a, a < Nf → ∀ b, b < Nf → a ≠ b → (T a).2.1 ≠ (T b).2.1) (hk : k < Nf) (hs : (T k).1 = Cn) (hlink : Cond.fieldLink own index Cn (T k).2.1 (T k).2.2.1 ∈ mm_good)
    (hfin : (T k).2.2.2 = false ∨ ((T k).2.2.2 = true ∧ meth.name = "<init>" ∧ Cn = own)) {v : Value} (hn : narrow (ty0 k) v = v) (hfit : fits (ty0 k) v = true) (hl : k < fs.length) (hdg : decode cc pc = .ok (.putfield index, 3))
    (kk : ∀ (H1 : Heap) (locs1 : List Loc), va_at G.1 vwCl (mm_lo G + o, .inr (ci, fs.set k v)) H1 → (∀ q : Nat, q ≠ mm_lo G + o → H1[q]? = H[q]?) → H1.size = H.size → va_S (mm_A G) s.heap H1 locs1 → W p l e Rm s m args below meth c H1 locs1 cells slots Q (F0 m (pc + 3) ls rest)) : W p l e Rm s m args below meth c H locs cells slots Q (F0 m pc ls (v :: .ref (mm_lo G + o) :: rest)) := by
  obtain ⟨hx, hb, -, hts, hown, -, -, hK, -⟩ := C
  have hap := va_apart (own := own) (ci := ci) hts hw ty0 hty hnm hK.1 hc
  have h0 := hM o _ (mm_Wg ho)
  rw [he] at h0
  obtain ⟨r, h1, cell, q1, q2, q3, q4⟩ := h0
  cases h1.symm.trans hc
  obtain ⟨hSl, hfc, kC, hkC, hkind⟩ := hK.1.1 ci _ hc
  obtain ⟨cf, kf, fi, f, hi, hsl⟩ := hSl k hk
  have hd : parseFieldDescriptor (T k).2.2.1 = some (ty0 k) := hty k hk
  have hst := (u_facts hfc hkC (u_lays hts hw hk) hi).1
  have hi2 : s.fieldFound? Cn (T k).2.1 (T k).2.2.1 = some (cf, kf, fi, f) := by rw [← hs]; exact hi
  have hlt : f.slot < cell.slots.size := by rw [hsl]; exact k2_hasslot (q4 k hk)
  have fin : ∀ H' : Heap, H'[mm_lo G + o]? = some (cell.setSlot f.slot v) → H'.size = H.size → (∀ q, q ≠ mm_lo G + o → H'[q]? = H[q]?) → W p l e Rm s m args below meth c H' (locs ++ [⟨mm_lo G + o, f.slot⟩]) cells slots Q (F0 m (pc + 3) ls rest) := by
    intro H' e1 e2 e3
    rw [hsl] at e1 ⊢
    exact kk H' _ ⟨_, hc, t_OB.to (V := updV (vp_V fs) k v) ⟨_, e1, q2, q3, t_set q4 hap hk v⟩ (fun j _ => vp_updV_set hl v j)⟩ e3 e2 (hS.put e2 e3 (Nat.le_add_right _ _))
  rcases hfin with hfin | ⟨hfin, hin, hCn⟩
  · have hlay := hts _ (hw _ (u_in_lay hk))
    unfold u_lay at hlay
    rw [if_neg (by rw [hfin]; decide)] at hlay
    have h6 := u_store hfc hkC hkind hlay hi hd hn hfit
    exact W.putK hx hb (f := f) ⟨hown, hts _ hlink, ⟨_, _, _, hi2⟩, hst⟩ (by rw [q2]; exact h6) q1 q3 hlt rfl rfl hdg fin
  · have hlay := hts _ (hw _ (u_in_lay hk))
    unfold u_lay at hlay
    rw [if_pos hfin] at hlay
    have hcf : m.cls = cf := by
      obtain ⟨_, _, c', _, _, _, -, -, hf', -, -, -, hown2, -⟩ := Cond.laysFinal_spec hlay
      have e1 : c' = cf := by have := hi.symm.trans hf'; simp at this; exact this.1.symm
      rw [hs, hCn] at hown2
      rw [← e1]; exact Option.some.inj (hown.symm.trans hown2)
    have h6 := u_fits hfc hkC hkind (Or.inr hlay) hi hd hn hfit
    exact W.putFinK hx hb hown (hts _ hlink) hi2 hst hcf hin (by rw [q2]; exact h6) q1 q3 hlt rfl rfl hdg fin
/-- an int array is read -/
theorem mm_ild (C : mm_C G p s m args meth c own cc nL ret) (hM : mm_P G R N M H) (ho : o < N) {n : Nat} (hT : kT o = (8, n)) {i : Int32} (hin : vp_in i n) (hdg : decode cc pc = .ok (.iaload, 1))
    (kk : W p l e Rm s m args below meth c H locs cells slots Q (F0 m (pc + 1) ls (.int (M.1 o i.toNatClampNeg) :: rest))) : W p l e Rm s m args below meth c H locs cells slots Q (F0 m pc ls (.int i :: .ref (mm_lo G + o) :: rest)) := by
  obtain ⟨hx, hb, -, hts, hown, -, -, hK, -⟩ := C
  exact va_iald hx hb hK.1 hM o 1 (cA := G.2.1 1) (n := n) (f := M.1 o) (by rw [mm_Wg ho]; unfold mm_en; rw [hT]; rfl) rfl hin hdg kk
theorem mm_zld (C : mm_C G p s m args meth c own cc nL ret) (hM : mm_P G R N M H) (ho : o < N) {n : Nat} (hT : kT o = (9, n)) {i : Int32} (hin : vp_in i n) (hdg : decode cc pc = .ok (.baload, 1))
    (kk : W p l e Rm s m args below meth c H locs cells slots Q (F0 m (pc + 1) ls (.int (M.1 o i.toNatClampNeg) :: rest))) : W p l e Rm s m args below meth c H locs cells slots Q (F0 m pc ls (.int i :: .ref (mm_lo G + o) :: rest)) := by
  obtain ⟨hx, hb, -, hts, hown, -, -, hK, -⟩ := C
  exact va_zald hx hb hK.1 hM o 2 (cA := G.2.1 2) (n := n) (f := M.1 o) (by rw [mm_Wg ho]; unfold mm_en; rw [hT]; rfl) rfl hin hdg kk
theorem mm_cld (C : mm_C G p s m args meth c own cc nL ret) (hM : mm_P G R N M H) (ho : o < N) {n : Nat} (hT : kT o = (7, n)) {i : Int32} (hin : vp_in i n) (hdg : decode cc pc = .ok (.caload, 1))
    (kk : W p l e Rm s m args below meth c H locs cells slots Q (F0 m (pc + 1) ls (.int (M.1 o i.toNatClampNeg) :: rest))) : W p l e Rm s m args below meth c H locs cells slots Q (F0 m pc ls (.int i :: .ref (mm_lo G + o) :: rest)) := by
  obtain ⟨hx, hb, -, hts, hown, -, -, hK, -⟩ := C
  exact va_cald hx hb hK.1 hM o 0 (cA := G.2.1 0) (n := n) (f := M.1 o) (by rw [mm_Wg ho]; unfold mm_en; rw [hT]; rfl) rfl hin hdg kk
/-- an array of references is read; what stands there is known -/
theorem mm_ald (C : mm_C G p s m args meth c own cc nL ret) (hM : mm_P G R N M H) (ho : o < N) {k n : Nat} (hk : k = 10 ∨ k = 11 ∨ k = 12) (hT : kT o = (k, n)) {i : Int32} (hin : vp_in i n) {b : Nat} (hr : R o i.toNatClampNeg = some b) (hdg : decode cc pc = .ok (.aaload, 1))
    (kk : W p l e Rm s m args below meth c H locs cells slots Q (F0 m (pc + 1) ls (.ref (mm_lo G + b) :: rest))) : W p l e Rm s m args below meth c H locs cells slots Q (F0 m pc ls (.int i :: .ref (mm_lo G + o) :: rest)) := by
  obtain ⟨hx, hb, -, hts, hown, -, -, hK, -⟩ := C
  have kk : W p l e Rm s m args below meth c H locs cells slots Q (F0 m (pc + 1) ls (va_rf ((fun j => (R o j).map (fun a => mm_lo G + a)) i.toNatClampNeg) :: rest)) := by
    show W p l e Rm s m args below meth c H locs cells slots Q (F0 m (pc + 1) ls (mm_q G (R o i.toNatClampNeg) :: rest))
    rw [mm_q_some hr]; exact kk
  rcases hk with rfl | rfl | rfl
  · exact va_aldq hx hb hK.1 hM o 3 (cA := G.2.1 3) (n := n) (f := fun j => (R o j).map (fun a => mm_lo G + a)) (by rw [mm_Wg ho]; unfold mm_en; rw [hT]; rfl) rfl hin hdg kk
  · exact va_aldq hx hb hK.1 hM o 4 (cA := G.2.1 4) (n := n) (f := fun j => (R o j).map (fun a => mm_lo G + a)) (by rw [mm_Wg ho]; unfold mm_en; rw [hT]; rfl) rfl hin hdg kk
  · exact va_aldq hx hb hK.1 hM o 5 (cA := G.2.1 5) (n := n) (f := fun j => (R o j).map (fun a => mm_lo G + a)) (by rw [mm_Wg ho]; unfold mm_en; rw [hT]; rfl) rfl hin hdg kk
theorem mm_arI {n : Nat} {cA : ClassId} {f : Nat → Int32} {k : Nat} {x : Int32} {H1 : Heap} {a : Nat} {D : va_G} {cl : List vw_C} (e : H1[a]? = some ((arrV cA n (fun j => .int (f j))).setSlot k (.int x))) : va_at D cl (a, .inl (cA, (n, .inl (fun j => if j = k then x else f j)))) H1 := by
  show H1[a]? = some (vp_cell _ _)
  rw [e, vp_cell_i, arrV_store]
  congr 2
  funext q
  by_cases hq : q = k
  · simp [updV, hq]
  · simp [updV, hq]
/-- an int array is written -/
theorem mm_ist (C : mm_C G p s m args meth c own cc nL ret) (hM : mm_P G R N M H) (hS : va_S (mm_A G) s.heap H locs) (ho : o < N) {n : Nat} (hT : kT o = (8, n)) {i x : Int32} (hin : vp_in i n) (hdg : decode cc pc = .ok (.iastore, 1))
    (kk : ∀ (H1 : Heap) (locs1 : List Loc), mm_P G R N (sI M o i.toNatClampNeg x) H1 → va_S (mm_A G) s.heap H1 locs1 → H1.size = H.size → W p l e Rm s m args below meth c H1 locs1 cells slots Q (F0 m (pc + 1) ls rest)) : W p l e Rm s m args below meth c H locs cells slots Q (F0 m pc ls (.int x :: .int i :: .ref (mm_lo G + o) :: rest)) := by
  obtain ⟨hx, hb, -, hts, hown, -, -, hK, -⟩ := C
  have h0 := hM o _ (mm_Wg ho)
  have e0 : mm_en G R M o = .inl (G.2.1 1, (n, .inl (M.1 o))) := by unfold mm_en; rw [hT]; rfl
  have e1 : mm_en G R (sI M o i.toNatClampNeg x) o = .inl (G.2.1 1, (n, .inl (fun j => if j = i.toNatClampNeg then x else M.1 o j))) := by unfold mm_en; rw [hT, sI_at]; rfl
  rw [e0] at h0
  refine W.iast hx hb h0 ((hK.1.2 1 _ rfl).1 n (fun j => .int (M.1 o j))) (fun q => by cases q) (by show ¬ (i < 0 ∨ (arrV _ _ _).slots.size ≤ _); rw [arrV_size]; exact hin) rfl rfl hdg fun H1 e z oq => ?_
  exact kk H1 _ (mm_upd hM oq (by rw [e1]; exact mm_arI e) mm_en_I) (hS.put z oq (Nat.le_add_right _ _)) z
theorem mm_nar_b {x : Int32} (h : narrow .boolean (.int x) = .int x) (cell : Cell) (k : Nat) : cell.setSlot k (narrow .boolean (.int x)) = cell.setSlot k (.int x) := by rw [h]
theorem mm_zst (C : mm_C G p s m args meth c own cc nL ret) (hM : mm_P G R N M H) (hS : va_S (mm_A G) s.heap H locs) (ho : o < N) {n : Nat} (hT : kT o = (9, n)) {i x : Int32} (hin : vp_in i n) (hnx : narrow .boolean (.int x) = .int x) (hdg : decode cc pc = .ok (.bastore, 1))
    (kk : ∀ (H1 : Heap) (locs1 : List Loc), mm_P G R N (sI M o i.toNatClampNeg x) H1 → va_S (mm_A G) s.heap H1 locs1 → H1.size = H.size → W p l e Rm s m args below meth c H1 locs1 cells slots Q (F0 m (pc + 1) ls rest)) : W p l e Rm s m args below meth c H locs cells slots Q (F0 m pc ls (.int x :: .int i :: .ref (mm_lo G + o) :: rest)) := by
  obtain ⟨hx, hb, -, hts, hown, -, -, hK, -⟩ := C
  have h0 := hM o _ (mm_Wg ho)
  have e0 : mm_en G R M o = .inl (G.2.1 2, (n, .inl (M.1 o))) := by unfold mm_en; rw [hT]; rfl
  have e1 : mm_en G R (sI M o i.toNatClampNeg x) o = .inl (G.2.1 2, (n, .inl (fun j => if j = i.toNatClampNeg then x else M.1 o j))) := by unfold mm_en; rw [hT, sI_at]; rfl
  rw [e0] at h0
  refine W.zast hx hb h0 ((hK.1.2 2 _ rfl).1 n (fun j => .int (M.1 o j))) (fun q => by cases q) (by show ¬ (i < 0 ∨ (arrV _ _ _).slots.size ≤ _); rw [arrV_size]; exact hin) rfl rfl hdg fun H1 e z oq => ?_
  rw [hnx] at e
  exact kk H1 _ (mm_upd hM oq (by rw [e1]; exact mm_arI e) mm_en_I) (hS.put z oq (Nat.le_add_right _ _)) z
theorem mm_cst (C : mm_C G p s m args meth c own cc nL ret) (hM : mm_P G R N M H) (hS : va_S (mm_A G) s.heap H locs) (ho : o < N) {n : Nat} (hT : kT o = (7, n)) {i x : Int32} (hin : vp_in i n) (hnx : narrow .char (.int x) = .int x) (hdg : decode cc pc = .ok (.castore, 1))
    (kk : ∀ (H1 : Heap) (locs1 : List Loc), mm_P G R N (sI M o i.toNatClampNeg x) H1 → va_S (mm_A G) s.heap H1 locs1 → H1.size = H.size → W p l e Rm s m args below meth c H1 locs1 cells slots Q (F0 m (pc + 1) ls rest)) : W p l e Rm s m args below meth c H locs cells slots Q (F0 m pc ls (.int x :: .int i :: .ref (mm_lo G + o) :: rest)) := by
  obtain ⟨hx, hb, -, hts, hown, -, -, hK, -⟩ := C
  have h0 := hM o _ (mm_Wg ho)
  have e0 : mm_en G R M o = .inl (G.2.1 0, (n, .inl (M.1 o))) := by unfold mm_en; rw [hT]; rfl
  have e1 : mm_en G R (sI M o i.toNatClampNeg x) o = .inl (G.2.1 0, (n, .inl (fun j => if j = i.toNatClampNeg then x else M.1 o j))) := by unfold mm_en; rw [hT, sI_at]; rfl
  rw [e0] at h0
  refine W.cast hx hb h0 ((hK.1.2 0 _ rfl).1 n (fun j => .int (M.1 o j))) (fun q => by cases q) (by show ¬ (i < 0 ∨ (arrV _ _ _).slots.size ≤ _); rw [arrV_size]; exact hin) rfl rfl hdg fun H1 e z oq => ?_
  rw [hnx] at e
  exact kk H1 _ (mm_upd hM oq (by rw [e1]; exact mm_arI e) mm_en_I) (hS.put z oq (Nat.le_add_right _ _)) z
/-- System.arraycopy between two int arrays from 0 to 0 -/
theorem mm_cpy (C : mm_C G p s m args meth c own cc nL ret) (hM : mm_P G R N M H) (hS : va_S (mm_A G) s.heap H locs) {o2 n n2 index : Nat} (ho : o < N) (ho2 : o2 < N) (hT : kT o = (8, n)) (hT2 : kT o2 = (8, n2)) (hl : ls.size = nL) {k : Int32} {kn : Nat} (hk0 : ¬ k < 0) (hk : k.toNatClampNeg = kn) (h1 : kn ≤ n) (h2 : kn ≤ n2)
    (hlink : Cond.methodLink own index arraycopyName ∈ mm_good) (hnat : Cond.native arraycopyName ∈ mm_good) (hstat : Cond.static arraycopyName ∈ mm_good) (hini : Cond.initialized "java/lang/System" ∈ mm_good) (hfr : 1 ≤ Rm.frames) (hlo : (rest.map fun v => v.category).sum + (nativeFrameWords "java/lang/System" "arraycopy" 5 + 11) ≤ Rm.locals) (hdg : decode cc pc = .ok (.invokestatic index, 3))
    (kk : ∀ (H1 : Heap) (locs1 : List Loc), mm_P G R N (sC M o2 (fun j => if j < kn then M.1 o j else M.1 o2 j)) H1 → va_S (mm_A G) s.heap H1 locs1 → W p l e Rm s m args below meth c H1 locs1 cells slots Q (F0 m (pc + 3) ls rest)) : W p l e Rm s m args below meth c H locs cells slots Q (F0 m pc ls (.int k :: .int 0 :: .ref (mm_lo G + o2) :: .int 0 :: .ref (mm_lo G + o) :: rest)) := by
  obtain ⟨hx, hb, -, hts, hown, hml, -, hK, -⟩ := C
  subst hk
  refine va_copyi hx hb (by rw [hml, hl]) hown (hts _ hlink) (hts _ hnat) (hts _ hstat) (hts _ hini) hK.1 hM mm_Wd hS o o2 1 1 (c0 := G.2.1 1) (c1 := G.2.1 1) (n0 := n) (n1 := n2) (f := M.1 o) (g := M.1 o2) (ty := .int) (by rw [mm_Wg ho]; unfold mm_en; rw [hT]; rfl) (by rw [mm_Wg ho2]; unfold mm_en; rw [hT2]; rfl) rfl rfl rfl (by decide) (by decide) hk0 (by show 0 + _ ≤ _; omega) (by show 0 + _ ≤ _; omega) (fun _ _ => rfl) hfr hlo hdg fun H1 locs1 hP1 _ hS1 => ?_
  refine kk H1 locs1 (fun j q hj => ?_) hS1
  obtain ⟨hjN, ej⟩ := mm_Wi hj
  subst ej
  by_cases h : j = o2
  · subst h
    have hl2 : j < (mm_W G R N M).length := (List.getElem?_eq_some_iff.mp (mm_Wg hjN)).1
    have a := hP1 j _ (List.getElem?_set_self hl2)
    have e : mm_en G R (sC M j (fun i => if i < k.toNatClampNeg then M.1 o i else M.1 j i)) j = .inl (G.2.1 1, n2, .inl (va_cpy (M.1 o) (M.1 j) 0 0 k.toNatClampNeg)) := by
      unfold mm_en
      rw [hT2]
      show Sum.inl (G.2.1 1, (n2, Sum.inl _)) = _
      congr 4
      funext i
      simp [sC, va_cpy]
    rw [e]
    exact a
  · rw [mm_en_C j h]
    exact hP1 j _ (by rw [List.getElem?_set_ne (Ne.symm h), mm_Wg hjN])
end MMR
end
section
/-! MY OWN KIT, second part: entries, calls, ends -/
def b2i (b : Bool) : Int32 := if b then 1 else 0
theorem b2i_n (b : Bool) : narrow .boolean (.int (b2i b)) = .int (b2i b) := by cases b <;> rfl
theorem mm_narrow_char {x : Int32} (h : (x.toUInt32 % 65536).toInt32 = x) : narrow .char (.int x) = .int x := by
  have := pk_nc x
  rw [h] at this
  exact this
def gd {α : Type} (P : Prop) [Decidable P] (k : Option α) : Option α := if P then k else none
theorem gd_of {α : Type} {P : Prop} [Decidable P] {k : Option α} {r : α} (h : gd P k = some r) : P ∧ k = some r := by
  unfold gd at h
  split at h
  · exact ⟨‹_›, h⟩
  · cases h
theorem gd_t {α : Type} {P : Prop} [Decidable P] {k : Option α} (h : P) : gd P k = k := if_pos h
def bn {α β : Type} (x : Option α) (k : α → Option β) : Option β := match x with
  | none => none
  | some a => k a
theorem bn_of {α β : Type} {x : Option α} {k : α → Option β} {r : β} (h : bn x k = some r) : ∃ a, x = some a ∧ k a = some r := by
  cases x with
  | none => cases h
  | some a => exact ⟨a, rfl, h⟩
theorem bn_s {α β : Type} (a : α) (k : α → Option β) : bn (some a) k = k a := rfl
def lt {α β : Type} (x : α) (k : α → Option β) : Option β := k x
theorem lt_to {α β : Type} {x y : α} {k : α → Option β} {r : β} (e : y = x) (h : lt x k = some r) : k y = some r := by subst e; exact h
theorem if_t {α : Type} {P : Prop} [Decidable P] {a b : Option α} {r : α} (c : P) (h : (if P then a else b) = some r) : a = some r := by rw [if_pos c] at h; exact h
theorem if_f {α : Type} {P : Prop} [Decidable P] {a b : Option α} {r : α} (c : ¬ P) (h : (if P then a else b) = some r) : b = some r := by rw [if_neg c] at h; exact h
theorem vp_in_of2 {i : Int32} {n : Nat} (h : ¬ (i < 0 ∨ n ≤ i.toNatClampNeg)) : vp_in i n := h
section MMC
variable {p : Program} {l : Launch} {e : Env} {Rm : Room} {s : State} {m : MethodId} {args : Array Value} {below : List Frame} {meth : Method} {c : Code} {H : Heap} {locs : List Loc} {cells slots : Nat} {Q : State → Prop}
variable {cc : ByteArray} {pc : Nat} {ls : Array Slot} {rest : List Value} {G : mm_G} {own : String} {nL : Nat} {ret : Option FieldType} {R : mm_R} {N : Nat} {M : mm_M} {o : Nat}
/-- into a method -/
theorem mm_met {y : MethodName} {Qc : Array Value → State → Outcome → State → Prop} {mc ms : Nat} {w : mm_Ws} {vs : List Value} (hy : plainName y.cls = true) (hn : (lg_sl vs).length ≤ nL)
    (body : ∀ (p : Program) (e : Env) (s : State) (m : MethodId) (below : List Frame) (meth : Method) (c : Code) (ls : Array Slot), (y.name = "<init>" → meth.name = "<init>") → mm_C G p s m vs.toArray meth c y.cls cc nL ret → mm_P G w.1 w.2.1 w.2.2 s.heap → va_S (mm_A G) s.heap s.heap [] → lv_has ls nL (lv_args 0 vs) → W p l e Rm s m vs.toArray below meth c s.heap [] 0 0 (MQ below Qc vs.toArray s mc ms (mm_A G)) (F0 m 0 ls [])) : Met l y (mm_ws y cc nL ret) Rm (va_Pc vs (mm_B G w)) Qc mc ms (mm_A G) := by
  refine Met.ofW (cc := cc) (maxL := nL) (ret := ret) hy rfl ?_
  intro p e s m args below meth c s₁ B hml hv
  obtain ⟨rfl, hP, hK, hZ, hlo⟩ := hv
  have hts := atoms_spec (ws := mm_ws y cc nL ret) B.pre
  have hown : s.vm.findClass y.cls = some m.cls := findClass_of_methodNamed B.named
  have hl := lv_entry vs (n := nL) hn
  rw [lg_entry_eq]
  generalize (lg_sl vs ++ List.replicate (nL - (lg_sl vs).length) Slot.unset).toArray = ls at hl ⊢
  exact body p e s m below meth c ls (fun hq => (name_of_methodNamed B.named B.method).1.trans hq) ⟨B.exec, B.bytes, B.returns, fun w hw => hts w (List.mem_cons_of_mem _ hw), hown, hml, B.notSynchronized, hK, hZ, hlo⟩ hP va_S.rf hl
theorem mm_metc {y : MethodName} {Qc : Array Value → State → Outcome → State → Prop} {mc ms : Nat} {w : mm_Ws} {vs : List Value} (hy : plainName y.cls = true) (hn : (lg_sl vs).length ≤ nL)
    (body : ∀ (p : Program) (e : Env) (s : State) (m : MethodId) (below : List Frame) (meth : Method) (c : Code) (ls : Array Slot), (y.name = "<init>" → meth.name = "<init>") → mm_C G p s m vs.toArray meth c y.cls cc nL ret → s.heap.size = mm_lo G + w.2.1 → mm_P G w.1 w.2.1 w.2.2 s.heap → va_S (mm_A G) s.heap s.heap [] → lv_has ls nL (lv_args 0 vs) → W p l e Rm s m vs.toArray below meth c s.heap [] 0 0 (MQ below Qc vs.toArray s mc ms (mm_A G)) (F0 m 0 ls [])) : Met l y (mm_ws y cc nL ret) Rm (va_Pc vs (mm_Bc G w)) Qc mc ms (mm_A G) := by
  refine Met.ofW (cc := cc) (maxL := nL) (ret := ret) hy rfl ?_
  intro p e s m args below meth c s₁ B hml hv
  obtain ⟨rfl, hz, hP, hK, hZ, hlo⟩ := hv
  have hts := atoms_spec (ws := mm_ws y cc nL ret) B.pre
  have hown : s.vm.findClass y.cls = some m.cls := findClass_of_methodNamed B.named
  have hl := lv_entry vs (n := nL) hn
  rw [lg_entry_eq]
  generalize (lg_sl vs ++ List.replicate (nL - (lg_sl vs).length) Slot.unset).toArray = ls at hl ⊢
  exact body p e s m below meth c ls (fun hq => (name_of_methodNamed B.named B.method).1.trans hq) ⟨B.exec, B.bytes, B.returns, fun w hw => hts w (List.mem_cons_of_mem _ hw), hown, hml, B.notSynchronized, hK, hZ, hlo⟩ hz hP va_S.rf hl
/-- the world at a callee's start, or at the end -/
theorem mm_toB (C : mm_C G p s m args meth c own cc nL ret) (hM : mm_P G R N M H) (hS : va_S (mm_A G) s.heap H locs) {U : State} (hU : U.heap = H) (hW : s.WarmedH U.vm) : mm_B G (R, N, M) U := by
  obtain ⟨-, -, -, -, -, -, -, hK, hZ, hlo⟩ := C
  exact ⟨by rw [hU]; exact hM, hK.warm hW, by rw [hU]; exact hZ.go hW.alike hS.2.1, by rw [hU]; exact Nat.le_trans hlo hS.1⟩
abbrev mm_Qi (G : mm_G) (r0 : Int32) (w : mm_Ws) : Array Value → State → Outcome → State → Prop := va_Qi (fun (r : Int32) (u : Unit) => r = r0) (fun _ t => mm_B G w t) (mm_A G)
abbrev mm_Ql (G : mm_G) (r0 : Int64) (w : mm_Ws) : Array Value → State → Outcome → State → Prop := va_Ql (fun (r : Int64) (u : Unit) => r = r0) (fun _ t => mm_B G w t) (mm_A G)
abbrev mm_Qv (G : mm_G) (w : mm_Ws) : Array Value → State → Outcome → State → Prop := va_Qv (fun (u : Unit) => True) (fun _ t => mm_B G w t) (mm_A G)
abbrev mm_Qc (G : mm_G) (w : mm_Ws) : Array Value → State → Outcome → State → Prop := va_Qv (fun (u : Unit) => True) (fun _ t => mm_Bc G w t) (mm_A G)
abbrev mm_Qq (G : mm_G) (r0 : Option Nat) (w : mm_Ws) : Array Value → State → Outcome → State → Prop := va_Qq (fun (r : Option Nat) (u : Unit) => r = r0.map (fun a => mm_lo G + a)) (fun _ t => mm_B G w t) (mm_A G)
theorem mm_iret (C : mm_C G p s m args meth c own cc nL (some .int)) (hM : mm_P G R N M H) (hS : va_S (mm_A G) s.heap H locs) {v : Int32} (hdg : decode cc pc = .ok (.ireturn, 1)) : W p l e Rm s m args below meth c H locs cells slots (MQ below (mm_Qi G v (R, N, M)) args s cells slots (mm_A G)) (F0 m pc ls [.int v]) := by
  obtain ⟨hx, hb, hr, -, -, -, hlocks, -⟩ := id C
  exact W.iret (v := v) hx hb hr (fun t ht hW => ⟨⟨v, (), rfl, rfl, mm_toB C hM hS ht hW⟩, hS.F ht⟩) hS.2.2 hdg
theorem mm_zret (C : mm_C G p s m args meth c own cc nL (some .boolean)) (hM : mm_P G R N M H) (hS : va_S (mm_A G) s.heap H locs) {v : Bool} (hdg : decode cc pc = .ok (.ireturn, 1)) : W p l e Rm s m args below meth c H locs cells slots (MQ below (mm_Qi G (b2i v) (R, N, M)) args s cells slots (mm_A G)) (F0 m pc ls [.int (b2i v)]) := by
  obtain ⟨hx, hb, hr, -, -, -, hlocks, -⟩ := id C
  exact W.zret (v := b2i v) hx hb hr (b2i_n v) (fun t ht hW => ⟨⟨b2i v, (), rfl, rfl, mm_toB C hM hS ht hW⟩, hS.F ht⟩) hS.2.2 hdg
theorem mm_lret (C : mm_C G p s m args meth c own cc nL (some .long)) (hM : mm_P G R N M H) (hS : va_S (mm_A G) s.heap H locs) {v : Int64} (hdg : decode cc pc = .ok (.lreturn, 1)) : W p l e Rm s m args below meth c H locs cells slots (MQ below (mm_Ql G v (R, N, M)) args s cells slots (mm_A G)) (F0 m pc ls [.long v]) := by
  obtain ⟨hx, hb, hr, -, -, -, hlocks, -⟩ := id C
  exact W.lret (v := v) hx hb hr (fun t ht hW => ⟨⟨v, (), rfl, rfl, mm_toB C hM hS ht hW⟩, hS.F ht⟩) hS.2.2 hdg
theorem mm_vret (C : mm_C G p s m args meth c own cc nL none) (hM : mm_P G R N M H) (hS : va_S (mm_A G) s.heap H locs) (hdg : decode cc pc = .ok (.return_, 1)) : W p l e Rm s m args below meth c H locs cells slots (MQ below (mm_Qv G (R, N, M)) args s cells slots (mm_A G)) (F0 m pc ls []) := by
  obtain ⟨hx, hb, hr, -, -, -, hlocks, -⟩ := id C
  exact W.vret hx hb hr (fun t ht hW => ⟨⟨(), rfl, trivial, mm_toB C hM hS ht hW⟩, hS.F ht⟩) hS.2.2 hdg
theorem mm_cret (C : mm_C G p s m args meth c own cc nL none) (hz : H.size = mm_lo G + N) (hM : mm_P G R N M H) (hS : va_S (mm_A G) s.heap H locs) (hdg : decode cc pc = .ok (.return_, 1)) : W p l e Rm s m args below meth c H locs cells slots (MQ below (mm_Qc G (R, N, M)) args s cells slots (mm_A G)) (F0 m pc ls []) := by
  obtain ⟨hx, hb, hr, -, -, -, hlocks, -⟩ := id C
  exact W.vret hx hb hr (fun t ht hW => ⟨⟨(), rfl, trivial, by rw [ht]; exact hz, mm_toB C hM hS ht hW⟩, hS.F ht⟩) hS.2.2 hdg
theorem mm_aret (C : mm_C G p s m args meth c own cc nL (some (.object "CartPitches$Cart"))) (hM : mm_P G R N M H) (hS : va_S (mm_A G) s.heap H locs) {v : Option Nat} {w : Value} (hw : w = mm_q G v) (hdg : decode cc pc = .ok (.areturn, 1)) : W p l e Rm s m args below meth c H locs cells slots (MQ below (mm_Qq G v (R, N, M)) args s cells slots (mm_A G)) (F0 m pc ls [w]) := by
  obtain ⟨hx, hb, hr, -, -, -, hlocks, -⟩ := id C
  subst hw
  exact W.aret (v := mm_q G v) hx hb hr (Or.inl ⟨_, rfl⟩) (va_rf_or _) (fun t ht hW => ⟨⟨v.map (fun a => mm_lo G + a), (), rfl, rfl, mm_toB C hM hS ht hW⟩, hS.F ht⟩) hS.2.2 hdg
theorem mm_recv (C : mm_C G p s m args meth c own cc nL ret) (hM : mm_P G R N M H) (ho : o < N) {ci : Nat} {q : vw_C} {fs : List Value} (hc : vwCl[ci]? = some q) (he : mm_en G R M o = .inr (ci, fs)) : ∃ cell : Cell, H[mm_lo G + o]? = some cell ∧ cell.vm.isStatics = false ∧ s.vm.findClass q.1 = some cell.cls := by
  obtain ⟨-, -, -, -, -, -, -, hK, -⟩ := C
  exact va_recv (q0 := o) hK.1 hM hc (by rw [mm_Wg ho, he])
variable {y : MethodName} {bytes : ByteArray} {maxL n index : Nat} {rety : Option FieldType} {rm : Room} {Cn : String} {As : List Value} {w1 : mm_Ws} {st : List Value}
/-- what a call of an instance's method needs -/
def mm_V (Rm rm : Room) (own Cn : String) (index : Nat) (y : MethodName) (bytes : ByteArray) (maxL : Nat) (rety : Option FieldType) (n : Nat) : Prop :=
  GoodIn mm_good (wsV own index Cn y (mm_ws y bytes maxL rety)) ∧ rm.cells = 0 ∧ rm.slots = 0 ∧ (y.cls = Cn ∧ y.cls ≠ "java/lang/invoke/MethodHandle" ∧ y.cls ≠ "java/lang/invoke/VarHandle" ∧ (parseMethodDescriptor y.desc).map (fun d => d.parameters.length) = some n) ∧ rm.frames + 1 ≤ Rm.frames ∧ 8 + (maxL + 11) + rm.locals ≤ Rm.locals
def mm_Sc (Rm rm : Room) (own : String) (index : Nat) (y : MethodName) (bytes : ByteArray) (maxL : Nat) (rety : Option FieldType) (n : Nat) : Prop :=
  GoodIn mm_good (va_wsS own index y (mm_ws y bytes maxL rety)) ∧ rm.cells = 0 ∧ rm.slots = 0 ∧ (y.cls ≠ "java/lang/invoke/MethodHandle" ∧ y.cls ≠ "java/lang/invoke/VarHandle" ∧ (parseMethodDescriptor y.desc).map (fun d => d.parameters.length) = some n) ∧ rm.frames + 1 ≤ Rm.frames ∧ 8 + (maxL + 11) + rm.locals ≤ Rm.locals
theorem mm_runV {Qc : Array Value → State → Outcome → State → Prop} (C : mm_C G p s m args meth c own cc nL ret) (hM : mm_P G R N M H) (hS : va_S (mm_A G) s.heap H locs) (hcal : Met l y (mm_ws y bytes maxL rety) rm (va_Pc (.ref (mm_lo G + o) :: As) (mm_B G (R, N, M))) Qc 0 0 (mm_A G)) (hv : mm_V Rm rm own Cn index y bytes maxL rety n) (hrec : ∃ cell : Cell, H[mm_lo G + o]? = some cell ∧ cell.vm.isStatics = false ∧ s.vm.findClass Cn = some cell.cls)
    (hl : ls.size = nL) (hn : As.length = n) (hst : st = As.reverse ++ .ref (mm_lo G + o) :: rest) (hroom : (rest.map fun v => v.category).sum ≤ 8) (hf : cells ≤ Rm.cells ∧ slots ≤ Rm.slots) (hdg : decode cc pc = .ok (.invokevirtual index, 3)) :
    va_Run p l e Rm s m args below meth c H locs cells slots 0 0 (F0 m pc ls st) rest (Qc (Value.ref (mm_lo G + o) :: As).toArray) (mm_A G) := by
  obtain ⟨hx, hb, -, hts, hown, hml, -, -, -⟩ := id C
  obtain ⟨h1, h2, h3, h4, h5⟩ := hv
  exact va_runV (As := As) (rest := rest) ⟨hx, hb, hml, hown, hts⟩ hcal (cwV n hts h1 rfl h2 h3 h4 h5) ⟨mm_blind, hrec, fun U hU hW => ⟨rfl, mm_toB C hM hS hU hW⟩⟩ rfl hn hl hst (lv_room hroom) hdg ⟨hf.1, hf.2⟩
theorem mm_runS {Qc : Array Value → State → Outcome → State → Prop} (C : mm_C G p s m args meth c own cc nL ret) (hM : mm_P G R N M H) (hS : va_S (mm_A G) s.heap H locs) (hcal : Met l y (mm_ws y bytes maxL rety) rm (va_Pc As (mm_B G (R, N, M))) Qc 0 0 (mm_A G)) (hv : mm_Sc Rm rm own index y bytes maxL rety n)
    (hl : ls.size = nL) (hn : As.length = n) (hst : st = As.reverse ++ rest) (hroom : (rest.map fun v => v.category).sum ≤ 8) (hf : cells ≤ Rm.cells ∧ slots ≤ Rm.slots) (hdg : decode cc pc = .ok (.invokestatic index, 3)) :
    va_Run p l e Rm s m args below meth c H locs cells slots 0 0 (F0 m pc ls st) rest (Qc As.toArray) (mm_A G) := by
  obtain ⟨hx, hb, -, hts, hown, hml, -, -, -⟩ := id C
  obtain ⟨h1, h2, h3, h4, h5⟩ := hv
  exact va_runS (As := As) (rest := rest) ⟨hx, hb, hml, hown, hts⟩ hcal (va_cwS n hts h1 rfl h2 h3 h4 h5) ⟨mm_blind, fun U hU hW => ⟨rfl, mm_toB C hM hS hU hW⟩⟩ rfl hn hl hst (lv_room hroom) hdg ⟨hf.1, hf.2⟩
theorem mm_ki {r0 : Int32} {a : Array Value} (hS : va_S (mm_A G) s.heap H locs) (hr : va_Run p l e Rm s m args below meth c H locs cells slots 0 0 (F0 m pc ls st) rest (mm_Qi G r0 w1 a) (mm_A G))
    (kk : ∀ (H1 : Heap) (locs1 : List Loc), mm_P G w1.1 w1.2.1 w1.2.2 H1 → va_S (mm_A G) s.heap H1 locs1 → W p l e Rm s m args below meth c H1 locs1 cells slots Q (F0 m (pc + 3) ls (.int r0 :: rest))) : W p l e Rm s m args below meth c H locs cells slots Q (F0 m pc ls st) :=
  va_calli hr hS (fun _ _ h => h) (fun _ h => h) (fun r u t H1 locs1 ht _ hw hB _ _ hS1 => by subst hw; subst ht; exact kk _ locs1 hB.1 hS1)
theorem mm_kl {r0 : Int64} {a : Array Value} (hS : va_S (mm_A G) s.heap H locs) (hr : va_Run p l e Rm s m args below meth c H locs cells slots 0 0 (F0 m pc ls st) rest (mm_Ql G r0 w1 a) (mm_A G))
    (kk : ∀ (H1 : Heap) (locs1 : List Loc), mm_P G w1.1 w1.2.1 w1.2.2 H1 → va_S (mm_A G) s.heap H1 locs1 → W p l e Rm s m args below meth c H1 locs1 cells slots Q (F0 m (pc + 3) ls (.long r0 :: rest))) : W p l e Rm s m args below meth c H locs cells slots Q (F0 m pc ls st) :=
  va_calll hr hS (fun _ _ h => h) (fun _ h => h) (fun r u t H1 locs1 ht _ hw hB _ _ hS1 => by subst hw; subst ht; exact kk _ locs1 hB.1 hS1)
theorem mm_kv {a : Array Value} (hS : va_S (mm_A G) s.heap H locs) (hr : va_Run p l e Rm s m args below meth c H locs cells slots 0 0 (F0 m pc ls st) rest (mm_Qv G w1 a) (mm_A G))
    (kk : ∀ (H1 : Heap) (locs1 : List Loc), mm_P G w1.1 w1.2.1 w1.2.2 H1 → va_S (mm_A G) s.heap H1 locs1 → W p l e Rm s m args below meth c H1 locs1 cells slots Q (F0 m (pc + 3) ls rest)) : W p l e Rm s m args below meth c H locs cells slots Q (F0 m pc ls st) :=
  va_callv hr hS (fun _ _ h => h) (fun _ h => h) (fun u t H1 locs1 ht _ _ hB _ _ hS1 => by subst ht; exact kk _ locs1 hB.1 hS1)
theorem mm_kq {r0 : Option Nat} {a : Array Value} (hS : va_S (mm_A G) s.heap H locs) (hr : va_Run p l e Rm s m args below meth c H locs cells slots 0 0 (F0 m pc ls st) rest (mm_Qq G r0 w1 a) (mm_A G))
    (kk : ∀ (H1 : Heap) (locs1 : List Loc), mm_P G w1.1 w1.2.1 w1.2.2 H1 → va_S (mm_A G) s.heap H1 locs1 → W p l e Rm s m args below meth c H1 locs1 cells slots Q (F0 m (pc + 3) ls (mm_q G r0 :: rest))) : W p l e Rm s m args below meth c H locs cells slots Q (F0 m pc ls st) :=
  va_callq hr hS (fun _ _ h => h) (fun _ h => h) (fun r u t H1 locs1 ht _ hw hB _ _ hS1 => by subst hw; subst ht; exact kk _ locs1 hB.1 hS1)
/-- the three static arrays -/
theorem mm_gst (C : mm_C G p s m args meth c own cc nL ret) (hS : va_S (mm_A G) s.heap H locs) {nm : String} {t index : Nat} {f : Nat → Int32} (hZ : mm_Z1 G nm t f s s.heap) (hlink : Cond.fieldLink own index "CartPitches" nm "[I" ∈ mm_good ∨ Cond.fieldLinkNest own index "CartPitches" nm "[I" "CartPitches" ∈ lw_tbl) (hdg : decode cc pc = .ok (.getstatic index, 3))
    (kk : W p l e Rm s m args below meth c H locs cells slots Q (F0 m (pc + 3) ls (.ref t :: rest))) : W p l e Rm s m args below meth c H locs cells slots Q (F0 m pc ls rest) := by
  obtain ⟨hx, hb, -, hts, hown, -, -, hK, -⟩ := C
  rcases hlink with hlink | hlink
  · exact va_gets (v := .ref t) hx hb hZ.1 hS hown (hts _ hlink) (fun _ h => h) hdg kk
  · exact va_getsN (v := .ref t) hx hb hZ.1 hS hown (va_Nw.use rfl (hK.2.1 _ _ _ _ _ _ hlink)) (fun _ h => h) hdg kk
theorem mm_tld (C : mm_C G p s m args meth c own cc nL ret) (hS : va_S (mm_A G) s.heap H locs) {nm : String} {t : Nat} {f : Nat → Int32} (hZ : mm_Z1 G nm t f s s.heap) {i : Int32} (hin : vp_in i 10) (hdg : decode cc pc = .ok (.iaload, 1))
    (kk : W p l e Rm s m args below meth c H locs cells slots Q (F0 m (pc + 1) ls (.int (f i.toNatClampNeg) :: rest))) : W p l e Rm s m args below meth c H locs cells slots Q (F0 m pc ls (.int i :: .ref t :: rest)) := by
  obtain ⟨hx, hb, -, hts, hown, -, -, hK, -⟩ := C
  exact va_ti hx hb hZ.2 hS hin rfl hdg kk
theorem mm_min (C : mm_C G p s m args meth c own cc nL ret) {index : Nat} (hl : ls.size = nL) (hlink : Cond.methodLink own index Lib.Math.min.name ∈ mm_good) (hstat : Cond.static Lib.Math.min.name ∈ mm_good) (hini : Cond.initialized "java/lang/Math" ∈ mm_good) (hcode : Cond.code Lib.Math.min.name Lib.Math.min.code 2 (some .int) ∈ mm_good) (hfr : 1 ≤ Rm.frames) (hlo : (rest.map fun v => v.category).sum + 13 ≤ Rm.locals) (hf : cells ≤ Rm.cells ∧ slots ≤ Rm.slots) {x y : Int32} (hdg : decode cc pc = .ok (.invokestatic index, 3))
    (kk : W p l e Rm s m args below meth c H locs cells slots Q (F0 m (pc + 3) ls (.int (if y < x then y else x) :: rest))) : W p l e Rm s m args below meth c H locs cells slots Q (F0 m pc ls (.int y :: .int x :: rest)) := by
  obtain ⟨hx, hb, -, hts, hown, hml, -, hK, -⟩ := C
  exact va_mmin hx hb (by rw [hml, hl]) hown (hts _ hlink) (hts _ hstat) (hts _ hini) (hts _ hcode) hfr hlo hf.1 hf.2 hdg kk
theorem mm_ldc (C : mm_C G p s m args meth c own cc nL ret) {index : Nat} {v : Int32} (hc : Cond.constant own index v ∈ mm_good) (hdg : decode cc pc = .ok (.ldc index, 2)) (kk : W p l e Rm s m args below meth c H locs cells slots Q (F0 m (pc + 2) ls (.int v :: rest))) : W p l e Rm s m args below meth c H locs cells slots Q (F0 m pc ls rest) := by
  obtain ⟨hx, hb, -, hts, hown, -⟩ := C
  exact lv_ldc hx hb hown (hts _ hc) hdg kk
theorem mm_ldc2 (C : mm_C G p s m args meth c own cc nL ret) {index : Nat} {v : Int64} (hc : Cond.constantLong own index v ∈ mm_good) (hdg : decode cc pc = .ok (.ldc2_w index, 3)) (kk : W p l e Rm s m args below meth c H locs cells slots Q (F0 m (pc + 3) ls (.long v :: rest))) : W p l e Rm s m args below meth c H locs cells slots Q (F0 m pc ls rest) := by
  obtain ⟨hx, hb, -, hts, hown, -⟩ := C
  exact lv_ldc2 hx hb hown (hts _ hc) hdg kk
theorem mm_ifeqZ (C : mm_C G p s m args meth c own cc nL ret) {b : Bool} {off : Int} {tgt : Nat} (hdg : decode cc pc = .ok (.ifCond .eq off, 3)) (ht : (pc : Int) + off = (tgt : Int)) (kt : ¬ b = true → W p l e Rm s m args below meth c H locs cells slots Q (F0 m tgt ls rest)) (kf : b = true → W p l e Rm s m args below meth c H locs cells slots Q (F0 m (pc + 3) ls rest)) : W p l e Rm s m args below meth c H locs cells slots Q (F0 m pc ls (.int (b2i b) :: rest)) := by
  obtain ⟨hx, hb, -⟩ := C
  refine lv_if_eq hx hb hdg ht (fun q => kt ?_) (fun q => kf ?_)
  · intro h; subst h; cases q
  · cases b
    · exact absurd rfl q
    · rfl
theorem mm_ifneZ (C : mm_C G p s m args meth c own cc nL ret) {b : Bool} {off : Int} {tgt : Nat} (hdg : decode cc pc = .ok (.ifCond .ne off, 3)) (ht : (pc : Int) + off = (tgt : Int)) (kt : b = true → W p l e Rm s m args below meth c H locs cells slots Q (F0 m tgt ls rest)) (kf : ¬ b = true → W p l e Rm s m args below meth c H locs cells slots Q (F0 m (pc + 3) ls rest)) : W p l e Rm s m args below meth c H locs cells slots Q (F0 m pc ls (.int (b2i b) :: rest)) := by
  obtain ⟨hx, hb, -⟩ := C
  refine lv_if_ne hx hb hdg ht (fun q => kt ?_) (fun q => kf ?_)
  · cases b
    · exact absurd rfl q
    · rfl
  · intro h; subst h; cases q
end MMC
end
section
/-! MY OWN KIT, third part: places, guards, rows by place -/
def FU : Nat := 1000000
def om {α β : Type} (x : Option α) (a : Option β) (k : α → Option β) : Option β := match x with
  | none => a
  | some b => k b
theorem om_n {α β : Type} {a : Option β} {k : α → Option β} {r : Option β} (h : om none a k = r) : a = r := h
theorem om_s {α β : Type} {b : α} {a : Option β} {k : α → Option β} {r : Option β} (h : om (some b) a k = r) : k b = r := h
def bn2 {α β γ : Type} (x : Option (α × β)) (k : α → β → Option γ) : Option γ := match x with
  | none => none
  | some q => k q.1 q.2
theorem bn2_of {α β γ : Type} {x : Option (α × β)} {k : α → β → Option γ} {r : γ} (h : bn2 x k = some r) : ∃ a b, x = some (a, b) ∧ k a b = some r := by
  cases x with
  | none => cases h
  | some q => exact ⟨q.1, q.2, rfl, h⟩
theorem nb01 {v : Int32} (h : v = 0 ∨ v = 1) : narrow .boolean (.int v) = .int v := by
  rcases h with rfl | rfl <;> rfl
theorem fb01 {v : Int32} (h : v = 0 ∨ v = 1) : fits .boolean (.int v) = true := by
  rcases h with rfl | rfl <;> rfl
theorem b2i_01 (b : Bool) : b2i b = 0 ∨ b2i b = 1 := by cases b <;> simp [b2i]
theorem vp_lt {i : Int32} {n : Nat} (h : ¬ (i < 0 ∨ n ≤ i.toNatClampNeg)) : i.toNatClampNeg < n := Nat.not_le.mp (fun q => h (Or.inr q))
theorem kT_big {o : Nat} (h : 740 ≤ o) : kT o = (99, 0) := by
  unfold kT
  repeat rw [if_neg (by omega)]
theorem kl {o k n : Nat} (h : kT o = (k, n)) (hk : k < 13 := by decide) : o < 740 := by
  rcases Nat.lt_or_ge o 740 with q | q
  · exact q
  · rw [kT_big q] at h
    have := congrArg Prod.fst h
    dsimp at this
    omega
set_option maxRecDepth 100000 in
theorem kS_a : ∀ o, o < 740 → kT o = (4, 0) → kT (o + 1) = (8, 10) ∧ kT (o + 2) = (11, 10) ∧ kT (o + 3) = (10, 16) ∧ kT (o + 4) = (8, 8) ∧ kT (o + 5) = (8, 8) ∧ kT (o + 6) = (8, 16) ∧ kT (o + 7) = (8, 16) := by decide +kernel
set_option maxRecDepth 100000 in
theorem kS_b : ∀ o, o < 740 → kT o = (4, 0) → kR o 7 = some (o + 1) ∧ kR o 8 = some (o + 2) ∧ kR o 9 = some (o + 3) ∧ kR o 10 = some (o + 4) ∧ kR o 11 = some (o + 5) ∧ kR o 12 = some (o + 6) ∧ kR o 13 = some (o + 7) := by decide +kernel
set_option maxRecDepth 100000 in
theorem kS_c : ∀ o, o < 740 → kT o = (4, 0) → ∀ j, j < 16 → kT (o + 18 + 3 * j) = (0, 0) ∧ kR (o + 3) j = some (o + 18 + 3 * j) := by decide +kernel
set_option maxRecDepth 100000 in
theorem kS_d : ∀ o, o < 740 → kT o = (4, 0) → ∀ j, j < 10 → kT (o + 8 + j) = (3, 0) ∧ kR (o + 2) j = some (o + 8 + j) := by decide +kernel
theorem kS_all (o : Nat) (ho : o < 740) (h : kT o = (4, 0)) : (kT (o + 1) = (8, 10) ∧ kT (o + 2) = (11, 10) ∧ kT (o + 3) = (10, 16) ∧ kT (o + 4) = (8, 8) ∧ kT (o + 5) = (8, 8) ∧ kT (o + 6) = (8, 16) ∧ kT (o + 7) = (8, 16)) ∧ (kR o 7 = some (o + 1) ∧ kR o 8 = some (o + 2) ∧ kR o 9 = some (o + 3) ∧ kR o 10 = some (o + 4) ∧ kR o 11 = some (o + 5) ∧ kR o 12 = some (o + 6) ∧ kR o 13 = some (o + 7)) ∧ (∀ j, j < 16 → kT (o + 18 + 3 * j) = (0, 0) ∧ kR (o + 3) j = some (o + 18 + 3 * j)) ∧ (∀ j, j < 10 → kT (o + 8 + j) = (3, 0) ∧ kR (o + 2) j = some (o + 8 + j)) := ⟨kS_a o ho h, kS_b o ho h, kS_c o ho h, kS_d o ho h⟩
set_option maxRecDepth 100000 in
theorem kC_all : ∀ o, o < 740 → kT o = (0, 0) → kT (o + 1) = (8, 3) ∧ kT (o + 2) = (8, 200) ∧ kR o 16 = some (o + 1) ∧ kR o 17 = some (o + 2) := by decide +kernel
set_option maxRecDepth 100000 in
theorem kD_all : ∀ o, o < 740 → kT o = (2, 0) → kT (o + 1) = (7, 80) ∧ kR o 0 = some (o + 1) := by decide +kernel
set_option maxRecDepth 100000 in
theorem kH_all : ∀ o, o < 740 → kT o = (1, 0) → kT (o + 1) = (12, 7) ∧ kR o 0 = some (o + 1) ∧ o = 133 := by decide +kernel
theorem kH_rows : ∀ j, j < 7 → kT (135 + 66 * j) = (4, 0) ∧ kR 134 j = some (135 + 66 * j) := by decide +kernel
theorem kS_7 {o : Nat} (h : kT o = (4, 0)) : kT (o + 1) = (8, 10) := (kS_all o (kl h) h).1.1
theorem kS_8 {o : Nat} (h : kT o = (4, 0)) : kT (o + 2) = (11, 10) := (kS_all o (kl h) h).1.2.1
theorem kS_9 {o : Nat} (h : kT o = (4, 0)) : kT (o + 3) = (10, 16) := (kS_all o (kl h) h).1.2.2.1
theorem kS_10 {o : Nat} (h : kT o = (4, 0)) : kT (o + 4) = (8, 8) := (kS_all o (kl h) h).1.2.2.2.1
theorem kS_11 {o : Nat} (h : kT o = (4, 0)) : kT (o + 5) = (8, 8) := (kS_all o (kl h) h).1.2.2.2.2.1
theorem kS_12 {o : Nat} (h : kT o = (4, 0)) : kT (o + 6) = (8, 16) := (kS_all o (kl h) h).1.2.2.2.2.2.1
theorem kS_13 {o : Nat} (h : kT o = (4, 0)) : kT (o + 7) = (8, 16) := (kS_all o (kl h) h).1.2.2.2.2.2.2
theorem rS_7 {o : Nat} (h : kT o = (4, 0)) : kR o 7 = some (o + 1) := (kS_all o (kl h) h).2.1.1
theorem rS_8 {o : Nat} (h : kT o = (4, 0)) : kR o 8 = some (o + 2) := (kS_all o (kl h) h).2.1.2.1
theorem rS_9 {o : Nat} (h : kT o = (4, 0)) : kR o 9 = some (o + 3) := (kS_all o (kl h) h).2.1.2.2.1
theorem rS_10 {o : Nat} (h : kT o = (4, 0)) : kR o 10 = some (o + 4) := (kS_all o (kl h) h).2.1.2.2.2.1
theorem rS_11 {o : Nat} (h : kT o = (4, 0)) : kR o 11 = some (o + 5) := (kS_all o (kl h) h).2.1.2.2.2.2.1
theorem rS_12 {o : Nat} (h : kT o = (4, 0)) : kR o 12 = some (o + 6) := (kS_all o (kl h) h).2.1.2.2.2.2.2.1
theorem rS_13 {o : Nat} (h : kT o = (4, 0)) : kR o 13 = some (o + 7) := (kS_all o (kl h) h).2.1.2.2.2.2.2.2
theorem kS_cart {o j : Nat} (h : kT o = (4, 0)) (hj : j < 16) : kT (o + 18 + 3 * j) = (0, 0) := ((kS_all o (kl h) h).2.2.1 j hj).1
theorem rS_cart {o j : Nat} (h : kT o = (4, 0)) (hj : j < 16) : kR (o + 3) j = some (o + 18 + 3 * j) := ((kS_all o (kl h) h).2.2.1 j hj).2
theorem kS_pitch {o j : Nat} (h : kT o = (4, 0)) (hj : j < 10) : kT (o + 8 + j) = (3, 0) := ((kS_all o (kl h) h).2.2.2 j hj).1
theorem rS_pitch {o j : Nat} (h : kT o = (4, 0)) (hj : j < 10) : kR (o + 2) j = some (o + 8 + j) := ((kS_all o (kl h) h).2.2.2 j hj).2
theorem kC_16 {o : Nat} (h : kT o = (0, 0)) : kT (o + 1) = (8, 3) := (kC_all o (kl h) h).1
theorem kC_17 {o : Nat} (h : kT o = (0, 0)) : kT (o + 2) = (8, 200) := (kC_all o (kl h) h).2.1
theorem rC_16 {o : Nat} (h : kT o = (0, 0)) : kR o 16 = some (o + 1) := (kC_all o (kl h) h).2.2.1
theorem rC_17 {o : Nat} (h : kT o = (0, 0)) : kR o 17 = some (o + 2) := (kC_all o (kl h) h).2.2.2
theorem kD_0 {o : Nat} (h : kT o = (2, 0)) : kT (o + 1) = (7, 80) := (kD_all o (kl h) h).1
theorem rD_0 {o : Nat} (h : kT o = (2, 0)) : kR o 0 = some (o + 1) := (kD_all o (kl h) h).2
theorem kH_0 {o : Nat} (h : kT o = (1, 0)) : kT (o + 1) = (12, 7) := (kH_all o (kl h) h).1
theorem rH_0 {o : Nat} (h : kT o = (1, 0)) : kR o 0 = some (o + 1) := (kH_all o (kl h) h).2.1
theorem kH_row {j : Nat} (hj : j < 7) : kT (135 + 66 * j) = (4, 0) := (kH_rows j hj).1
theorem rH_row {o j : Nat} (h : kT o = (1, 0)) (hj : j < 7) : kR (o + 1) j = some (135 + 66 * j) := by
  have e := (kH_all o (kl h) h).2.2
  subst e
  exact (kH_rows j hj).2
section MMK
variable {p : Program} {l : Launch} {e : Env} {Rm : Room} {s : State} {m : MethodId} {args : Array Value} {below : List Frame} {meth : Method} {c : Code} {H : Heap} {locs : List Loc} {cells slots : Nat} {Q : State → Prop}
variable {cc : ByteArray} {pc : Nat} {ls : Array Slot} {rest : List Value} {G : mm_G} {own : String} {nL : Nat} {ret : Option FieldType} {R : mm_R} {N : Nat} {M : mm_M} {o : Nat}
theorem mm_aldo_n (hx : p.tables.exec = Jvm.exec) (hb : c.code = cc) {k : Fin 4} {i : Nat} {r : Option Nat} (hdg : decode cc pc = .ok (.aload_n k, 1)) (hi : (k : Nat) = i) (hl : ls[i]? = some (.val (mm_q G r))) (kk : W p l e Rm s m args below meth c H locs cells slots Q (F0 m (pc + 1) ls (mm_q G r :: rest))) : W p l e Rm s m args below meth c H locs cells slots Q (F0 m pc ls rest) := by
  cases r with
  | none => exact lv_aload_nN hx hb hdg hi hl kk
  | some b => exact lv_aload_n hx hb hdg hi hl kk
theorem mm_aldo (hx : p.tables.exec = Jvm.exec) (hb : c.code = cc) {i : Nat} {r : Option Nat} (hdg : decode cc pc = .ok (.aload i, 2)) (hl : ls[i]? = some (.val (mm_q G r))) (kk : W p l e Rm s m args below meth c H locs cells slots Q (F0 m (pc + 2) ls (mm_q G r :: rest))) : W p l e Rm s m args below meth c H locs cells slots Q (F0 m pc ls rest) := by
  cases r with
  | none => exact lv_aloadN hx hb hdg hl kk
  | some b => exact lv_aload hx hb hdg hl kk
theorem mm_asto_n (hx : p.tables.exec = Jvm.exec) (hb : c.code = cc) {k : Fin 4} {i : Nat} {r : Option Nat} {lv lv' : List (Nat × Value)} (hdg : decode cc pc = .ok (.astore_n k, 1)) (hi : (k : Nat) = i) (h : lv_has ls nL lv) (hn : i < nL) (hl : (i, mm_q G r) :: lv.filter (fun q => !(q.1 == i) && !(q.1 + 1 == i && q.2.category == 2)) = lv') (kk : ∀ ls' : Array Slot, lv_has ls' nL lv' → W p l e Rm s m args below meth c H locs cells slots Q (F0 m (pc + 1) ls' rest)) : W p l e Rm s m args below meth c H locs cells slots Q (F0 m pc ls (mm_q G r :: rest)) := by
  cases r with
  | none => exact lv_astore_nN hx hb hdg hi h hn hl kk
  | some b => exact lv_astore_n hx hb hdg hi h hn hl kk
theorem mm_asto (hx : p.tables.exec = Jvm.exec) (hb : c.code = cc) {i : Nat} {r : Option Nat} {lv lv' : List (Nat × Value)} (hdg : decode cc pc = .ok (.astore i, 2)) (h : lv_has ls nL lv) (hn : i < nL) (hl : (i, mm_q G r) :: lv.filter (fun q => !(q.1 == i) && !(q.1 + 1 == i && q.2.category == 2)) = lv') (kk : ∀ ls' : Array Slot, lv_has ls' nL lv' → W p l e Rm s m args below meth c H locs cells slots Q (F0 m (pc + 2) ls' rest)) : W p l e Rm s m args below meth c H locs cells slots Q (F0 m pc ls (mm_q G r :: rest)) := by
  cases r with
  | none => exact lv_astoreN hx hb hdg h hn hl kk
  | some b => exact lv_astore hx hb hdg h hn hl kk
theorem mm_ildk (C : mm_C G p s m args meth c own cc nL ret) (hM : mm_P G R N M H) (ho : o < N) {n : Nat} (hT : kT o = (8, n)) {i : Int32} {k : Nat} (hin : vp_in i n) (hk : i.toNatClampNeg = k) (hdg : decode cc pc = .ok (.iaload, 1))
    (kk : W p l e Rm s m args below meth c H locs cells slots Q (F0 m (pc + 1) ls (.int (M.1 o k) :: rest))) : W p l e Rm s m args below meth c H locs cells slots Q (F0 m pc ls (.int i :: .ref (mm_lo G + o) :: rest)) := by subst hk; exact mm_ild C hM ho hT hin hdg kk
theorem mm_cldk (C : mm_C G p s m args meth c own cc nL ret) (hM : mm_P G R N M H) (ho : o < N) {n : Nat} (hT : kT o = (7, n)) {i : Int32} {k : Nat} (hin : vp_in i n) (hk : i.toNatClampNeg = k) (hdg : decode cc pc = .ok (.caload, 1))
    (kk : W p l e Rm s m args below meth c H locs cells slots Q (F0 m (pc + 1) ls (.int (M.1 o k) :: rest))) : W p l e Rm s m args below meth c H locs cells slots Q (F0 m pc ls (.int i :: .ref (mm_lo G + o) :: rest)) := by subst hk; exact mm_cld C hM ho hT hin hdg kk
theorem mm_zldk (C : mm_C G p s m args meth c own cc nL ret) (hM : mm_P G R N M H) (ho : o < N) {n : Nat} (hT : kT o = (9, n)) {i : Int32} {k : Nat} (hin : vp_in i n) (hk : i.toNatClampNeg = k) (hdg : decode cc pc = .ok (.baload, 1))
    (kk : W p l e Rm s m args below meth c H locs cells slots Q (F0 m (pc + 1) ls (.int (M.1 o k) :: rest))) : W p l e Rm s m args below meth c H locs cells slots Q (F0 m pc ls (.int i :: .ref (mm_lo G + o) :: rest)) := by subst hk; exact mm_zld C hM ho hT hin hdg kk
theorem mm_istk (C : mm_C G p s m args meth c own cc nL ret) (hM : mm_P G R N M H) (hS : va_S (mm_A G) s.heap H locs) (ho : o < N) {n : Nat} (hT : kT o = (8, n)) {i x : Int32} {k : Nat} (hin : vp_in i n) (hk : i.toNatClampNeg = k) (hdg : decode cc pc = .ok (.iastore, 1))
    (kk : ∀ (H1 : Heap) (locs1 : List Loc), mm_P G R N (sI M o k x) H1 → va_S (mm_A G) s.heap H1 locs1 → H1.size = H.size → W p l e Rm s m args below meth c H1 locs1 cells slots Q (F0 m (pc + 1) ls rest)) : W p l e Rm s m args below meth c H locs cells slots Q (F0 m pc ls (.int x :: .int i :: .ref (mm_lo G + o) :: rest)) := by subst hk; exact mm_ist C hM hS ho hT hin hdg kk
theorem mm_cstk (C : mm_C G p s m args meth c own cc nL ret) (hM : mm_P G R N M H) (hS : va_S (mm_A G) s.heap H locs) (ho : o < N) {n : Nat} (hT : kT o = (7, n)) {i x : Int32} {k : Nat} (hin : vp_in i n) (hk : i.toNatClampNeg = k) (hnx : narrow .char (.int x) = .int x) (hdg : decode cc pc = .ok (.castore, 1))
    (kk : ∀ (H1 : Heap) (locs1 : List Loc), mm_P G R N (sI M o k x) H1 → va_S (mm_A G) s.heap H1 locs1 → H1.size = H.size → W p l e Rm s m args below meth c H1 locs1 cells slots Q (F0 m (pc + 1) ls rest)) : W p l e Rm s m args below meth c H locs cells slots Q (F0 m pc ls (.int x :: .int i :: .ref (mm_lo G + o) :: rest)) := by subst hk; exact mm_cst C hM hS ho hT hin hnx hdg kk
theorem mm_zstk (C : mm_C G p s m args meth c own cc nL ret) (hM : mm_P G R N M H) (hS : va_S (mm_A G) s.heap H locs) (ho : o < N) {n : Nat} (hT : kT o = (9, n)) {i x : Int32} {k : Nat} (hin : vp_in i n) (hk : i.toNatClampNeg = k) (hnx : narrow .boolean (.int x) = .int x) (hdg : decode cc pc = .ok (.bastore, 1))
    (kk : ∀ (H1 : Heap) (locs1 : List Loc), mm_P G R N (sI M o k x) H1 → va_S (mm_A G) s.heap H1 locs1 → H1.size = H.size → W p l e Rm s m args below meth c H1 locs1 cells slots Q (F0 m (pc + 1) ls rest)) : W p l e Rm s m args below meth c H locs cells slots Q (F0 m pc ls (.int x :: .int i :: .ref (mm_lo G + o) :: rest)) := by subst hk; exact mm_zst C hM hS ho hT hin hnx hdg kk
end MMK
end
section
/-! MY OWN KIT, fourth part: makers -/
def zR (R : mm_R) (o : Nat) : mm_R := fun o' k' => if o' = o then none else R o' k'
def zM (M : mm_M) (o : Nat) : mm_M := (fun o' k' => if o' = o then 0 else M.1 o' k', fun o' k' => if o' = o then 0 else M.2 o' k')
theorem zR_at (R : mm_R) (o : Nat) : zR R o o = fun _ => none := by funext k; simp [zR]
theorem zM_at1 (M : mm_M) (o : Nat) : (zM M o).1 o = fun _ => 0 := by funext k; simp [zM]
theorem zM_at2 (M : mm_M) (o : Nat) : (zM M o).2 o = fun _ => 0 := by funext k; simp [zM]
theorem mm_en_z {G : mm_G} {R : mm_R} {M : mm_M} {o : Nat} : ∀ o', o' ≠ o → mm_en G (zR R o) (zM M o) o' = mm_en G R M o' := by
  intro o' h
  have e1 : (zM M o).1 o' = M.1 o' := by funext j; simp [zM, h]
  have e2 : (zM M o).2 o' = M.2 o' := by funext j; simp [zM, h]
  have e3 : zR R o o' = R o' := by funext j; simp [zR, h]
  unfold mm_en
  rw [e1, e2, e3]
/-- one cell comes -/
theorem mm_push {G : mm_G} {R : mm_R} {N : Nat} {M : mm_M} {H H1 : Heap} (hM : mm_P G R N M H) (hz : H.size = mm_lo G + N) (o1 : ∀ q : Nat, q < H.size → H1[q]? = H[q]?) (he : va_at G.1 vwCl (mm_lo G + N, mm_e G (fun _ => 0) (fun _ => 0) (fun _ => none) (kT N)) H1) : mm_P G (zR R N) (N + 1) (zM M N) H1 := by
  intro k q hk
  obtain ⟨hkN, e⟩ := mm_Wi hk
  subst e
  by_cases h : k = N
  · subst h
    unfold mm_en
    rw [zM_at1, zM_at2, zR_at]
    exact he
  · rw [mm_en_z k h]
    exact (hM k _ (mm_Wg (by omega))).kept (o1 _ (by rw [hz]; show mm_lo G + k < _; omega))
section MMM
variable {p : Program} {l : Launch} {e : Env} {Rm : Room} {s : State} {m : MethodId} {args : Array Value} {below : List Frame} {meth : Method} {c : Code} {H : Heap} {locs : List Loc} {cells slots : Nat} {Q : State → Prop}
variable {cc : ByteArray} {pc : Nat} {ls : Array Slot} {rest : List Value} {G : mm_G} {own : String} {nL : Nat} {ret : Option FieldType} {R : mm_R} {N : Nat} {M : mm_M} {o : Nat}
theorem mm_S1 (hS : va_S (mm_A G) s.heap H locs) {H1 : Heap} {h : Nat} (hh : H.size = h) (z1 : H1.size = h + 1) (o1 : ∀ q, q < h → H1[q]? = H[q]?) : va_S (mm_A G) s.heap H1 locs := by
  subst hh
  exact ⟨Nat.le_trans hS.1 (by omega), fun x h1 h2 => (o1 x (Nat.lt_of_lt_of_le h1 hS.1)).trans (hS.2.1 x h1 h2), hS.2.2⟩
theorem mm_new (C : mm_C G p s m args meth c own cc nL ret) (hz : H.size = mm_lo G + N) (hM : mm_P G R N M H) (hS : va_S (mm_A G) s.heap H locs) {ci Nf index : Nat} {Cn : String} {T : u_T} {fs : List Value} (hT : kT N = (ci, 0)) (hc : vwCl[ci]? = some (Cn, T, Nf)) (hw : ∀ w ∈ u_ws Cn T Nf, w ∈ mm_good) (ty : Nat → FieldType) (hty : ∀ k, k < Nf → parseFieldDescriptor (T k).2.2.1 = some (ty k)) (hcl : Cond.classLink own index Cn ∈ mm_good) (hinst : Cond.instantiable Cn Nf ∈ mm_good) (hini : Cond.initialized Cn ∈ mm_good) (he : mm_e G (fun _ => 0) (fun _ => 0) (fun _ => none) (ci, 0) = .inr (ci, fs)) (hfs : ∀ j, j < Nf → defaultValue (ty j) = vp_V fs j) (hcells : cells + 1 ≤ Rm.cells) (hslots : slots + Nf ≤ Rm.slots) (hdg : decode cc pc = .ok (.new index, 3))
    (kk : ∀ H1 : Heap, mm_P G (zR R N) (N + 1) (zM M N) H1 → va_S (mm_A G) s.heap H1 locs → H1.size = mm_lo G + (N + 1) → W p l e Rm s m args below meth c H1 locs (cells + 1) (slots + Nf) Q (F0 m (pc + 3) ls (.ref (mm_lo G + N) :: rest))) : W p l e Rm s m args below meth c H locs cells slots Q (F0 m pc ls rest) := by
  obtain ⟨hx, hb, -, hts, hown, -, -, hK, -⟩ := C
  have hKn := hK.1.1 ci _ hc
  refine W.newcK hx hb hown (hts _ hcl) (hts _ hinst) (hts _ hini) rfl hdg hcells hslots hKn.2.1 rfl fun H1 kC hkC e1 z1 o1 => ?_
  rw [hz] at e1
  rw [hz]
  refine kk H1 (mm_push hM hz o1 ?_) (mm_S1 hS rfl z1 o1) (by rw [z1, hz]; omega)
  rw [hT, he]
  exact ⟨_, hc, (u_born ty hts hw hKn hkC e1 hty).to hfs⟩
theorem mm_newa (C : mm_C G p s m args meth c own cc nL ret) (hz : H.size = mm_lo G + N) (hM : mm_P G R N M H) (hS : va_S (mm_A G) s.heap H locs) {k kk0 : Nat} {n : Int32} {atype : ArrayType} {ty : FieldType} (hty : newarray.typeOf atype = ty) (hT : kT N = (kk0, k)) (hids : (mm_tys G)[kk0 - 7]? = some (G.2.1 (kk0 - 7), ty)) (hcell : ∀ cA : ClassId, va_at G.1 vwCl (mm_lo G + N, .inl (G.2.1 (kk0 - 7), (k, .inl (fun _ => 0)))) = va_at G.1 vwCl (mm_lo G + N, mm_e G (fun _ => 0) (fun _ => 0) (fun _ => none) (kk0, k))) (hdef : defaultValue ty = .int 0) (hprim : ∀ (U : State) (cA : ClassId), va_RA U cA ty → U.vm.findClass ("[" ++ ty.toString) = some cA) (hn : ¬ n < 0) (hN : n.toNatClampNeg = k) (hbytes : k * componentBytes ty ≤ 536870912) (harr : Cond.arrayClass ty ∈ mm_good) (hcells : cells + 1 ≤ Rm.cells) (hslots : slots + k ≤ Rm.slots) (hdg : decode cc pc = .ok (.newarray atype, 2))
    (kk : ∀ H1 : Heap, mm_P G (zR R N) (N + 1) (zM M N) H1 → va_S (mm_A G) s.heap H1 locs → H1.size = mm_lo G + (N + 1) → W p l e Rm s m args below meth c H1 locs (cells + 1) (slots + k) Q (F0 m (pc + 2) ls (.ref (mm_lo G + N) :: rest))) : W p l e Rm s m args below meth c H locs cells slots Q (F0 m pc ls (.int n :: rest)) := by
  obtain ⟨hx, hb, -, hts, hown, -, -, hK, -⟩ := C
  subst hty
  refine va_newaK hx hb (hts _ harr) rfl hdg rfl hn hN hbytes hcells hslots rfl fun H1 cA e1 z1 o1 hAr hNm => ?_
  have hcA : cA = G.2.1 (kk0 - 7) := Option.some.inj (hNm.symm.trans (hprim _ _ (hK.1.2 _ _ hids).2))
  rw [hz] at e1
  rw [hz]
  refine kk H1 (mm_push hM hz o1 ?_) (mm_S1 hS rfl z1 o1) (by rw [z1, hz]; omega)
  rw [hT, ← hcell cA]
  show H1[mm_lo G + N]? = some (arrV (G.2.1 (kk0 - 7)) k (fun _ => .int 0))
  rw [e1, hcA, hdef]
theorem mm_newq (C : mm_C G p s m args meth c own cc nL ret) (hz : H.size = mm_lo G + N) (hM : mm_P G R N M H) (hS : va_S (mm_A G) s.heap H locs) {k kk0 index : Nat} {n : Int32} {Cn : String} (hT : kT N = (kk0, k)) (hids : (mm_tys G)[kk0 - 7]? = some (G.2.1 (kk0 - 7), .object Cn)) (hcell : mm_e G (fun _ => 0) (fun _ => 0) (fun _ => none) (kk0, k) = .inl (G.2.1 (kk0 - 7), (k, .inr (.inr (.inr (.inr (fun _ => none))))))) (hn : ¬ n < 0) (hN : n.toNatClampNeg = k) (hbytes : k * 4 ≤ 536870912) (hcl : Cond.classLink own index Cn ∈ mm_good) (hover : Cond.arrayOver (.object Cn) ∈ lw_tbl) (hcells : cells + 1 ≤ Rm.cells) (hslots : slots + k ≤ Rm.slots) (hdg : decode cc pc = .ok (.anewarray index, 3))
    (kk : ∀ H1 : Heap, mm_P G (zR R N) (N + 1) (zM M N) H1 → va_S (mm_A G) s.heap H1 locs → H1.size = mm_lo G + (N + 1) → W p l e Rm s m args below meth c H1 locs (cells + 1) (slots + k) Q (F0 m (pc + 3) ls (.ref (mm_lo G + N) :: rest))) : W p l e Rm s m args below meth c H locs cells slots Q (F0 m pc ls (.int n :: rest)) := by
  obtain ⟨hx, hb, -, hts, hown, -, -, hK, -⟩ := C
  subst hN
  refine W.anew hx hb hown (hts _ hcl) (va_AO.use (hK.2.2.2 _ hover)) rfl hdg rfl hn hbytes hcells hslots fun cA kA comp f1 f2 f3 f4 => ?_
  obtain ⟨kA', comp', g1, g2, g3, g4⟩ := (hK.1.2 _ _ hids).2
  have hcA : cA = G.2.1 (kk0 - 7) := Option.some.inj (f1.symm.trans g4)
  generalize hH1 : H.push ({ cls := cA, slots := Array.replicate n.toNatClampNeg .null, vm := .none } : Cell) = H1
  have z1 : H1.size = H.size + 1 := by rw [← hH1, Array.size_push]
  have e1 : H1[H.size]? = some (arrV cA n.toNatClampNeg (fun _ => .null)) := by rw [← hH1, Array.getElem?_push_size, ← arrV_new]
  have o1 : ∀ q : Nat, q < H.size → H1[q]? = H[q]? := fun q hq => by rw [← hH1, Array.getElem?_push, if_neg (Nat.ne_of_lt hq)]
  rw [hz] at e1
  rw [hz]
  refine kk H1 (mm_push hM hz o1 ?_) (mm_S1 hS rfl z1 o1) (by rw [z1, hz]; omega)
  rw [hT, hcell]
  show H1[mm_lo G + N]? = some (vp_cell (G.2.1 (kk0 - 7)) _)
  rw [vp_cell_q, e1, hcA]
  rfl
/-- a reference into an array of references -/
theorem mm_ast (C : mm_C G p s m args meth c own cc nL ret) (hM : mm_P G R N M H) (hS : va_S (mm_A G) s.heap H locs) (ho : o < N) {k n : Nat} (hT : kT o = (k, n)) {v ci : Nat} {r : vw_C} (hc : vwCl[ci]? = some r) (hids : (mm_tys G)[k - 7]? = some (G.2.1 (k - 7), .object r.1)) (hcell : ∀ (I : Nat → Int32) (L : Nat → Int64) (Rf : Nat → Option Nat), mm_e G I L Rf (k, n) = .inl (G.2.1 (k - 7), (n, .inr (.inr (.inr (.inr (fun j => (Rf j).map (fun a => mm_lo G + a)))))))) (hv : v < N) {vs : List Value} (hev : mm_en G R M v = .inr (ci, vs)) {i : Int32} (hin : vp_in i n) (hdg : decode cc pc = .ok (.aastore, 1))
    (kk : ∀ (H1 : Heap) (locs1 : List Loc), mm_P G (sR R o i.toNatClampNeg (some v)) N M H1 → va_S (mm_A G) s.heap H1 locs1 → H1.size = H.size → W p l e Rm s m args below meth c H1 locs1 cells slots Q (F0 m (pc + 1) ls rest)) : W p l e Rm s m args below meth c H locs cells slots Q (F0 m pc ls (.ref (mm_lo G + v) :: .int i :: .ref (mm_lo G + o) :: rest)) := by
  obtain ⟨hx, hb, -, hts, hown, -, -, hK, -⟩ := C
  have hlt : i.toNatClampNeg < n := Nat.not_le.mp fun q => hin (Or.inr q)
  have h0 : ¬ i < 0 := fun q => hin (Or.inl q)
  have hP0 := hM o _ (mm_Wg ho)
  have e0 : mm_en G R M o = .inl (G.2.1 (k - 7), (n, .inr (.inr (.inr (.inr (fun j => (R o j).map (fun a => mm_lo G + a))))))) := by unfold mm_en; rw [hT]; exact hcell _ _ _
  have e1 : mm_en G (sR R o i.toNatClampNeg (some v)) M o = .inl (G.2.1 (k - 7), (n, .inr (.inr (.inr (.inr (fun j => (if j = i.toNatClampNeg then some v else R o j).map (fun a => mm_lo G + a))))))) := by unfold mm_en; rw [hT, hcell, sR_at]
  rw [e0] at hP0
  have hPv := hM v _ (mm_Wg hv)
  rw [hev] at hPv
  obtain ⟨r', hr', cellV, g1, g2, g3, -⟩ := hPv
  have hcls := (hK.1.1 ci r hc).2
  obtain ⟨kA, comp, k1, k2, k3, -⟩ := (hK.1.2 _ _ hids).2
  have hcomp : comp = G.1.1 ci := Option.some.inj (k3.symm.trans hcls.1)
  subst hcomp
  obtain ⟨kC, hkC, -⟩ := hcls.2
  refine W.aast hx hb hP0 (fun q h => by cases h) (fun h => by cases h) k1 k2 rfl hkC ⟨h0, by show _ < (arrV _ _ _).slots.size; rw [arrV_size]; exact hlt⟩ g1 (fun q h => by rw [g3] at h; cases h) (by rw [g2]; exact hkC) (by rw [g2]; exact va_assign hcls) rfl rfl hdg fun H1 e z oq => ?_
  refine kk H1 _ (mm_upd hM oq ?_ mm_en_R) (hS.put z oq (Nat.le_add_right _ _)) z
  rw [e1]
  show H1[mm_lo G + o]? = some (vp_cell _ _)
  rw [e, vp_cell_q, vp_cell_q, arrV_store]
  congr 2
  funext q
  by_cases hq : q = i.toNatClampNeg
  · simp [updV, hq, va_rf]
  · simp [updV, hq]
theorem mm_objInit (C : mm_C G p s m args meth c own cc nL ret) {idx a : Nat} (hl : ls.size = nL) (hlink : Cond.methodLink own idx objectInit ∈ mm_good) (hinst : Cond.instanceMethod objectInit ∈ mm_good) (hcode : Cond.code objectInit ⟨#[0xb1]⟩ 1 none ∈ mm_good) (hfr : 1 ≤ Rm.frames) (hlo : (rest.map fun v => v.category).sum + 12 ≤ Rm.locals) (hdg : decode cc pc = .ok (.invokespecial idx, 3)) (kk : W p l e Rm s m args below meth c H locs cells slots Q (F0 m (pc + 3) ls rest)) : W p l e Rm s m args below meth c H locs cells slots Q (F0 m pc ls (.ref a :: rest)) := by
  obtain ⟨hx, hb, -, hts, hown, hml, -, hK, -⟩ := C
  exact W.objInit hx hb hown (hts _ hlink) (hts _ hinst) (hts _ hcode) rfl (by rw [hml]; exact hl) rfl hdg hfr (by show 2 * 0 + _ + 12 ≤ _; omega) kk
variable {y : MethodName} {bytes : ByteArray} {maxL n index mc ms : Nat} {rm : Room} {w1 : mm_Ws} {st : List Value}
theorem mm_toBc (C : mm_C G p s m args meth c own cc nL ret) (hz : H.size = mm_lo G + N) (hM : mm_P G R N M H) (hS : va_S (mm_A G) s.heap H locs) {U : State} (hU : U.heap = H) (hW : s.WarmedH U.vm) : mm_Bc G (R, N, M) U := ⟨by rw [hU]; exact hz, mm_toB C hM hS hU hW⟩
/-- a maker is called, by a link of its own or between nest mates -/
theorem mm_runI (C : mm_C G p s m args meth c own cc nL ret) (hz : H.size = mm_lo G + N) (hM : mm_P G R N M H) (hS : va_S (mm_A G) s.heap H locs) (hcal : Met l y (mm_ws y bytes maxL none) rm (va_Pc [.ref (mm_lo G + o)] (mm_Bc G (R, N, M))) (mm_Qc G w1) mc ms (mm_A G)) (hcode : Cond.code y bytes maxL none ∈ mm_good) (hini : Cond.initialized y.cls ∈ mm_good) (hinst : Cond.instanceMethod y ∈ mm_good) (hy1 : y.name = "<init>") (hd : y.cls ≠ "java/lang/invoke/MethodHandle" ∧ y.cls ≠ "java/lang/invoke/VarHandle" ∧ (parseMethodDescriptor y.desc).map (fun d => d.parameters.length) = some 0) (hrc : rm.cells = mc) (hrs : rm.slots = ms) (hR : rm.frames + 1 ≤ Rm.frames ∧ 8 + (maxL + 11) + rm.locals ≤ Rm.locals) (hlink : Cond.methodLink own index y ∈ mm_good ∨ ∃ host : String, Cond.methodLinkNest own index y host ∈ lw_tbl)
    (hl : ls.size = nL) (hroom : (rest.map fun v => v.category).sum ≤ 8) (hf : cells + mc ≤ Rm.cells ∧ slots + ms ≤ Rm.slots) (hdg : decode cc pc = .ok (.invokespecial index, 3))
    (kk : ∀ (H1 : Heap) (locs1 : List Loc), mm_P G w1.1 w1.2.1 w1.2.2 H1 → va_S (mm_A G) s.heap H1 locs1 → H1.size = mm_lo G + w1.2.1 → W p l e Rm s m args below meth c H1 locs1 (cells + mc) (slots + ms) Q (F0 m (pc + 3) ls rest)) : W p l e Rm s m args below meth c H locs cells slots Q (F0 m pc ls (.ref (mm_lo G + o) :: rest)) := by
  obtain ⟨hx, hb, -, hts, hown, hml, -, hK, -⟩ := id C
  have hpre : PreS s H (va_Pc [.ref (mm_lo G + o)] (mm_Bc G (R, N, M))) [.ref (mm_lo G + o)] := ⟨mm_blindc, fun U hU hW => ⟨rfl, mm_toBc C hz hM hS hU hW⟩⟩
  have fin : ∀ {a : Array Value}, va_Run p l e Rm s m args below meth c H locs cells slots mc ms (F0 m pc ls (.ref (mm_lo G + o) :: rest)) rest (mm_Qc G w1 a) (mm_A G) → W p l e Rm s m args below meth c H locs cells slots Q (F0 m pc ls (.ref (mm_lo G + o) :: rest)) := by
    intro a hr
    exact va_callv hr hS (fun _ _ h => h) (fun _ h => h) (fun u t H1 locs1 ht _ _ hB _ _ hS1 => by subst ht; exact kk _ locs1 hB.2.1 hS1 hB.1)
  rcases hlink with hlink | ⟨host, hlink⟩
  · exact fin (va_runI (As := []) (rest := rest) ⟨hx, hb, hml, hown, hts⟩ hcal (cwI 0 hts (mm_gws hcode) rfl hrc hrs (hts _ hini) (hts _ hlink) (hts _ hinst) hy1 hd hR) hpre rfl rfl hl rfl (lv_room hroom) hdg hf)
  · exact fin (va_runIN (As := []) (rest := rest) ⟨hx, hb, hml, hown, hts⟩ hcal ⟨va_cnB 0 hts (mm_gws hcode) rfl hrc hrs (hK.2.2.1 _ _ _ _ hlink) (hts _ hini) hd hR, hy1, hts _ hinst⟩ hpre rfl rfl hl rfl (lv_room hroom) hdg hf)
end MMM
theorem st1 {N' N d N0 cl : Nat} (e : N' = N + d) (h : N = N0 + cl) : N' = N0 + (cl + d) := by omega
theorem st2 {o N' N d : Nat} (h : o < N) (e : N' = N + d) : o < N' := by omega
theorem st3 {N' N : Nat} (e : N' = N + 1) : N < N' := by omega
theorem st4 {N N0 cl mc : Nat} (g : N < N0 + mc) (h : N = N0 + cl) : cl + 1 ≤ mc := by omega
theorem st5 {Z Z0 sl n ms : Nat} (g : Z + n ≤ Z0 + ms) (h : Z = Z0 + sl) : sl + n ≤ ms := by omega
theorem st6 {N N0 cl mc : Nat} (g : N = N0 + mc) (h : N = N0 + cl) : cl = mc := by omega
end
section
/-! FROM THE ENTRY TO THE LOOP: both makers, then the law's loop as a function -/
theorem mm_Peq {G : mm_G} {R R' : mm_R} {N : Nat} {M : mm_M} {H : Heap} (h : ∀ o, o < N → R o = R' o) (hM : mm_P G R N M H) : mm_P G R' N M H := by
  intro k q hk
  obtain ⟨hkN, e⟩ := mm_Wi hk
  subst e
  have := hM k _ (mm_Wg hkN)
  unfold mm_en at this ⊢
  rw [h k hkN] at this
  exact this
def R_0 : mm_R := fun _ _ => none
def M_0 : mm_M := (fun _ _ => 0, fun _ _ => 0)
set_option maxRecDepth 100000 in
set_option maxHeartbeats 4000000 in
theorem ls_whole {p : Program} {e : Env} {s : State} {m : MethodId} {below : List Frame} {meth : Method} {c : Code} (l : Launch) {b L : Nat} {xs : Nat → Int32} (C0 : lw_At p s m meth c b L xs) (R1 R2 : mm_R) (M1 M2 : mm_M) (e1 : fX6_init (zR R_0 0) 1 0 (zM M_0 0) (1 + 730) (0 + 40517) = some (R1, M1)) (e2 : fX7_init (zR R1 731) 732 0 (zM M1 731) (732 + 8) (0 + 36147) = some (R2, M2)) (hR : ∀ o, o < 740 → R2 o = kR o) (e3 : fL_law_18 xs L FU M2 0 = some true) : W p l e room_1 s m #[Value.ref b] below meth c s.heap [] 0 0 (lw_Z below #[Value.ref b] s) (entryFrame m ([Value.ref b] : List Value).toArray 4) := by
  obtain ⟨G, hlo, C⟩ := ls_start C0
  obtain ⟨hx, hb, hr, hml, hown, hts, hX, hbl, hlocks, hgv⟩ := C0
  have hz : s.heap.size = mm_lo G + 0 := hlo.symm
  have hM : mm_P G R_0 0 M_0 s.heap := fun k q hk => absurd (mm_Wi hk).1 (Nat.not_lt_zero _)
  have hS : va_S (mm_A G) s.heap s.heap [] := va_S.rf
  have hl := lv_entry ([.ref b]) (n := 4) (Nat.le_of_ble_eq_true rfl)
  rw [lg_entry_eq]
  generalize (lg_sl ([.ref b]) ++ List.replicate (4 - (lg_sl ([.ref b])).length) Slot.unset).toArray = ls at hl ⊢
  have hl : lv_has ls 4 [(0, .ref b)] := hl
  refine nL_7 C hz hM hS rfl (Nat.le_of_ble_eq_true rfl) (Nat.le_of_ble_eq_true rfl) dL_law_0 (fun H hM hS hz => ?_)
  refine lv_dup hx hb dL_law_3 rfl ?_
  refine iL_9 C hz hM hS (tX6_init l G (zR R_0 0) 1 0 (zM M_0 0) (Nat.le_of_ble_eq_true rfl) R1 M1 e1) hl.1 (Nat.le_of_ble_eq_true rfl) ⟨Nat.le_of_ble_eq_true rfl, Nat.le_of_ble_eq_true rfl⟩ dL_law_4 (fun H locs hM hS hz => ?_)
  refine lv_astore_n (lv' := [(1, .ref (mm_lo G + 0)), (0, .ref b)]) hx hb dL_law_7 rfl hl (by decide) rfl (fun ls hl => ?_)
  have hM : mm_P G R1 731 M1 H := hM
  have hz : H.size = mm_lo G + 731 := hz
  refine nL_10 C hz hM hS rfl (Nat.le_of_ble_eq_true rfl) (Nat.le_of_ble_eq_true rfl) dL_law_8 (fun H hM hS hz => ?_)
  refine lv_dup hx hb dL_law_11 rfl ?_
  refine iL_12 C hz hM hS (tX7_init l G (zR R1 731) 732 0 (zM M1 731) (Nat.le_of_ble_eq_true rfl) R2 M2 e2) hl.1 (Nat.le_of_ble_eq_true rfl) ⟨Nat.le_of_ble_eq_true rfl, Nat.le_of_ble_eq_true rfl⟩ dL_law_12 (fun H locs hM hS hz => ?_)
  have hM : mm_P G R2 740 M2 H := hM
  have hM : mm_P G kR 740 M2 H := mm_Peq hR hM
  refine lv_astore_n (lv' := [(2, .ref (mm_lo G + 731)), (1, .ref (mm_lo G + 0)), (0, .ref b)]) hx hb dL_law_15 rfl hl (by decide) rfl (fun ls hl => ?_)
  refine lv_iconst (v := 0) hx hb dL_law_16 (by decide) ?_
  refine lv_istore_n (lv' := [(3, .int 0), (2, .ref (mm_lo G + 731)), (1, .ref (mm_lo G + 0)), (0, .ref b)]) hx hb dL_law_17 rfl hl (by decide) rfl (fun ls hl => ?_)
  refine W.widen (k := 600000) (n := 7302250) (Nat.le_of_ble_eq_true rfl) (Nat.le_of_ble_eq_true rfl) ?_
  exact tL_law_18 C hlo hX hbl FU _ _ _ _ _ hM hS (lv_sub hl [3, 2, 1, 0] rfl) e3
end
section
/-! PURE FROM HERE: what the makers' functions make -/
theorem gd_i {α : Type} {P : Prop} [Decidable P] {k : Option α} {r : Option α} (h : P) (h2 : k = r) : gd P k = r := by rw [gd_t h]; exact h2
theorem lt_i {α β : Type} {x : α} {k : α → Option β} {r : Option β} (h : k x = r) : lt x k = r := h
theorem bn_i {α β : Type} {x : Option α} {a : α} {k : α → Option β} {r : Option β} (h : x = some a) (h2 : k a = r) : bn x k = r := by subst h; exact h2
theorem bn2_i {α β γ : Type} {x : Option (α × β)} {a : α} {b : β} {k : α → β → Option γ} {r : Option γ} (h : x = some (a, b)) (h2 : k a b = r) : bn2 x k = r := by subst h; exact h2
theorem if_pi {α : Type} {P : Prop} [Decidable P] {a b r : α} (c : P) (h : a = r) : (if P then a else b) = r := by rw [if_pos c]; exact h
theorem if_ni {α : Type} {P : Prop} [Decidable P] {a b r : α} (c : ¬ P) (h : b = r) : (if P then a else b) = r := by rw [if_neg c]; exact h
theorem sR_ap (R : mm_R) (o k : Nat) (v : Option Nat) (o' : Nat) : sR R o k v o' = if o' = o then (fun k' => if k' = k then v else R o' k') else R o' := by
  funext k'
  by_cases h : o' = o <;> simp [sR, h]
theorem zR_ap (R : mm_R) (o o' : Nat) : zR R o o' = if o' = o then (fun _ => none) else R o' := by
  funext k'
  by_cases h : o' = o <;> simp [zR, h]
theorem zM_ap1 (M : mm_M) (o o' : Nat) : (zM M o).1 o' = if o' = o then (fun _ => 0) else M.1 o' := by
  funext k'
  by_cases h : o' = o <;> simp [zM, h]
theorem zM_ap2 (M : mm_M) (o o' : Nat) : (zM M o).2 o' = if o' = o then (fun _ => 0) else M.2 o' := by
  funext k'
  by_cases h : o' = o <;> simp [zM, h]
theorem sI_ap1 (M : mm_M) (o k : Nat) (v : Int32) (o' : Nat) : (sI M o k v).1 o' = if o' = o then (fun k' => if k' = k then v else M.1 o' k') else M.1 o' := by
  funext k'
  by_cases h : o' = o <;> simp [sI, h]
theorem sI_ap2 (M : mm_M) (o k : Nat) (v : Int32) (o' : Nat) : (sI M o k v).2 o' = M.2 o' := rfl
-- numbers
theorem nle_nI {k i : Nat} (h : i < k) (hk : k < 2 ^ 31) : ¬ nI k ≤ nI i := nI_ge h hk
theorem ix_nI {n i : Nat} (h : i < n) (hn : n < 2 ^ 31) : ¬ (nI i < 0 ∨ n ≤ (nI i).toNatClampNeg) := nI_in h hn
-- blocks of a State
set_option maxRecDepth 100000 in
theorem kS_at : ∀ a, a < 740 → kT a = (4, 0) → (∃ i, i < 2 ∧ a = 1 + 66 * i) ∨ ∃ i, i < 9 ∧ a = 135 + 66 * i := by decide +kernel
theorem kT_j {a j : Nat} (h : kT a = (4, 0)) (hj : j < 66) : kT (a + j) = kS j := by
  rcases kS_at a (kl h) h with ⟨i, hi, e⟩ | ⟨i, hi, e⟩
  · unfold kT
    rw [if_neg (by omega), if_pos (by omega), show (a + j - 1) % 66 = j by omega]
  · unfold kT
    rw [if_neg (by omega), if_neg (by omega), if_neg (by omega), if_neg (by omega), if_pos (by omega), show (a + j - 135) % 66 = j by omega]
theorem kR_j {a j : Nat} (h : kT a = (4, 0)) (hj : j < 66) : kR (a + j) = fun k => rS (a + j) j k := by
  rcases kS_at a (kl h) h with ⟨i, hi, e⟩ | ⟨i, hi, e⟩
  · funext k
    unfold kR
    rw [if_neg (by omega), if_pos (by omega), show (a + j - 1) % 66 = j by omega]
  · funext k
    unfold kR
    rw [if_neg (by omega), if_neg (by omega), if_neg (by omega), if_neg (by omega), if_pos (by omega), show (a + j - 135) % 66 = j by omega]
theorem kR_none {a j : Nat} (h : kT a = (4, 0)) (hj : j < 66) (h0 : j ≠ 0) (h2 : j ≠ 2) (h3 : j ≠ 3) (hc : ¬ (18 ≤ j ∧ (j - 18) % 3 = 0)) : kR (a + j) = fun _ => none := by
  rw [kR_j h hj]
  funext k
  unfold rS
  rw [if_neg h0, if_neg h2, if_neg h3, if_neg hc]
theorem kR_0 {a : Nat} (h : kT a = (4, 0)) : kR a = fun k => if 7 ≤ k ∧ k ≤ 13 then some (a + (k - 6)) else none := kR_j (j := 0) h (by omega)
theorem kR_2 {a : Nat} (h : kT a = (4, 0)) : kR (a + 2) = fun k => if k < 10 then some (a + 8 + k) else none := by
  rw [kR_j h (by omega)]
  funext k
  unfold rS
  rw [if_neg (by omega), if_pos rfl]
theorem kR_3 {a : Nat} (h : kT a = (4, 0)) : kR (a + 3) = fun k => if k < 16 then some (a + 18 + 3 * k) else none := by
  rw [kR_j h (by omega)]
  funext k
  unfold rS
  rw [if_neg (by omega), if_neg (by omega), if_pos rfl]
theorem kR_c {a c : Nat} (h : kT a = (4, 0)) (hc : c < 16) : kR (a + 18 + 3 * c) = fun k => if k = 16 then some (a + 18 + 3 * c + 1) else if k = 17 then some (a + 18 + 3 * c + 2) else none := by
  have e : a + 18 + 3 * c = a + (18 + 3 * c) := by omega
  rw [e, kR_j h (by omega)]
  funext k
  unfold rS
  rw [if_neg (by omega), if_neg (by omega), if_neg (by omega), if_pos (by omega)]
/-- what a State's block holds when it is made -/
def I_S (a o : Nat) : Nat → Int32 := fun k => if o = a then (if k = 1 then 1 else 0) else if o = a + 1 then (if k < 10 then mm_f0 k else 0) else 0
-- a Pitch is made
theorem m_X4 (R : mm_R) (N Z : Nat) (M : mm_M) (a : Nat) : fX4_init R N Z M a (N + 0) (Z + 0) = some (R, M) := by
  unfold fX4_init
  exact gd_i ⟨rfl, rfl⟩ rfl
-- a Cart is made
theorem m_X0 (R : mm_R) (Z : Nat) (M : mm_M) (a : Nat) (h1 : kT (a + 1) = (8, 3)) (h2 : kT (a + 2) = (8, 200)) : ∃ R' M', fX0_init R (a + 1) Z M a (a + 1 + 2) (Z + 203) = some (R', M') ∧ (∀ o, R' o = if o = a then (fun k => if k = 17 then some (a + 2) else if k = 16 then some (a + 1) else R a k) else if o = a + 1 ∨ o = a + 2 then (fun _ => none) else R o) ∧ (∀ o, M'.1 o = if o = a + 1 ∨ o = a + 2 then (fun _ => 0) else M.1 o) ∧ (∀ o, M'.2 o = if o = a + 1 ∨ o = a + 2 then (fun _ => 0) else M.2 o) := by
  refine ⟨sR (zR (sR (zR R (a + 1)) a 16 (some (a + 1))) (a + 2)) a 17 (some (a + 2)), zM (zM M (a + 1)) (a + 2), ?_, fun o => ?_, fun o => ?_, fun o => ?_⟩
  · unfold fX0_init
    refine gd_i ⟨h1, by omega, by omega⟩ ?_
    refine lt_i (lt_i (lt_i (lt_i (lt_i ?_))))
    refine gd_i ⟨h2, by omega, by omega⟩ ?_
    refine lt_i (lt_i (lt_i (lt_i (lt_i ?_))))
    exact gd_i ⟨by omega, by omega⟩ rfl
  · simp only [sR_ap, zR_ap]
    by_cases e0 : o = a
    · subst e0
      rw [if_pos rfl, if_pos rfl, if_neg (by omega), if_pos rfl, if_neg (by omega)]
    · rw [if_neg e0, if_neg e0, if_neg e0]
      by_cases e1 : o = a + 2
      · rw [if_pos e1, if_pos (Or.inr e1)]
      · rw [if_neg e1]
        by_cases e2 : o = a + 1
        · rw [if_pos e2, if_pos (Or.inl e2)]
        · rw [if_neg e2, if_neg (by omega)]
  · simp only [zM_ap1]
    by_cases e1 : o = a + 2
    · rw [if_pos e1, if_pos (Or.inr e1)]
    · rw [if_neg e1]
      by_cases e2 : o = a + 1
      · rw [if_pos e2, if_pos (Or.inl e2)]
      · rw [if_neg e2, if_neg (by omega)]
  · simp only [zM_ap2]
    by_cases e1 : o = a + 2
    · rw [if_pos e1, if_pos (Or.inr e1)]
    · rw [if_neg e1]
      by_cases e2 : o = a + 1
      · rw [if_pos e2, if_pos (Or.inl e2)]
      · rw [if_neg e2, if_neg (by omega)]
end
section
/-! a State is made: three loops -/
theorem fn_if {α : Type} {c : Prop} [Decidable c] {f g h : Nat → α} (h1 : c → f = h) (h2 : ¬ c → g = h) : (if c then f else g) = h := by
  by_cases q : c
  · rw [if_pos q]; exact h1 q
  · rw [if_neg q]; exact h2 q
set_option maxHeartbeats 1000000 in
theorem m_121 {a NB ZB : Nat} (ha : kT a = (4, 0)) (hN : NB = a + 66) : ∀ (d i n Z : Nat) (R : mm_R) (M : mm_M), i + d = 16 → d < n → ZB = Z + 221 * d → R a 9 = some (a + 3) → ∃ R' M', fX5_init_121 a NB ZB n R (a + 18 + 3 * i) Z M (nI i) = some (R', M') ∧ (∀ o, R' o = if o = a + 3 then (fun k => if i ≤ k ∧ k < 16 then some (a + 18 + 3 * k) else R o k) else if a + 18 + 3 * i ≤ o ∧ o < a + 66 then kR o else R o) ∧ (∀ o, M'.1 o = if a + 18 + 3 * i ≤ o ∧ o < a + 66 then (fun _ => 0) else M.1 o) ∧ (∀ o, M'.2 o = if a + 18 + 3 * i ≤ o ∧ o < a + 66 then (fun _ => 0) else M.2 o) := by
  intro d
  induction d with
  | zero =>
    intro i n Z R M hi hn hZ h9
    obtain ⟨n, rfl⟩ : ∃ q, n = q + 1 := ⟨n - 1, by omega⟩
    have e : i = 16 := by omega
    subst e
    refine ⟨R, M, ?_, fun o => ?_, fun o => ?_, fun o => ?_⟩
    · rw [fX5_init_121]
      refine if_pi (show (16 : Int32) ≤ nI 16 by decide) (gd_i ⟨by omega, by omega⟩ rfl)
    · by_cases e0 : o = a + 3
      · rw [if_pos e0]; funext k; rw [if_neg (by omega)]
      · rw [if_neg e0, if_neg (by omega)]
    · rw [if_neg (by omega)]
    · rw [if_neg (by omega)]
  | succ d ih =>
    intro i n Z R M hi hn hZ h9
    obtain ⟨n, rfl⟩ : ∃ q, n = q + 1 := ⟨n - 1, by omega⟩
    have hc : i < 16 := by omega
    have k0 := kS_cart ha hc
    have k1 : kT (a + 18 + 3 * i + 1) = (8, 3) := kC_16 k0
    have k2 : kT (a + 18 + 3 * i + 2) = (8, 200) := kC_17 k0
    obtain ⟨R1, M1, e1, r1, m1, l1⟩ := m_X0 (zR R (a + 18 + 3 * i)) (Z + 18) (zM M (a + 18 + 3 * i)) (a + 18 + 3 * i) k1 k2
    obtain ⟨R2, M2, e2, r2, m2, l2⟩ := ih (i + 1) n (Z + 18 + 203) (sR R1 (a + 3) i (some (a + 18 + 3 * i))) M1 (by omega) (by omega) (by omega) (by
      rw [sR_ap, if_neg (by omega), r1, if_neg (by omega), if_neg (by omega), zR_ap, if_neg (by omega)]; exact h9)
    refine ⟨R2, M2, ?_, fun o => ?_, fun o => ?_, fun o => ?_⟩
    · rw [fX5_init_121]
      refine if_ni (show ¬ nI 16 ≤ nI i from nI_ge hc (by decide)) ?_
      refine gd_i ⟨h9, by omega⟩ ?_
      refine gd_i ⟨k0, by omega, by omega⟩ ?_
      refine lt_i (lt_i (lt_i (lt_i ?_)))
      refine gd_i ⟨by omega, by omega⟩ ?_
      refine bn2_i e1 ?_
      refine lt_i (lt_i ?_)
      refine gd_i (ix_nI hc (by decide)) ?_
      refine lt_i (lt_i ?_)
      rw [nI_clamp (by omega), nI_1]
      exact e2
    · rw [r2]
      by_cases e0 : o = a + 3
      · subst e0
        rw [if_pos rfl, if_pos rfl]
        have hx : ∀ k, sR R1 (a + 3) i (some (a + 18 + 3 * i)) (a + 3) k = if k = i then some (a + 18 + 3 * i) else R (a + 3) k := by
          intro k
          have hy : R1 (a + 3) = R (a + 3) := by rw [r1, if_neg (by omega), if_neg (by omega), zR_ap, if_neg (by omega)]
          rw [sR_ap, if_pos rfl, hy]
        funext k
        rw [hx]
        by_cases q : k = i
        · subst q
          rw [if_neg (by omega), if_pos rfl, if_pos (by omega)]
        · rw [if_neg q]
          by_cases q2 : i + 1 ≤ k ∧ k < 16
          · rw [if_pos q2, if_pos (by omega)]
          · rw [if_neg q2, if_neg (by omega)]
      · rw [if_neg e0, if_neg e0, sR_ap, if_neg e0, r1]
        by_cases q : a + 18 + 3 * (i + 1) ≤ o ∧ o < a + 66
        · rw [if_pos q, if_pos (by omega)]
        · rw [if_neg q]
          by_cases q1 : o = a + 18 + 3 * i
          · subst q1
            rw [if_pos rfl, if_pos (by omega), kR_c ha hc, zR_ap, if_pos rfl]
            funext k
            by_cases q3 : k = 17
            · subst q3
              rw [if_pos rfl, if_neg (by omega), if_pos rfl]
            · rw [if_neg q3]
              by_cases q4 : k = 16
              · rw [if_pos q4, if_pos q4]
              · rw [if_neg q4, if_neg q4, if_neg q3]
          · rw [if_neg q1]
            by_cases q2 : o = a + 18 + 3 * i + 1 ∨ o = a + 18 + 3 * i + 2
            · rw [if_pos q2, if_pos (by omega)]
              obtain ⟨j, hj, ej⟩ : ∃ j, (j = 18 + 3 * i + 1 ∨ j = 18 + 3 * i + 2) ∧ o = a + j := ⟨o - a, by omega, by omega⟩
              rw [ej, kR_none ha (by omega) (by omega) (by omega) (by omega) (by omega)]
            · rw [if_neg q2, zR_ap, if_neg q1, if_neg (by omega)]
    · rw [m2, m1]
      by_cases q : a + 18 + 3 * (i + 1) ≤ o ∧ o < a + 66
      · rw [if_pos q, if_pos (by omega)]
      · rw [if_neg q]
        by_cases q2 : o = a + 18 + 3 * i + 1 ∨ o = a + 18 + 3 * i + 2
        · rw [if_pos q2, if_pos (by omega)]
        · rw [if_neg q2, zM_ap1]
          by_cases q1 : o = a + 18 + 3 * i
          · rw [if_pos q1, if_pos (by omega)]
          · rw [if_neg q1, if_neg (by omega)]
    · rw [l2, l1]
      by_cases q : a + 18 + 3 * (i + 1) ≤ o ∧ o < a + 66
      · rw [if_pos q, if_pos (by omega)]
      · rw [if_neg q]
        by_cases q2 : o = a + 18 + 3 * i + 1 ∨ o = a + 18 + 3 * i + 2
        · rw [if_pos q2, if_pos (by omega)]
        · rw [if_neg q2, zM_ap2]
          by_cases q1 : o = a + 18 + 3 * i
          · rw [if_pos q1, if_pos (by omega)]
          · rw [if_neg q1, if_neg (by omega)]
set_option maxHeartbeats 1000000 in
theorem m_94 {a NB ZB : Nat} (ha : kT a = (4, 0)) (hN : NB = a + 66) : ∀ (d i n Z : Nat) (R : mm_R) (M : mm_M), i + d = 10 → d < n → ZB = Z + 4 * d + 3536 → R a 8 = some (a + 2) → R a 9 = some (a + 3) → (∀ k, R (a + 3) k = none) → ∃ R' M', fX5_init_94 a NB ZB n R (a + 8 + i) Z M (nI i) = some (R', M') ∧ (∀ o, R' o = if o = a + 2 then (fun k => if i ≤ k ∧ k < 10 then some (a + 8 + k) else R o k) else if o = a + 3 ∨ (a + 8 + i ≤ o ∧ o < a + 66) then kR o else R o) ∧ (∀ o, M'.1 o = if a + 8 + i ≤ o ∧ o < a + 66 then (fun _ => 0) else M.1 o) ∧ (∀ o, M'.2 o = if a + 8 + i ≤ o ∧ o < a + 66 then (fun _ => 0) else M.2 o) := by
  intro d
  induction d with
  | zero =>
    intro i n Z R M hi hn hZ h8 h9 h3
    obtain ⟨n, rfl⟩ : ∃ q, n = q + 1 := ⟨n - 1, by omega⟩
    have e : i = 10 := by omega
    subst e
    obtain ⟨R2, M2, e2, r2, m2, l2⟩ := m_121 (ZB := ZB) ha hN 16 0 FU Z R M rfl (by decide) (by omega) h9
    refine ⟨R2, M2, ?_, fun o => ?_, fun o => ?_, fun o => ?_⟩
    · rw [fX5_init_94]
      exact if_pi (show (10 : Int32) ≤ nI 10 by decide) e2
    · rw [r2]
      by_cases e0 : o = a + 2
      · rw [if_neg (by omega), if_neg (by omega), if_pos e0]
        funext k
        rw [if_neg (by omega)]
      · rw [if_neg e0]
        by_cases e3 : o = a + 3
        · subst e3
          rw [if_pos rfl, if_pos (Or.inl rfl), kR_3 ha]
          funext k
          by_cases q : k < 16
          · rw [if_pos (by omega), if_pos q]
          · rw [if_neg (by omega), if_neg q, h3]
        · rw [if_neg e3]
          by_cases q : a + 18 ≤ o ∧ o < a + 66
          · rw [if_pos (by omega), if_pos (by omega)]
          · rw [if_neg (by omega), if_neg (by omega)]
    · rw [m2]
    · rw [l2]
  | succ d ih =>
    intro i n Z R M hi hn hZ h8 h9 h3
    obtain ⟨n, rfl⟩ : ∃ q, n = q + 1 := ⟨n - 1, by omega⟩
    have hc : i < 10 := by omega
    have k0 := kS_pitch ha hc
    obtain ⟨R2, M2, e2, r2, m2, l2⟩ := ih (i + 1) n (Z + 4 + 0) (sR (zR R (a + 8 + i)) (a + 2) i (some (a + 8 + i))) (zM M (a + 8 + i)) (by omega) (by omega) (by omega) (by
      rw [sR_ap, if_neg (by omega), zR_ap, if_neg (by omega)]; exact h8) (by
      rw [sR_ap, if_neg (by omega), zR_ap, if_neg (by omega)]; exact h9) (by
      intro k; rw [sR_ap, if_neg (by omega), zR_ap, if_neg (by omega)]; exact h3 k)
    refine ⟨R2, M2, ?_, fun o => ?_, fun o => ?_, fun o => ?_⟩
    · rw [fX5_init_94]
      refine if_ni (show ¬ nI 10 ≤ nI i from nI_ge hc (by decide)) ?_
      refine gd_i ⟨h8, by omega⟩ ?_
      refine gd_i ⟨k0, by omega, by omega⟩ ?_
      refine lt_i (lt_i (lt_i (lt_i ?_)))
      refine gd_i ⟨by omega, by omega⟩ ?_
      refine bn2_i (m_X4 _ _ _ _ _) ?_
      refine lt_i (lt_i ?_)
      refine gd_i (ix_nI hc (by decide)) ?_
      refine lt_i (lt_i ?_)
      rw [nI_clamp (by omega), nI_1]
      exact e2
    · rw [r2]
      by_cases e0 : o = a + 2
      · subst e0
        rw [if_pos rfl, if_pos rfl]
        have hx : ∀ k, sR (zR R (a + 8 + i)) (a + 2) i (some (a + 8 + i)) (a + 2) k = if k = i then some (a + 8 + i) else R (a + 2) k := by
          intro k
          have hy : zR R (a + 8 + i) (a + 2) = R (a + 2) := by rw [zR_ap, if_neg (by omega)]
          rw [sR_ap, if_pos rfl, hy]
        funext k
        rw [hx]
        by_cases q : k = i
        · subst q
          rw [if_neg (by omega), if_pos rfl, if_pos (by omega)]
        · rw [if_neg q]
          by_cases q2 : i + 1 ≤ k ∧ k < 10
          · rw [if_pos q2, if_pos (by omega)]
          · rw [if_neg q2, if_neg (by omega)]
      · rw [if_neg e0, if_neg e0, sR_ap, if_neg e0, zR_ap]
        by_cases q : o = a + 3 ∨ (a + 8 + (i + 1) ≤ o ∧ o < a + 66)
        · rw [if_pos q, if_pos (by omega)]
        · rw [if_neg q]
          by_cases q1 : o = a + 8 + i
          · subst q1
            rw [if_pos rfl, if_pos (by omega), show a + 8 + i = a + (8 + i) by omega, kR_none ha (by omega) (by omega) (by omega) (by omega) (by omega)]
          · rw [if_neg q1, if_neg (by omega)]
    · rw [m2, zM_ap1]
      by_cases q : a + 8 + (i + 1) ≤ o ∧ o < a + 66
      · rw [if_pos q, if_pos (by omega)]
      · rw [if_neg q]
        by_cases q1 : o = a + 8 + i
        · rw [if_pos q1, if_pos (by omega)]
        · rw [if_neg q1, if_neg (by omega)]
    · rw [l2, zM_ap2]
      by_cases q : a + 8 + (i + 1) ≤ o ∧ o < a + 66
      · rw [if_pos q, if_pos (by omega)]
      · rw [if_neg q]
        by_cases q1 : o = a + 8 + i
        · rw [if_pos q1, if_pos (by omega)]
        · rw [if_neg q1, if_neg (by omega)]
set_option maxHeartbeats 1000000 in
theorem m_69 {a NB ZB : Nat} (ha : kT a = (4, 0)) (hN : NB = a + 66) : ∀ (d i n Z : Nat) (R : mm_R) (M : mm_M), i + d = 10 → d < n → ZB = Z + 3576 → R a 7 = some (a + 1) → R a 8 = some (a + 2) → R a 9 = some (a + 3) → (∀ k, R (a + 2) k = none) → (∀ k, R (a + 3) k = none) → ∃ R' M', fX5_init_69 a NB ZB n R (a + 8) Z M (nI i) = some (R', M') ∧ (∀ o, R' o = if o = a + 2 ∨ o = a + 3 ∨ (a + 8 ≤ o ∧ o < a + 66) then kR o else R o) ∧ (∀ o, M'.1 o = if o = a + 1 then (fun k => if i ≤ k ∧ k < 10 then mm_f0 k else M.1 o k) else if a + 8 ≤ o ∧ o < a + 66 then (fun _ => 0) else M.1 o) ∧ (∀ o, M'.2 o = if a + 8 ≤ o ∧ o < a + 66 then (fun _ => 0) else M.2 o) := by
  intro d
  induction d with
  | zero =>
    intro i n Z R M hi hn hZ h7 h8 h9 h2 h3
    obtain ⟨n, rfl⟩ : ∃ q, n = q + 1 := ⟨n - 1, by omega⟩
    have e : i = 10 := by omega
    subst e
    obtain ⟨R2, M2, e2, r2, m2, l2⟩ := m_94 (ZB := ZB) ha hN 10 0 FU Z R M rfl (by decide) (by omega) h8 h9 h3
    refine ⟨R2, M2, ?_, fun o => ?_, fun o => ?_, fun o => ?_⟩
    · rw [fX5_init_69]
      exact if_pi (show (10 : Int32) ≤ nI 10 by decide) e2
    · rw [r2]
      by_cases e0 : o = a + 2
      · subst e0
        rw [if_pos rfl, if_pos (Or.inl rfl), kR_2 ha]
        funext k
        by_cases q : k < 10
        · rw [if_pos (by omega), if_pos q]
        · rw [if_neg (by omega), if_neg q, h2]
      · rw [if_neg e0]
        by_cases q : o = a + 3 ∨ (a + 8 ≤ o ∧ o < a + 66)
        · rw [if_pos (by omega), if_pos (by omega)]
        · rw [if_neg (by omega), if_neg (by omega)]
    · rw [m2]
      by_cases e1 : o = a + 1
      · rw [if_pos e1, if_neg (by omega)]
        funext k
        rw [if_neg (by omega)]
      · rw [if_neg e1]
    · rw [l2]
  | succ d ih =>
    intro i n Z R M hi hn hZ h7 h8 h9 h2 h3
    obtain ⟨n, rfl⟩ : ∃ q, n = q + 1 := ⟨n - 1, by omega⟩
    have hc : i < 10 := by omega
    obtain ⟨R2, M2, e2, r2, m2, l2⟩ := ih (i + 1) n Z R (sI M (a + 1) i (mm_f0 i)) (by omega) (by omega) hZ h7 h8 h9 h2 h3
    refine ⟨R2, M2, ?_, r2, fun o => ?_, l2⟩
    · rw [fX5_init_69]
      refine if_ni (show ¬ nI 10 ≤ nI i from nI_ge hc (by decide)) ?_
      refine gd_i ⟨h7, by omega⟩ ?_
      refine gd_i (ix_nI hc (by decide)) ?_
      refine lt_i (lt_i ?_)
      rw [nI_clamp (by omega), nI_1]
      exact e2
    · rw [m2, sI_ap1]
      by_cases e1 : o = a + 1
      · rw [if_pos e1, if_pos e1, if_pos e1]
        funext k
        by_cases q : k = i
        · subst q
          rw [if_neg (by omega), if_pos rfl, if_pos (by omega)]
        · rw [if_neg q]
          by_cases q2 : i + 1 ≤ k ∧ k < 10
          · rw [if_pos q2, if_pos (by omega)]
          · rw [if_neg q2, if_neg (by omega)]
      · rw [if_neg e1, if_neg e1, if_neg e1]
end
section
/-! a State, a History, a Pad, the class, the model: what they are when made -/
theorem stp_ap (R : mm_R) {a N : Nat} (k : Nat) (h : N ≠ a) (o : Nat) : sR (zR R N) a k (some N) o = if o = N then (fun _ => none) else if o = a then (fun k' => if k' = k then some N else R a k') else R o := by
  rw [sR_ap, zR_ap]
  by_cases e : o = a
  · subst e
    rw [if_pos rfl, if_neg (Ne.symm h), if_neg (Ne.symm h), if_pos rfl]
  · rw [if_neg e, if_neg e]
def made7 (R : mm_R) (a : Nat) : mm_R := sR (zR (sR (zR (sR (zR (sR (zR (sR (zR (sR (zR (sR (zR R (a + 1)) a 7 (some (a + 1))) (a + 2)) a 8 (some (a + 2))) (a + 3)) a 9 (some (a + 3))) (a + 4)) a 10 (some (a + 4))) (a + 5)) a 11 (some (a + 5))) (a + 6)) a 12 (some (a + 6))) (a + 7)) a 13 (some (a + 7))
theorem made7_o (R : mm_R) (a o : Nat) (h : o < a ∨ a + 8 ≤ o) : made7 R a o = R o := by
  unfold made7
  rw [stp_ap _ _ (by omega), if_neg (by omega), if_neg (by omega), stp_ap _ _ (by omega), if_neg (by omega), if_neg (by omega), stp_ap _ _ (by omega), if_neg (by omega), if_neg (by omega), stp_ap _ _ (by omega), if_neg (by omega), if_neg (by omega), stp_ap _ _ (by omega), if_neg (by omega), if_neg (by omega), stp_ap _ _ (by omega), if_neg (by omega), if_neg (by omega), stp_ap _ _ (by omega), if_neg (by omega), if_neg (by omega)]
theorem made7_n (R : mm_R) (a o : Nat) (h : a < o ∧ o < a + 8) : made7 R a o = fun _ => none := by
  unfold made7
  rw [stp_ap _ _ (by omega)]
  refine fn_if (fun _ => rfl) (fun h7 => ?_)
  rw [if_neg (by omega), stp_ap _ _ (by omega)]
  refine fn_if (fun _ => rfl) (fun h6 => ?_)
  rw [if_neg (by omega), stp_ap _ _ (by omega)]
  refine fn_if (fun _ => rfl) (fun h5 => ?_)
  rw [if_neg (by omega), stp_ap _ _ (by omega)]
  refine fn_if (fun _ => rfl) (fun h4 => ?_)
  rw [if_neg (by omega), stp_ap _ _ (by omega)]
  refine fn_if (fun _ => rfl) (fun h3 => ?_)
  rw [if_neg (by omega), stp_ap _ _ (by omega)]
  refine fn_if (fun _ => rfl) (fun h2 => ?_)
  rw [if_neg (by omega), stp_ap _ _ (by omega), if_pos (by omega)]
theorem stp_a (R : mm_R) {a N : Nat} (k : Nat) (h : N ≠ a) : sR (zR R N) a k (some N) a = fun k' => if k' = k then some N else R a k' := by
  rw [stp_ap R k h, if_neg (Ne.symm h), if_pos rfl]
theorem made7_a (R : mm_R) (a : Nat) (h : R a = fun _ => none) : made7 R a a = fun k => if 7 ≤ k ∧ k ≤ 13 then some (a + (k - 6)) else none := by
  unfold made7
  rw [stp_a _ _ (by omega), stp_a _ _ (by omega), stp_a _ _ (by omega), stp_a _ _ (by omega), stp_a _ _ (by omega), stp_a _ _ (by omega), stp_a _ _ (by omega), h]
  funext k
  by_cases e : 7 ≤ k ∧ k ≤ 13
  · rw [if_pos e]
    obtain ⟨j, hj, rfl⟩ : ∃ j, j < 7 ∧ k = 7 + j := ⟨k - 7, by omega, by omega⟩
    match j, hj with
    | 0, _ => rfl
    | 1, _ => rfl
    | 2, _ => rfl
    | 3, _ => rfl
    | 4, _ => rfl
    | 5, _ => rfl
    | 6, _ => rfl
    | j + 7, h => exact absurd h (by omega)
  · rw [if_neg e]
    dsimp only
    rw [if_neg (by omega), if_neg (by omega), if_neg (by omega), if_neg (by omega), if_neg (by omega), if_neg (by omega), if_neg (by omega)]
def madeM (M : mm_M) (a : Nat) : mm_M := zM (zM (zM (zM (zM (zM (zM (sI M a 1 1) (a + 1)) (a + 2)) (a + 3)) (a + 4)) (a + 5)) (a + 6)) (a + 7)
theorem madeM_1 (M : mm_M) (a o : Nat) : (madeM M a).1 o = if a < o ∧ o < a + 8 then (fun _ => 0) else if o = a then (fun k => if k = 1 then 1 else M.1 a k) else M.1 o := by
  unfold madeM
  simp only [zM_ap1, sI_ap1]
  by_cases h : a < o ∧ o < a + 8
  · rw [if_pos h]
    refine fn_if (fun _ => rfl) (fun h7 => fn_if (fun _ => rfl) (fun h6 => fn_if (fun _ => rfl) (fun h5 => fn_if (fun _ => rfl) (fun h4 => fn_if (fun _ => rfl) (fun h3 => fn_if (fun _ => rfl) (fun h2 => fn_if (fun _ => rfl) (fun h1 => absurd h (by omega))))))))
  · rw [if_neg h, if_neg (by omega), if_neg (by omega), if_neg (by omega), if_neg (by omega), if_neg (by omega), if_neg (by omega), if_neg (by omega)]
    by_cases e : o = a
    · subst e; rw [if_pos rfl]
    · rw [if_neg e, if_neg e]
theorem madeM_2 (M : mm_M) (a o : Nat) : (madeM M a).2 o = if a < o ∧ o < a + 8 then (fun _ => 0) else M.2 o := by
  unfold madeM
  simp only [zM_ap2, sI_ap2]
  by_cases h : a < o ∧ o < a + 8
  · rw [if_pos h]
    refine fn_if (fun _ => rfl) (fun h7 => fn_if (fun _ => rfl) (fun h6 => fn_if (fun _ => rfl) (fun h5 => fn_if (fun _ => rfl) (fun h4 => fn_if (fun _ => rfl) (fun h3 => fn_if (fun _ => rfl) (fun h2 => fn_if (fun _ => rfl) (fun h1 => absurd h (by omega))))))))
  · rw [if_neg h, if_neg (by omega), if_neg (by omega), if_neg (by omega), if_neg (by omega), if_neg (by omega), if_neg (by omega), if_neg (by omega)]
set_option maxHeartbeats 1000000 in
theorem m_X5 {a : Nat} (ha : kT a = (4, 0)) (R : mm_R) (Z : Nat) (M : mm_M) (hR : R a = fun _ => none) (hM1 : M.1 a = fun _ => 0) (hM2 : M.2 a = fun _ => 0) : ∃ R' M', fX5_init R (a + 1) Z M a (a + 1 + 65) (Z + 3660) = some (R', M') ∧ (∀ o, R' o = if a ≤ o ∧ o < a + 66 then kR o else R o) ∧ (∀ o, M'.1 o = if a ≤ o ∧ o < a + 66 then I_S a o else M.1 o) ∧ (∀ o, M'.2 o = if a ≤ o ∧ o < a + 66 then (fun _ => 0) else M.2 o) := by
  have ea := made7_a R a hR
  have n2 := made7_n R a (a + 2) (by omega)
  have n3 := made7_n R a (a + 3) (by omega)
  obtain ⟨R2, M2, e2, r2, m2, l2⟩ := m_69 (NB := a + 1 + 65) (ZB := Z + 3660) ha (by omega) 10 0 FU (Z + 10 + 10 + 16 + 8 + 8 + 16 + 16) (made7 R a) (madeM M a) rfl (by decide) (by omega) (by rw [ea]; rfl) (by rw [ea]; rfl) (by rw [ea]; rfl) (fun k => by rw [n2]) (fun k => by rw [n3])
  refine ⟨R2, M2, ?_, fun o => ?_, fun o => ?_, fun o => ?_⟩
  · unfold fX5_init
    refine lt_i ?_
    refine gd_i ⟨kS_7 ha, by omega, by omega⟩ (lt_i (lt_i (lt_i (lt_i (lt_i ?_)))))
    refine gd_i ⟨kS_8 ha, by omega, by omega⟩ (lt_i (lt_i (lt_i (lt_i (lt_i ?_)))))
    refine gd_i ⟨kS_9 ha, by omega, by omega⟩ (lt_i (lt_i (lt_i (lt_i (lt_i ?_)))))
    refine gd_i ⟨kS_10 ha, by omega, by omega⟩ (lt_i (lt_i (lt_i (lt_i (lt_i ?_)))))
    refine gd_i ⟨kS_11 ha, by omega, by omega⟩ (lt_i (lt_i (lt_i (lt_i (lt_i ?_)))))
    refine gd_i ⟨kS_12 ha, by omega, by omega⟩ (lt_i (lt_i (lt_i (lt_i (lt_i ?_)))))
    refine gd_i ⟨kS_13 ha, by omega, by omega⟩ (lt_i (lt_i (lt_i (lt_i (lt_i ?_)))))
    exact e2
  · rw [r2]
    by_cases h : a ≤ o ∧ o < a + 66
    · rw [if_pos h]
      by_cases q : o = a + 2 ∨ o = a + 3 ∨ (a + 8 ≤ o ∧ o < a + 66)
      · rw [if_pos q]
      · rw [if_neg q]
        by_cases e : o = a
        · subst e; rw [ea, kR_0 ha]
        · rw [made7_n R a o (by omega)]
          obtain ⟨j, hj, ej⟩ : ∃ j, (j = 1 ∨ j = 4 ∨ j = 5 ∨ j = 6 ∨ j = 7) ∧ o = a + j := ⟨o - a, by omega, by omega⟩
          rw [ej, kR_none ha (by omega) (by omega) (by omega) (by omega) (by omega)]
    · rw [if_neg h, if_neg (by omega), made7_o R a o (by omega)]
  · rw [m2, madeM_1]
    by_cases h : a ≤ o ∧ o < a + 66
    · rw [if_pos h]
      funext k
      unfold I_S
      by_cases e1 : o = a + 1
      · rw [if_pos e1]
        by_cases q : k < 10
        · rw [if_pos (show 0 ≤ k ∧ k < 10 from ⟨Nat.zero_le _, q⟩), if_neg (show ¬ o = a by omega), if_pos e1, if_pos q]
        · rw [if_neg (show ¬ (0 ≤ k ∧ k < 10) from fun z => q z.2), if_pos (show a < o ∧ o < a + 8 by omega), if_neg (show ¬ o = a by omega), if_pos e1, if_neg q]
      · rw [if_neg e1]
        by_cases e2 : o = a
        · rw [if_neg (by omega), if_neg (by omega), if_pos e2, if_pos e2, hM1]
        · rw [if_neg e2, if_neg e1]
          by_cases q : a + 8 ≤ o ∧ o < a + 66
          · rw [if_pos q, if_neg e2]
          · rw [if_neg q, if_pos (by omega), if_neg e2]
    · rw [if_neg h, if_neg (by omega), if_neg (by omega), if_neg (by omega), if_neg (by omega)]
  · rw [l2, madeM_2]
    by_cases h : a ≤ o ∧ o < a + 66
    · rw [if_pos h]
      refine fn_if (fun _ => rfl) (fun q => fn_if (fun _ => rfl) (fun q2 => ?_))
      rw [show o = a by omega, hM2]
    · rw [if_neg h, if_neg (by omega), if_neg (by omega)]
-- seven States in a row
set_option maxHeartbeats 1000000 in
theorem m_15 {NB ZB : Nat} (hN : NB = 597) : ∀ (d i n Z : Nat) (R : mm_R) (M : mm_M), i + d = 7 → d < n → ZB = Z + 3675 * d → R 133 0 = some 134 → ∃ R' M', fX2_init_15 133 NB ZB n R (135 + 66 * i) Z M (nI i) = some (R', M') ∧ (∀ o, R' o = if o = 134 then (fun k => if i ≤ k ∧ k < 7 then some (135 + 66 * k) else R o k) else if 135 + 66 * i ≤ o ∧ o < 597 then kR o else R o) ∧ (∀ o, M'.1 o = if 135 + 66 * i ≤ o ∧ o < 597 then I_S (135 + 66 * ((o - 135) / 66)) o else M.1 o) ∧ (∀ o, M'.2 o = if 135 + 66 * i ≤ o ∧ o < 597 then (fun _ => 0) else M.2 o) := by
  intro d
  induction d with
  | zero =>
    intro i n Z R M hi hn hZ h0
    obtain ⟨n, rfl⟩ : ∃ q, n = q + 1 := ⟨n - 1, by omega⟩
    have e : i = 7 := by omega
    subst e
    refine ⟨R, M, ?_, fun o => ?_, fun o => ?_, fun o => ?_⟩
    · rw [fX2_init_15]
      exact if_pi (show (7 : Int32) ≤ nI 7 by decide) (gd_i ⟨by omega, by omega⟩ rfl)
    · by_cases e0 : o = 134
      · rw [if_pos e0]; funext k; rw [if_neg (by omega)]
      · rw [if_neg e0, if_neg (by omega)]
    · rw [if_neg (by omega)]
    · rw [if_neg (by omega)]
  | succ d ih =>
    intro i n Z R M hi hn hZ h0
    obtain ⟨n, rfl⟩ : ∃ q, n = q + 1 := ⟨n - 1, by omega⟩
    have hc : i < 7 := by omega
    have k0 := kH_row hc
    obtain ⟨a, ea⟩ : ∃ a, a = 135 + 66 * i := ⟨_, rfl⟩
    rw [← ea] at k0
    obtain ⟨R1, M1, e1, r1, m1, l1⟩ := m_X5 k0 (zR R a) (Z + 15) (zM M a) (by rw [zR_ap, if_pos rfl]) (by rw [zM_ap1, if_pos rfl]) (by rw [zM_ap2, if_pos rfl])
    obtain ⟨R2, M2, e2, r2, m2, l2⟩ := ih (i + 1) n (Z + 15 + 3660) (sR R1 134 i (some a)) M1 (by omega) (by omega) (by omega) (by
      rw [sR_ap, if_neg (by omega), r1, if_neg (by omega), zR_ap, if_neg (by omega)]; exact h0)
    have en : 135 + 66 * (i + 1) = a + 1 + 65 := by omega
    rw [en] at e2
    refine ⟨R2, M2, ?_, fun o => ?_, fun o => ?_, fun o => ?_⟩
    · rw [← ea, fX2_init_15]
      refine if_ni (show ¬ nI 7 ≤ nI i from nI_ge hc (by decide)) ?_
      refine gd_i ⟨h0, by omega⟩ ?_
      refine gd_i ⟨k0, by omega, by omega⟩ ?_
      refine lt_i (lt_i (lt_i (lt_i ?_)))
      refine gd_i ⟨by omega, by omega⟩ ?_
      refine bn2_i e1 ?_
      refine lt_i (lt_i ?_)
      refine gd_i (ix_nI hc (by decide)) ?_
      refine lt_i (lt_i ?_)
      rw [nI_clamp (by omega), nI_1]
      exact e2
    · rw [r2]
      by_cases e0 : o = 134
      · subst e0
        rw [if_pos rfl, if_pos rfl]
        have hx : ∀ k, sR R1 134 i (some a) 134 k = if k = i then some a else R 134 k := by
          intro k
          have hy : R1 134 = R 134 := by rw [r1, if_neg (by omega), zR_ap, if_neg (by omega)]
          rw [sR_ap, if_pos rfl, hy]
        funext k
        rw [hx]
        by_cases q : k = i
        · subst q
          rw [if_neg (by omega), if_pos rfl, if_pos (by omega), ea]
        · rw [if_neg q]
          by_cases q2 : i + 1 ≤ k ∧ k < 7
          · rw [if_pos q2, if_pos (by omega)]
          · rw [if_neg q2, if_neg (by omega)]
      · rw [if_neg e0, if_neg e0, sR_ap, if_neg e0, r1, zR_ap]
        by_cases q : 135 + 66 * (i + 1) ≤ o ∧ o < 597
        · rw [if_pos q, if_pos (by omega)]
        · rw [if_neg q]
          by_cases q1 : a ≤ o ∧ o < a + 66
          · rw [if_pos q1, if_pos (by omega)]
          · rw [if_neg q1, if_neg (by omega), if_neg (by omega)]
    · rw [m2, m1, zM_ap1]
      by_cases q : 135 + 66 * (i + 1) ≤ o ∧ o < 597
      · rw [if_pos q, if_pos (by omega)]
      · rw [if_neg q]
        by_cases q1 : a ≤ o ∧ o < a + 66
        · rw [if_pos q1, if_pos (by omega), show 135 + 66 * ((o - 135) / 66) = a by omega]
        · rw [if_neg q1, if_neg (by omega), if_neg (by omega)]
    · rw [l2, l1, zM_ap2]
      by_cases q : 135 + 66 * (i + 1) ≤ o ∧ o < 597
      · rw [if_pos q, if_pos (by omega)]
      · rw [if_neg q]
        by_cases q1 : a ≤ o ∧ o < a + 66
        · rw [if_pos q1, if_pos (by omega)]
        · rw [if_neg q1, if_neg (by omega), if_neg (by omega)]
end
section
/-! the whole object, and the model: as they are at the law's loop -/
theorem m_new {a : Nat} (ha : kT a = (4, 0)) (R : mm_R) (Z : Nat) (M : mm_M) : ∃ R' M', fX5_init (zR R a) (a + 1) Z (zM M a) a (a + 1 + 65) (Z + 3660) = some (R', M') ∧ (∀ o, R' o = if a ≤ o ∧ o < a + 66 then kR o else R o) ∧ (∀ o, M'.1 o = if a ≤ o ∧ o < a + 66 then I_S a o else M.1 o) ∧ (∀ o, M'.2 o = if a ≤ o ∧ o < a + 66 then (fun _ => 0) else M.2 o) := by
  obtain ⟨R', M', e, r, m, l⟩ := m_X5 ha (zR R a) Z (zM M a) (by rw [zR_ap, if_pos rfl]) (by rw [zM_ap1, if_pos rfl]) (by rw [zM_ap2, if_pos rfl])
  refine ⟨R', M', e, fun o => ?_, fun o => ?_, fun o => ?_⟩
  · rw [r, zR_ap]
    by_cases h : a ≤ o ∧ o < a + 66
    · rw [if_pos h, if_pos h]
    · rw [if_neg h, if_neg h, if_neg (by omega)]
  · rw [m, zM_ap1]
    by_cases h : a ≤ o ∧ o < a + 66
    · rw [if_pos h, if_pos h]
    · rw [if_neg h, if_neg h, if_neg (by omega)]
  · rw [l, zM_ap2]
    by_cases h : a ≤ o ∧ o < a + 66
    · rw [if_pos h, if_pos h]
    · rw [if_neg h, if_neg h, if_neg (by omega)]
theorem m_X2 (R : mm_R) (Z : Nat) (M : mm_M) (hR : R 133 = fun _ => none) : ∃ R' M', fX2_init R 134 Z M 133 (134 + 463) (Z + 25732) = some (R', M') ∧ (∀ o, R' o = if 133 ≤ o ∧ o < 597 then kR o else R o) ∧ (∀ o, M'.1 o = if 135 ≤ o ∧ o < 597 then I_S (135 + 66 * ((o - 135) / 66)) o else if o = 134 then (fun _ => 0) else M.1 o) ∧ (∀ o, M'.2 o = if 134 ≤ o ∧ o < 597 then (fun _ => 0) else M.2 o) := by
  obtain ⟨R2, M2, e2, r2, m2, l2⟩ := m_15 (NB := 134 + 463) (ZB := Z + 25732) rfl 7 0 FU (Z + 7) (sR (zR R 134) 133 0 (some 134)) (zM M 134) rfl (by decide) (by omega) (by rw [sR_ap, if_pos rfl]; rfl)
  refine ⟨R2, M2, ?_, fun o => ?_, fun o => ?_, fun o => ?_⟩
  · unfold fX2_init
    exact gd_i ⟨rfl, by omega, by omega⟩ (lt_i (lt_i (lt_i (lt_i (lt_i e2)))))
  · rw [r2]
    by_cases e : o = 134
    · subst e
      rw [if_pos rfl, if_pos (by omega)]
      have h1 : sR (zR R 134) 133 0 (some 134) 134 = fun _ => none := by rw [sR_ap, if_neg (by omega), zR_ap, if_pos rfl]
      funext k
      rw [h1]
      show _ = if k < 7 then some (135 + 66 * k) else none
      by_cases q : k < 7
      · rw [if_pos (by omega), if_pos q]
      · rw [if_neg (by omega), if_neg q]
    · rw [if_neg e]
      by_cases q : 135 ≤ o ∧ o < 597
      · rw [if_pos (by omega), if_pos (by omega)]
      · rw [if_neg (by omega), sR_ap]
        by_cases q2 : o = 133
        · subst q2
          have h1 : zR R 134 133 = fun _ => none := by rw [zR_ap, if_neg (by omega), hR]
          rw [if_pos rfl, h1, if_pos (show 133 ≤ 133 ∧ 133 < 597 by omega)]
          rfl
        · rw [if_neg q2, zR_ap, if_neg e, if_neg (by omega)]
  · rw [m2, zM_ap1]
  · rw [l2, zM_ap2]
    by_cases q : 134 ≤ o ∧ o < 597
    · rw [if_pos q]
      exact fn_if (fun _ => rfl) (fun q1 => by rw [if_pos (by omega)])
    · rw [if_neg q, if_neg (by omega), if_neg (by omega)]
theorem m_X3 (R : mm_R) (Z : Nat) (M : mm_M) (hR : R 729 = fun _ => none) : ∃ R' M', fX3_init R 730 Z M 729 (730 + 1) (Z + 80) = some (R', M') ∧ (∀ o, R' o = if o = 729 ∨ o = 730 then kR o else R o) ∧ (∀ o, M'.1 o = if o = 730 then (fun _ => 0) else M.1 o) ∧ (∀ o, M'.2 o = if o = 730 then (fun _ => 0) else M.2 o) := by
  refine ⟨sR (zR R 730) 729 0 (some 730), zM M 730, ?_, fun o => ?_, fun o => ?_, fun o => ?_⟩
  · unfold fX3_init
    exact gd_i ⟨rfl, by omega, by omega⟩ (lt_i (lt_i (lt_i (lt_i (lt_i (gd_i ⟨rfl, rfl⟩ rfl))))))
  · rw [stp_ap R 0 (by omega)]
    by_cases e : o = 730
    · subst e; rw [if_pos rfl, if_pos (Or.inr rfl)]; rfl
    · rw [if_neg e]
      by_cases e2 : o = 729
      · subst e2; rw [if_pos rfl, if_pos (Or.inl rfl), hR]; rfl
      · rw [if_neg e2, if_neg (by omega)]
  · exact zM_ap1 M 730 o
  · exact zM_ap2 M 730 o
end
section
/-- the whole object's ints when it is made; then the model's row -/
def J_X (o : Nat) : Nat → Int32 := if 1 ≤ o ∧ o < 133 then I_S (1 + 66 * ((o - 1) / 66)) o else if 135 ≤ o ∧ o < 729 then I_S (135 + 66 * ((o - 135) / 66)) o else fun _ => 0
set_option maxHeartbeats 4000000 in
theorem m_X6 : ∃ R' M', fX6_init (zR R_0 0) 1 0 (zM M_0 0) (1 + 730) (0 + 40517) = some (R', M') ∧ (∀ o, o < 731 → R' o = kR o) ∧ (∀ o, M'.1 o = J_X o) ∧ (∀ o, M'.2 o = fun _ => 0) := by
  obtain ⟨R1, M1, e1, r1, m1, l1⟩ := m_new (a := 1) rfl (zR R_0 0) (0 + 15) (zM M_0 0)
  obtain ⟨R2, M2, e2, r2, m2, l2⟩ := m_new (a := 67) rfl (sR R1 0 0 (some 1)) (0 + 15 + 3660 + 15) M1
  obtain ⟨R3, M3, e3, r3, m3, l3⟩ := m_X2 (zR (sR R2 0 1 (some 67)) 133) (0 + 15 + 3660 + 15 + 3660 + 3) (zM M2 133) (by rw [zR_ap, if_pos rfl])
  obtain ⟨R4, M4, e4, r4, m4, l4⟩ := m_new (a := 597) rfl (sR R3 0 2 (some 133)) (0 + 15 + 3660 + 15 + 3660 + 3 + 25732 + 15) M3
  obtain ⟨R5, M5, e5, r5, m5, l5⟩ := m_new (a := 663) rfl (sR R4 0 3 (some 597)) (0 + 15 + 3660 + 15 + 3660 + 3 + 25732 + 15 + 3660 + 15) M4
  obtain ⟨R6, M6, e6, r6, m6, l6⟩ := m_X3 (zR (sR R5 0 4 (some 663)) 729) (0 + 15 + 3660 + 15 + 3660 + 3 + 25732 + 15 + 3660 + 15 + 3660 + 2) (zM M5 729) (by rw [zR_ap, if_pos rfl])
  refine ⟨sR R6 0 5 (some 729), M6, ?_, fun o ho => ?_, fun o => ?_, fun o => ?_⟩
  · unfold fX6_init
    refine gd_i ⟨rfl, by omega, by omega⟩ (lt_i (lt_i (lt_i (lt_i (gd_i ⟨by omega, by omega⟩ (bn2_i e1 (lt_i (lt_i (lt_i ?_)))))))))
    refine gd_i ⟨rfl, by omega, by omega⟩ (lt_i (lt_i (lt_i (lt_i (gd_i ⟨by omega, by omega⟩ (bn2_i e2 (lt_i (lt_i (lt_i ?_)))))))))
    refine gd_i ⟨rfl, by omega, by omega⟩ (lt_i (lt_i (lt_i (lt_i (gd_i ⟨by omega, by omega⟩ (bn2_i e3 (lt_i (lt_i (lt_i ?_)))))))))
    refine gd_i ⟨rfl, by omega, by omega⟩ (lt_i (lt_i (lt_i (lt_i (gd_i ⟨by omega, by omega⟩ (bn2_i e4 (lt_i (lt_i (lt_i ?_)))))))))
    refine gd_i ⟨rfl, by omega, by omega⟩ (lt_i (lt_i (lt_i (lt_i (gd_i ⟨by omega, by omega⟩ (bn2_i e5 (lt_i (lt_i (lt_i ?_)))))))))
    refine gd_i ⟨rfl, by omega, by omega⟩ (lt_i (lt_i (lt_i (lt_i (gd_i ⟨by omega, by omega⟩ (bn2_i e6 (lt_i (lt_i (lt_i ?_)))))))))
    exact gd_i ⟨rfl, rfl⟩ rfl
  · by_cases h0 : o = 0
    · subst h0
      have z0 : zR R_0 0 0 = fun _ => none := by rw [zR_ap, if_pos rfl]
      have z1 : R1 0 = fun _ => none := by rw [r1, if_neg (by omega), z0]
      have z2 : R2 0 = fun k => if k = 0 then some 1 else none := by rw [r2, if_neg (by omega), sR_ap, if_pos rfl, z1]
      have z3 : R3 0 = fun k => if k = 1 then some 67 else if k = 0 then some 1 else none := by rw [r3, if_neg (by omega), zR_ap, if_neg (by omega), sR_ap, if_pos rfl, z2]
      have z4 : R4 0 = fun k => if k = 2 then some 133 else if k = 1 then some 67 else if k = 0 then some 1 else none := by rw [r4, if_neg (by omega), sR_ap, if_pos rfl, z3]
      have z5 : R5 0 = fun k => if k = 3 then some 597 else if k = 2 then some 133 else if k = 1 then some 67 else if k = 0 then some 1 else none := by rw [r5, if_neg (by omega), sR_ap, if_pos rfl, z4]
      have z6 : R6 0 = fun k => if k = 4 then some 663 else if k = 3 then some 597 else if k = 2 then some 133 else if k = 1 then some 67 else if k = 0 then some 1 else none := by rw [r6, if_neg (by omega), zR_ap, if_neg (by omega), sR_ap, if_pos rfl, z5]
      rw [sR_ap, if_pos rfl, z6]
      funext k
      show _ = if k = 0 then some 1 else if k = 1 then some 67 else if k = 2 then some 133 else if k = 3 then some 597 else if k = 4 then some 663 else if k = 5 then some 729 else none
      match k with
      | 0 => rfl
      | 1 => rfl
      | 2 => rfl
      | 3 => rfl
      | 4 => rfl
      | 5 => rfl
      | k + 6 => simp
    · rw [sR_ap, if_neg h0, r6]
      by_cases h6 : o = 729 ∨ o = 730
      · rw [if_pos h6]
      · rw [if_neg h6, zR_ap, if_neg (by omega), sR_ap, if_neg h0, r5]
        by_cases h5 : 663 ≤ o ∧ o < 663 + 66
        · rw [if_pos h5]
        · rw [if_neg h5, sR_ap, if_neg h0, r4]
          by_cases h4 : 597 ≤ o ∧ o < 597 + 66
          · rw [if_pos h4]
          · rw [if_neg h4, sR_ap, if_neg h0, r3]
            by_cases h3 : 133 ≤ o ∧ o < 597
            · rw [if_pos h3]
            · rw [if_neg h3, zR_ap, if_neg (by omega), sR_ap, if_neg h0, r2]
              by_cases h2 : 67 ≤ o ∧ o < 67 + 66
              · rw [if_pos h2]
              · rw [if_neg h2, sR_ap, if_neg h0, r1, if_pos (by omega)]
  · have a0 : ∀ o, M_0.1 o = fun _ => 0 := fun _ => rfl
    rw [m6, zM_ap1, m5, m4, m3, zM_ap1, m2, m1, zM_ap1, a0]
    unfold J_X
    by_cases h1 : 1 ≤ o ∧ o < 133
    · rw [if_neg (by omega), if_neg (by omega), if_neg (by omega), if_neg (by omega), if_neg (by omega), if_neg (by omega), if_neg (by omega), if_pos h1]
      by_cases h2 : 67 ≤ o ∧ o < 67 + 66
      · rw [if_pos h2, show 1 + 66 * ((o - 1) / 66) = 67 by omega]
      · rw [if_neg h2, if_pos (by omega), show 1 + 66 * ((o - 1) / 66) = 1 by omega]
    · rw [if_neg h1]
      by_cases h2 : 135 ≤ o ∧ o < 729
      · rw [if_neg (by omega), if_neg (by omega), if_pos h2]
        by_cases h3 : 663 ≤ o ∧ o < 663 + 66
        · rw [if_pos h3, show 135 + 66 * ((o - 135) / 66) = 663 by omega]
        · rw [if_neg h3]
          by_cases h4 : 597 ≤ o ∧ o < 597 + 66
          · rw [if_pos h4, show 135 + 66 * ((o - 135) / 66) = 597 by omega]
          · rw [if_neg h4, if_pos (by omega)]
      · rw [if_neg h2]
        refine fn_if (fun _ => rfl) (fun q1 => fn_if (fun _ => rfl) (fun q2 => ?_))
        rw [if_neg (by omega), if_neg (by omega), if_neg (by omega)]
        refine fn_if (fun _ => rfl) (fun q3 => fn_if (fun _ => rfl) (fun q4 => ?_))
        rw [if_neg (by omega), if_neg (by omega)]
        exact fn_if (fun _ => rfl) (fun _ => rfl)
  · have a0 : ∀ o, M_0.2 o = fun _ => 0 := fun _ => rfl
    rw [l6, zM_ap2, l5, l4, l3, zM_ap2, l2, l1, zM_ap2, a0]
    exact fn_if (fun _ => rfl) (fun _ => fn_if (fun _ => rfl) (fun _ => fn_if (fun _ => rfl) (fun _ => fn_if (fun _ => rfl) (fun _ => fn_if (fun _ => rfl) (fun _ => fn_if (fun _ => rfl) (fun _ => fn_if (fun _ => rfl) (fun _ => fn_if (fun _ => rfl) (fun _ => fn_if (fun _ => rfl) (fun _ => rfl)))))))))
def at_0 (k : Nat) : Int32 := if k = 11 then 1 else if k = 9 then 200 else if k = 8 then 11 else if k = 7 then 2 else if k = 6 then 500 else if k = 5 then 90 else if k = 4 then 14 else if k = 3 then 12 else if k = 2 then 2 else if k = 1 then 60 else if k = 0 then 8 else 0
def J_0 (o : Nat) : Nat → Int32 := if o = 732 then at_0 else J_X o
set_option maxHeartbeats 4000000 in
theorem m_X7 (R : mm_R) (M : mm_M) (hR : ∀ o, o < 731 → R o = kR o) (hM1 : ∀ o, M.1 o = J_X o) (hM2 : ∀ o, M.2 o = fun _ => 0) : ∃ R' M', fX7_init (zR R 731) 732 0 (zM M 731) (732 + 8) (0 + 36147) = some (R', M') ∧ (∀ o, o < 740 → R' o = kR o) ∧ (∀ o, M'.1 o = J_0 o) ∧ (∀ o, M'.2 o = fun _ => 0) := by
  obtain ⟨Ra, ha⟩ : ∃ Ra, Ra = sR (zR (sR (zR (sR (zR (sR (zR (sR (zR (sR (zR (sR (zR (sR (zR (zR R 731) 732) 731 0 (some 732)) 733) 731 1 (some 733)) 734) 731 3 (some 734)) 735) 731 4 (some 735)) 736) 731 5 (some 736)) 737) 731 6 (some 737)) 738) 731 13 (some 738)) 739) 731 14 (some 739) := ⟨_, rfl⟩
  obtain ⟨Ma, hMa⟩ : ∃ Ma, Ma = zM (zM (zM (zM (zM (zM (zM (zM (zM M 731) 732) 733) 734) 735) 736) 737) 738) 739 := ⟨_, rfl⟩
  have z0 : zR R 731 731 = fun _ => none := by rw [zR_ap, if_pos rfl]
  have hRa : Ra 731 = kR 731 := by
    rw [ha, stp_a _ _ (by omega), stp_a _ _ (by omega), stp_a _ _ (by omega), stp_a _ _ (by omega), stp_a _ _ (by omega), stp_a _ _ (by omega), stp_a _ _ (by omega), stp_a _ _ (by omega), z0]
    funext k
    show _ = if k = 0 then some 732 else if k = 1 then some 733 else if k = 3 then some 734 else if k = 4 then some 735 else if k = 5 then some 736 else if k = 6 then some 737 else if k = 13 then some 738 else if k = 14 then some 739 else none
    match k with
    | 0 => rfl
    | 1 => rfl
    | 2 => rfl
    | 3 => rfl
    | 4 => rfl
    | 5 => rfl
    | 6 => rfl
    | 7 => rfl
    | 8 => rfl
    | 9 => rfl
    | 10 => rfl
    | 11 => rfl
    | 12 => rfl
    | 13 => rfl
    | 14 => rfl
    | k + 15 => simp
  have g0 : Ra 731 0 = some 732 ∧ 732 < 740 := ⟨by rw [hRa]; rfl, by omega⟩
  refine ⟨Ra, sI (sI (sI (sI (sI (sI (sI (sI (sI (sI (sI Ma 732 0 8) 732 1 60) 732 2 2) 732 3 12) 732 4 14) 732 5 90) 732 6 500) 732 7 2) 732 8 11) 732 9 200) 732 11 1, ?_, fun o ho => ?_, fun o => ?_, fun o => ?_⟩
  · subst ha
    subst hMa
    unfold fX7_init
    refine gd_i ⟨rfl, by omega, by omega⟩ (lt_i (lt_i (lt_i (lt_i (lt_i ?_)))))
    refine gd_i ⟨rfl, by omega, by omega⟩ (lt_i (lt_i (lt_i (lt_i (lt_i ?_)))))
    refine gd_i ⟨rfl, by omega, by omega⟩ (lt_i (lt_i (lt_i (lt_i (lt_i ?_)))))
    refine gd_i ⟨rfl, by omega, by omega⟩ (lt_i (lt_i (lt_i (lt_i (lt_i ?_)))))
    refine gd_i ⟨rfl, by omega, by omega⟩ (lt_i (lt_i (lt_i (lt_i (lt_i ?_)))))
    refine gd_i ⟨rfl, by omega, by omega⟩ (lt_i (lt_i (lt_i (lt_i (lt_i ?_)))))
    refine gd_i ⟨rfl, by omega, by omega⟩ (lt_i (lt_i (lt_i (lt_i (lt_i ?_)))))
    refine gd_i ⟨rfl, by omega, by omega⟩ (lt_i (lt_i (lt_i (lt_i (lt_i ?_)))))
    refine gd_i g0 (lt_i (gd_i g0 (lt_i (gd_i g0 (lt_i (gd_i g0 (lt_i (gd_i g0 (lt_i (gd_i g0 (lt_i ?_)))))))))))
    refine gd_i g0 (lt_i (gd_i g0 (lt_i (gd_i g0 (lt_i (gd_i g0 (lt_i (gd_i g0 (lt_i ?_)))))))))
    exact gd_i ⟨rfl, rfl⟩ rfl
  · by_cases h0 : o = 731
    · subst h0; exact hRa
    · rw [ha]
      by_cases h1 : o < 731
      · rw [stp_ap _ _ (by omega), if_neg (by omega), if_neg h0, stp_ap _ _ (by omega), if_neg (by omega), if_neg h0, stp_ap _ _ (by omega), if_neg (by omega), if_neg h0, stp_ap _ _ (by omega), if_neg (by omega), if_neg h0, stp_ap _ _ (by omega), if_neg (by omega), if_neg h0, stp_ap _ _ (by omega), if_neg (by omega), if_neg h0, stp_ap _ _ (by omega), if_neg (by omega), if_neg h0, stp_ap _ _ (by omega), if_neg (by omega), if_neg h0, zR_ap, if_neg h0, hR o h1]
      · have hk : kR o = fun _ => none := by
          funext k
          unfold kR
          rw [if_neg (by omega), if_neg (by omega), if_neg (by omega), if_neg (by omega), if_neg (by omega), if_neg (by omega), if_neg h0]
        rw [hk, stp_ap _ _ (by omega)]
        refine fn_if (fun _ => rfl) (fun q1 => ?_)
        rw [if_neg h0, stp_ap _ _ (by omega)]
        refine fn_if (fun _ => rfl) (fun q1 => ?_)
        rw [if_neg h0, stp_ap _ _ (by omega)]
        refine fn_if (fun _ => rfl) (fun q1 => ?_)
        rw [if_neg h0, stp_ap _ _ (by omega)]
        refine fn_if (fun _ => rfl) (fun q1 => ?_)
        rw [if_neg h0, stp_ap _ _ (by omega)]
        refine fn_if (fun _ => rfl) (fun q1 => ?_)
        rw [if_neg h0, stp_ap _ _ (by omega)]
        refine fn_if (fun _ => rfl) (fun q1 => ?_)
        rw [if_neg h0, stp_ap _ _ (by omega)]
        refine fn_if (fun _ => rfl) (fun q1 => ?_)
        rw [if_neg h0, stp_ap _ _ (by omega), if_pos (by omega)]
  · have hJ : 731 ≤ o → J_X o = fun _ => 0 := by
      intro h
      unfold J_X
      rw [if_neg (by omega), if_neg (by omega)]
    simp only [sI_ap1]
    rw [hMa]
    simp only [zM_ap1]
    rw [hM1]
    unfold J_0
    by_cases h : o = 732
    · simp only [if_pos h, h]
      funext k
      simp [at_0]
    · simp only [if_neg h]
      by_cases h2 : 731 ≤ o
      · rw [hJ h2]
        simp
      · rw [if_neg (by omega), if_neg (by omega), if_neg (by omega), if_neg (by omega), if_neg (by omega), if_neg (by omega), if_neg (by omega), if_neg (by omega)]
  · simp only [sI_ap2]
    rw [hMa]
    simp only [zM_ap2]
    rw [hM2]
    simp
/-- the memory at the law's loop -/
def mm_0 : mm_M := (J_0, fun _ _ => 0)
theorem m_all : ∃ R1 R2 M1, fX6_init (zR R_0 0) 1 0 (zM M_0 0) (1 + 730) (0 + 40517) = some (R1, M1) ∧ fX7_init (zR R1 731) 732 0 (zM M1 731) (732 + 8) (0 + 36147) = some (R2, mm_0) ∧ ∀ o, o < 740 → R2 o = kR o := by
  obtain ⟨R1, M1, e1, r1, m1, l1⟩ := m_X6
  obtain ⟨R2, M2, e2, r2, m2, l2⟩ := m_X7 R1 M1 r1 m1 l1
  have e : M2 = mm_0 := Prod.ext (funext m2) (funext l2)
  subst e
  exact ⟨R1, R2, M1, e1, e2, r2⟩
end
