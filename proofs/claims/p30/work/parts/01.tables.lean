-- ===== PART A: goes FIRST, ahead of the names: the tables' words, and 'selects' of the private methods out of them =====
theorem mt_1 {w : Cond} {i : Nat} (h : tables_1_1[i]? = some w) : w ∈ tables_1 := List.mem_append_left _ (List.mem_of_getElem? h)
theorem mt_2 {w : Cond} {i : Nat} (h : tables_1_2[i]? = some w) : w ∈ tables_1 := List.mem_append_right _ (List.mem_append_left _ (List.mem_of_getElem? h))
theorem mt_3 {w : Cond} {i : Nat} (h : tables_1_3[i]? = some w) : w ∈ tables_1 := List.mem_append_right _ (List.mem_append_right _ (List.mem_append_left _ (List.mem_of_getElem? h)))
theorem mt_4 {w : Cond} {i : Nat} (h : tables_1_4[i]? = some w) : w ∈ tables_1 := List.mem_append_right _ (List.mem_append_right _ (List.mem_append_right _ (List.mem_append_left _ (List.mem_of_getElem? h))))
theorem mt_5 {w : Cond} {i : Nat} (h : tables_1_5[i]? = some w) : w ∈ tables_1 := List.mem_append_right _ (List.mem_append_right _ (List.mem_append_right _ (List.mem_append_right _ (List.mem_of_getElem? h))))
/-- a private method of a class that the tables say can be made, by its rows of tables_1 -/
def lw_okq (q : MethodName × Nat) : Prop := (q.1.cls ≠ "java/lang/invoke/MethodHandle" ∧ q.1.cls ≠ "java/lang/invoke/VarHandle") ∧ Cond.instantiable q.1.cls q.2 ∈ tables_1 ∧ Cond.privateMethod q.1 ∈ tables_1 ∧ Cond.instanceMethod q.1 ∈ tables_1
set_option maxRecDepth 100000 in
theorem lw_p0 : lw_okq (⟨"CartPitches", "recorded", "(I)I"⟩, 6) := ⟨⟨by decide +kernel, by decide +kernel⟩, mt_1 (i := 12) rfl, mt_2 (i := 71) rfl, mt_2 (i := 72) rfl⟩
set_option maxRecDepth 100000 in
theorem lw_p1 : lw_okq (⟨"CartPitches$State", "beginNextDay", "()V"⟩, 15) := ⟨⟨by decide +kernel, by decide +kernel⟩, mt_1 (i := 20) rfl, mt_3 (i := 31) rfl, mt_3 (i := 32) rfl⟩
set_option maxRecDepth 100000 in
theorem lw_p2 : lw_okq (⟨"CartPitches", "aboutCart", "(LCartPitches$Cart;I)I"⟩, 6) := ⟨⟨by decide +kernel, by decide +kernel⟩, mt_1 (i := 12) rfl, mt_3 (i := 44) rfl, mt_3 (i := 45) rfl⟩
set_option maxRecDepth 100000 in
theorem lw_p3 : lw_okq (⟨"CartPitches", "aboutPastOfCart", "(LCartPitches$Cart;I)I"⟩, 6) := ⟨⟨by decide +kernel, by decide +kernel⟩, mt_1 (i := 12) rfl, mt_3 (i := 49) rfl, mt_3 (i := 50) rfl⟩
set_option maxRecDepth 100000 in
theorem lw_p4 : lw_okq (⟨"CartPitches", "pitchOnTrialDay", "(I)I"⟩, 6) := ⟨⟨by decide +kernel, by decide +kernel⟩, mt_1 (i := 12) rfl, mt_3 (i := 84) rfl, mt_3 (i := 85) rfl⟩
set_option maxRecDepth 100000 in
theorem lw_p5 : lw_okq (⟨"CartPitches", "performOrder", "(II)I"⟩, 6) := ⟨⟨by decide +kernel, by decide +kernel⟩, mt_1 (i := 12) rfl, mt_3 (i := 159) rfl, mt_3 (i := 160) rfl⟩
set_option maxRecDepth 100000 in
theorem lw_p6 : lw_okq (⟨"CartPitchesModel", "keep", "()V"⟩, 15) := ⟨⟨by decide +kernel, by decide +kernel⟩, mt_3 (i := 188) rfl, mt_4 (i := 14) rfl, mt_4 (i := 15) rfl⟩
set_option maxRecDepth 100000 in
theorem lw_p7 : lw_okq (⟨"CartPitchesModel", "isPitch", "(I)Z"⟩, 15) := ⟨⟨by decide +kernel, by decide +kernel⟩, mt_3 (i := 188) rfl, mt_4 (i := 31) rfl, mt_4 (i := 32) rfl⟩
set_option maxRecDepth 100000 in
theorem lw_p8 : lw_okq (⟨"CartPitchesModel", "ofP", "(II)I"⟩, 15) := ⟨⟨by decide +kernel, by decide +kernel⟩, mt_3 (i := 188) rfl, mt_4 (i := 35) rfl, mt_4 (i := 36) rfl⟩
set_option maxRecDepth 100000 in
theorem lw_p9 : lw_okq (⟨"CartPitchesModel", "lay", "(III)V"⟩, 15) := ⟨⟨by decide +kernel, by decide +kernel⟩, mt_3 (i := 188) rfl, mt_4 (i := 43) rfl, mt_4 (i := 44) rfl⟩
set_option maxRecDepth 100000 in
theorem lw_p10 : lw_okq (⟨"CartPitchesModel", "tryWish", "(IIIIZ)I"⟩, 15) := ⟨⟨by decide +kernel, by decide +kernel⟩, mt_3 (i := 188) rfl, mt_4 (i := 51) rfl, mt_4 (i := 52) rfl⟩
set_option maxRecDepth 100000 in
theorem lw_p11 : lw_okq (⟨"CartPitchesModel", "isCart", "(I)Z"⟩, 15) := ⟨⟨by decide +kernel, by decide +kernel⟩, mt_3 (i := 188) rfl, mt_4 (i := 55) rfl, mt_4 (i := 56) rfl⟩
set_option maxRecDepth 100000 in
theorem lw_p12 : lw_okq (⟨"CartPitchesModel", "isNumber", "(I)Z"⟩, 15) := ⟨⟨by decide +kernel, by decide +kernel⟩, mt_3 (i := 188) rfl, mt_4 (i := 59) rfl, mt_4 (i := 60) rfl⟩
set_option maxRecDepth 100000 in
theorem lw_p13 : lw_okq (⟨"CartPitchesModel", "keepIf", "(Z)V"⟩, 15) := ⟨⟨by decide +kernel, by decide +kernel⟩, mt_3 (i := 188) rfl, mt_4 (i := 63) rfl, mt_4 (i := 64) rfl⟩
set_option maxRecDepth 100000 in
theorem lw_p14 : lw_okq (⟨"CartPitchesModel", "tryFine", "(IIZ)I"⟩, 15) := ⟨⟨by decide +kernel, by decide +kernel⟩, mt_3 (i := 188) rfl, mt_4 (i := 71) rfl, mt_4 (i := 72) rfl⟩
set_option maxRecDepth 100000 in
theorem lw_p15 : lw_okq (⟨"CartPitchesModel", "give", "(II)V"⟩, 15) := ⟨⟨by decide +kernel, by decide +kernel⟩, mt_3 (i := 188) rfl, mt_4 (i := 75) rfl, mt_4 (i := 76) rfl⟩
def lw_privs_1 : List (MethodName × Nat) := [(⟨"CartPitches", "recorded", "(I)I"⟩, 6), (⟨"CartPitches$State", "beginNextDay", "()V"⟩, 15), (⟨"CartPitches", "aboutCart", "(LCartPitches$Cart;I)I"⟩, 6), (⟨"CartPitches", "aboutPastOfCart", "(LCartPitches$Cart;I)I"⟩, 6), (⟨"CartPitches", "pitchOnTrialDay", "(I)I"⟩, 6), (⟨"CartPitches", "performOrder", "(II)I"⟩, 6), (⟨"CartPitchesModel", "keep", "()V"⟩, 15), (⟨"CartPitchesModel", "isPitch", "(I)Z"⟩, 15), (⟨"CartPitchesModel", "ofP", "(II)I"⟩, 15), (⟨"CartPitchesModel", "lay", "(III)V"⟩, 15), (⟨"CartPitchesModel", "tryWish", "(IIIIZ)I"⟩, 15), (⟨"CartPitchesModel", "isCart", "(I)Z"⟩, 15), (⟨"CartPitchesModel", "isNumber", "(I)Z"⟩, 15), (⟨"CartPitchesModel", "keepIf", "(Z)V"⟩, 15), (⟨"CartPitchesModel", "tryFine", "(IIZ)I"⟩, 15), (⟨"CartPitchesModel", "give", "(II)V"⟩, 15)]
theorem lw_r1 : ∀ q ∈ lw_privs_1, lw_okq q := List.forall_mem_cons.mpr ⟨lw_p0, List.forall_mem_cons.mpr ⟨lw_p1, List.forall_mem_cons.mpr ⟨lw_p2, List.forall_mem_cons.mpr ⟨lw_p3, List.forall_mem_cons.mpr ⟨lw_p4, List.forall_mem_cons.mpr ⟨lw_p5, List.forall_mem_cons.mpr ⟨lw_p6, List.forall_mem_cons.mpr ⟨lw_p7, List.forall_mem_cons.mpr ⟨lw_p8, List.forall_mem_cons.mpr ⟨lw_p9, List.forall_mem_cons.mpr ⟨lw_p10, List.forall_mem_cons.mpr ⟨lw_p11, List.forall_mem_cons.mpr ⟨lw_p12, List.forall_mem_cons.mpr ⟨lw_p13, List.forall_mem_cons.mpr ⟨lw_p14, List.forall_mem_cons.mpr ⟨lw_p15, fun _ h => absurd h List.not_mem_nil⟩⟩⟩⟩⟩⟩⟩⟩⟩⟩⟩⟩⟩⟩⟩⟩
set_option maxRecDepth 100000 in
theorem lw_p16 : lw_okq (⟨"CartPitchesModel", "of", "(II)I"⟩, 15) := ⟨⟨by decide +kernel, by decide +kernel⟩, mt_3 (i := 188) rfl, mt_4 (i := 79) rfl, mt_4 (i := 80) rfl⟩
set_option maxRecDepth 100000 in
theorem lw_p17 : lw_okq (⟨"CartPitchesModel", "pointsAt", "(II)I"⟩, 15) := ⟨⟨by decide +kernel, by decide +kernel⟩, mt_3 (i := 188) rfl, mt_4 (i := 83) rfl, mt_4 (i := 84) rfl⟩
set_option maxRecDepth 100000 in
theorem lw_p18 : lw_okq (⟨"CartPitchesModel", "tryCheck", "(IZ)I"⟩, 15) := ⟨⟨by decide +kernel, by decide +kernel⟩, mt_3 (i := 188) rfl, mt_4 (i := 91) rfl, mt_4 (i := 92) rfl⟩
set_option maxRecDepth 100000 in
theorem lw_p19 : lw_okq (⟨"CartPitchesModel", "waiting", "()I"⟩, 15) := ⟨⟨by decide +kernel, by decide +kernel⟩, mt_3 (i := 188) rfl, mt_4 (i := 95) rfl, mt_4 (i := 96) rfl⟩
set_option maxRecDepth 100000 in
theorem lw_p20 : lw_okq (⟨"CartPitchesModel", "trySwap", "(IIZ)I"⟩, 15) := ⟨⟨by decide +kernel, by decide +kernel⟩, mt_3 (i := 188) rfl, mt_4 (i := 103) rfl, mt_4 (i := 104) rfl⟩
set_option maxRecDepth 100000 in
theorem lw_p21 : lw_okq (⟨"CartPitchesModel", "balance", "(I)I"⟩, 15) := ⟨⟨by decide +kernel, by decide +kernel⟩, mt_3 (i := 188) rfl, mt_4 (i := 112) rfl, mt_4 (i := 113) rfl⟩
set_option maxRecDepth 100000 in
theorem lw_p22 : lw_okq (⟨"CartPitchesModel", "tryDays", "(IZ)I"⟩, 15) := ⟨⟨by decide +kernel, by decide +kernel⟩, mt_3 (i := 188) rfl, mt_4 (i := 120) rfl, mt_4 (i := 121) rfl⟩
set_option maxRecDepth 100000 in
theorem lw_p23 : lw_okq (⟨"CartPitchesModel", "passDay", "()V"⟩, 15) := ⟨⟨by decide +kernel, by decide +kernel⟩, mt_3 (i := 188) rfl, mt_4 (i := 124) rfl, mt_4 (i := 125) rfl⟩
set_option maxRecDepth 100000 in
theorem lw_p24 : lw_okq (⟨"CartPitchesModel", "checkAll", "()V"⟩, 15) := ⟨⟨by decide +kernel, by decide +kernel⟩, mt_3 (i := 188) rfl, mt_4 (i := 128) rfl, mt_4 (i := 129) rfl⟩
set_option maxRecDepth 100000 in
theorem lw_p25 : lw_okq (⟨"CartPitchesModel", "nextToCheck", "()I"⟩, 15) := ⟨⟨by decide +kernel, by decide +kernel⟩, mt_3 (i := 188) rfl, mt_4 (i := 132) rfl, mt_4 (i := 133) rfl⟩
set_option maxRecDepth 100000 in
theorem lw_p26 : lw_okq (⟨"CartPitchesModel", "beginDay", "()V"⟩, 15) := ⟨⟨by decide +kernel, by decide +kernel⟩, mt_3 (i := 188) rfl, mt_4 (i := 136) rfl, mt_4 (i := 137) rfl⟩
set_option maxRecDepth 100000 in
theorem lw_p27 : lw_okq (⟨"CartPitchesModel", "whyOut", "(I)I"⟩, 15) := ⟨⟨by decide +kernel, by decide +kernel⟩, mt_3 (i := 188) rfl, mt_4 (i := 140) rfl, mt_4 (i := 141) rfl⟩
set_option maxRecDepth 100000 in
theorem lw_p28 : lw_okq (⟨"CartPitchesModel", "drawAll", "()V"⟩, 15) := ⟨⟨by decide +kernel, by decide +kernel⟩, mt_3 (i := 188) rfl, mt_4 (i := 144) rfl, mt_4 (i := 145) rfl⟩
set_option maxRecDepth 100000 in
theorem lw_p29 : lw_okq (⟨"CartPitchesModel", "isToDraw", "(I)Z"⟩, 15) := ⟨⟨by decide +kernel, by decide +kernel⟩, mt_3 (i := 188) rfl, mt_4 (i := 148) rfl, mt_4 (i := 149) rfl⟩
set_option maxRecDepth 100000 in
theorem lw_p30 : lw_okq (⟨"CartPitchesModel", "ticketsOf", "(I)I"⟩, 15) := ⟨⟨by decide +kernel, by decide +kernel⟩, mt_3 (i := 188) rfl, mt_4 (i := 152) rfl, mt_4 (i := 153) rfl⟩
set_option maxRecDepth 100000 in
theorem lw_p31 : lw_okq (⟨"CartPitchesModel", "drawOne", "(I)I"⟩, 15) := ⟨⟨by decide +kernel, by decide +kernel⟩, mt_3 (i := 188) rfl, mt_4 (i := 156) rfl, mt_4 (i := 157) rfl⟩
def lw_privs_2 : List (MethodName × Nat) := [(⟨"CartPitchesModel", "of", "(II)I"⟩, 15), (⟨"CartPitchesModel", "pointsAt", "(II)I"⟩, 15), (⟨"CartPitchesModel", "tryCheck", "(IZ)I"⟩, 15), (⟨"CartPitchesModel", "waiting", "()I"⟩, 15), (⟨"CartPitchesModel", "trySwap", "(IIZ)I"⟩, 15), (⟨"CartPitchesModel", "balance", "(I)I"⟩, 15), (⟨"CartPitchesModel", "tryDays", "(IZ)I"⟩, 15), (⟨"CartPitchesModel", "passDay", "()V"⟩, 15), (⟨"CartPitchesModel", "checkAll", "()V"⟩, 15), (⟨"CartPitchesModel", "nextToCheck", "()I"⟩, 15), (⟨"CartPitchesModel", "beginDay", "()V"⟩, 15), (⟨"CartPitchesModel", "whyOut", "(I)I"⟩, 15), (⟨"CartPitchesModel", "drawAll", "()V"⟩, 15), (⟨"CartPitchesModel", "isToDraw", "(I)Z"⟩, 15), (⟨"CartPitchesModel", "ticketsOf", "(I)I"⟩, 15), (⟨"CartPitchesModel", "drawOne", "(I)I"⟩, 15)]
theorem lw_r2 : ∀ q ∈ lw_privs_2, lw_okq q := List.forall_mem_cons.mpr ⟨lw_p16, List.forall_mem_cons.mpr ⟨lw_p17, List.forall_mem_cons.mpr ⟨lw_p18, List.forall_mem_cons.mpr ⟨lw_p19, List.forall_mem_cons.mpr ⟨lw_p20, List.forall_mem_cons.mpr ⟨lw_p21, List.forall_mem_cons.mpr ⟨lw_p22, List.forall_mem_cons.mpr ⟨lw_p23, List.forall_mem_cons.mpr ⟨lw_p24, List.forall_mem_cons.mpr ⟨lw_p25, List.forall_mem_cons.mpr ⟨lw_p26, List.forall_mem_cons.mpr ⟨lw_p27, List.forall_mem_cons.mpr ⟨lw_p28, List.forall_mem_cons.mpr ⟨lw_p29, List.forall_mem_cons.mpr ⟨lw_p30, List.forall_mem_cons.mpr ⟨lw_p31, fun _ h => absurd h List.not_mem_nil⟩⟩⟩⟩⟩⟩⟩⟩⟩⟩⟩⟩⟩⟩⟩⟩
set_option maxRecDepth 100000 in
theorem lw_p32 : lw_okq (⟨"CartPitchesModel", "choose", "(I)V"⟩, 15) := ⟨⟨by decide +kernel, by decide +kernel⟩, mt_3 (i := 188) rfl, mt_4 (i := 161) rfl, mt_4 (i := 162) rfl⟩
set_option maxRecDepth 100000 in
theorem lw_p33 : lw_okq (⟨"CartPitchesModel", "isApart", "(II)Z"⟩, 15) := ⟨⟨by decide +kernel, by decide +kernel⟩, mt_3 (i := 188) rfl, mt_4 (i := 165) rfl, mt_4 (i := 166) rfl⟩
set_option maxRecDepth 100000 in
theorem lw_p34 : lw_okq (⟨"CartPitchesModel", "isKindAt", "(III)Z"⟩, 15) := ⟨⟨by decide +kernel, by decide +kernel⟩, mt_3 (i := 188) rfl, mt_4 (i := 169) rfl, mt_4 (i := 170) rfl⟩
set_option maxRecDepth 100000 in
theorem lw_p35 : lw_okq (⟨"CartPitchesModel", "put", "(II)V"⟩, 15) := ⟨⟨by decide +kernel, by decide +kernel⟩, mt_3 (i := 188) rfl, mt_4 (i := 173) rfl, mt_4 (i := 174) rfl⟩
set_option maxRecDepth 100000 in
theorem lw_p36 : lw_okq (⟨"CartPitchesModel", "cookAll", "()V"⟩, 15) := ⟨⟨by decide +kernel, by decide +kernel⟩, mt_3 (i := 188) rfl, mt_4 (i := 177) rfl, mt_4 (i := 178) rfl⟩
set_option maxRecDepth 100000 in
theorem lw_p37 : lw_okq (⟨"CartPitchesModel", "drawnAt", "(I)I"⟩, 15) := ⟨⟨by decide +kernel, by decide +kernel⟩, mt_3 (i := 188) rfl, mt_4 (i := 181) rfl, mt_4 (i := 182) rfl⟩
set_option maxRecDepth 100000 in
theorem lw_p38 : lw_okq (⟨"CartPitchesModel", "cook", "(I)V"⟩, 15) := ⟨⟨by decide +kernel, by decide +kernel⟩, mt_3 (i := 188) rfl, mt_4 (i := 185) rfl, mt_4 (i := 186) rfl⟩
set_option maxRecDepth 100000 in
theorem lw_p39 : lw_okq (⟨"CartPitchesModel", "swapAll", "()V"⟩, 15) := ⟨⟨by decide +kernel, by decide +kernel⟩, mt_3 (i := 188) rfl, mt_4 (i := 189) rfl, mt_4 (i := 190) rfl⟩
set_option maxRecDepth 100000 in
theorem lw_p40 : lw_okq (⟨"CartPitchesModel", "trade", "()V"⟩, 15) := ⟨⟨by decide +kernel, by decide +kernel⟩, mt_3 (i := 188) rfl, mt_4 (i := 193) rfl, mt_4 (i := 194) rfl⟩
set_option maxRecDepth 100000 in
theorem lw_p41 : lw_okq (⟨"CartPitchesModel", "atPitches", "()I"⟩, 15) := ⟨⟨by decide +kernel, by decide +kernel⟩, mt_3 (i := 188) rfl, mt_4 (i := 215) rfl, mt_4 (i := 216) rfl⟩
set_option maxRecDepth 100000 in
theorem lw_p42 : lw_okq (⟨"CartPitchesModel", "layAside", "()V"⟩, 15) := ⟨⟨by decide +kernel, by decide +kernel⟩, mt_3 (i := 188) rfl, mt_4 (i := 227) rfl, mt_4 (i := 228) rfl⟩
set_option maxRecDepth 100000 in
theorem lw_p43 : lw_okq (⟨"CartPitchesModel", "layBack", "()V"⟩, 15) := ⟨⟨by decide +kernel, by decide +kernel⟩, mt_3 (i := 188) rfl, mt_4 (i := 231) rfl, mt_4 (i := 232) rfl⟩
set_option maxRecDepth 100000 in
theorem lw_p44 : lw_okq (⟨"CartPitchesModel", "takeOrder", "()V"⟩, 15) := ⟨⟨by decide +kernel, by decide +kernel⟩, mt_3 (i := 188) rfl, mt_5 (i := 28) rfl, mt_5 (i := 29) rfl⟩
set_option maxRecDepth 100000 in
theorem lw_p45 : lw_okq (⟨"CartPitchesModel", "next", "()I"⟩, 15) := ⟨⟨by decide +kernel, by decide +kernel⟩, mt_3 (i := 188) rfl, mt_5 (i := 32) rfl, mt_5 (i := 33) rfl⟩
set_option maxRecDepth 100000 in
theorem lw_p46 : lw_okq (⟨"CartPitchesModel", "takeWishes", "()V"⟩, 15) := ⟨⟨by decide +kernel, by decide +kernel⟩, mt_3 (i := 188) rfl, mt_5 (i := 36) rfl, mt_5 (i := 37) rfl⟩
set_option maxRecDepth 100000 in
theorem lw_p47 : lw_okq (⟨"CartPitchesModel", "takeOne", "(III)V"⟩, 15) := ⟨⟨by decide +kernel, by decide +kernel⟩, mt_3 (i := 188) rfl, mt_5 (i := 40) rfl, mt_5 (i := 41) rfl⟩
def lw_privs_3 : List (MethodName × Nat) := [(⟨"CartPitchesModel", "choose", "(I)V"⟩, 15), (⟨"CartPitchesModel", "isApart", "(II)Z"⟩, 15), (⟨"CartPitchesModel", "isKindAt", "(III)Z"⟩, 15), (⟨"CartPitchesModel", "put", "(II)V"⟩, 15), (⟨"CartPitchesModel", "cookAll", "()V"⟩, 15), (⟨"CartPitchesModel", "drawnAt", "(I)I"⟩, 15), (⟨"CartPitchesModel", "cook", "(I)V"⟩, 15), (⟨"CartPitchesModel", "swapAll", "()V"⟩, 15), (⟨"CartPitchesModel", "trade", "()V"⟩, 15), (⟨"CartPitchesModel", "atPitches", "()I"⟩, 15), (⟨"CartPitchesModel", "layAside", "()V"⟩, 15), (⟨"CartPitchesModel", "layBack", "()V"⟩, 15), (⟨"CartPitchesModel", "takeOrder", "()V"⟩, 15), (⟨"CartPitchesModel", "next", "()I"⟩, 15), (⟨"CartPitchesModel", "takeWishes", "()V"⟩, 15), (⟨"CartPitchesModel", "takeOne", "(III)V"⟩, 15)]
theorem lw_r3 : ∀ q ∈ lw_privs_3, lw_okq q := List.forall_mem_cons.mpr ⟨lw_p32, List.forall_mem_cons.mpr ⟨lw_p33, List.forall_mem_cons.mpr ⟨lw_p34, List.forall_mem_cons.mpr ⟨lw_p35, List.forall_mem_cons.mpr ⟨lw_p36, List.forall_mem_cons.mpr ⟨lw_p37, List.forall_mem_cons.mpr ⟨lw_p38, List.forall_mem_cons.mpr ⟨lw_p39, List.forall_mem_cons.mpr ⟨lw_p40, List.forall_mem_cons.mpr ⟨lw_p41, List.forall_mem_cons.mpr ⟨lw_p42, List.forall_mem_cons.mpr ⟨lw_p43, List.forall_mem_cons.mpr ⟨lw_p44, List.forall_mem_cons.mpr ⟨lw_p45, List.forall_mem_cons.mpr ⟨lw_p46, List.forall_mem_cons.mpr ⟨lw_p47, fun _ h => absurd h List.not_mem_nil⟩⟩⟩⟩⟩⟩⟩⟩⟩⟩⟩⟩⟩⟩⟩⟩
set_option maxRecDepth 100000 in
theorem lw_p48 : lw_okq (⟨"CartPitchesModel", "takeNumber", "()V"⟩, 15) := ⟨⟨by decide +kernel, by decide +kernel⟩, mt_3 (i := 188) rfl, mt_5 (i := 44) rfl, mt_5 (i := 45) rfl⟩
set_option maxRecDepth 100000 in
theorem lw_p49 : lw_okq (⟨"CartPitchesModel", "carry", "(I)I"⟩, 15) := ⟨⟨by decide +kernel, by decide +kernel⟩, mt_3 (i := 188) rfl, mt_5 (i := 53) rfl, mt_5 (i := 54) rfl⟩
def lw_privs_4 : List (MethodName × Nat) := [(⟨"CartPitchesModel", "takeNumber", "()V"⟩, 15), (⟨"CartPitchesModel", "carry", "(I)I"⟩, 15)]
theorem lw_r4 : ∀ q ∈ lw_privs_4, lw_okq q := List.forall_mem_cons.mpr ⟨lw_p48, List.forall_mem_cons.mpr ⟨lw_p49, fun _ h => absurd h List.not_mem_nil⟩⟩
def lw_privs : List (MethodName × Nat) := lw_privs_1 ++ (lw_privs_2 ++ (lw_privs_3 ++ (lw_privs_4)))
def lw_tbl : List Cond := k2_sels lw_privs ++ tables_1
theorem lw_privs_ok : ∀ q ∈ lw_privs, lw_okq q := by
  show ∀ q ∈ lw_privs_1 ++ (lw_privs_2 ++ (lw_privs_3 ++ (lw_privs_4))), lw_okq q
  exact List.forall_mem_append.mpr ⟨lw_r1, List.forall_mem_append.mpr ⟨lw_r2, List.forall_mem_append.mpr ⟨lw_r3, lw_r4⟩⟩⟩
