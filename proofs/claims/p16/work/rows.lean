section
-- ===== PART A: goes FIRST, ahead of the names: the tables' words, and 'selects' of the private methods out of them =====
theorem mt_1 {w : Cond} {i : Nat} (h : tables_1_1[i]? = some w) : w ∈ tables_1 := List.mem_append_left _ (List.mem_of_getElem? h)
theorem mt_2 {w : Cond} {i : Nat} (h : tables_1_2[i]? = some w) : w ∈ tables_1 := List.mem_append_right _ (List.mem_append_left _ (List.mem_of_getElem? h))
theorem mt_3 {w : Cond} {i : Nat} (h : tables_1_3[i]? = some w) : w ∈ tables_1 := List.mem_append_right _ (List.mem_append_right _ (List.mem_append_left _ (List.mem_of_getElem? h)))
theorem mt_4 {w : Cond} {i : Nat} (h : tables_1_4[i]? = some w) : w ∈ tables_1 := List.mem_append_right _ (List.mem_append_right _ (List.mem_append_right _ (List.mem_append_left _ (List.mem_of_getElem? h))))
theorem mt_5 {w : Cond} {i : Nat} (h : tables_1_5[i]? = some w) : w ∈ tables_1 := List.mem_append_right _ (List.mem_append_right _ (List.mem_append_right _ (List.mem_append_right _ (List.mem_of_getElem? h))))
/-- a private method of a class that the tables say can be made, by its rows of tables_1 -/
def lw_okq (q : MethodName × Nat) : Prop := (q.1.cls ≠ "java/lang/invoke/MethodHandle" ∧ q.1.cls ≠ "java/lang/invoke/VarHandle") ∧ Cond.instantiable q.1.cls q.2 ∈ tables_1 ∧ Cond.privateMethod q.1 ∈ tables_1 ∧ Cond.instanceMethod q.1 ∈ tables_1
set_option maxRecDepth 100000 in
theorem lw_p0 : lw_okq (⟨"CartPitches", "recorded", "(I)I"⟩, 6) := ⟨⟨by decide +kernel, by decide +kernel⟩, mt_1 (i := 12) rfl, mt_2 (i := 71) rfl, mt_2 (i := 72) rfl⟩
set_option maxRecDepth 100000 in
theorem lw_p1 : lw_okq (⟨"CartPitches$State", "beginNextDay", "()V"⟩, 15) := ⟨⟨by decide +kernel, by decide +kernel⟩, mt_1 (i := 20) rfl, mt_3 (i := 31) rfl, mt_3 (i := 32) rfl⟩
set_option maxRecDepth 100000 in
theorem lw_p2 : lw_okq (⟨"CartPitches", "aboutCart", "(LCartPitches$Cart;I)I"⟩, 6) := ⟨⟨by decide +kernel, by decide +kernel⟩, mt_1 (i := 12) rfl, mt_3 (i := 44) rfl, mt_3 (i := 45) rfl⟩
set_option maxRecDepth 100000 in
theorem lw_p3 : lw_okq (⟨"CartPitches", "aboutPastOfCart", "(LCartPitches$Cart;I)I"⟩, 6) := ⟨⟨by decide +kernel, by decide +kernel⟩, mt_1 (i := 12) rfl, mt_3 (i := 49) rfl, mt_3 (i := 50) rfl⟩
set_option maxRecDepth 100000 in
theorem lw_p4 : lw_okq (⟨"CartPitches", "pitchOnTrialDay", "(I)I"⟩, 6) := ⟨⟨by decide +kernel, by decide +kernel⟩, mt_1 (i := 12) rfl, mt_3 (i := 84) rfl, mt_3 (i := 85) rfl⟩
set_option maxRecDepth 100000 in
theorem lw_p5 : lw_okq (⟨"CartPitches", "performOrder", "(II)I"⟩, 6) := ⟨⟨by decide +kernel, by decide +kernel⟩, mt_1 (i := 12) rfl, mt_3 (i := 159) rfl, mt_3 (i := 160) rfl⟩
set_option maxRecDepth 100000 in
theorem lw_p6 : lw_okq (⟨"CartPitchesModel", "keep", "()V"⟩, 15) := ⟨⟨by decide +kernel, by decide +kernel⟩, mt_3 (i := 188) rfl, mt_4 (i := 14) rfl, mt_4 (i := 15) rfl⟩
set_option maxRecDepth 100000 in
theorem lw_p7 : lw_okq (⟨"CartPitchesModel", "isPitch", "(I)Z"⟩, 15) := ⟨⟨by decide +kernel, by decide +kernel⟩, mt_3 (i := 188) rfl, mt_4 (i := 31) rfl, mt_4 (i := 32) rfl⟩
set_option maxRecDepth 100000 in
theorem lw_p8 : lw_okq (⟨"CartPitchesModel", "ofP", "(II)I"⟩, 15) := ⟨⟨by decide +kernel, by decide +kernel⟩, mt_3 (i := 188) rfl, mt_4 (i := 35) rfl, mt_4 (i := 36) rfl⟩
set_option maxRecDepth 100000 in
theorem lw_p9 : lw_okq (⟨"CartPitchesModel", "lay", "(III)V"⟩, 15) := ⟨⟨by decide +kernel, by decide +kernel⟩, mt_3 (i := 188) rfl, mt_4 (i := 43) rfl, mt_4 (i := 44) rfl⟩
set_option maxRecDepth 100000 in
theorem lw_p10 : lw_okq (⟨"CartPitchesModel", "tryWish", "(IIIIZ)I"⟩, 15) := ⟨⟨by decide +kernel, by decide +kernel⟩, mt_3 (i := 188) rfl, mt_4 (i := 51) rfl, mt_4 (i := 52) rfl⟩
set_option maxRecDepth 100000 in
theorem lw_p11 : lw_okq (⟨"CartPitchesModel", "isCart", "(I)Z"⟩, 15) := ⟨⟨by decide +kernel, by decide +kernel⟩, mt_3 (i := 188) rfl, mt_4 (i := 55) rfl, mt_4 (i := 56) rfl⟩
set_option maxRecDepth 100000 in
theorem lw_p12 : lw_okq (⟨"CartPitchesModel", "isNumber", "(I)Z"⟩, 15) := ⟨⟨by decide +kernel, by decide +kernel⟩, mt_3 (i := 188) rfl, mt_4 (i := 59) rfl, mt_4 (i := 60) rfl⟩
set_option maxRecDepth 100000 in
theorem lw_p13 : lw_okq (⟨"CartPitchesModel", "keepIf", "(Z)V"⟩, 15) := ⟨⟨by decide +kernel, by decide +kernel⟩, mt_3 (i := 188) rfl, mt_4 (i := 63) rfl, mt_4 (i := 64) rfl⟩
set_option maxRecDepth 100000 in
theorem lw_p14 : lw_okq (⟨"CartPitchesModel", "tryFine", "(IIZ)I"⟩, 15) := ⟨⟨by decide +kernel, by decide +kernel⟩, mt_3 (i := 188) rfl, mt_4 (i := 71) rfl, mt_4 (i := 72) rfl⟩
set_option maxRecDepth 100000 in
theorem lw_p15 : lw_okq (⟨"CartPitchesModel", "give", "(II)V"⟩, 15) := ⟨⟨by decide +kernel, by decide +kernel⟩, mt_3 (i := 188) rfl, mt_4 (i := 75) rfl, mt_4 (i := 76) rfl⟩
def lw_privs_1 : List (MethodName × Nat) := [(⟨"CartPitches", "recorded", "(I)I"⟩, 6), (⟨"CartPitches$State", "beginNextDay", "()V"⟩, 15), (⟨"CartPitches", "aboutCart", "(LCartPitches$Cart;I)I"⟩, 6), (⟨"CartPitches", "aboutPastOfCart", "(LCartPitches$Cart;I)I"⟩, 6), (⟨"CartPitches", "pitchOnTrialDay", "(I)I"⟩, 6), (⟨"CartPitches", "performOrder", "(II)I"⟩, 6), (⟨"CartPitchesModel", "keep", "()V"⟩, 15), (⟨"CartPitchesModel", "isPitch", "(I)Z"⟩, 15), (⟨"CartPitchesModel", "ofP", "(II)I"⟩, 15), (⟨"CartPitchesModel", "lay", "(III)V"⟩, 15), (⟨"CartPitchesModel", "tryWish", "(IIIIZ)I"⟩, 15), (⟨"CartPitchesModel", "isCart", "(I)Z"⟩, 15), (⟨"CartPitchesModel", "isNumber", "(I)Z"⟩, 15), (⟨"CartPitchesModel", "keepIf", "(Z)V"⟩, 15), (⟨"CartPitchesModel", "tryFine", "(IIZ)I"⟩, 15), (⟨"CartPitchesModel", "give", "(II)V"⟩, 15)]
theorem lw_r1 : ∀ q ∈ lw_privs_1, lw_okq q := List.forall_mem_cons.mpr ⟨lw_p0, List.forall_mem_cons.mpr ⟨lw_p1, List.forall_mem_cons.mpr ⟨lw_p2, List.forall_mem_cons.mpr ⟨lw_p3, List.forall_mem_cons.mpr ⟨lw_p4, List.forall_mem_cons.mpr ⟨lw_p5, List.forall_mem_cons.mpr ⟨lw_p6, List.forall_mem_cons.mpr ⟨lw_p7, List.forall_mem_cons.mpr ⟨lw_p8, List.forall_mem_cons.mpr ⟨lw_p9, List.forall_mem_cons.mpr ⟨lw_p10, List.forall_mem_cons.mpr ⟨lw_p11, List.forall_mem_cons.mpr ⟨lw_p12, List.forall_mem_cons.mpr ⟨lw_p13, List.forall_mem_cons.mpr ⟨lw_p14, List.forall_mem_cons.mpr ⟨lw_p15, fun _ h => absurd h List.not_mem_nil⟩⟩⟩⟩⟩⟩⟩⟩⟩⟩⟩⟩⟩⟩⟩⟩
set_option maxRecDepth 100000 in
theorem lw_p16 : lw_okq (⟨"CartPitchesModel", "of", "(II)I"⟩, 15) := ⟨⟨by decide +kernel, by decide +kernel⟩, mt_3 (i := 188) rfl, mt_4 (i := 79) rfl, mt_4 (i := 80) rfl⟩
set_option maxRecDepth 100000 in
theorem lw_p17 : lw_okq (⟨"CartPitchesModel", "pointsAt", "(II)I"⟩, 15) := ⟨⟨by decide +kernel, by decide +kernel⟩, mt_3 (i := 188) rfl, mt_4 (i := 83) rfl, mt_4 (i := 84) rfl⟩
set_option maxRecDepth 100000 in
theorem lw_p18 : lw_okq (⟨"CartPitchesModel", "tryCheck", "(IZ)I"⟩, 15) := ⟨⟨by decide +kernel, by decide +kernel⟩, mt_3 (i := 188) rfl, mt_4 (i := 91) rfl, mt_4 (i := 92) rfl⟩
set_option maxRecDepth 100000 in
theorem lw_p19 : lw_okq (⟨"CartPitchesModel", "waiting", "()I"⟩, 15) := ⟨⟨by decide +kernel, by decide +kernel⟩, mt_3 (i := 188) rfl, mt_4 (i := 95) rfl, mt_4 (i := 96) rfl⟩
set_option maxRecDepth 100000 in
theorem lw_p20 : lw_okq (⟨"CartPitchesModel", "trySwap", "(IIZ)I"⟩, 15) := ⟨⟨by decide +kernel, by decide +kernel⟩, mt_3 (i := 188) rfl, mt_4 (i := 103) rfl, mt_4 (i := 104) rfl⟩
set_option maxRecDepth 100000 in
theorem lw_p21 : lw_okq (⟨"CartPitchesModel", "balance", "(I)I"⟩, 15) := ⟨⟨by decide +kernel, by decide +kernel⟩, mt_3 (i := 188) rfl, mt_4 (i := 112) rfl, mt_4 (i := 113) rfl⟩
set_option maxRecDepth 100000 in
theorem lw_p22 : lw_okq (⟨"CartPitchesModel", "tryDays", "(IZ)I"⟩, 15) := ⟨⟨by decide +kernel, by decide +kernel⟩, mt_3 (i := 188) rfl, mt_4 (i := 120) rfl, mt_4 (i := 121) rfl⟩
set_option maxRecDepth 100000 in
theorem lw_p23 : lw_okq (⟨"CartPitchesModel", "passDay", "()V"⟩, 15) := ⟨⟨by decide +kernel, by decide +kernel⟩, mt_3 (i := 188) rfl, mt_4 (i := 124) rfl, mt_4 (i := 125) rfl⟩
set_option maxRecDepth 100000 in
theorem lw_p24 : lw_okq (⟨"CartPitchesModel", "checkAll", "()V"⟩, 15) := ⟨⟨by decide +kernel, by decide +kernel⟩, mt_3 (i := 188) rfl, mt_4 (i := 128) rfl, mt_4 (i := 129) rfl⟩
set_option maxRecDepth 100000 in
theorem lw_p25 : lw_okq (⟨"CartPitchesModel", "nextToCheck", "()I"⟩, 15) := ⟨⟨by decide +kernel, by decide +kernel⟩, mt_3 (i := 188) rfl, mt_4 (i := 132) rfl, mt_4 (i := 133) rfl⟩
set_option maxRecDepth 100000 in
theorem lw_p26 : lw_okq (⟨"CartPitchesModel", "beginDay", "()V"⟩, 15) := ⟨⟨by decide +kernel, by decide +kernel⟩, mt_3 (i := 188) rfl, mt_4 (i := 136) rfl, mt_4 (i := 137) rfl⟩
set_option maxRecDepth 100000 in
theorem lw_p27 : lw_okq (⟨"CartPitchesModel", "whyOut", "(I)I"⟩, 15) := ⟨⟨by decide +kernel, by decide +kernel⟩, mt_3 (i := 188) rfl, mt_4 (i := 140) rfl, mt_4 (i := 141) rfl⟩
set_option maxRecDepth 100000 in
theorem lw_p28 : lw_okq (⟨"CartPitchesModel", "drawAll", "()V"⟩, 15) := ⟨⟨by decide +kernel, by decide +kernel⟩, mt_3 (i := 188) rfl, mt_4 (i := 144) rfl, mt_4 (i := 145) rfl⟩
set_option maxRecDepth 100000 in
theorem lw_p29 : lw_okq (⟨"CartPitchesModel", "isToDraw", "(I)Z"⟩, 15) := ⟨⟨by decide +kernel, by decide +kernel⟩, mt_3 (i := 188) rfl, mt_4 (i := 148) rfl, mt_4 (i := 149) rfl⟩
set_option maxRecDepth 100000 in
theorem lw_p30 : lw_okq (⟨"CartPitchesModel", "ticketsOf", "(I)I"⟩, 15) := ⟨⟨by decide +kernel, by decide +kernel⟩, mt_3 (i := 188) rfl, mt_4 (i := 152) rfl, mt_4 (i := 153) rfl⟩
set_option maxRecDepth 100000 in
theorem lw_p31 : lw_okq (⟨"CartPitchesModel", "drawOne", "(I)I"⟩, 15) := ⟨⟨by decide +kernel, by decide +kernel⟩, mt_3 (i := 188) rfl, mt_4 (i := 156) rfl, mt_4 (i := 157) rfl⟩
def lw_privs_2 : List (MethodName × Nat) := [(⟨"CartPitchesModel", "of", "(II)I"⟩, 15), (⟨"CartPitchesModel", "pointsAt", "(II)I"⟩, 15), (⟨"CartPitchesModel", "tryCheck", "(IZ)I"⟩, 15), (⟨"CartPitchesModel", "waiting", "()I"⟩, 15), (⟨"CartPitchesModel", "trySwap", "(IIZ)I"⟩, 15), (⟨"CartPitchesModel", "balance", "(I)I"⟩, 15), (⟨"CartPitchesModel", "tryDays", "(IZ)I"⟩, 15), (⟨"CartPitchesModel", "passDay", "()V"⟩, 15), (⟨"CartPitchesModel", "checkAll", "()V"⟩, 15), (⟨"CartPitchesModel", "nextToCheck", "()I"⟩, 15), (⟨"CartPitchesModel", "beginDay", "()V"⟩, 15), (⟨"CartPitchesModel", "whyOut", "(I)I"⟩, 15), (⟨"CartPitchesModel", "drawAll", "()V"⟩, 15), (⟨"CartPitchesModel", "isToDraw", "(I)Z"⟩, 15), (⟨"CartPitchesModel", "ticketsOf", "(I)I"⟩, 15), (⟨"CartPitchesModel", "drawOne", "(I)I"⟩, 15)]
theorem lw_r2 : ∀ q ∈ lw_privs_2, lw_okq q := List.forall_mem_cons.mpr ⟨lw_p16, List.forall_mem_cons.mpr ⟨lw_p17, List.forall_mem_cons.mpr ⟨lw_p18, List.forall_mem_cons.mpr ⟨lw_p19, List.forall_mem_cons.mpr ⟨lw_p20, List.forall_mem_cons.mpr ⟨lw_p21, List.forall_mem_cons.mpr ⟨lw_p22, List.forall_mem_cons.mpr ⟨lw_p23, List.forall_mem_cons.mpr ⟨lw_p24, List.forall_mem_cons.mpr ⟨lw_p25, List.forall_mem_cons.mpr ⟨lw_p26, List.forall_mem_cons.mpr ⟨lw_p27, List.forall_mem_cons.mpr ⟨lw_p28, List.forall_mem_cons.mpr ⟨lw_p29, List.forall_mem_cons.mpr ⟨lw_p30, List.forall_mem_cons.mpr ⟨lw_p31, fun _ h => absurd h List.not_mem_nil⟩⟩⟩⟩⟩⟩⟩⟩⟩⟩⟩⟩⟩⟩⟩⟩
set_option maxRecDepth 100000 in
theorem lw_p32 : lw_okq (⟨"CartPitchesModel", "choose", "(I)V"⟩, 15) := ⟨⟨by decide +kernel, by decide +kernel⟩, mt_3 (i := 188) rfl, mt_4 (i := 161) rfl, mt_4 (i := 162) rfl⟩
set_option maxRecDepth 100000 in
theorem lw_p33 : lw_okq (⟨"CartPitchesModel", "isApart", "(II)Z"⟩, 15) := ⟨⟨by decide +kernel, by decide +kernel⟩, mt_3 (i := 188) rfl, mt_4 (i := 165) rfl, mt_4 (i := 166) rfl⟩
set_option maxRecDepth 100000 in
theorem lw_p34 : lw_okq (⟨"CartPitchesModel", "isKindAt", "(III)Z"⟩, 15) := ⟨⟨by decide +kernel, by decide +kernel⟩, mt_3 (i := 188) rfl, mt_4 (i := 169) rfl, mt_4 (i := 170) rfl⟩
set_option maxRecDepth 100000 in
theorem lw_p35 : lw_okq (⟨"CartPitchesModel", "put", "(II)V"⟩, 15) := ⟨⟨by decide +kernel, by decide +kernel⟩, mt_3 (i := 188) rfl, mt_4 (i := 173) rfl, mt_4 (i := 174) rfl⟩
set_option maxRecDepth 100000 in
theorem lw_p36 : lw_okq (⟨"CartPitchesModel", "cookAll", "()V"⟩, 15) := ⟨⟨by decide +kernel, by decide +kernel⟩, mt_3 (i := 188) rfl, mt_4 (i := 177) rfl, mt_4 (i := 178) rfl⟩
set_option maxRecDepth 100000 in
theorem lw_p37 : lw_okq (⟨"CartPitchesModel", "drawnAt", "(I)I"⟩, 15) := ⟨⟨by decide +kernel, by decide +kernel⟩, mt_3 (i := 188) rfl, mt_4 (i := 181) rfl, mt_4 (i := 182) rfl⟩
set_option maxRecDepth 100000 in
theorem lw_p38 : lw_okq (⟨"CartPitchesModel", "cook", "(I)V"⟩, 15) := ⟨⟨by decide +kernel, by decide +kernel⟩, mt_3 (i := 188) rfl, mt_4 (i := 185) rfl, mt_4 (i := 186) rfl⟩
set_option maxRecDepth 100000 in
theorem lw_p39 : lw_okq (⟨"CartPitchesModel", "swapAll", "()V"⟩, 15) := ⟨⟨by decide +kernel, by decide +kernel⟩, mt_3 (i := 188) rfl, mt_4 (i := 189) rfl, mt_4 (i := 190) rfl⟩
set_option maxRecDepth 100000 in
theorem lw_p40 : lw_okq (⟨"CartPitchesModel", "trade", "()V"⟩, 15) := ⟨⟨by decide +kernel, by decide +kernel⟩, mt_3 (i := 188) rfl, mt_4 (i := 193) rfl, mt_4 (i := 194) rfl⟩
set_option maxRecDepth 100000 in
theorem lw_p41 : lw_okq (⟨"CartPitchesModel", "atPitches", "()I"⟩, 15) := ⟨⟨by decide +kernel, by decide +kernel⟩, mt_3 (i := 188) rfl, mt_4 (i := 215) rfl, mt_4 (i := 216) rfl⟩
set_option maxRecDepth 100000 in
theorem lw_p42 : lw_okq (⟨"CartPitchesModel", "layAside", "()V"⟩, 15) := ⟨⟨by decide +kernel, by decide +kernel⟩, mt_3 (i := 188) rfl, mt_4 (i := 227) rfl, mt_4 (i := 228) rfl⟩
set_option maxRecDepth 100000 in
theorem lw_p43 : lw_okq (⟨"CartPitchesModel", "layBack", "()V"⟩, 15) := ⟨⟨by decide +kernel, by decide +kernel⟩, mt_3 (i := 188) rfl, mt_4 (i := 231) rfl, mt_4 (i := 232) rfl⟩
set_option maxRecDepth 100000 in
theorem lw_p44 : lw_okq (⟨"CartPitchesModel", "takeOrder", "()V"⟩, 15) := ⟨⟨by decide +kernel, by decide +kernel⟩, mt_3 (i := 188) rfl, mt_5 (i := 28) rfl, mt_5 (i := 29) rfl⟩
set_option maxRecDepth 100000 in
theorem lw_p45 : lw_okq (⟨"CartPitchesModel", "next", "()I"⟩, 15) := ⟨⟨by decide +kernel, by decide +kernel⟩, mt_3 (i := 188) rfl, mt_5 (i := 32) rfl, mt_5 (i := 33) rfl⟩
set_option maxRecDepth 100000 in
theorem lw_p46 : lw_okq (⟨"CartPitchesModel", "takeWishes", "()V"⟩, 15) := ⟨⟨by decide +kernel, by decide +kernel⟩, mt_3 (i := 188) rfl, mt_5 (i := 36) rfl, mt_5 (i := 37) rfl⟩
set_option maxRecDepth 100000 in
theorem lw_p47 : lw_okq (⟨"CartPitchesModel", "takeOne", "(III)V"⟩, 15) := ⟨⟨by decide +kernel, by decide +kernel⟩, mt_3 (i := 188) rfl, mt_5 (i := 40) rfl, mt_5 (i := 41) rfl⟩
def lw_privs_3 : List (MethodName × Nat) := [(⟨"CartPitchesModel", "choose", "(I)V"⟩, 15), (⟨"CartPitchesModel", "isApart", "(II)Z"⟩, 15), (⟨"CartPitchesModel", "isKindAt", "(III)Z"⟩, 15), (⟨"CartPitchesModel", "put", "(II)V"⟩, 15), (⟨"CartPitchesModel", "cookAll", "()V"⟩, 15), (⟨"CartPitchesModel", "drawnAt", "(I)I"⟩, 15), (⟨"CartPitchesModel", "cook", "(I)V"⟩, 15), (⟨"CartPitchesModel", "swapAll", "()V"⟩, 15), (⟨"CartPitchesModel", "trade", "()V"⟩, 15), (⟨"CartPitchesModel", "atPitches", "()I"⟩, 15), (⟨"CartPitchesModel", "layAside", "()V"⟩, 15), (⟨"CartPitchesModel", "layBack", "()V"⟩, 15), (⟨"CartPitchesModel", "takeOrder", "()V"⟩, 15), (⟨"CartPitchesModel", "next", "()I"⟩, 15), (⟨"CartPitchesModel", "takeWishes", "()V"⟩, 15), (⟨"CartPitchesModel", "takeOne", "(III)V"⟩, 15)]
theorem lw_r3 : ∀ q ∈ lw_privs_3, lw_okq q := List.forall_mem_cons.mpr ⟨lw_p32, List.forall_mem_cons.mpr ⟨lw_p33, List.forall_mem_cons.mpr ⟨lw_p34, List.forall_mem_cons.mpr ⟨lw_p35, List.forall_mem_cons.mpr ⟨lw_p36, List.forall_mem_cons.mpr ⟨lw_p37, List.forall_mem_cons.mpr ⟨lw_p38, List.forall_mem_cons.mpr ⟨lw_p39, List.forall_mem_cons.mpr ⟨lw_p40, List.forall_mem_cons.mpr ⟨lw_p41, List.forall_mem_cons.mpr ⟨lw_p42, List.forall_mem_cons.mpr ⟨lw_p43, List.forall_mem_cons.mpr ⟨lw_p44, List.forall_mem_cons.mpr ⟨lw_p45, List.forall_mem_cons.mpr ⟨lw_p46, List.forall_mem_cons.mpr ⟨lw_p47, fun _ h => absurd h List.not_mem_nil⟩⟩⟩⟩⟩⟩⟩⟩⟩⟩⟩⟩⟩⟩⟩⟩
set_option maxRecDepth 100000 in
theorem lw_p48 : lw_okq (⟨"CartPitchesModel", "takeNumber", "()V"⟩, 15) := ⟨⟨by decide +kernel, by decide +kernel⟩, mt_3 (i := 188) rfl, mt_5 (i := 44) rfl, mt_5 (i := 45) rfl⟩
set_option maxRecDepth 100000 in
theorem lw_p49 : lw_okq (⟨"CartPitchesModel", "carry", "(I)I"⟩, 15) := ⟨⟨by decide +kernel, by decide +kernel⟩, mt_3 (i := 188) rfl, mt_5 (i := 53) rfl, mt_5 (i := 54) rfl⟩
def lw_privs_4 : List (MethodName × Nat) := [(⟨"CartPitchesModel", "takeNumber", "()V"⟩, 15), (⟨"CartPitchesModel", "carry", "(I)I"⟩, 15)]
theorem lw_r4 : ∀ q ∈ lw_privs_4, lw_okq q := List.forall_mem_cons.mpr ⟨lw_p48, List.forall_mem_cons.mpr ⟨lw_p49, fun _ h => absurd h List.not_mem_nil⟩⟩
def lw_privs : List (MethodName × Nat) := lw_privs_1 ++ (lw_privs_2 ++ (lw_privs_3 ++ (lw_privs_4)))
def lw_tbl : List Cond := k2_sels lw_privs ++ tables_1
theorem lw_privs_ok : ∀ q ∈ lw_privs, lw_okq q := by
  show ∀ q ∈ lw_privs_1 ++ (lw_privs_2 ++ (lw_privs_3 ++ (lw_privs_4))), lw_okq q
  exact List.forall_mem_append.mpr ⟨lw_r1, List.forall_mem_append.mpr ⟨lw_r2, List.forall_mem_append.mpr ⟨lw_r3, lw_r4⟩⟩⟩
end
section
def RX0 : String := "CartPitches$Cart"
def TX0 : u_T := fun k => match k with
  | 0 => ("CartPitches$Cart", "kind", "I", false)
  | 1 => ("CartPitches$Cart", "hours", "I", false)
  | 2 => ("CartPitches$Cart", "wishCount", "I", false)
  | 3 => ("CartPitches$Cart", "losses", "I", false)
  | 4 => ("CartPitches$Cart", "validUpTo", "I", false)
  | 5 => ("CartPitches$Cart", "waits", "Z", false)
  | 6 => ("CartPitches$Cart", "bannedUpTo", "I", false)
  | 7 => ("CartPitches$Cart", "daysWithPitch", "I", false)
  | 8 => ("CartPitches$Cart", "pitch", "I", false)
  | 9 => ("CartPitches$Cart", "kitchenHour", "I", false)
  | 10 => ("CartPitches$Cart", "reason", "I", false)
  | 11 => ("CartPitches$Cart", "place", "I", false)
  | 12 => ("CartPitches$Cart", "paidIn", "J", false)
  | 13 => ("CartPitches$Cart", "rents", "J", false)
  | 14 => ("CartPitches$Cart", "fines", "J", false)
  | 15 => ("CartPitches$Cart", "swapFees", "J", false)
  | 16 => ("CartPitches$Cart", "wishes", "[I", true)
  | _ => ("CartPitches$Cart", "points", "[I", true)
def tyX0 : Nat → FieldType := fun k => match k with
  | 0 => .int
  | 1 => .int
  | 2 => .int
  | 3 => .int
  | 4 => .int
  | 5 => .boolean
  | 6 => .int
  | 7 => .int
  | 8 => .int
  | 9 => .int
  | 10 => .int
  | 11 => .int
  | 12 => .long
  | 13 => .long
  | 14 => .long
  | 15 => .long
  | 16 => .array .int
  | _ => .array .int
theorem nmX0 : ∀ a, a < 18 → ∀ b, b < 18 → a ≠ b → (TX0 a).2.1 ≠ (TX0 b).2.1 := by decide +kernel
theorem tyX0_ok : ∀ k, k < 18 → parseFieldDescriptor (TX0 k).2.2.1 = some (tyX0 k) := by decide +kernel
abbrev cX0_init : ByteArray := prog_2_method_1_code
def yX0_init : MethodName := ⟨RX0, "<init>", "()V"⟩
abbrev cX0_begin : ByteArray := prog_2_method_2_code
def yX0_begin : MethodName := ⟨RX0, "begin", "(III)V"⟩
abbrev cX0_beginDay : ByteArray := prog_2_method_3_code
def yX0_beginDay : MethodName := ⟨RX0, "beginDay", "()V"⟩
abbrev cX0_copyFrom : ByteArray := prog_2_method_4_code
def yX0_copyFrom : MethodName := ⟨RX0, "copyFrom", "(LCartPitches$Cart;)V"⟩
abbrev cX0_balance : ByteArray := prog_2_method_5_code
def yX0_balance : MethodName := ⟨RX0, "balance", "()J"⟩
abbrev cX0_wishAt : ByteArray := prog_2_method_6_code
def yX0_wishAt : MethodName := ⟨RX0, "wishAt", "(I)I"⟩
abbrev cX0_addPoints : ByteArray := prog_2_method_7_code
def yX0_addPoints : MethodName := ⟨RX0, "addPoints", "(II)V"⟩
abbrev cX0_dropPointsOfSameSpot : ByteArray := prog_2_method_8_code
def yX0_dropPointsOfSameSpot : MethodName := ⟨RX0, "dropPointsOfSameSpot", "(I)V"⟩
abbrev cX0_dropAllPoints : ByteArray := prog_2_method_9_code
def yX0_dropAllPoints : MethodName := ⟨RX0, "dropAllPoints", "()V"⟩
abbrev cX0_pointsLeft : ByteArray := prog_2_method_10_code
def yX0_pointsLeft : MethodName := ⟨RX0, "pointsLeft", "(III)I"⟩
abbrev cX0_reasonBeforeLots : ByteArray := prog_2_method_11_code
def yX0_reasonBeforeLots : MethodName := ⟨RX0, "reasonBeforeLots", "(I)I"⟩
def RX1 : String := "CartPitches$Day"
def TX1 : u_T := fun k => match k with
  | _ => ("", "", "", false)
def tyX1 : Nat → FieldType := fun k => match k with
  | _ => .int
theorem nmX1 : ∀ a, a < 0 → ∀ b, b < 0 → a ≠ b → (TX1 a).2.1 ≠ (TX1 b).2.1 := by decide +kernel
theorem tyX1_ok : ∀ k, k < 0 → parseFieldDescriptor (TX1 k).2.2.1 = some (tyX1 k) := by decide +kernel
abbrev cX1_runChecks : ByteArray := prog_3_method_2_code
def yX1_runChecks : MethodName := ⟨RX1, "runChecks", "(LCartPitches$State;)V"⟩
abbrev cX1_nextToCheck : ByteArray := prog_3_method_3_code
def yX1_nextToCheck : MethodName := ⟨RX1, "nextToCheck", "(LCartPitches$State;)LCartPitches$Cart;"⟩
abbrev cX1_clearLastDay : ByteArray := prog_3_method_4_code
def yX1_clearLastDay : MethodName := ⟨RX1, "clearLastDay", "(LCartPitches$State;)V"⟩
abbrev cX1_drawLots : ByteArray := prog_3_method_5_code
def yX1_drawLots : MethodName := ⟨RX1, "drawLots", "(LCartPitches$State;)V"⟩
abbrev cX1_handOutTickets : ByteArray := prog_3_method_6_code
def yX1_handOutTickets : MethodName := ⟨RX1, "handOutTickets", "(LCartPitches$State;)I"⟩
abbrev cX1_holderOfTicket : ByteArray := prog_3_method_7_code
def yX1_holderOfTicket : MethodName := ⟨RX1, "holderOfTicket", "(LCartPitches$State;I)I"⟩
abbrev cX1_choosePitch : ByteArray := prog_3_method_8_code
def yX1_choosePitch : MethodName := ⟨RX1, "choosePitch", "(LCartPitches$State;I)V"⟩
abbrev cX1_shareKitchens : ByteArray := prog_3_method_9_code
def yX1_shareKitchens : MethodName := ⟨RX1, "shareKitchens", "(LCartPitches$State;)V"⟩
abbrev cX1_makeSwaps : ByteArray := prog_3_method_10_code
def yX1_makeSwaps : MethodName := ⟨RX1, "makeSwaps", "(LCartPitches$State;)V"⟩
abbrev cX1_exchange : ByteArray := prog_3_method_11_code
def yX1_exchange : MethodName := ⟨RX1, "exchange", "(LCartPitches$State;II)Z"⟩
abbrev cX1_trade : ByteArray := prog_3_method_12_code
def yX1_trade : MethodName := ⟨RX1, "trade", "(LCartPitches$State;)V"⟩
def RX2 : String := "CartPitches$History"
def TX2 : u_T := fun k => match k with
  | 0 => ("CartPitches$History", "rows", "[LCartPitches$State;", true)
  | 1 => ("CartPitches$History", "oldest", "I", false)
  | _ => ("CartPitches$History", "kept", "I", false)
def tyX2 : Nat → FieldType := fun k => match k with
  | 0 => .array (.object "CartPitches$State")
  | 1 => .int
  | _ => .int
theorem nmX2 : ∀ a, a < 3 → ∀ b, b < 3 → a ≠ b → (TX2 a).2.1 ≠ (TX2 b).2.1 := by decide +kernel
theorem tyX2_ok : ∀ k, k < 3 → parseFieldDescriptor (TX2 k).2.2.1 = some (tyX2 k) := by decide +kernel
abbrev cX2_init : ByteArray := prog_4_method_1_code
def yX2_init : MethodName := ⟨RX2, "<init>", "()V"⟩
abbrev cX2_prepare : ByteArray := prog_4_method_2_code
def yX2_prepare : MethodName := ⟨RX2, "prepare", "(LCartPitches$State;)V"⟩
abbrev cX2_keepPrepared : ByteArray := prog_4_method_3_code
def yX2_keepPrepared : MethodName := ⟨RX2, "keepPrepared", "()V"⟩
abbrev cX2_takeBack : ByteArray := prog_4_method_4_code
def yX2_takeBack : MethodName := ⟨RX2, "takeBack", "(LCartPitches$State;)V"⟩
def RX3 : String := "CartPitches$Pad"
def TX3 : u_T := fun k => match k with
  | 0 => ("CartPitches$Pad", "signs", "[C", true)
  | _ => ("CartPitches$Pad", "length", "I", false)
def tyX3 : Nat → FieldType := fun k => match k with
  | 0 => .array .char
  | _ => .int
theorem nmX3 : ∀ a, a < 2 → ∀ b, b < 2 → a ≠ b → (TX3 a).2.1 ≠ (TX3 b).2.1 := by decide +kernel
theorem tyX3_ok : ∀ k, k < 2 → parseFieldDescriptor (TX3 k).2.2.1 = some (tyX3 k) := by decide +kernel
abbrev cX3_init : ByteArray := prog_5_method_1_code
def yX3_init : MethodName := ⟨RX3, "<init>", "()V"⟩
abbrev cX3_append : ByteArray := prog_5_method_2_code
def yX3_append : MethodName := ⟨RX3, "append", "(J)I"⟩
abbrev cX3_countGiven : ByteArray := prog_5_method_3_code
def yX3_countGiven : MethodName := ⟨RX3, "countGiven", "(J)I"⟩
abbrev cX3_codeAt : ByteArray := prog_5_method_4_code
def yX3_codeAt : MethodName := ⟨RX3, "codeAt", "(JI)I"⟩
abbrev cX3_signAt : ByteArray := prog_5_method_5_code
def yX3_signAt : MethodName := ⟨RX3, "signAt", "(I)I"⟩
abbrev cX3_findFault : ByteArray := prog_5_method_6_code
def yX3_findFault : MethodName := ⟨RX3, "findFault", "()I"⟩
abbrev cX3_awaitedBehind : ByteArray := prog_5_method_7_code
def yX3_awaitedBehind : MethodName := ⟨RX3, "awaitedBehind", "(II)I"⟩
abbrev cX3_awaitedBehindOrder : ByteArray := prog_5_method_8_code
def yX3_awaitedBehindOrder : MethodName := ⟨RX3, "awaitedBehindOrder", "(I)I"⟩
abbrev cX3_isCart : ByteArray := prog_5_method_9_code
def yX3_isCart : MethodName := ⟨RX3, "isCart", "(I)Z"⟩
abbrev cX3_isDigit : ByteArray := prog_5_method_10_code
def yX3_isDigit : MethodName := ⟨RX3, "isDigit", "(I)Z"⟩
abbrev cX3_endsOrder : ByteArray := prog_5_method_11_code
def yX3_endsOrder : MethodName := ⟨RX3, "endsOrder", "(I)Z"⟩
abbrev cX3_wishAt : ByteArray := prog_5_method_12_code
def yX3_wishAt : MethodName := ⟨RX3, "wishAt", "(II)I"⟩
abbrev cX3_numberAt : ByteArray := prog_5_method_13_code
def yX3_numberAt : MethodName := ⟨RX3, "numberAt", "(II)I"⟩
def RX4 : String := "CartPitches$Pitch"
def TX4 : u_T := fun k => match k with
  | 0 => ("CartPitches$Pitch", "price", "I", false)
  | 1 => ("CartPitches$Pitch", "daysTaken", "I", false)
  | 2 => ("CartPitches$Pitch", "rentsPaid", "I", false)
  | _ => ("CartPitches$Pitch", "holder", "I", false)
def tyX4 : Nat → FieldType := fun k => match k with
  | 0 => .int
  | 1 => .int
  | 2 => .int
  | _ => .int
theorem nmX4 : ∀ a, a < 4 → ∀ b, b < 4 → a ≠ b → (TX4 a).2.1 ≠ (TX4 b).2.1 := by decide +kernel
theorem tyX4_ok : ∀ k, k < 4 → parseFieldDescriptor (TX4 k).2.2.1 = some (tyX4 k) := by decide +kernel
abbrev cX4_init : ByteArray := prog_6_method_1_code
def yX4_init : MethodName := ⟨RX4, "<init>", "()V"⟩
abbrev cX4_begin : ByteArray := prog_6_method_2_code
def yX4_begin : MethodName := ⟨RX4, "begin", "(I)V"⟩
abbrev cX4_copyFrom : ByteArray := prog_6_method_3_code
def yX4_copyFrom : MethodName := ⟨RX4, "copyFrom", "(LCartPitches$Pitch;)V"⟩
def RX5 : String := "CartPitches$State"
def TX5 : u_T := fun k => match k with
  | 0 => ("CartPitches$State", "today", "I", false)
  | 1 => ("CartPitches$State", "lots", "I", false)
  | 2 => ("CartPitches$State", "pitchCount", "I", false)
  | 3 => ("CartPitches$State", "cartCount", "I", false)
  | 4 => ("CartPitches$State", "swapCount", "I", false)
  | 5 => ("CartPitches$State", "swapsDone", "I", false)
  | 6 => ("CartPitches$State", "saved", "Z", false)
  | 7 => ("CartPitches$State", "settings", "[I", true)
  | 8 => ("CartPitches$State", "pitches", "[LCartPitches$Pitch;", true)
  | 9 => ("CartPitches$State", "carts", "[LCartPitches$Cart;", true)
  | 10 => ("CartPitches$State", "swapCart", "[I", true)
  | 11 => ("CartPitches$State", "swapOther", "[I", true)
  | 12 => ("CartPitches$State", "tickets", "[I", true)
  | 13 => ("CartPitches$State", "drawn", "[I", true)
  | _ => ("CartPitches$State", "drawnCount", "I", false)
def tyX5 : Nat → FieldType := fun k => match k with
  | 0 => .int
  | 1 => .int
  | 2 => .int
  | 3 => .int
  | 4 => .int
  | 5 => .int
  | 6 => .boolean
  | 7 => .array .int
  | 8 => .array (.object "CartPitches$Pitch")
  | 9 => .array (.object "CartPitches$Cart")
  | 10 => .array .int
  | 11 => .array .int
  | 12 => .array .int
  | 13 => .array .int
  | _ => .int
theorem nmX5 : ∀ a, a < 15 → ∀ b, b < 15 → a ≠ b → (TX5 a).2.1 ≠ (TX5 b).2.1 := by decide +kernel
theorem tyX5_ok : ∀ k, k < 15 → parseFieldDescriptor (TX5 k).2.2.1 = some (tyX5 k) := by decide +kernel
abbrev cX5_init : ByteArray := prog_7_method_1_code
def yX5_init : MethodName := ⟨RX5, "<init>", "()V"⟩
abbrev cX5_copyFrom : ByteArray := prog_7_method_2_code
def yX5_copyFrom : MethodName := ⟨RX5, "copyFrom", "(LCartPitches$State;)V"⟩
abbrev cX5_hasCart : ByteArray := prog_7_method_3_code
def yX5_hasCart : MethodName := ⟨RX5, "hasCart", "(I)Z"⟩
abbrev cX5_hasPitch : ByteArray := prog_7_method_4_code
def yX5_hasPitch : MethodName := ⟨RX5, "hasPitch", "(I)Z"⟩
abbrev cX5_changeSetting : ByteArray := prog_7_method_5_code
def yX5_changeSetting : MethodName := ⟨RX5, "changeSetting", "(II)I"⟩
abbrev cX5_changeLots : ByteArray := prog_7_method_6_code
def yX5_changeLots : MethodName := ⟨RX5, "changeLots", "(I)I"⟩
abbrev cX5_addPitch : ByteArray := prog_7_method_7_code
def yX5_addPitch : MethodName := ⟨RX5, "addPitch", "(I)I"⟩
abbrev cX5_changeRent : ByteArray := prog_7_method_8_code
def yX5_changeRent : MethodName := ⟨RX5, "changeRent", "(II)I"⟩
abbrev cX5_addCart : ByteArray := prog_7_method_9_code
def yX5_addCart : MethodName := ⟨RX5, "addCart", "(II)I"⟩
abbrev cX5_tellWishes : ByteArray := prog_7_method_10_code
def yX5_tellWishes : MethodName := ⟨RX5, "tellWishes", "(IIII)I"⟩
abbrev cX5_isPitchOrNone : ByteArray := prog_7_method_11_code
def yX5_isPitchOrNone : MethodName := ⟨RX5, "isPitchOrNone", "(I)Z"⟩
abbrev cX5_punish : ByteArray := prog_7_method_12_code
def yX5_punish : MethodName := ⟨RX5, "punish", "(II)I"⟩
abbrev cX5_givePoints : ByteArray := prog_7_method_13_code
def yX5_givePoints : MethodName := ⟨RX5, "givePoints", "(LCartPitches$Cart;I)I"⟩
abbrev cX5_askCheck : ByteArray := prog_7_method_14_code
def yX5_askCheck : MethodName := ⟨RX5, "askCheck", "(I)I"⟩
abbrev cX5_askSwap : ByteArray := prog_7_method_15_code
def yX5_askSwap : MethodName := ⟨RX5, "askSwap", "(II)I"⟩
abbrev cX5_takeMoney : ByteArray := prog_7_method_16_code
def yX5_takeMoney : MethodName := ⟨RX5, "takeMoney", "(II)I"⟩
abbrev cX5_passDays : ByteArray := prog_7_method_17_code
def yX5_passDays : MethodName := ⟨RX5, "passDays", "(I)I"⟩
abbrev cX5_beginNextDay : ByteArray := prog_7_method_18_code
def yX5_beginNextDay : MethodName := ⟨RX5, "beginNextDay", "()V"⟩
abbrev cX5_countWaiting : ByteArray := prog_7_method_19_code
def yX5_countWaiting : MethodName := ⟨RX5, "countWaiting", "()I"⟩
abbrev cX5_countOnPitches : ByteArray := prog_7_method_20_code
def yX5_countOnPitches : MethodName := ⟨RX5, "countOnPitches", "()I"⟩
abbrev cX5_sameKindBeside : ByteArray := prog_7_method_21_code
def yX5_sameKindBeside : MethodName := ⟨RX5, "sameKindBeside", "(II)Z"⟩
abbrev cX5_seat : ByteArray := prog_7_method_22_code
def yX5_seat : MethodName := ⟨RX5, "seat", "(II)V"⟩
abbrev cX5_unseat : ByteArray := prog_7_method_23_code
def yX5_unseat : MethodName := ⟨RX5, "unseat", "(LCartPitches$Cart;)V"⟩
def RX6 : String := "CartPitches"
def TX6 : u_T := fun k => match k with
  | 0 => ("CartPitches", "now", "LCartPitches$State;", true)
  | 1 => ("CartPitches", "trial", "LCartPitches$State;", true)
  | 2 => ("CartPitches", "history", "LCartPitches$History;", true)
  | 3 => ("CartPitches", "firstSlot", "LCartPitches$State;", true)
  | 4 => ("CartPitches", "secondSlot", "LCartPitches$State;", true)
  | _ => ("CartPitches", "pad", "LCartPitches$Pad;", true)
def tyX6 : Nat → FieldType := fun k => match k with
  | 0 => .object "CartPitches$State"
  | 1 => .object "CartPitches$State"
  | 2 => .object "CartPitches$History"
  | 3 => .object "CartPitches$State"
  | 4 => .object "CartPitches$State"
  | _ => .object "CartPitches$Pad"
theorem nmX6 : ∀ a, a < 6 → ∀ b, b < 6 → a ≠ b → (TX6 a).2.1 ≠ (TX6 b).2.1 := by decide +kernel
theorem tyX6_ok : ∀ k, k < 6 → parseFieldDescriptor (TX6 k).2.2.1 = some (tyX6 k) := by decide +kernel
abbrev cX6_init : ByteArray := prog_1_method_1_code
def yX6_init : MethodName := ⟨RX6, "<init>", "()V"⟩
abbrev cX6_set : ByteArray := prog_1_method_2_code
def yX6_set : MethodName := ⟨RX6, "set", "(II)I"⟩
abbrev cX6_seed : ByteArray := prog_1_method_3_code
def yX6_seed : MethodName := ⟨RX6, "seed", "(I)I"⟩
abbrev cX6_pitch : ByteArray := prog_1_method_4_code
def yX6_pitch : MethodName := ⟨RX6, "pitch", "(I)I"⟩
abbrev cX6_rent : ByteArray := prog_1_method_5_code
def yX6_rent : MethodName := ⟨RX6, "rent", "(II)I"⟩
abbrev cX6_cart : ByteArray := prog_1_method_6_code
def yX6_cart : MethodName := ⟨RX6, "cart", "(II)I"⟩
abbrev cX6_wish : ByteArray := prog_1_method_7_code
def yX6_wish : MethodName := ⟨RX6, "wish", "(IIII)I"⟩
abbrev cX6_fine : ByteArray := prog_1_method_8_code
def yX6_fine : MethodName := ⟨RX6, "fine", "(II)I"⟩
abbrev cX6_check : ByteArray := prog_1_method_9_code
def yX6_check : MethodName := ⟨RX6, "check", "(I)I"⟩
abbrev cX6_swap : ByteArray := prog_1_method_10_code
def yX6_swap : MethodName := ⟨RX6, "swap", "(II)I"⟩
abbrev cX6_pay : ByteArray := prog_1_method_11_code
def yX6_pay : MethodName := ⟨RX6, "pay", "(II)I"⟩
abbrev cX6_days : ByteArray := prog_1_method_12_code
def yX6_days : MethodName := ⟨RX6, "days", "(I)I"⟩
abbrev cX6_recorded : ByteArray := prog_1_method_13_code
def yX6_recorded : MethodName := ⟨RX6, "recorded", "(I)I"⟩
abbrev cX6_ofCart : ByteArray := prog_1_method_14_code
def yX6_ofCart : MethodName := ⟨RX6, "ofCart", "(II)I"⟩
abbrev cX6_aboutCart : ByteArray := prog_1_method_15_code
def yX6_aboutCart : MethodName := ⟨RX6, "aboutCart", "(LCartPitches$Cart;I)I"⟩
abbrev cX6_aboutPastOfCart : ByteArray := prog_1_method_16_code
def yX6_aboutPastOfCart : MethodName := ⟨RX6, "aboutPastOfCart", "(LCartPitches$Cart;I)I"⟩
abbrev cX6_money : ByteArray := prog_1_method_17_code
def yX6_money : MethodName := ⟨RX6, "money", "(II)J"⟩
abbrev cX6_ofPitch : ByteArray := prog_1_method_18_code
def yX6_ofPitch : MethodName := ⟨RX6, "ofPitch", "(II)I"⟩
abbrev cX6_count : ByteArray := prog_1_method_19_code
def yX6_count : MethodName := ⟨RX6, "count", "(I)I"⟩
abbrev cX6_pointsOn : ByteArray := prog_1_method_20_code
def yX6_pointsOn : MethodName := ⟨RX6, "pointsOn", "(II)I"⟩
abbrev cX6_wouldHave : ByteArray := prog_1_method_21_code
def yX6_wouldHave : MethodName := ⟨RX6, "wouldHave", "(I)I"⟩
abbrev cX6_ifWished : ByteArray := prog_1_method_22_code
def yX6_ifWished : MethodName := ⟨RX6, "ifWished", "(II)I"⟩
abbrev cX6_firstDay : ByteArray := prog_1_method_23_code
def yX6_firstDay : MethodName := ⟨RX6, "firstDay", "(I)I"⟩
abbrev cX6_daysOf : ByteArray := prog_1_method_24_code
def yX6_daysOf : MethodName := ⟨RX6, "daysOf", "(II)I"⟩
abbrev cX6_luckySeed : ByteArray := prog_1_method_25_code
def yX6_luckySeed : MethodName := ⟨RX6, "luckySeed", "(II)I"⟩
abbrev cX6_whyNot : ByteArray := prog_1_method_26_code
def yX6_whyNot : MethodName := ⟨RX6, "whyNot", "(II)I"⟩
abbrev cX6_pitchOnTrialDay : ByteArray := prog_1_method_27_code
def yX6_pitchOnTrialDay : MethodName := ⟨RX6, "pitchOnTrialDay", "(I)I"⟩
abbrev cX6_put : ByteArray := prog_1_method_28_code
def yX6_put : MethodName := ⟨RX6, "put", "(J)I"⟩
abbrev cX6_wipe : ByteArray := prog_1_method_29_code
def yX6_wipe : MethodName := ⟨RX6, "wipe", "()I"⟩
abbrev cX6_fault : ByteArray := prog_1_method_30_code
def yX6_fault : MethodName := ⟨RX6, "fault", "()I"⟩
abbrev cX6_carryOut : ByteArray := prog_1_method_31_code
def yX6_carryOut : MethodName := ⟨RX6, "carryOut", "()I"⟩
abbrev cX6_performOrder : ByteArray := prog_1_method_32_code
def yX6_performOrder : MethodName := ⟨RX6, "performOrder", "(II)I"⟩
abbrev cX6_undo : ByteArray := prog_1_method_33_code
def yX6_undo : MethodName := ⟨RX6, "undo", "()I"⟩
abbrev cX6_save : ByteArray := prog_1_method_34_code
def yX6_save : MethodName := ⟨RX6, "save", "(I)I"⟩
abbrev cX6_restore : ByteArray := prog_1_method_35_code
def yX6_restore : MethodName := ⟨RX6, "restore", "(I)I"⟩
def RX7 : String := "CartPitchesModel"
def TX7 : u_T := fun k => match k with
  | 0 => ("CartPitchesModel", "at", "[I", true)
  | 1 => ("CartPitchesModel", "past", "[I", true)
  | 2 => ("CartPitchesModel", "pastMany", "I", false)
  | 3 => ("CartPitchesModel", "slots", "[I", true)
  | 4 => ("CartPitchesModel", "isSaved", "[Z", true)
  | 5 => ("CartPitchesModel", "aside", "[I", true)
  | 6 => ("CartPitchesModel", "pad", "[I", true)
  | 7 => ("CartPitchesModel", "padMany", "I", false)
  | 8 => ("CartPitchesModel", "kitchenOne", "I", false)
  | 9 => ("CartPitchesModel", "kitchenTwo", "I", false)
  | 10 => ("CartPitchesModel", "spot", "I", false)
  | 11 => ("CartPitchesModel", "isWrong", "Z", false)
  | 12 => ("CartPitchesModel", "orders", "I", false)
  | 13 => ("CartPitchesModel", "sort", "[I", true)
  | _ => ("CartPitchesModel", "numbers", "[I", true)
def tyX7 : Nat → FieldType := fun k => match k with
  | 0 => .array .int
  | 1 => .array .int
  | 2 => .int
  | 3 => .array .int
  | 4 => .array .boolean
  | 5 => .array .int
  | 6 => .array .int
  | 7 => .int
  | 8 => .int
  | 9 => .int
  | 10 => .int
  | 11 => .boolean
  | 12 => .int
  | 13 => .array .int
  | _ => .array .int
theorem nmX7 : ∀ a, a < 15 → ∀ b, b < 15 → a ≠ b → (TX7 a).2.1 ≠ (TX7 b).2.1 := by decide +kernel
theorem tyX7_ok : ∀ k, k < 15 → parseFieldDescriptor (TX7 k).2.2.1 = some (tyX7 k) := by decide +kernel
abbrev cX7_init : ByteArray := prog_9_method_1_code
def yX7_init : MethodName := ⟨RX7, "<init>", "()V"⟩
abbrev cX7_in : ByteArray := prog_9_method_3_code
def yX7_in : MethodName := ⟨RX7, "in", "(III)Z"⟩
abbrev cX7_of : ByteArray := prog_9_method_4_code
def yX7_of : MethodName := ⟨RX7, "of", "(II)I"⟩
abbrev cX7_lay : ByteArray := prog_9_method_5_code
def yX7_lay : MethodName := ⟨RX7, "lay", "(III)V"⟩
abbrev cX7_ofP : ByteArray := prog_9_method_6_code
def yX7_ofP : MethodName := ⟨RX7, "ofP", "(II)I"⟩
abbrev cX7_isCart : ByteArray := prog_9_method_7_code
def yX7_isCart : MethodName := ⟨RX7, "isCart", "(I)Z"⟩
abbrev cX7_isPitch : ByteArray := prog_9_method_8_code
def yX7_isPitch : MethodName := ⟨RX7, "isPitch", "(I)Z"⟩
abbrev cX7_keep : ByteArray := prog_9_method_9_code
def yX7_keep : MethodName := ⟨RX7, "keep", "()V"⟩
abbrev cX7_keepIf : ByteArray := prog_9_method_10_code
def yX7_keepIf : MethodName := ⟨RX7, "keepIf", "(Z)V"⟩
abbrev cX7_layAside : ByteArray := prog_9_method_11_code
def yX7_layAside : MethodName := ⟨RX7, "layAside", "()V"⟩
abbrev cX7_layBack : ByteArray := prog_9_method_12_code
def yX7_layBack : MethodName := ⟨RX7, "layBack", "()V"⟩
abbrev cX7_least : ByteArray := prog_9_method_13_code
def yX7_least : MethodName := ⟨RX7, "least", "(I)I"⟩
abbrev cX7_greatest : ByteArray := prog_9_method_14_code
def yX7_greatest : MethodName := ⟨RX7, "greatest", "(I)I"⟩
abbrev cX7_set : ByteArray := prog_9_method_15_code
def yX7_set : MethodName := ⟨RX7, "set", "(II)I"⟩
abbrev cX7_seed : ByteArray := prog_9_method_16_code
def yX7_seed : MethodName := ⟨RX7, "seed", "(I)I"⟩
abbrev cX7_pitch : ByteArray := prog_9_method_17_code
def yX7_pitch : MethodName := ⟨RX7, "pitch", "(I)I"⟩
abbrev cX7_rent : ByteArray := prog_9_method_18_code
def yX7_rent : MethodName := ⟨RX7, "rent", "(II)I"⟩
abbrev cX7_cart : ByteArray := prog_9_method_19_code
def yX7_cart : MethodName := ⟨RX7, "cart", "(II)I"⟩
abbrev cX7_pointsAt : ByteArray := prog_9_method_20_code
def yX7_pointsAt : MethodName := ⟨RX7, "pointsAt", "(II)I"⟩
abbrev cX7_give : ByteArray := prog_9_method_21_code
def yX7_give : MethodName := ⟨RX7, "give", "(II)V"⟩
abbrev cX7_isNumber : ByteArray := prog_9_method_22_code
def yX7_isNumber : MethodName := ⟨RX7, "isNumber", "(I)Z"⟩
abbrev cX7_tryWish : ByteArray := prog_9_method_23_code
def yX7_tryWish : MethodName := ⟨RX7, "tryWish", "(IIIIZ)I"⟩
abbrev cX7_wish : ByteArray := prog_9_method_24_code
def yX7_wish : MethodName := ⟨RX7, "wish", "(IIII)I"⟩
abbrev cX7_tryFine : ByteArray := prog_9_method_25_code
def yX7_tryFine : MethodName := ⟨RX7, "tryFine", "(IIZ)I"⟩
abbrev cX7_fine : ByteArray := prog_9_method_26_code
def yX7_fine : MethodName := ⟨RX7, "fine", "(II)I"⟩
abbrev cX7_waiting : ByteArray := prog_9_method_27_code
def yX7_waiting : MethodName := ⟨RX7, "waiting", "()I"⟩
abbrev cX7_tryCheck : ByteArray := prog_9_method_28_code
def yX7_tryCheck : MethodName := ⟨RX7, "tryCheck", "(IZ)I"⟩
abbrev cX7_check : ByteArray := prog_9_method_29_code
def yX7_check : MethodName := ⟨RX7, "check", "(I)I"⟩
abbrev cX7_trySwap : ByteArray := prog_9_method_30_code
def yX7_trySwap : MethodName := ⟨RX7, "trySwap", "(IIZ)I"⟩
abbrev cX7_swap : ByteArray := prog_9_method_31_code
def yX7_swap : MethodName := ⟨RX7, "swap", "(II)I"⟩
abbrev cX7_balance : ByteArray := prog_9_method_32_code
def yX7_balance : MethodName := ⟨RX7, "balance", "(I)I"⟩
abbrev cX7_pay : ByteArray := prog_9_method_33_code
def yX7_pay : MethodName := ⟨RX7, "pay", "(II)I"⟩
abbrev cX7_nextToCheck : ByteArray := prog_9_method_34_code
def yX7_nextToCheck : MethodName := ⟨RX7, "nextToCheck", "()I"⟩
abbrev cX7_checkAll : ByteArray := prog_9_method_35_code
def yX7_checkAll : MethodName := ⟨RX7, "checkAll", "()V"⟩
abbrev cX7_whyOut : ByteArray := prog_9_method_36_code
def yX7_whyOut : MethodName := ⟨RX7, "whyOut", "(I)I"⟩
abbrev cX7_beginDay : ByteArray := prog_9_method_37_code
def yX7_beginDay : MethodName := ⟨RX7, "beginDay", "()V"⟩
abbrev cX7_isKindAt : ByteArray := prog_9_method_38_code
def yX7_isKindAt : MethodName := ⟨RX7, "isKindAt", "(III)Z"⟩
abbrev cX7_isApart : ByteArray := prog_9_method_39_code
def yX7_isApart : MethodName := ⟨RX7, "isApart", "(II)Z"⟩
abbrev cX7_put : ByteArray := prog_9_method_40_code
def yX7_put : MethodName := ⟨RX7, "put", "(II)V"⟩
abbrev cX7_choose : ByteArray := prog_9_method_41_code
def yX7_choose : MethodName := ⟨RX7, "choose", "(I)V"⟩
abbrev cX7_isToDraw : ByteArray := prog_9_method_42_code
def yX7_isToDraw : MethodName := ⟨RX7, "isToDraw", "(I)Z"⟩
abbrev cX7_ticketsOf : ByteArray := prog_9_method_43_code
def yX7_ticketsOf : MethodName := ⟨RX7, "ticketsOf", "(I)I"⟩
abbrev cX7_drawOne : ByteArray := prog_9_method_44_code
def yX7_drawOne : MethodName := ⟨RX7, "drawOne", "(I)I"⟩
abbrev cX7_drawAll : ByteArray := prog_9_method_45_code
def yX7_drawAll : MethodName := ⟨RX7, "drawAll", "()V"⟩
abbrev cX7_drawnAt : ByteArray := prog_9_method_46_code
def yX7_drawnAt : MethodName := ⟨RX7, "drawnAt", "(I)I"⟩
abbrev cX7_cook : ByteArray := prog_9_method_47_code
def yX7_cook : MethodName := ⟨RX7, "cook", "(I)V"⟩
abbrev cX7_cookAll : ByteArray := prog_9_method_48_code
def yX7_cookAll : MethodName := ⟨RX7, "cookAll", "()V"⟩
abbrev cX7_swapAll : ByteArray := prog_9_method_49_code
def yX7_swapAll : MethodName := ⟨RX7, "swapAll", "()V"⟩
abbrev cX7_trade : ByteArray := prog_9_method_50_code
def yX7_trade : MethodName := ⟨RX7, "trade", "()V"⟩
abbrev cX7_passDay : ByteArray := prog_9_method_51_code
def yX7_passDay : MethodName := ⟨RX7, "passDay", "()V"⟩
abbrev cX7_tryDays : ByteArray := prog_9_method_52_code
def yX7_tryDays : MethodName := ⟨RX7, "tryDays", "(IZ)I"⟩
abbrev cX7_days : ByteArray := prog_9_method_53_code
def yX7_days : MethodName := ⟨RX7, "days", "(I)I"⟩
abbrev cX7_ofCart : ByteArray := prog_9_method_54_code
def yX7_ofCart : MethodName := ⟨RX7, "ofCart", "(II)I"⟩
abbrev cX7_money : ByteArray := prog_9_method_55_code
def yX7_money : MethodName := ⟨RX7, "money", "(II)J"⟩
abbrev cX7_ofPitch : ByteArray := prog_9_method_56_code
def yX7_ofPitch : MethodName := ⟨RX7, "ofPitch", "(II)I"⟩
abbrev cX7_atPitches : ByteArray := prog_9_method_57_code
def yX7_atPitches : MethodName := ⟨RX7, "atPitches", "()I"⟩
abbrev cX7_count : ByteArray := prog_9_method_58_code
def yX7_count : MethodName := ⟨RX7, "count", "(I)I"⟩
abbrev cX7_pointsOn : ByteArray := prog_9_method_59_code
def yX7_pointsOn : MethodName := ⟨RX7, "pointsOn", "(II)I"⟩
abbrev cX7_wouldHave : ByteArray := prog_9_method_60_code
def yX7_wouldHave : MethodName := ⟨RX7, "wouldHave", "(I)I"⟩
abbrev cX7_ifWished : ByteArray := prog_9_method_61_code
def yX7_ifWished : MethodName := ⟨RX7, "ifWished", "(II)I"⟩
abbrev cX7_firstDay : ByteArray := prog_9_method_62_code
def yX7_firstDay : MethodName := ⟨RX7, "firstDay", "(I)I"⟩
abbrev cX7_daysOf : ByteArray := prog_9_method_63_code
def yX7_daysOf : MethodName := ⟨RX7, "daysOf", "(II)I"⟩
abbrev cX7_luckySeed : ByteArray := prog_9_method_64_code
def yX7_luckySeed : MethodName := ⟨RX7, "luckySeed", "(II)I"⟩
abbrev cX7_whyNot : ByteArray := prog_9_method_65_code
def yX7_whyNot : MethodName := ⟨RX7, "whyNot", "(II)I"⟩
abbrev cX7_put_ : ByteArray := prog_9_method_66_code
def yX7_put_ : MethodName := ⟨RX7, "put", "(J)I"⟩
abbrev cX7_wipe : ByteArray := prog_9_method_67_code
def yX7_wipe : MethodName := ⟨RX7, "wipe", "()I"⟩
abbrev cX7_next : ByteArray := prog_9_method_68_code
def yX7_next : MethodName := ⟨RX7, "next", "()I"⟩
abbrev cX7_takeOne : ByteArray := prog_9_method_69_code
def yX7_takeOne : MethodName := ⟨RX7, "takeOne", "(III)V"⟩
abbrev cX7_takeNumber : ByteArray := prog_9_method_70_code
def yX7_takeNumber : MethodName := ⟨RX7, "takeNumber", "()V"⟩
abbrev cX7_takeWishes : ByteArray := prog_9_method_71_code
def yX7_takeWishes : MethodName := ⟨RX7, "takeWishes", "()V"⟩
abbrev cX7_takeOrder : ByteArray := prog_9_method_72_code
def yX7_takeOrder : MethodName := ⟨RX7, "takeOrder", "()V"⟩
abbrev cX7_fault : ByteArray := prog_9_method_73_code
def yX7_fault : MethodName := ⟨RX7, "fault", "()I"⟩
abbrev cX7_carry : ByteArray := prog_9_method_74_code
def yX7_carry : MethodName := ⟨RX7, "carry", "(I)I"⟩
abbrev cX7_carryOut : ByteArray := prog_9_method_75_code
def yX7_carryOut : MethodName := ⟨RX7, "carryOut", "()I"⟩
abbrev cX7_undo : ByteArray := prog_9_method_76_code
def yX7_undo : MethodName := ⟨RX7, "undo", "()I"⟩
abbrev cX7_save : ByteArray := prog_9_method_77_code
def yX7_save : MethodName := ⟨RX7, "save", "(I)I"⟩
abbrev cX7_restore : ByteArray := prog_9_method_78_code
def yX7_restore : MethodName := ⟨RX7, "restore", "(I)I"⟩
def RJ9 : String := "java/lang/Math"
def TJ9 : u_T := fun k => match k with
  | _ => ("", "", "", false)
def tyJ9 : Nat → FieldType := fun k => match k with
  | _ => .int
theorem nmJ9 : ∀ a, a < 0 → ∀ b, b < 0 → a ≠ b → (TJ9 a).2.1 ≠ (TJ9 b).2.1 := by decide +kernel
theorem tyJ9_ok : ∀ k, k < 0 → parseFieldDescriptor (TJ9 k).2.2.1 = some (tyJ9 k) := by decide +kernel
abbrev cJ9_min_7cf53 : ByteArray := prog_10_method_69_code
def yJ9_min_7cf53 : MethodName := ⟨RJ9, "min", "(II)I"⟩
def RJ10 : String := "java/lang/System"
def TJ10 : u_T := fun k => match k with
  | _ => ("", "", "", false)
def tyJ10 : Nat → FieldType := fun k => match k with
  | _ => .int
theorem nmJ10 : ∀ a, a < 0 → ∀ b, b < 0 → a ≠ b → (TJ10 a).2.1 ≠ (TJ10 b).2.1 := by decide +kernel
theorem tyJ10_ok : ∀ k, k < 0 → parseFieldDescriptor (TJ10 k).2.2.1 = some (tyJ10 k) := by decide +kernel
def RL : String := "CartPitchesLaw"
abbrev cL_law : ByteArray := code
def yL_law : MethodName := ⟨RL, "law", "([I)Z"⟩
abbrev vwCl : List vw_C := [(RX0, TX0, 18), (RX2, TX2, 3), (RX3, TX3, 2), (RX4, TX4, 4), (RX5, TX5, 15), (RX6, TX6, 6), (RX7, TX7, 15)]
end
section
/-! MY OWN KIT: one region of cells at mm_lo, mm_lo + 1 ..; which kind of cell stands at which place is fixed (kT), references between them too (kR); what changes is ints (M.1) and longs (M.2), by place and slot. -/
abbrev mm_M : Type := (Nat → Nat → Int32) × (Nat → Nat → Int64)
abbrev mm_R : Type := Nat → Nat → Option Nat
abbrev mm_Ws : Type := mm_R × Nat × mm_M
abbrev mm_G : Type := va_G × (Nat → ClassId) × (Nat → Nat)
abbrev mm_lo (G : mm_G) : Nat := G.2.2 0
abbrev mm_A (G : mm_G) : Nat → Prop := fun q => mm_lo G ≤ q
def sI (M : mm_M) (o k : Nat) (v : Int32) : mm_M := (fun o' k' => if o' = o ∧ k' = k then v else M.1 o' k', M.2)
def sL (M : mm_M) (o k : Nat) (v : Int64) : mm_M := (M.1, fun o' k' => if o' = o ∧ k' = k then v else M.2 o' k')
def sC (M : mm_M) (o : Nat) (f : Nat → Int32) : mm_M := (fun o' k' => if o' = o then f k' else M.1 o' k', M.2)
def sR (R : mm_R) (o k : Nat) (v : Option Nat) : mm_R := fun o' k' => if o' = o ∧ k' = k then v else R o' k'
/-- kinds: 0 Cart, 1 History, 2 Pad, 3 Pitch, 4 State, 5 CartPitches, 6 the model, 7 char[], 8 int[], 9 boolean[], 10 Cart[], 11 Pitch[], 12 State[]; of an array its length -/
def kS (r : Nat) : Nat × Nat := if r = 0 then (4, 0) else if r = 1 then (8, 10) else if r = 2 then (11, 10) else if r = 3 then (10, 16) else if r = 4 then (8, 8) else if r = 5 then (8, 8) else if r = 6 then (8, 16) else if r = 7 then (8, 16) else if r < 18 then (3, 0) else if (r - 18) % 3 = 0 then (0, 0) else if (r - 18) % 3 = 1 then (8, 3) else (8, 200)
def kT (o : Nat) : Nat × Nat := if o = 0 then (5, 0) else if o < 133 then kS ((o - 1) % 66) else if o = 133 then (1, 0) else if o = 134 then (12, 7) else if o < 729 then kS ((o - 135) % 66) else if o = 729 then (2, 0) else if o = 730 then (7, 80) else if o = 731 then (6, 0) else if o = 732 then (8, 3592) else if o = 733 then (8, 21552) else if o = 734 then (8, 7184) else if o = 735 then (9, 2) else if o = 736 then (8, 3592) else if o = 737 then (8, 80) else if o = 738 then (8, 29) else if o = 739 then (8, 116) else (99, 0)
def rS (o r k : Nat) : Option Nat := if r = 0 then (if 7 ≤ k ∧ k ≤ 13 then some (o + (k - 6)) else none) else if r = 2 then (if k < 10 then some (o + 6 + k) else none) else if r = 3 then (if k < 16 then some (o + 15 + 3 * k) else none) else if 18 ≤ r ∧ (r - 18) % 3 = 0 then (if k = 16 then some (o + 1) else if k = 17 then some (o + 2) else none) else none
def kR : mm_R := fun o k => if o = 0 then (if k = 0 then some 1 else if k = 1 then some 67 else if k = 2 then some 133 else if k = 3 then some 597 else if k = 4 then some 663 else if k = 5 then some 729 else none) else if o < 133 then rS o ((o - 1) % 66) k else if o = 133 then (if k = 0 then some 134 else none) else if o = 134 then (if k < 7 then some (135 + 66 * k) else none) else if o < 729 then rS o ((o - 135) % 66) k else if o = 729 then (if k = 0 then some 730 else none) else if o = 731 then (if k = 0 then some 732 else if k = 1 then some 733 else if k = 3 then some 734 else if k = 4 then some 735 else if k = 5 then some 736 else if k = 6 then some 737 else if k = 13 then some 738 else if k = 14 then some 739 else none) else none
def mm_q (G : mm_G) (r : Option Nat) : Value := va_rf (r.map (fun a => mm_lo G + a))
theorem mm_q_some {G : mm_G} {r : Option Nat} {b : Nat} (h : r = some b) : mm_q G r = .ref (mm_lo G + b) := by subst h; rfl
def mm_e (G : mm_G) (I : Nat → Int32) (L : Nat → Int64) (R : Nat → Option Nat) (q : Nat × Nat) : va_E := match q.1 with
  | 0 => .inr (0, [.int (I 0), .int (I 1), .int (I 2), .int (I 3), .int (I 4), .int (I 5), .int (I 6), .int (I 7), .int (I 8), .int (I 9), .int (I 10), .int (I 11), .long (L 12), .long (L 13), .long (L 14), .long (L 15), mm_q G (R 16), mm_q G (R 17)])
  | 1 => .inr (1, [mm_q G (R 0), .int (I 1), .int (I 2)])
  | 2 => .inr (2, [mm_q G (R 0), .int (I 1)])
  | 3 => .inr (3, [.int (I 0), .int (I 1), .int (I 2), .int (I 3)])
  | 4 => .inr (4, [.int (I 0), .int (I 1), .int (I 2), .int (I 3), .int (I 4), .int (I 5), .int (I 6), mm_q G (R 7), mm_q G (R 8), mm_q G (R 9), mm_q G (R 10), mm_q G (R 11), mm_q G (R 12), mm_q G (R 13), .int (I 14)])
  | 5 => .inr (5, [mm_q G (R 0), mm_q G (R 1), mm_q G (R 2), mm_q G (R 3), mm_q G (R 4), mm_q G (R 5)])
  | 6 => .inr (6, [mm_q G (R 0), mm_q G (R 1), .int (I 2), mm_q G (R 3), mm_q G (R 4), mm_q G (R 5), mm_q G (R 6), .int (I 7), .int (I 8), .int (I 9), .int (I 10), .int (I 11), .int (I 12), mm_q G (R 13), mm_q G (R 14)])
  | 7 => .inl (G.2.1 0, (q.2, .inl I))
  | 8 => .inl (G.2.1 1, (q.2, .inl I))
  | 9 => .inl (G.2.1 2, (q.2, .inl I))
  | 10 => .inl (G.2.1 3, (q.2, .inr (.inr (.inr (.inr (fun j => (R j).map (fun a => mm_lo G + a)))))))
  | 11 => .inl (G.2.1 4, (q.2, .inr (.inr (.inr (.inr (fun j => (R j).map (fun a => mm_lo G + a)))))))
  | _ => .inl (G.2.1 5, (q.2, .inr (.inr (.inr (.inr (fun j => (R j).map (fun a => mm_lo G + a)))))))
def mm_tys (G : mm_G) : List (ClassId × FieldType) := [(G.2.1 0, .char), (G.2.1 1, .int), (G.2.1 2, .boolean), (G.2.1 3, .object "CartPitches$Cart"), (G.2.1 4, .object "CartPitches$Pitch"), (G.2.1 5, .object "CartPitches$State")]
def mm_en (G : mm_G) (R : mm_R) (M : mm_M) (o : Nat) : va_E := mm_e G (M.1 o) (M.2 o) (R o) (kT o)
def mm_W (G : mm_G) (R : mm_R) (N : Nat) (M : mm_M) : va_W := (List.range N).map fun o => (mm_lo G + o, mm_en G R M o)
theorem mm_Wg {G : mm_G} {R : mm_R} {N : Nat} {M : mm_M} {o : Nat} (h : o < N) : (mm_W G R N M)[o]? = some (mm_lo G + o, mm_en G R M o) := by
  unfold mm_W
  rw [List.getElem?_map, List.getElem?_range h]
  rfl
theorem mm_Wi {G : mm_G} {R : mm_R} {N : Nat} {M : mm_M} {k : Nat} {q : Nat × va_E} (h : (mm_W G R N M)[k]? = some q) : k < N ∧ q = (mm_lo G + k, mm_en G R M k) := by
  have hk : k < N := by
    have := (List.getElem?_eq_some_iff.mp h).1
    unfold mm_W at this
    simpa using this
  rw [mm_Wg hk] at h
  exact ⟨hk, (Option.some.inj h).symm⟩
theorem mm_Wd {G : mm_G} {R : mm_R} {N : Nat} {M : mm_M} : va_D (mm_A G) (mm_W G R N M) := by
  refine ⟨fun i j p q hi hj h => ?_, fun k q hk => ?_⟩
  · have a := (mm_Wi hi).2
    have b := (mm_Wi hj).2
    subst a; subst b
    exact Nat.add_left_cancel h
  · have a := (mm_Wi hk).2
    subst a
    exact Nat.le_add_right _ _
def mm_P (G : mm_G) (R : mm_R) (N : Nat) (M : mm_M) (H : Heap) : Prop := va_P G.1 vwCl (mm_W G R N M) H
/-- one cell is written -/
theorem mm_upd {G : mm_G} {R R1 : mm_R} {N : Nat} {M M1 : mm_M} {H H1 : Heap} {o : Nat} (hM : mm_P G R N M H) (oq : ∀ q : Nat, q ≠ mm_lo G + o → H1[q]? = H[q]?) (he : va_at G.1 vwCl (mm_lo G + o, mm_en G R1 M1 o) H1) (hs : ∀ o', o' ≠ o → mm_en G R1 M1 o' = mm_en G R M o') : mm_P G R1 N M1 H1 := by
  intro k q hk
  obtain ⟨hkN, e⟩ := mm_Wi hk
  subst e
  by_cases h : k = o
  · subst h; exact he
  · rw [hs k h]
    exact (hM k _ (mm_Wg hkN)).kept (oq _ (fun z => h (Nat.add_left_cancel z)))
theorem mm_en_I {G : mm_G} {R : mm_R} {M : mm_M} {o k : Nat} {v : Int32} : ∀ o', o' ≠ o → mm_en G R (sI M o k v) o' = mm_en G R M o' := by
  intro o' h
  have e : (sI M o k v).1 o' = M.1 o' := by funext j; simp [sI, h]
  unfold mm_en
  rw [e]
  rfl
theorem mm_en_L {G : mm_G} {R : mm_R} {M : mm_M} {o k : Nat} {v : Int64} : ∀ o', o' ≠ o → mm_en G R (sL M o k v) o' = mm_en G R M o' := by
  intro o' h
  have e : (sL M o k v).2 o' = M.2 o' := by funext j; simp [sL, h]
  unfold mm_en
  rw [e]
  rfl
theorem mm_en_C {G : mm_G} {R : mm_R} {M : mm_M} {o : Nat} {f : Nat → Int32} : ∀ o', o' ≠ o → mm_en G R (sC M o f) o' = mm_en G R M o' := by
  intro o' h
  have e : (sC M o f).1 o' = M.1 o' := by funext j; simp [sC, h]
  unfold mm_en
  rw [e]
  rfl
theorem mm_en_R {G : mm_G} {R : mm_R} {M : mm_M} {o k : Nat} {v : Option Nat} : ∀ o', o' ≠ o → mm_en G (sR R o k v) M o' = mm_en G R M o' := by
  intro o' h
  have e : (sR R o k v) o' = R o' := by funext j; simp [sR, h]
  unfold mm_en
  rw [e]
theorem sI_at (M : mm_M) (o k : Nat) (v : Int32) : (sI M o k v).1 o = fun j => if j = k then v else M.1 o j := by funext j; simp [sI]
theorem sI_long (M : mm_M) (o k : Nat) (v : Int32) (o' : Nat) : (sI M o k v).2 o' = M.2 o' := rfl
theorem sL_at (M : mm_M) (o k : Nat) (v : Int64) : (sL M o k v).2 o = fun j => if j = k then v else M.2 o j := by funext j; simp [sL]
theorem sL_int (M : mm_M) (o k : Nat) (v : Int64) (o' : Nat) : (sL M o k v).1 o' = M.1 o' := rfl
theorem sR_at (R : mm_R) (o k : Nat) (v : Option Nat) : (sR R o k v) o = fun j => if j = k then v else R o j := by funext j; simp [sR]
-- the tables' words
def mm_good : List Cond := lw_tbl.filter goodWord
theorem mm_in {w : Cond} (i : Nat) (h : lw_tbl[i]? = some w) (hg : goodWord w = true) : w ∈ mm_good := List.mem_filter.mpr ⟨List.mem_of_getElem? h, hg⟩
def mm_ws (y : MethodName) (cc : ByteArray) (n : Nat) (ret : Option FieldType) : List Cond := Cond.code y cc n ret :: mm_good
theorem mm_gd {w : Cond} (h : w ∈ mm_good) : w ∈ mm_good ∧ ((w.onTables && w.keeps) = true ∨ ∃ ty, w = .arrayClass ty) := ⟨h, good_of_word (List.mem_filter.mp h).2⟩
theorem mm_gws {y : MethodName} {cc : ByteArray} {n : Nat} {ret : Option FieldType} (h : Cond.code y cc n ret ∈ mm_good) : GoodIn mm_good (mm_ws y cc n ret) := by
  intro w hw
  rcases List.mem_cons.mp hw with rfl | hw
  · exact mm_gd h
  · exact mm_gd hw
theorem mm_gV {own : String} {idx : Nat} {C : String} {y : MethodName} {cc : ByteArray} {n : Nat} {ret : Option FieldType} (h1 : Cond.methodLink own idx y ∈ mm_good) (h2 : Cond.instanceMethod y ∈ mm_good) (h3 : Cond.selects C y y ∈ mm_good) (h4 : Cond.initialized C ∈ mm_good) (h5 : Cond.code y cc n ret ∈ mm_good) : GoodIn mm_good (wsV own idx C y (mm_ws y cc n ret)) := by
  intro w hw
  unfold wsV at hw
  rcases List.mem_append.mp hw with hw | hw
  · simp only [List.mem_cons, List.not_mem_nil, or_false] at hw
    rcases hw with rfl | rfl | rfl | rfl
    · exact mm_gd h1
    · exact mm_gd h2
    · exact mm_gd h3
    · exact mm_gd h4
  · exact mm_gws h5 w hw
theorem mm_gS {own : String} {idx : Nat} {y : MethodName} {cc : ByteArray} {n : Nat} {ret : Option FieldType} (h1 : Cond.methodLink own idx y ∈ mm_good) (h2 : Cond.static y ∈ mm_good) (h4 : Cond.initialized y.cls ∈ mm_good) (h5 : Cond.code y cc n ret ∈ mm_good) : GoodIn mm_good (va_wsS own idx y (mm_ws y cc n ret)) := by
  intro w hw
  unfold va_wsS at hw
  rcases List.mem_append.mp hw with hw | hw
  · simp only [List.mem_cons, List.not_mem_nil, or_false] at hw
    rcases hw with rfl | rfl | rfl
    · exact mm_gd h1
    · exact mm_gd h2
    · exact mm_gd h4
  · exact mm_gws h5 w hw
/-- links between nest mates, arrays of references: words that are said of a state -/
def mm_N (U : State) : Prop := (∀ (own : String) (i : Nat) (r n d h : String), Cond.fieldLinkNest own i r n d h ∈ lw_tbl → va_Nw (.fieldLinkNest own i r n d h) U) ∧ (∀ (own : String) (i : Nat) (y : MethodName) (h : String), Cond.methodLinkNest own i y h ∈ lw_tbl → va_Nw (.methodLinkNest own i y h) U) ∧ (∀ C : String, Cond.arrayOver (.object C) ∈ lw_tbl → va_AO C U)
theorem mm_N.warm {s U : State} (hW : s.WarmedH U.vm) (h : mm_N s) : mm_N U := ⟨fun own i r n d x hw => va_Nw.warmF hW (h.1 own i r n d x hw), fun own i y x hw => va_Nw.warmM hW (h.2.1 own i y x hw), fun C hw => va_AO.moved hW.alike (h.2.2 C hw)⟩
theorem mm_N.same {u U : State} (e : u.vm = U.vm) (h : mm_N u) : mm_N U := ⟨fun own i r n d x hw => va_Nw.same rfl e (h.1 own i r n d x hw), fun own i y x hw => va_Nw.same rfl e (h.2.1 own i y x hw), fun C hw => va_AO.moved (by rw [e]; exact Vm.Alike.refl _) (h.2.2 C hw)⟩
def mm_K (G : mm_G) (U : State) : Prop := va_K G.1 vwCl (mm_tys G) U ∧ mm_N U
theorem mm_K.warm {G : mm_G} {s U : State} (hW : s.WarmedH U.vm) (h : mm_K G s) : mm_K G U := ⟨va_K.moved hW.alike h.1, h.2.warm hW⟩
theorem mm_K.same {G : mm_G} {u U : State} (e : u.vm = U.vm) (h : mm_K G u) : mm_K G U := ⟨va_K.moved (by rw [e]; exact Vm.Alike.refl _) h.1, h.2.same e⟩
-- the three static arrays
def mm_f0 (j : Nat) : Int32 := if j = 0 then 8 else if j = 1 then 60 else if j = 2 then 2 else if j = 3 then 12 else if j = 4 then 14 else if j = 5 then 90 else if j = 6 then 500 else if j = 7 then 2 else if j = 8 then 11 else 200
def mm_f1 (j : Nat) : Int32 := if j = 0 then 1 else if j = 1 then 1 else if j = 2 then 1 else if j = 3 then 3 else if j = 4 then 1 else if j = 5 then 1 else if j = 6 then 0 else if j = 7 then 0 else if j = 8 then 6 else 0
def mm_f2 (j : Nat) : Int32 := if j = 0 then 20 else if j = 1 then 200 else if j = 2 then 8 else if j = 3 then 30 else if j = 4 then 60 else if j = 5 then 200 else if j = 6 then 10000 else if j = 7 then 9 else if j = 8 then 14 else 5000
def mm_Z1 (G : mm_G) (n : String) (t : Nat) (f : Nat → Int32) (U : State) (H : Heap) : Prop := va_Z "CartPitches" n "[I" (.ref t) (mm_A G) U H ∧ va_T .int t 10 (fun j => .int (f j)) (mm_A G) U H
def mm_Z (G : mm_G) (U : State) (H : Heap) : Prop := mm_Z1 G "FIRST_VALUE" (G.2.2 1) mm_f0 U H ∧ mm_Z1 G "LEAST_VALUE" (G.2.2 2) mm_f1 U H ∧ mm_Z1 G "MOST_VALUE" (G.2.2 3) mm_f2 U H
theorem mm_Z1.go {G : mm_G} {n : String} {t : Nat} {f : Nat → Int32} {u U : State} {H H1 : Heap} (hvm : u.vm.Alike U.vm) (hq : ∀ a : Nat, a < H.size → ¬ mm_A G a → H1[a]? = H[a]?) (h : mm_Z1 G n t f u H) : mm_Z1 G n t f U H1 := ⟨(h.1.moved hvm).kept hq, (h.2.moved hvm).kept hq⟩
theorem mm_Z.go {G : mm_G} {u U : State} {H H1 : Heap} (hvm : u.vm.Alike U.vm) (hq : ∀ a : Nat, a < H.size → ¬ mm_A G a → H1[a]? = H[a]?) (h : mm_Z G u H) : mm_Z G U H1 := ⟨h.1.go hvm hq, h.2.1.go hvm hq, h.2.2.go hvm hq⟩
/-- a method's world; behind makers its size too -/
def mm_B (G : mm_G) (w : mm_Ws) (U : State) : Prop := mm_P G w.1 w.2.1 w.2.2 U.heap ∧ mm_K G U ∧ mm_Z G U U.heap ∧ mm_lo G ≤ U.heap.size
def mm_Bc (G : mm_G) (w : mm_Ws) (U : State) : Prop := U.heap.size = mm_lo G + w.2.1 ∧ mm_B G w U
theorem mm_blind {G : mm_G} {vs : List Value} {w : mm_Ws} : FrameBlind (va_Pc vs (mm_B G w)) := fun a U g mk q => ⟨q.1, q.2.1, mm_K.same (u := U) (U := U.calling g mk a) rfl q.2.2.1, q.2.2.2.1.go (u := U) (U := U.calling g mk a) (Vm.Alike.refl U.vm) (fun _ _ _ => rfl), q.2.2.2.2⟩
theorem mm_blindc {G : mm_G} {vs : List Value} {w : mm_Ws} : FrameBlind (va_Pc vs (mm_Bc G w)) := fun a U g mk q => ⟨q.1, q.2.1, q.2.2.1, mm_K.same (u := U) (U := U.calling g mk a) rfl q.2.2.2.1, q.2.2.2.2.1.go (u := U) (U := U.calling g mk a) (Vm.Alike.refl U.vm) (fun _ _ _ => rfl), q.2.2.2.2.2⟩
/-- what a walk carries -/
def mm_C (G : mm_G) (p : Program) (s : State) (m : MethodId) (args : Array Value) (meth : Method) (c : Code) (own : String) (cc : ByteArray) (nL : Nat) (ret : Option FieldType) : Prop :=
  p.tables.exec = Jvm.exec ∧ c.code = cc ∧ meth.sig.returnType = ret ∧ (∀ w ∈ mm_good, w.before args s = true) ∧ s.vm.findClass own = some m.cls ∧ c.maxLocals = nL ∧ meth.locks = false ∧ mm_K G s ∧ mm_Z G s s.heap ∧ mm_lo G ≤ s.heap.size
section MMR
variable {p : Program} {l : Launch} {e : Env} {Rm : Room} {s : State} {m : MethodId} {args : Array Value} {below : List Frame} {meth : Method} {c : Code} {H : Heap} {locs : List Loc} {cells slots : Nat} {Q : State → Prop}
variable {cc : ByteArray} {pc : Nat} {ls : Array Slot} {rest : List Value} {G : mm_G} {own : String} {nL : Nat} {ret : Option FieldType} {R : mm_R} {N : Nat} {M : mm_M} {o : Nat}
theorem mm_get (C : mm_C G p s m args meth c own cc nL ret) (hM : mm_P G R N M H) (ho : o < N) {ci Nf k index : Nat} {Cn : String} {T : u_T} {fs : List Value} (he : mm_en G R M o = .inr (ci, fs)) (hc : vwCl[ci]? = some (Cn, T, Nf)) (hw : ∀ w ∈ u_ws Cn T Nf, w ∈ mm_good) (hk : k < Nf) (hs : (T k).1 = Cn) (hlink : Cond.fieldLink own index Cn (T k).2.1 (T k).2.2.1 ∈ mm_good) {v : Value} (hv : fs[k]? = some v) (hdg : decode cc pc = .ok (.getfield index, 3))
    (kk : W p l e Rm s m args below meth c H locs cells slots Q (F0 m (pc + 3) ls (v :: rest))) : W p l e Rm s m args below meth c H locs cells slots Q (F0 m pc ls (.ref (mm_lo G + o) :: rest)) := by
  obtain ⟨hx, hb, -, hts, hown, -, -, hK, -⟩ := C
  exact va_get (D := G.1) (cl := vwCl) (ci := ci) (v := v) (C := Cn) (T := T) (N := Nf) hx hb hts hw hown hK.1 hM o (by rw [mm_Wg ho, he]) hc k hk (hts _ hlink) (fun _ h9 => by rw [hs] at h9; exact h9) hv hdg kk
/-- a field is written, not final: the cell behind it, all others as they were -/
theorem mm_put0 (C : mm_C G p s m args meth c own cc nL ret) (hM : mm_P G R N M H) (hS : va_S (mm_A G) s.heap H locs) (ho : o < N) {ci Nf k index : Nat} {Cn : String} {T : u_T} {fs : List Value} (he : mm_en G R M o = .inr (ci, fs)) (hc : vwCl[ci]? = some (Cn, T, Nf)) (hw : ∀ w ∈ u_ws Cn T Nf, w ∈ mm_good) (ty0 : Nat → FieldType) (hty : ∀ k, k < Nf → parseFieldDescriptor (T k).2.2.1 = some (ty0 k)) (hnm : ∀ a, a < Nf → ∀ b, b < Nf → a ≠ b → (T a).2.1 ≠ (T b).2.1) (hk : k < Nf) (hs : (T k).1 = Cn) (hlink : Cond.fieldLink own index Cn (T k).2.1 (T k).2.2.1 ∈ mm_good)
    (hfin : (T k).2.2.2 = false ∨ ((T k).2.2.2 = true ∧ meth.name = "<init>" ∧ Cn = own)) {v : Value} (hn : narrow (ty0 k) v = v) (hfit : fits (ty0 k) v = true) (hl : k < fs.length) (hdg : decode cc pc = .ok (.putfield index, 3))
    (kk : ∀ (H1 : Heap) (locs1 : List Loc), va_at G.1 vwCl (mm_lo G + o, .inr (ci, fs.set k v)) H1 → (∀ q : Nat, q ≠ mm_lo G + o → H1[q]? = H[q]?) → H1.size = H.size → va_S (mm_A G) s.heap H1 locs1 → W p l e Rm s m args below meth c H1 locs1 cells slots Q (F0 m (pc + 3) ls rest)) : W p l e Rm s m args below meth c H locs cells slots Q (F0 m pc ls (v :: .ref (mm_lo G + o) :: rest)) := by
  obtain ⟨hx, hb, -, hts, hown, -, -, hK, -⟩ := C
  have hap := va_apart (own := own) (ci := ci) hts hw ty0 hty hnm hK.1 hc
  have h0 := hM o _ (mm_Wg ho)
  rw [he] at h0
  obtain ⟨r, h1, cell, q1, q2, q3, q4⟩ := h0
  cases h1.symm.trans hc
  obtain ⟨hSl, hfc, kC, hkC, hkind⟩ := hK.1.1 ci _ hc
  obtain ⟨cf, kf, fi, f, hi, hsl⟩ := hSl k hk
  have hd : parseFieldDescriptor (T k).2.2.1 = some (ty0 k) := hty k hk
  have hst := (u_facts hfc hkC (u_lays hts hw hk) hi).1
  have hi2 : s.fieldFound? Cn (T k).2.1 (T k).2.2.1 = some (cf, kf, fi, f) := by rw [← hs]; exact hi
  have hlt : f.slot < cell.slots.size := by rw [hsl]; exact k2_hasslot (q4 k hk)
  have fin : ∀ H' : Heap, H'[mm_lo G + o]? = some (cell.setSlot f.slot v) → H'.size = H.size → (∀ q, q ≠ mm_lo G + o → H'[q]? = H[q]?) → W p l e Rm s m args below meth c H' (locs ++ [⟨mm_lo G + o, f.slot⟩]) cells slots Q (F0 m (pc + 3) ls rest) := by
    intro H' e1 e2 e3
    rw [hsl] at e1 ⊢
    exact kk H' _ ⟨_, hc, t_OB.to (V := updV (vp_V fs) k v) ⟨_, e1, q2, q3, t_set q4 hap hk v⟩ (fun j _ => vp_updV_set hl v j)⟩ e3 e2 (hS.put e2 e3 (Nat.le_add_right _ _))
  rcases hfin with hfin | ⟨hfin, hin, hCn⟩
  · have hlay := hts _ (hw _ (u_in_lay hk))
    unfold u_lay at hlay
    rw [if_neg (by rw [hfin]; decide)] at hlay
    have h6 := u_store hfc hkC hkind hlay hi hd hn hfit
    exact W.putK hx hb (f := f) ⟨hown, hts _ hlink, ⟨_, _, _, hi2⟩, hst⟩ (by rw [q2]; exact h6) q1 q3 hlt rfl rfl hdg fin
  · have hlay := hts _ (hw _ (u_in_lay hk))
    unfold u_lay at hlay
    rw [if_pos hfin] at hlay
    have hcf : m.cls = cf := by
      obtain ⟨_, _, c', _, _, _, -, -, hf', -, -, -, hown2, -⟩ := Cond.laysFinal_spec hlay
      have e1 : c' = cf := by have := hi.symm.trans hf'; simp at this; exact this.1.symm
      rw [hs, hCn] at hown2
      rw [← e1]; exact Option.some.inj (hown.symm.trans hown2)
    have h6 := u_fits hfc hkC hkind (Or.inr hlay) hi hd hn hfit
    exact W.putFinK hx hb hown (hts _ hlink) hi2 hst hcf hin (by rw [q2]; exact h6) q1 q3 hlt rfl rfl hdg fin
/-- an int array is read -/
theorem mm_ild (C : mm_C G p s m args meth c own cc nL ret) (hM : mm_P G R N M H) (ho : o < N) {n : Nat} (hT : kT o = (8, n)) {i : Int32} (hin : vp_in i n) (hdg : decode cc pc = .ok (.iaload, 1))
    (kk : W p l e Rm s m args below meth c H locs cells slots Q (F0 m (pc + 1) ls (.int (M.1 o i.toNatClampNeg) :: rest))) : W p l e Rm s m args below meth c H locs cells slots Q (F0 m pc ls (.int i :: .ref (mm_lo G + o) :: rest)) := by
  obtain ⟨hx, hb, -, hts, hown, -, -, hK, -⟩ := C
  exact va_iald hx hb hK.1 hM o 1 (cA := G.2.1 1) (n := n) (f := M.1 o) (by rw [mm_Wg ho]; unfold mm_en; rw [hT]; rfl) rfl hin hdg kk
theorem mm_zld (C : mm_C G p s m args meth c own cc nL ret) (hM : mm_P G R N M H) (ho : o < N) {n : Nat} (hT : kT o = (9, n)) {i : Int32} (hin : vp_in i n) (hdg : decode cc pc = .ok (.baload, 1))
    (kk : W p l e Rm s m args below meth c H locs cells slots Q (F0 m (pc + 1) ls (.int (M.1 o i.toNatClampNeg) :: rest))) : W p l e Rm s m args below meth c H locs cells slots Q (F0 m pc ls (.int i :: .ref (mm_lo G + o) :: rest)) := by
  obtain ⟨hx, hb, -, hts, hown, -, -, hK, -⟩ := C
  exact va_zald hx hb hK.1 hM o 2 (cA := G.2.1 2) (n := n) (f := M.1 o) (by rw [mm_Wg ho]; unfold mm_en; rw [hT]; rfl) rfl hin hdg kk
theorem mm_cld (C : mm_C G p s m args meth c own cc nL ret) (hM : mm_P G R N M H) (ho : o < N) {n : Nat} (hT : kT o = (7, n)) {i : Int32} (hin : vp_in i n) (hdg : decode cc pc = .ok (.caload, 1))
    (kk : W p l e Rm s m args below meth c H locs cells slots Q (F0 m (pc + 1) ls (.int (M.1 o i.toNatClampNeg) :: rest))) : W p l e Rm s m args below meth c H locs cells slots Q (F0 m pc ls (.int i :: .ref (mm_lo G + o) :: rest)) := by
  obtain ⟨hx, hb, -, hts, hown, -, -, hK, -⟩ := C
  exact va_cald hx hb hK.1 hM o 0 (cA := G.2.1 0) (n := n) (f := M.1 o) (by rw [mm_Wg ho]; unfold mm_en; rw [hT]; rfl) rfl hin hdg kk
/-- an array of references is read; what stands there is known -/
theorem mm_ald (C : mm_C G p s m args meth c own cc nL ret) (hM : mm_P G R N M H) (ho : o < N) {k n : Nat} (hk : k = 10 ∨ k = 11 ∨ k = 12) (hT : kT o = (k, n)) {i : Int32} (hin : vp_in i n) {b : Nat} (hr : R o i.toNatClampNeg = some b) (hdg : decode cc pc = .ok (.aaload, 1))
    (kk : W p l e Rm s m args below meth c H locs cells slots Q (F0 m (pc + 1) ls (.ref (mm_lo G + b) :: rest))) : W p l e Rm s m args below meth c H locs cells slots Q (F0 m pc ls (.int i :: .ref (mm_lo G + o) :: rest)) := by
  obtain ⟨hx, hb, -, hts, hown, -, -, hK, -⟩ := C
  have kk : W p l e Rm s m args below meth c H locs cells slots Q (F0 m (pc + 1) ls (va_rf ((fun j => (R o j).map (fun a => mm_lo G + a)) i.toNatClampNeg) :: rest)) := by
    show W p l e Rm s m args below meth c H locs cells slots Q (F0 m (pc + 1) ls (mm_q G (R o i.toNatClampNeg) :: rest))
    rw [mm_q_some hr]; exact kk
  rcases hk with rfl | rfl | rfl
  · exact va_aldq hx hb hK.1 hM o 3 (cA := G.2.1 3) (n := n) (f := fun j => (R o j).map (fun a => mm_lo G + a)) (by rw [mm_Wg ho]; unfold mm_en; rw [hT]; rfl) rfl hin hdg kk
  · exact va_aldq hx hb hK.1 hM o 4 (cA := G.2.1 4) (n := n) (f := fun j => (R o j).map (fun a => mm_lo G + a)) (by rw [mm_Wg ho]; unfold mm_en; rw [hT]; rfl) rfl hin hdg kk
  · exact va_aldq hx hb hK.1 hM o 5 (cA := G.2.1 5) (n := n) (f := fun j => (R o j).map (fun a => mm_lo G + a)) (by rw [mm_Wg ho]; unfold mm_en; rw [hT]; rfl) rfl hin hdg kk
theorem mm_arI {n : Nat} {cA : ClassId} {f : Nat → Int32} {k : Nat} {x : Int32} {H1 : Heap} {a : Nat} {D : va_G} {cl : List vw_C} (e : H1[a]? = some ((arrV cA n (fun j => .int (f j))).setSlot k (.int x))) : va_at D cl (a, .inl (cA, (n, .inl (fun j => if j = k then x else f j)))) H1 := by
  show H1[a]? = some (vp_cell _ _)
  rw [e, vp_cell_i, arrV_store]
  congr 2
  funext q
  by_cases hq : q = k
  · simp [updV, hq]
  · simp [updV, hq]
/-- an int array is written -/
theorem mm_ist (C : mm_C G p s m args meth c own cc nL ret) (hM : mm_P G R N M H) (hS : va_S (mm_A G) s.heap H locs) (ho : o < N) {n : Nat} (hT : kT o = (8, n)) {i x : Int32} (hin : vp_in i n) (hdg : decode cc pc = .ok (.iastore, 1))
    (kk : ∀ (H1 : Heap) (locs1 : List Loc), mm_P G R N (sI M o i.toNatClampNeg x) H1 → va_S (mm_A G) s.heap H1 locs1 → H1.size = H.size → W p l e Rm s m args below meth c H1 locs1 cells slots Q (F0 m (pc + 1) ls rest)) : W p l e Rm s m args below meth c H locs cells slots Q (F0 m pc ls (.int x :: .int i :: .ref (mm_lo G + o) :: rest)) := by
  obtain ⟨hx, hb, -, hts, hown, -, -, hK, -⟩ := C
  have h0 := hM o _ (mm_Wg ho)
  have e0 : mm_en G R M o = .inl (G.2.1 1, (n, .inl (M.1 o))) := by unfold mm_en; rw [hT]; rfl
  have e1 : mm_en G R (sI M o i.toNatClampNeg x) o = .inl (G.2.1 1, (n, .inl (fun j => if j = i.toNatClampNeg then x else M.1 o j))) := by unfold mm_en; rw [hT, sI_at]; rfl
  rw [e0] at h0
  refine W.iast hx hb h0 ((hK.1.2 1 _ rfl).1 n (fun j => .int (M.1 o j))) (fun q => by cases q) (by show ¬ (i < 0 ∨ (arrV _ _ _).slots.size ≤ _); rw [arrV_size]; exact hin) rfl rfl hdg fun H1 e z oq => ?_
  exact kk H1 _ (mm_upd hM oq (by rw [e1]; exact mm_arI e) mm_en_I) (hS.put z oq (Nat.le_add_right _ _)) z
theorem mm_nar_b {x : Int32} (h : narrow .boolean (.int x) = .int x) (cell : Cell) (k : Nat) : cell.setSlot k (narrow .boolean (.int x)) = cell.setSlot k (.int x) := by rw [h]
theorem mm_zst (C : mm_C G p s m args meth c own cc nL ret) (hM : mm_P G R N M H) (hS : va_S (mm_A G) s.heap H locs) (ho : o < N) {n : Nat} (hT : kT o = (9, n)) {i x : Int32} (hin : vp_in i n) (hnx : narrow .boolean (.int x) = .int x) (hdg : decode cc pc = .ok (.bastore, 1))
    (kk : ∀ (H1 : Heap) (locs1 : List Loc), mm_P G R N (sI M o i.toNatClampNeg x) H1 → va_S (mm_A G) s.heap H1 locs1 → H1.size = H.size → W p l e Rm s m args below meth c H1 locs1 cells slots Q (F0 m (pc + 1) ls rest)) : W p l e Rm s m args below meth c H locs cells slots Q (F0 m pc ls (.int x :: .int i :: .ref (mm_lo G + o) :: rest)) := by
  obtain ⟨hx, hb, -, hts, hown, -, -, hK, -⟩ := C
  have h0 := hM o _ (mm_Wg ho)
  have e0 : mm_en G R M o = .inl (G.2.1 2, (n, .inl (M.1 o))) := by unfold mm_en; rw [hT]; rfl
  have e1 : mm_en G R (sI M o i.toNatClampNeg x) o = .inl (G.2.1 2, (n, .inl (fun j => if j = i.toNatClampNeg then x else M.1 o j))) := by unfold mm_en; rw [hT, sI_at]; rfl
  rw [e0] at h0
  refine W.zast hx hb h0 ((hK.1.2 2 _ rfl).1 n (fun j => .int (M.1 o j))) (fun q => by cases q) (by show ¬ (i < 0 ∨ (arrV _ _ _).slots.size ≤ _); rw [arrV_size]; exact hin) rfl rfl hdg fun H1 e z oq => ?_
  rw [hnx] at e
  exact kk H1 _ (mm_upd hM oq (by rw [e1]; exact mm_arI e) mm_en_I) (hS.put z oq (Nat.le_add_right _ _)) z
theorem mm_cst (C : mm_C G p s m args meth c own cc nL ret) (hM : mm_P G R N M H) (hS : va_S (mm_A G) s.heap H locs) (ho : o < N) {n : Nat} (hT : kT o = (7, n)) {i x : Int32} (hin : vp_in i n) (hnx : narrow .char (.int x) = .int x) (hdg : decode cc pc = .ok (.castore, 1))
    (kk : ∀ (H1 : Heap) (locs1 : List Loc), mm_P G R N (sI M o i.toNatClampNeg x) H1 → va_S (mm_A G) s.heap H1 locs1 → H1.size = H.size → W p l e Rm s m args below meth c H1 locs1 cells slots Q (F0 m (pc + 1) ls rest)) : W p l e Rm s m args below meth c H locs cells slots Q (F0 m pc ls (.int x :: .int i :: .ref (mm_lo G + o) :: rest)) := by
  obtain ⟨hx, hb, -, hts, hown, -, -, hK, -⟩ := C
  have h0 := hM o _ (mm_Wg ho)
  have e0 : mm_en G R M o = .inl (G.2.1 0, (n, .inl (M.1 o))) := by unfold mm_en; rw [hT]; rfl
  have e1 : mm_en G R (sI M o i.toNatClampNeg x) o = .inl (G.2.1 0, (n, .inl (fun j => if j = i.toNatClampNeg then x else M.1 o j))) := by unfold mm_en; rw [hT, sI_at]; rfl
  rw [e0] at h0
  refine W.cast hx hb h0 ((hK.1.2 0 _ rfl).1 n (fun j => .int (M.1 o j))) (fun q => by cases q) (by show ¬ (i < 0 ∨ (arrV _ _ _).slots.size ≤ _); rw [arrV_size]; exact hin) rfl rfl hdg fun H1 e z oq => ?_
  rw [hnx] at e
  exact kk H1 _ (mm_upd hM oq (by rw [e1]; exact mm_arI e) mm_en_I) (hS.put z oq (Nat.le_add_right _ _)) z
/-- System.arraycopy between two int arrays from 0 to 0 -/
theorem mm_cpy (C : mm_C G p s m args meth c own cc nL ret) (hM : mm_P G R N M H) (hS : va_S (mm_A G) s.heap H locs) {o2 n n2 index : Nat} (ho : o < N) (ho2 : o2 < N) (hT : kT o = (8, n)) (hT2 : kT o2 = (8, n2)) (hl : ls.size = nL) {k : Int32} {kn : Nat} (hk0 : ¬ k < 0) (hk : k.toNatClampNeg = kn) (h1 : kn ≤ n) (h2 : kn ≤ n2)
    (hlink : Cond.methodLink own index arraycopyName ∈ mm_good) (hnat : Cond.native arraycopyName ∈ mm_good) (hstat : Cond.static arraycopyName ∈ mm_good) (hini : Cond.initialized "java/lang/System" ∈ mm_good) (hfr : 1 ≤ Rm.frames) (hlo : (rest.map fun v => v.category).sum + (nativeFrameWords "java/lang/System" "arraycopy" 5 + 11) ≤ Rm.locals) (hdg : decode cc pc = .ok (.invokestatic index, 3))
    (kk : ∀ (H1 : Heap) (locs1 : List Loc), mm_P G R N (sC M o2 (fun j => if j < kn then M.1 o j else M.1 o2 j)) H1 → va_S (mm_A G) s.heap H1 locs1 → W p l e Rm s m args below meth c H1 locs1 cells slots Q (F0 m (pc + 3) ls rest)) : W p l e Rm s m args below meth c H locs cells slots Q (F0 m pc ls (.int k :: .int 0 :: .ref (mm_lo G + o2) :: .int 0 :: .ref (mm_lo G + o) :: rest)) := by
  obtain ⟨hx, hb, -, hts, hown, hml, -, hK, -⟩ := C
  subst hk
  refine va_copyi hx hb (by rw [hml, hl]) hown (hts _ hlink) (hts _ hnat) (hts _ hstat) (hts _ hini) hK.1 hM mm_Wd hS o o2 1 1 (c0 := G.2.1 1) (c1 := G.2.1 1) (n0 := n) (n1 := n2) (f := M.1 o) (g := M.1 o2) (ty := .int) (by rw [mm_Wg ho]; unfold mm_en; rw [hT]; rfl) (by rw [mm_Wg ho2]; unfold mm_en; rw [hT2]; rfl) rfl rfl rfl (by decide) (by decide) hk0 (by show 0 + _ ≤ _; omega) (by show 0 + _ ≤ _; omega) (fun _ _ => rfl) hfr hlo hdg fun H1 locs1 hP1 _ hS1 => ?_
  refine kk H1 locs1 (fun j q hj => ?_) hS1
  obtain ⟨hjN, ej⟩ := mm_Wi hj
  subst ej
  by_cases h : j = o2
  · subst h
    have hl2 : j < (mm_W G R N M).length := (List.getElem?_eq_some_iff.mp (mm_Wg hjN)).1
    have a := hP1 j _ (List.getElem?_set_self hl2)
    have e : mm_en G R (sC M j (fun i => if i < k.toNatClampNeg then M.1 o i else M.1 j i)) j = .inl (G.2.1 1, n2, .inl (va_cpy (M.1 o) (M.1 j) 0 0 k.toNatClampNeg)) := by
      unfold mm_en
      rw [hT2]
      show Sum.inl (G.2.1 1, (n2, Sum.inl _)) = _
      congr 4
      funext i
      simp [sC, va_cpy]
    rw [e]
    exact a
  · rw [mm_en_C j h]
    exact hP1 j _ (by rw [List.getElem?_set_ne (Ne.symm h), mm_Wg hjN])
end MMR
end
section
/-! MY OWN KIT, second part: entries, calls, ends -/
def b2i (b : Bool) : Int32 := if b then 1 else 0
theorem b2i_n (b : Bool) : narrow .boolean (.int (b2i b)) = .int (b2i b) := by cases b <;> rfl
theorem mm_narrow_char {x : Int32} (h : (x.toUInt32 % 65536).toInt32 = x) : narrow .char (.int x) = .int x := by
  have := pk_nc x
  rw [h] at this
  exact this
def gd {α : Type} (P : Prop) [Decidable P] (k : Option α) : Option α := if P then k else none
theorem gd_of {α : Type} {P : Prop} [Decidable P] {k : Option α} {r : α} (h : gd P k = some r) : P ∧ k = some r := by
  unfold gd at h
  split at h
  · exact ⟨‹_›, h⟩
  · cases h
theorem gd_t {α : Type} {P : Prop} [Decidable P] {k : Option α} (h : P) : gd P k = k := if_pos h
def bn {α β : Type} (x : Option α) (k : α → Option β) : Option β := match x with
  | none => none
  | some a => k a
theorem bn_of {α β : Type} {x : Option α} {k : α → Option β} {r : β} (h : bn x k = some r) : ∃ a, x = some a ∧ k a = some r := by
  cases x with
  | none => cases h
  | some a => exact ⟨a, rfl, h⟩
theorem bn_s {α β : Type} (a : α) (k : α → Option β) : bn (some a) k = k a := rfl
def lt {α β : Type} (x : α) (k : α → Option β) : Option β := k x
theorem lt_to {α β : Type} {x y : α} {k : α → Option β} {r : β} (e : y = x) (h : lt x k = some r) : k y = some r := by subst e; exact h
theorem if_t {α : Type} {P : Prop} [Decidable P] {a b : Option α} {r : α} (c : P) (h : (if P then a else b) = some r) : a = some r := by rw [if_pos c] at h; exact h
theorem if_f {α : Type} {P : Prop} [Decidable P] {a b : Option α} {r : α} (c : ¬ P) (h : (if P then a else b) = some r) : b = some r := by rw [if_neg c] at h; exact h
theorem vp_in_of2 {i : Int32} {n : Nat} (h : ¬ (i < 0 ∨ n ≤ i.toNatClampNeg)) : vp_in i n := h
section MMC
variable {p : Program} {l : Launch} {e : Env} {Rm : Room} {s : State} {m : MethodId} {args : Array Value} {below : List Frame} {meth : Method} {c : Code} {H : Heap} {locs : List Loc} {cells slots : Nat} {Q : State → Prop}
variable {cc : ByteArray} {pc : Nat} {ls : Array Slot} {rest : List Value} {G : mm_G} {own : String} {nL : Nat} {ret : Option FieldType} {R : mm_R} {N : Nat} {M : mm_M} {o : Nat}
/-- into a method -/
theorem mm_met {y : MethodName} {Qc : Array Value → State → Outcome → State → Prop} {mc ms : Nat} {w : mm_Ws} {vs : List Value} (hy : plainName y.cls = true) (hn : (lg_sl vs).length ≤ nL)
    (body : ∀ (p : Program) (e : Env) (s : State) (m : MethodId) (below : List Frame) (meth : Method) (c : Code) (ls : Array Slot), (y.name = "<init>" → meth.name = "<init>") → mm_C G p s m vs.toArray meth c y.cls cc nL ret → mm_P G w.1 w.2.1 w.2.2 s.heap → va_S (mm_A G) s.heap s.heap [] → lv_has ls nL (lv_args 0 vs) → W p l e Rm s m vs.toArray below meth c s.heap [] 0 0 (MQ below Qc vs.toArray s mc ms (mm_A G)) (F0 m 0 ls [])) : Met l y (mm_ws y cc nL ret) Rm (va_Pc vs (mm_B G w)) Qc mc ms (mm_A G) := by
  refine Met.ofW (cc := cc) (maxL := nL) (ret := ret) hy rfl ?_
  intro p e s m args below meth c s₁ B hml hv
  obtain ⟨rfl, hP, hK, hZ, hlo⟩ := hv
  have hts := atoms_spec (ws := mm_ws y cc nL ret) B.pre
  have hown : s.vm.findClass y.cls = some m.cls := findClass_of_methodNamed B.named
  have hl := lv_entry vs (n := nL) hn
  rw [lg_entry_eq]
  generalize (lg_sl vs ++ List.replicate (nL - (lg_sl vs).length) Slot.unset).toArray = ls at hl ⊢
  exact body p e s m below meth c ls (fun hq => (name_of_methodNamed B.named B.method).1.trans hq) ⟨B.exec, B.bytes, B.returns, fun w hw => hts w (List.mem_cons_of_mem _ hw), hown, hml, B.notSynchronized, hK, hZ, hlo⟩ hP va_S.rf hl
theorem mm_metc {y : MethodName} {Qc : Array Value → State → Outcome → State → Prop} {mc ms : Nat} {w : mm_Ws} {vs : List Value} (hy : plainName y.cls = true) (hn : (lg_sl vs).length ≤ nL)
    (body : ∀ (p : Program) (e : Env) (s : State) (m : MethodId) (below : List Frame) (meth : Method) (c : Code) (ls : Array Slot), (y.name = "<init>" → meth.name = "<init>") → mm_C G p s m vs.toArray meth c y.cls cc nL ret → s.heap.size = mm_lo G + w.2.1 → mm_P G w.1 w.2.1 w.2.2 s.heap → va_S (mm_A G) s.heap s.heap [] → lv_has ls nL (lv_args 0 vs) → W p l e Rm s m vs.toArray below meth c s.heap [] 0 0 (MQ below Qc vs.toArray s mc ms (mm_A G)) (F0 m 0 ls [])) : Met l y (mm_ws y cc nL ret) Rm (va_Pc vs (mm_Bc G w)) Qc mc ms (mm_A G) := by
  refine Met.ofW (cc := cc) (maxL := nL) (ret := ret) hy rfl ?_
  intro p e s m args below meth c s₁ B hml hv
  obtain ⟨rfl, hz, hP, hK, hZ, hlo⟩ := hv
  have hts := atoms_spec (ws := mm_ws y cc nL ret) B.pre
  have hown : s.vm.findClass y.cls = some m.cls := findClass_of_methodNamed B.named
  have hl := lv_entry vs (n := nL) hn
  rw [lg_entry_eq]
  generalize (lg_sl vs ++ List.replicate (nL - (lg_sl vs).length) Slot.unset).toArray = ls at hl ⊢
  exact body p e s m below meth c ls (fun hq => (name_of_methodNamed B.named B.method).1.trans hq) ⟨B.exec, B.bytes, B.returns, fun w hw => hts w (List.mem_cons_of_mem _ hw), hown, hml, B.notSynchronized, hK, hZ, hlo⟩ hz hP va_S.rf hl
/-- the world at a callee's start, or at the end -/
theorem mm_toB (C : mm_C G p s m args meth c own cc nL ret) (hM : mm_P G R N M H) (hS : va_S (mm_A G) s.heap H locs) {U : State} (hU : U.heap = H) (hW : s.WarmedH U.vm) : mm_B G (R, N, M) U := by
  obtain ⟨-, -, -, -, -, -, -, hK, hZ, hlo⟩ := C
  exact ⟨by rw [hU]; exact hM, hK.warm hW, by rw [hU]; exact hZ.go hW.alike hS.2.1, by rw [hU]; exact Nat.le_trans hlo hS.1⟩
abbrev mm_Qi (G : mm_G) (r0 : Int32) (w : mm_Ws) : Array Value → State → Outcome → State → Prop := va_Qi (fun (r : Int32) (u : Unit) => r = r0) (fun _ t => mm_B G w t) (mm_A G)
abbrev mm_Ql (G : mm_G) (r0 : Int64) (w : mm_Ws) : Array Value → State → Outcome → State → Prop := va_Ql (fun (r : Int64) (u : Unit) => r = r0) (fun _ t => mm_B G w t) (mm_A G)
abbrev mm_Qv (G : mm_G) (w : mm_Ws) : Array Value → State → Outcome → State → Prop := va_Qv (fun (u : Unit) => True) (fun _ t => mm_B G w t) (mm_A G)
abbrev mm_Qc (G : mm_G) (w : mm_Ws) : Array Value → State → Outcome → State → Prop := va_Qv (fun (u : Unit) => True) (fun _ t => mm_Bc G w t) (mm_A G)
abbrev mm_Qq (G : mm_G) (r0 : Option Nat) (w : mm_Ws) : Array Value → State → Outcome → State → Prop := va_Qq (fun (r : Option Nat) (u : Unit) => r = r0.map (fun a => mm_lo G + a)) (fun _ t => mm_B G w t) (mm_A G)
theorem mm_iret (C : mm_C G p s m args meth c own cc nL (some .int)) (hM : mm_P G R N M H) (hS : va_S (mm_A G) s.heap H locs) {v : Int32} (hdg : decode cc pc = .ok (.ireturn, 1)) : W p l e Rm s m args below meth c H locs cells slots (MQ below (mm_Qi G v (R, N, M)) args s cells slots (mm_A G)) (F0 m pc ls [.int v]) := by
  obtain ⟨hx, hb, hr, -, -, -, hlocks, -⟩ := id C
  exact W.iret (v := v) hx hb hr (fun t ht hW => ⟨⟨v, (), rfl, rfl, mm_toB C hM hS ht hW⟩, hS.F ht⟩) hS.2.2 hdg
theorem mm_zret (C : mm_C G p s m args meth c own cc nL (some .boolean)) (hM : mm_P G R N M H) (hS : va_S (mm_A G) s.heap H locs) {v : Bool} (hdg : decode cc pc = .ok (.ireturn, 1)) : W p l e Rm s m args below meth c H locs cells slots (MQ below (mm_Qi G (b2i v) (R, N, M)) args s cells slots (mm_A G)) (F0 m pc ls [.int (b2i v)]) := by
  obtain ⟨hx, hb, hr, -, -, -, hlocks, -⟩ := id C
  exact W.zret (v := b2i v) hx hb hr (b2i_n v) (fun t ht hW => ⟨⟨b2i v, (), rfl, rfl, mm_toB C hM hS ht hW⟩, hS.F ht⟩) hS.2.2 hdg
theorem mm_lret (C : mm_C G p s m args meth c own cc nL (some .long)) (hM : mm_P G R N M H) (hS : va_S (mm_A G) s.heap H locs) {v : Int64} (hdg : decode cc pc = .ok (.lreturn, 1)) : W p l e Rm s m args below meth c H locs cells slots (MQ below (mm_Ql G v (R, N, M)) args s cells slots (mm_A G)) (F0 m pc ls [.long v]) := by
  obtain ⟨hx, hb, hr, -, -, -, hlocks, -⟩ := id C
  exact W.lret (v := v) hx hb hr (fun t ht hW => ⟨⟨v, (), rfl, rfl, mm_toB C hM hS ht hW⟩, hS.F ht⟩) hS.2.2 hdg
theorem mm_vret (C : mm_C G p s m args meth c own cc nL none) (hM : mm_P G R N M H) (hS : va_S (mm_A G) s.heap H locs) (hdg : decode cc pc = .ok (.return_, 1)) : W p l e Rm s m args below meth c H locs cells slots (MQ below (mm_Qv G (R, N, M)) args s cells slots (mm_A G)) (F0 m pc ls []) := by
  obtain ⟨hx, hb, hr, -, -, -, hlocks, -⟩ := id C
  exact W.vret hx hb hr (fun t ht hW => ⟨⟨(), rfl, trivial, mm_toB C hM hS ht hW⟩, hS.F ht⟩) hS.2.2 hdg
theorem mm_cret (C : mm_C G p s m args meth c own cc nL none) (hz : H.size = mm_lo G + N) (hM : mm_P G R N M H) (hS : va_S (mm_A G) s.heap H locs) (hdg : decode cc pc = .ok (.return_, 1)) : W p l e Rm s m args below meth c H locs cells slots (MQ below (mm_Qc G (R, N, M)) args s cells slots (mm_A G)) (F0 m pc ls []) := by
  obtain ⟨hx, hb, hr, -, -, -, hlocks, -⟩ := id C
  exact W.vret hx hb hr (fun t ht hW => ⟨⟨(), rfl, trivial, by rw [ht]; exact hz, mm_toB C hM hS ht hW⟩, hS.F ht⟩) hS.2.2 hdg
theorem mm_aret (C : mm_C G p s m args meth c own cc nL (some (.object "CartPitches$Cart"))) (hM : mm_P G R N M H) (hS : va_S (mm_A G) s.heap H locs) {v : Option Nat} {w : Value} (hw : w = mm_q G v) (hdg : decode cc pc = .ok (.areturn, 1)) : W p l e Rm s m args below meth c H locs cells slots (MQ below (mm_Qq G v (R, N, M)) args s cells slots (mm_A G)) (F0 m pc ls [w]) := by
  obtain ⟨hx, hb, hr, -, -, -, hlocks, -⟩ := id C
  subst hw
  exact W.aret (v := mm_q G v) hx hb hr (Or.inl ⟨_, rfl⟩) (va_rf_or _) (fun t ht hW => ⟨⟨v.map (fun a => mm_lo G + a), (), rfl, rfl, mm_toB C hM hS ht hW⟩, hS.F ht⟩) hS.2.2 hdg
theorem mm_recv (C : mm_C G p s m args meth c own cc nL ret) (hM : mm_P G R N M H) (ho : o < N) {ci : Nat} {q : vw_C} {fs : List Value} (hc : vwCl[ci]? = some q) (he : mm_en G R M o = .inr (ci, fs)) : ∃ cell : Cell, H[mm_lo G + o]? = some cell ∧ cell.vm.isStatics = false ∧ s.vm.findClass q.1 = some cell.cls := by
  obtain ⟨-, -, -, -, -, -, -, hK, -⟩ := C
  exact va_recv (q0 := o) hK.1 hM hc (by rw [mm_Wg ho, he])
variable {y : MethodName} {bytes : ByteArray} {maxL n index : Nat} {rety : Option FieldType} {rm : Room} {Cn : String} {As : List Value} {w1 : mm_Ws} {st : List Value}
/-- what a call of an instance's method needs -/
def mm_V (Rm rm : Room) (own Cn : String) (index : Nat) (y : MethodName) (bytes : ByteArray) (maxL : Nat) (rety : Option FieldType) (n : Nat) : Prop :=
  GoodIn mm_good (wsV own index Cn y (mm_ws y bytes maxL rety)) ∧ rm.cells = 0 ∧ rm.slots = 0 ∧ (y.cls = Cn ∧ y.cls ≠ "java/lang/invoke/MethodHandle" ∧ y.cls ≠ "java/lang/invoke/VarHandle" ∧ (parseMethodDescriptor y.desc).map (fun d => d.parameters.length) = some n) ∧ rm.frames + 1 ≤ Rm.frames ∧ 8 + (maxL + 11) + rm.locals ≤ Rm.locals
def mm_Sc (Rm rm : Room) (own : String) (index : Nat) (y : MethodName) (bytes : ByteArray) (maxL : Nat) (rety : Option FieldType) (n : Nat) : Prop :=
  GoodIn mm_good (va_wsS own index y (mm_ws y bytes maxL rety)) ∧ rm.cells = 0 ∧ rm.slots = 0 ∧ (y.cls ≠ "java/lang/invoke/MethodHandle" ∧ y.cls ≠ "java/lang/invoke/VarHandle" ∧ (parseMethodDescriptor y.desc).map (fun d => d.parameters.length) = some n) ∧ rm.frames + 1 ≤ Rm.frames ∧ 8 + (maxL + 11) + rm.locals ≤ Rm.locals
theorem mm_runV {Qc : Array Value → State → Outcome → State → Prop} (C : mm_C G p s m args meth c own cc nL ret) (hM : mm_P G R N M H) (hS : va_S (mm_A G) s.heap H locs) (hcal : Met l y (mm_ws y bytes maxL rety) rm (va_Pc (.ref (mm_lo G + o) :: As) (mm_B G (R, N, M))) Qc 0 0 (mm_A G)) (hv : mm_V Rm rm own Cn index y bytes maxL rety n) (hrec : ∃ cell : Cell, H[mm_lo G + o]? = some cell ∧ cell.vm.isStatics = false ∧ s.vm.findClass Cn = some cell.cls)
    (hl : ls.size = nL) (hn : As.length = n) (hst : st = As.reverse ++ .ref (mm_lo G + o) :: rest) (hroom : (rest.map fun v => v.category).sum ≤ 8) (hf : cells ≤ Rm.cells ∧ slots ≤ Rm.slots) (hdg : decode cc pc = .ok (.invokevirtual index, 3)) :
    va_Run p l e Rm s m args below meth c H locs cells slots 0 0 (F0 m pc ls st) rest (Qc (Value.ref (mm_lo G + o) :: As).toArray) (mm_A G) := by
  obtain ⟨hx, hb, -, hts, hown, hml, -, -, -⟩ := id C
  obtain ⟨h1, h2, h3, h4, h5⟩ := hv
  exact va_runV (As := As) (rest := rest) ⟨hx, hb, hml, hown, hts⟩ hcal (cwV n hts h1 rfl h2 h3 h4 h5) ⟨mm_blind, hrec, fun U hU hW => ⟨rfl, mm_toB C hM hS hU hW⟩⟩ rfl hn hl hst (lv_room hroom) hdg ⟨hf.1, hf.2⟩
theorem mm_runS {Qc : Array Value → State → Outcome → State → Prop} (C : mm_C G p s m args meth c own cc nL ret) (hM : mm_P G R N M H) (hS : va_S (mm_A G) s.heap H locs) (hcal : Met l y (mm_ws y bytes maxL rety) rm (va_Pc As (mm_B G (R, N, M))) Qc 0 0 (mm_A G)) (hv : mm_Sc Rm rm own index y bytes maxL rety n)
    (hl : ls.size = nL) (hn : As.length = n) (hst : st = As.reverse ++ rest) (hroom : (rest.map fun v => v.category).sum ≤ 8) (hf : cells ≤ Rm.cells ∧ slots ≤ Rm.slots) (hdg : decode cc pc = .ok (.invokestatic index, 3)) :
    va_Run p l e Rm s m args below meth c H locs cells slots 0 0 (F0 m pc ls st) rest (Qc As.toArray) (mm_A G) := by
  obtain ⟨hx, hb, -, hts, hown, hml, -, -, -⟩ := id C
  obtain ⟨h1, h2, h3, h4, h5⟩ := hv
  exact va_runS (As := As) (rest := rest) ⟨hx, hb, hml, hown, hts⟩ hcal (va_cwS n hts h1 rfl h2 h3 h4 h5) ⟨mm_blind, fun U hU hW => ⟨rfl, mm_toB C hM hS hU hW⟩⟩ rfl hn hl hst (lv_room hroom) hdg ⟨hf.1, hf.2⟩
theorem mm_ki {r0 : Int32} {a : Array Value} (hS : va_S (mm_A G) s.heap H locs) (hr : va_Run p l e Rm s m args below meth c H locs cells slots 0 0 (F0 m pc ls st) rest (mm_Qi G r0 w1 a) (mm_A G))
    (kk : ∀ (H1 : Heap) (locs1 : List Loc), mm_P G w1.1 w1.2.1 w1.2.2 H1 → va_S (mm_A G) s.heap H1 locs1 → W p l e Rm s m args below meth c H1 locs1 cells slots Q (F0 m (pc + 3) ls (.int r0 :: rest))) : W p l e Rm s m args below meth c H locs cells slots Q (F0 m pc ls st) :=
  va_calli hr hS (fun _ _ h => h) (fun _ h => h) (fun r u t H1 locs1 ht _ hw hB _ _ hS1 => by subst hw; subst ht; exact kk _ locs1 hB.1 hS1)
theorem mm_kl {r0 : Int64} {a : Array Value} (hS : va_S (mm_A G) s.heap H locs) (hr : va_Run p l e Rm s m args below meth c H locs cells slots 0 0 (F0 m pc ls st) rest (mm_Ql G r0 w1 a) (mm_A G))
    (kk : ∀ (H1 : Heap) (locs1 : List Loc), mm_P G w1.1 w1.2.1 w1.2.2 H1 → va_S (mm_A G) s.heap H1 locs1 → W p l e Rm s m args below meth c H1 locs1 cells slots Q (F0 m (pc + 3) ls (.long r0 :: rest))) : W p l e Rm s m args below meth c H locs cells slots Q (F0 m pc ls st) :=
  va_calll hr hS (fun _ _ h => h) (fun _ h => h) (fun r u t H1 locs1 ht _ hw hB _ _ hS1 => by subst hw; subst ht; exact kk _ locs1 hB.1 hS1)
theorem mm_kv {a : Array Value} (hS : va_S (mm_A G) s.heap H locs) (hr : va_Run p l e Rm s m args below meth c H locs cells slots 0 0 (F0 m pc ls st) rest (mm_Qv G w1 a) (mm_A G))
    (kk : ∀ (H1 : Heap) (locs1 : List Loc), mm_P G w1.1 w1.2.1 w1.2.2 H1 → va_S (mm_A G) s.heap H1 locs1 → W p l e Rm s m args below meth c H1 locs1 cells slots Q (F0 m (pc + 3) ls rest)) : W p l e Rm s m args below meth c H locs cells slots Q (F0 m pc ls st) :=
  va_callv hr hS (fun _ _ h => h) (fun _ h => h) (fun u t H1 locs1 ht _ _ hB _ _ hS1 => by subst ht; exact kk _ locs1 hB.1 hS1)
theorem mm_kq {r0 : Option Nat} {a : Array Value} (hS : va_S (mm_A G) s.heap H locs) (hr : va_Run p l e Rm s m args below meth c H locs cells slots 0 0 (F0 m pc ls st) rest (mm_Qq G r0 w1 a) (mm_A G))
    (kk : ∀ (H1 : Heap) (locs1 : List Loc), mm_P G w1.1 w1.2.1 w1.2.2 H1 → va_S (mm_A G) s.heap H1 locs1 → W p l e Rm s m args below meth c H1 locs1 cells slots Q (F0 m (pc + 3) ls (mm_q G r0 :: rest))) : W p l e Rm s m args below meth c H locs cells slots Q (F0 m pc ls st) :=
  va_callq hr hS (fun _ _ h => h) (fun _ h => h) (fun r u t H1 locs1 ht _ hw hB _ _ hS1 => by subst hw; subst ht; exact kk _ locs1 hB.1 hS1)
/-- the three static arrays -/
theorem mm_gst (C : mm_C G p s m args meth c own cc nL ret) (hS : va_S (mm_A G) s.heap H locs) {nm : String} {t index : Nat} {f : Nat → Int32} (hZ : mm_Z1 G nm t f s s.heap) (hlink : Cond.fieldLink own index "CartPitches" nm "[I" ∈ mm_good ∨ Cond.fieldLinkNest own index "CartPitches" nm "[I" "CartPitches" ∈ lw_tbl) (hdg : decode cc pc = .ok (.getstatic index, 3))
    (kk : W p l e Rm s m args below meth c H locs cells slots Q (F0 m (pc + 3) ls (.ref t :: rest))) : W p l e Rm s m args below meth c H locs cells slots Q (F0 m pc ls rest) := by
  obtain ⟨hx, hb, -, hts, hown, -, -, hK, -⟩ := C
  rcases hlink with hlink | hlink
  · exact va_gets (v := .ref t) hx hb hZ.1 hS hown (hts _ hlink) (fun _ h => h) hdg kk
  · exact va_getsN (v := .ref t) hx hb hZ.1 hS hown (va_Nw.use rfl (hK.2.1 _ _ _ _ _ _ hlink)) (fun _ h => h) hdg kk
theorem mm_tld (C : mm_C G p s m args meth c own cc nL ret) (hS : va_S (mm_A G) s.heap H locs) {nm : String} {t : Nat} {f : Nat → Int32} (hZ : mm_Z1 G nm t f s s.heap) {i : Int32} (hin : vp_in i 10) (hdg : decode cc pc = .ok (.iaload, 1))
    (kk : W p l e Rm s m args below meth c H locs cells slots Q (F0 m (pc + 1) ls (.int (f i.toNatClampNeg) :: rest))) : W p l e Rm s m args below meth c H locs cells slots Q (F0 m pc ls (.int i :: .ref t :: rest)) := by
  obtain ⟨hx, hb, -, hts, hown, -, -, hK, -⟩ := C
  exact va_ti hx hb hZ.2 hS hin rfl hdg kk
theorem mm_min (C : mm_C G p s m args meth c own cc nL ret) {index : Nat} (hl : ls.size = nL) (hlink : Cond.methodLink own index Lib.Math.min.name ∈ mm_good) (hstat : Cond.static Lib.Math.min.name ∈ mm_good) (hini : Cond.initialized "java/lang/Math" ∈ mm_good) (hcode : Cond.code Lib.Math.min.name Lib.Math.min.code 2 (some .int) ∈ mm_good) (hfr : 1 ≤ Rm.frames) (hlo : (rest.map fun v => v.category).sum + 13 ≤ Rm.locals) (hf : cells ≤ Rm.cells ∧ slots ≤ Rm.slots) {x y : Int32} (hdg : decode cc pc = .ok (.invokestatic index, 3))
    (kk : W p l e Rm s m args below meth c H locs cells slots Q (F0 m (pc + 3) ls (.int (if y < x then y else x) :: rest))) : W p l e Rm s m args below meth c H locs cells slots Q (F0 m pc ls (.int y :: .int x :: rest)) := by
  obtain ⟨hx, hb, -, hts, hown, hml, -, hK, -⟩ := C
  exact va_mmin hx hb (by rw [hml, hl]) hown (hts _ hlink) (hts _ hstat) (hts _ hini) (hts _ hcode) hfr hlo hf.1 hf.2 hdg kk
theorem mm_ldc (C : mm_C G p s m args meth c own cc nL ret) {index : Nat} {v : Int32} (hc : Cond.constant own index v ∈ mm_good) (hdg : decode cc pc = .ok (.ldc index, 2)) (kk : W p l e Rm s m args below meth c H locs cells slots Q (F0 m (pc + 2) ls (.int v :: rest))) : W p l e Rm s m args below meth c H locs cells slots Q (F0 m pc ls rest) := by
  obtain ⟨hx, hb, -, hts, hown, -⟩ := C
  exact lv_ldc hx hb hown (hts _ hc) hdg kk
theorem mm_ldc2 (C : mm_C G p s m args meth c own cc nL ret) {index : Nat} {v : Int64} (hc : Cond.constantLong own index v ∈ mm_good) (hdg : decode cc pc = .ok (.ldc2_w index, 3)) (kk : W p l e Rm s m args below meth c H locs cells slots Q (F0 m (pc + 3) ls (.long v :: rest))) : W p l e Rm s m args below meth c H locs cells slots Q (F0 m pc ls rest) := by
  obtain ⟨hx, hb, -, hts, hown, -⟩ := C
  exact lv_ldc2 hx hb hown (hts _ hc) hdg kk
theorem mm_ifeqZ (C : mm_C G p s m args meth c own cc nL ret) {b : Bool} {off : Int} {tgt : Nat} (hdg : decode cc pc = .ok (.ifCond .eq off, 3)) (ht : (pc : Int) + off = (tgt : Int)) (kt : ¬ b = true → W p l e Rm s m args below meth c H locs cells slots Q (F0 m tgt ls rest)) (kf : b = true → W p l e Rm s m args below meth c H locs cells slots Q (F0 m (pc + 3) ls rest)) : W p l e Rm s m args below meth c H locs cells slots Q (F0 m pc ls (.int (b2i b) :: rest)) := by
  obtain ⟨hx, hb, -⟩ := C
  refine lv_if_eq hx hb hdg ht (fun q => kt ?_) (fun q => kf ?_)
  · intro h; subst h; cases q
  · cases b
    · exact absurd rfl q
    · rfl
theorem mm_ifneZ (C : mm_C G p s m args meth c own cc nL ret) {b : Bool} {off : Int} {tgt : Nat} (hdg : decode cc pc = .ok (.ifCond .ne off, 3)) (ht : (pc : Int) + off = (tgt : Int)) (kt : b = true → W p l e Rm s m args below meth c H locs cells slots Q (F0 m tgt ls rest)) (kf : ¬ b = true → W p l e Rm s m args below meth c H locs cells slots Q (F0 m (pc + 3) ls rest)) : W p l e Rm s m args below meth c H locs cells slots Q (F0 m pc ls (.int (b2i b) :: rest)) := by
  obtain ⟨hx, hb, -⟩ := C
  refine lv_if_ne hx hb hdg ht (fun q => kt ?_) (fun q => kf ?_)
  · cases b
    · exact absurd rfl q
    · rfl
  · intro h; subst h; cases q
end MMC
end
section
/-! MY OWN KIT, third part: places, guards, rows by place -/
def FU : Nat := 1000000
def om {α β : Type} (x : Option α) (a : Option β) (k : α → Option β) : Option β := match x with
  | none => a
  | some b => k b
theorem om_n {α β : Type} {a : Option β} {k : α → Option β} {r : Option β} (h : om none a k = r) : a = r := h
theorem om_s {α β : Type} {b : α} {a : Option β} {k : α → Option β} {r : Option β} (h : om (some b) a k = r) : k b = r := h
def bn2 {α β γ : Type} (x : Option (α × β)) (k : α → β → Option γ) : Option γ := match x with
  | none => none
  | some q => k q.1 q.2
theorem bn2_of {α β γ : Type} {x : Option (α × β)} {k : α → β → Option γ} {r : γ} (h : bn2 x k = some r) : ∃ a b, x = some (a, b) ∧ k a b = some r := by
  cases x with
  | none => cases h
  | some q => exact ⟨q.1, q.2, rfl, h⟩
theorem nb01 {v : Int32} (h : v = 0 ∨ v = 1) : narrow .boolean (.int v) = .int v := by
  rcases h with rfl | rfl <;> rfl
theorem fb01 {v : Int32} (h : v = 0 ∨ v = 1) : fits .boolean (.int v) = true := by
  rcases h with rfl | rfl <;> rfl
theorem b2i_01 (b : Bool) : b2i b = 0 ∨ b2i b = 1 := by cases b <;> simp [b2i]
theorem vp_lt {i : Int32} {n : Nat} (h : ¬ (i < 0 ∨ n ≤ i.toNatClampNeg)) : i.toNatClampNeg < n := Nat.not_le.mp (fun q => h (Or.inr q))
theorem kT_big {o : Nat} (h : 740 ≤ o) : kT o = (99, 0) := by
  unfold kT
  repeat rw [if_neg (by omega)]
theorem kl {o k n : Nat} (h : kT o = (k, n)) (hk : k < 13 := by decide) : o < 740 := by
  rcases Nat.lt_or_ge o 740 with q | q
  · exact q
  · rw [kT_big q] at h
    have := congrArg Prod.fst h
    dsimp at this
    omega
set_option maxRecDepth 100000 in
theorem kS_a : ∀ o, o < 740 → kT o = (4, 0) → kT (o + 1) = (8, 10) ∧ kT (o + 2) = (11, 10) ∧ kT (o + 3) = (10, 16) ∧ kT (o + 4) = (8, 8) ∧ kT (o + 5) = (8, 8) ∧ kT (o + 6) = (8, 16) ∧ kT (o + 7) = (8, 16) := by decide +kernel
set_option maxRecDepth 100000 in
theorem kS_b : ∀ o, o < 740 → kT o = (4, 0) → kR o 7 = some (o + 1) ∧ kR o 8 = some (o + 2) ∧ kR o 9 = some (o + 3) ∧ kR o 10 = some (o + 4) ∧ kR o 11 = some (o + 5) ∧ kR o 12 = some (o + 6) ∧ kR o 13 = some (o + 7) := by decide +kernel
set_option maxRecDepth 100000 in
theorem kS_c : ∀ o, o < 740 → kT o = (4, 0) → ∀ j, j < 16 → kT (o + 18 + 3 * j) = (0, 0) ∧ kR (o + 3) j = some (o + 18 + 3 * j) := by decide +kernel
set_option maxRecDepth 100000 in
theorem kS_d : ∀ o, o < 740 → kT o = (4, 0) → ∀ j, j < 10 → kT (o + 8 + j) = (3, 0) ∧ kR (o + 2) j = some (o + 8 + j) := by decide +kernel
theorem kS_all (o : Nat) (ho : o < 740) (h : kT o = (4, 0)) : (kT (o + 1) = (8, 10) ∧ kT (o + 2) = (11, 10) ∧ kT (o + 3) = (10, 16) ∧ kT (o + 4) = (8, 8) ∧ kT (o + 5) = (8, 8) ∧ kT (o + 6) = (8, 16) ∧ kT (o + 7) = (8, 16)) ∧ (kR o 7 = some (o + 1) ∧ kR o 8 = some (o + 2) ∧ kR o 9 = some (o + 3) ∧ kR o 10 = some (o + 4) ∧ kR o 11 = some (o + 5) ∧ kR o 12 = some (o + 6) ∧ kR o 13 = some (o + 7)) ∧ (∀ j, j < 16 → kT (o + 18 + 3 * j) = (0, 0) ∧ kR (o + 3) j = some (o + 18 + 3 * j)) ∧ (∀ j, j < 10 → kT (o + 8 + j) = (3, 0) ∧ kR (o + 2) j = some (o + 8 + j)) := ⟨kS_a o ho h, kS_b o ho h, kS_c o ho h, kS_d o ho h⟩
set_option maxRecDepth 100000 in
theorem kC_all : ∀ o, o < 740 → kT o = (0, 0) → kT (o + 1) = (8, 3) ∧ kT (o + 2) = (8, 200) ∧ kR o 16 = some (o + 1) ∧ kR o 17 = some (o + 2) := by decide +kernel
set_option maxRecDepth 100000 in
theorem kD_all : ∀ o, o < 740 → kT o = (2, 0) → kT (o + 1) = (7, 80) ∧ kR o 0 = some (o + 1) := by decide +kernel
set_option maxRecDepth 100000 in
theorem kH_all : ∀ o, o < 740 → kT o = (1, 0) → kT (o + 1) = (12, 7) ∧ kR o 0 = some (o + 1) ∧ o = 133 := by decide +kernel
theorem kH_rows : ∀ j, j < 7 → kT (135 + 66 * j) = (4, 0) ∧ kR 134 j = some (135 + 66 * j) := by decide +kernel
theorem kS_7 {o : Nat} (h : kT o = (4, 0)) : kT (o + 1) = (8, 10) := (kS_all o (kl h) h).1.1
theorem kS_8 {o : Nat} (h : kT o = (4, 0)) : kT (o + 2) = (11, 10) := (kS_all o (kl h) h).1.2.1
theorem kS_9 {o : Nat} (h : kT o = (4, 0)) : kT (o + 3) = (10, 16) := (kS_all o (kl h) h).1.2.2.1
theorem kS_10 {o : Nat} (h : kT o = (4, 0)) : kT (o + 4) = (8, 8) := (kS_all o (kl h) h).1.2.2.2.1
theorem kS_11 {o : Nat} (h : kT o = (4, 0)) : kT (o + 5) = (8, 8) := (kS_all o (kl h) h).1.2.2.2.2.1
theorem kS_12 {o : Nat} (h : kT o = (4, 0)) : kT (o + 6) = (8, 16) := (kS_all o (kl h) h).1.2.2.2.2.2.1
theorem kS_13 {o : Nat} (h : kT o = (4, 0)) : kT (o + 7) = (8, 16) := (kS_all o (kl h) h).1.2.2.2.2.2.2
theorem rS_7 {o : Nat} (h : kT o = (4, 0)) : kR o 7 = some (o + 1) := (kS_all o (kl h) h).2.1.1
theorem rS_8 {o : Nat} (h : kT o = (4, 0)) : kR o 8 = some (o + 2) := (kS_all o (kl h) h).2.1.2.1
theorem rS_9 {o : Nat} (h : kT o = (4, 0)) : kR o 9 = some (o + 3) := (kS_all o (kl h) h).2.1.2.2.1
theorem rS_10 {o : Nat} (h : kT o = (4, 0)) : kR o 10 = some (o + 4) := (kS_all o (kl h) h).2.1.2.2.2.1
theorem rS_11 {o : Nat} (h : kT o = (4, 0)) : kR o 11 = some (o + 5) := (kS_all o (kl h) h).2.1.2.2.2.2.1
theorem rS_12 {o : Nat} (h : kT o = (4, 0)) : kR o 12 = some (o + 6) := (kS_all o (kl h) h).2.1.2.2.2.2.2.1
theorem rS_13 {o : Nat} (h : kT o = (4, 0)) : kR o 13 = some (o + 7) := (kS_all o (kl h) h).2.1.2.2.2.2.2.2
theorem kS_cart {o j : Nat} (h : kT o = (4, 0)) (hj : j < 16) : kT (o + 18 + 3 * j) = (0, 0) := ((kS_all o (kl h) h).2.2.1 j hj).1
theorem rS_cart {o j : Nat} (h : kT o = (4, 0)) (hj : j < 16) : kR (o + 3) j = some (o + 18 + 3 * j) := ((kS_all o (kl h) h).2.2.1 j hj).2
theorem kS_pitch {o j : Nat} (h : kT o = (4, 0)) (hj : j < 10) : kT (o + 8 + j) = (3, 0) := ((kS_all o (kl h) h).2.2.2 j hj).1
theorem rS_pitch {o j : Nat} (h : kT o = (4, 0)) (hj : j < 10) : kR (o + 2) j = some (o + 8 + j) := ((kS_all o (kl h) h).2.2.2 j hj).2
theorem kC_16 {o : Nat} (h : kT o = (0, 0)) : kT (o + 1) = (8, 3) := (kC_all o (kl h) h).1
theorem kC_17 {o : Nat} (h : kT o = (0, 0)) : kT (o + 2) = (8, 200) := (kC_all o (kl h) h).2.1
theorem rC_16 {o : Nat} (h : kT o = (0, 0)) : kR o 16 = some (o + 1) := (kC_all o (kl h) h).2.2.1
theorem rC_17 {o : Nat} (h : kT o = (0, 0)) : kR o 17 = some (o + 2) := (kC_all o (kl h) h).2.2.2
theorem kD_0 {o : Nat} (h : kT o = (2, 0)) : kT (o + 1) = (7, 80) := (kD_all o (kl h) h).1
theorem rD_0 {o : Nat} (h : kT o = (2, 0)) : kR o 0 = some (o + 1) := (kD_all o (kl h) h).2
theorem kH_0 {o : Nat} (h : kT o = (1, 0)) : kT (o + 1) = (12, 7) := (kH_all o (kl h) h).1
theorem rH_0 {o : Nat} (h : kT o = (1, 0)) : kR o 0 = some (o + 1) := (kH_all o (kl h) h).2.1
theorem kH_row {j : Nat} (hj : j < 7) : kT (135 + 66 * j) = (4, 0) := (kH_rows j hj).1
theorem rH_row {o j : Nat} (h : kT o = (1, 0)) (hj : j < 7) : kR (o + 1) j = some (135 + 66 * j) := by
  have e := (kH_all o (kl h) h).2.2
  subst e
  exact (kH_rows j hj).2
section MMK
variable {p : Program} {l : Launch} {e : Env} {Rm : Room} {s : State} {m : MethodId} {args : Array Value} {below : List Frame} {meth : Method} {c : Code} {H : Heap} {locs : List Loc} {cells slots : Nat} {Q : State → Prop}
variable {cc : ByteArray} {pc : Nat} {ls : Array Slot} {rest : List Value} {G : mm_G} {own : String} {nL : Nat} {ret : Option FieldType} {R : mm_R} {N : Nat} {M : mm_M} {o : Nat}
theorem mm_aldo_n (hx : p.tables.exec = Jvm.exec) (hb : c.code = cc) {k : Fin 4} {i : Nat} {r : Option Nat} (hdg : decode cc pc = .ok (.aload_n k, 1)) (hi : (k : Nat) = i) (hl : ls[i]? = some (.val (mm_q G r))) (kk : W p l e Rm s m args below meth c H locs cells slots Q (F0 m (pc + 1) ls (mm_q G r :: rest))) : W p l e Rm s m args below meth c H locs cells slots Q (F0 m pc ls rest) := by
  cases r with
  | none => exact lv_aload_nN hx hb hdg hi hl kk
  | some b => exact lv_aload_n hx hb hdg hi hl kk
theorem mm_aldo (hx : p.tables.exec = Jvm.exec) (hb : c.code = cc) {i : Nat} {r : Option Nat} (hdg : decode cc pc = .ok (.aload i, 2)) (hl : ls[i]? = some (.val (mm_q G r))) (kk : W p l e Rm s m args below meth c H locs cells slots Q (F0 m (pc + 2) ls (mm_q G r :: rest))) : W p l e Rm s m args below meth c H locs cells slots Q (F0 m pc ls rest) := by
  cases r with
  | none => exact lv_aloadN hx hb hdg hl kk
  | some b => exact lv_aload hx hb hdg hl kk
theorem mm_asto_n (hx : p.tables.exec = Jvm.exec) (hb : c.code = cc) {k : Fin 4} {i : Nat} {r : Option Nat} {lv lv' : List (Nat × Value)} (hdg : decode cc pc = .ok (.astore_n k, 1)) (hi : (k : Nat) = i) (h : lv_has ls nL lv) (hn : i < nL) (hl : (i, mm_q G r) :: lv.filter (fun q => !(q.1 == i) && !(q.1 + 1 == i && q.2.category == 2)) = lv') (kk : ∀ ls' : Array Slot, lv_has ls' nL lv' → W p l e Rm s m args below meth c H locs cells slots Q (F0 m (pc + 1) ls' rest)) : W p l e Rm s m args below meth c H locs cells slots Q (F0 m pc ls (mm_q G r :: rest)) := by
  cases r with
  | none => exact lv_astore_nN hx hb hdg hi h hn hl kk
  | some b => exact lv_astore_n hx hb hdg hi h hn hl kk
theorem mm_asto (hx : p.tables.exec = Jvm.exec) (hb : c.code = cc) {i : Nat} {r : Option Nat} {lv lv' : List (Nat × Value)} (hdg : decode cc pc = .ok (.astore i, 2)) (h : lv_has ls nL lv) (hn : i < nL) (hl : (i, mm_q G r) :: lv.filter (fun q => !(q.1 == i) && !(q.1 + 1 == i && q.2.category == 2)) = lv') (kk : ∀ ls' : Array Slot, lv_has ls' nL lv' → W p l e Rm s m args below meth c H locs cells slots Q (F0 m (pc + 2) ls' rest)) : W p l e Rm s m args below meth c H locs cells slots Q (F0 m pc ls (mm_q G r :: rest)) := by
  cases r with
  | none => exact lv_astoreN hx hb hdg h hn hl kk
  | some b => exact lv_astore hx hb hdg h hn hl kk
theorem mm_ildk (C : mm_C G p s m args meth c own cc nL ret) (hM : mm_P G R N M H) (ho : o < N) {n : Nat} (hT : kT o = (8, n)) {i : Int32} {k : Nat} (hin : vp_in i n) (hk : i.toNatClampNeg = k) (hdg : decode cc pc = .ok (.iaload, 1))
    (kk : W p l e Rm s m args below meth c H locs cells slots Q (F0 m (pc + 1) ls (.int (M.1 o k) :: rest))) : W p l e Rm s m args below meth c H locs cells slots Q (F0 m pc ls (.int i :: .ref (mm_lo G + o) :: rest)) := by subst hk; exact mm_ild C hM ho hT hin hdg kk
theorem mm_cldk (C : mm_C G p s m args meth c own cc nL ret) (hM : mm_P G R N M H) (ho : o < N) {n : Nat} (hT : kT o = (7, n)) {i : Int32} {k : Nat} (hin : vp_in i n) (hk : i.toNatClampNeg = k) (hdg : decode cc pc = .ok (.caload, 1))
    (kk : W p l e Rm s m args below meth c H locs cells slots Q (F0 m (pc + 1) ls (.int (M.1 o k) :: rest))) : W p l e Rm s m args below meth c H locs cells slots Q (F0 m pc ls (.int i :: .ref (mm_lo G + o) :: rest)) := by subst hk; exact mm_cld C hM ho hT hin hdg kk
theorem mm_zldk (C : mm_C G p s m args meth c own cc nL ret) (hM : mm_P G R N M H) (ho : o < N) {n : Nat} (hT : kT o = (9, n)) {i : Int32} {k : Nat} (hin : vp_in i n) (hk : i.toNatClampNeg = k) (hdg : decode cc pc = .ok (.baload, 1))
    (kk : W p l e Rm s m args below meth c H locs cells slots Q (F0 m (pc + 1) ls (.int (M.1 o k) :: rest))) : W p l e Rm s m args below meth c H locs cells slots Q (F0 m pc ls (.int i :: .ref (mm_lo G + o) :: rest)) := by subst hk; exact mm_zld C hM ho hT hin hdg kk
theorem mm_istk (C : mm_C G p s m args meth c own cc nL ret) (hM : mm_P G R N M H) (hS : va_S (mm_A G) s.heap H locs) (ho : o < N) {n : Nat} (hT : kT o = (8, n)) {i x : Int32} {k : Nat} (hin : vp_in i n) (hk : i.toNatClampNeg = k) (hdg : decode cc pc = .ok (.iastore, 1))
    (kk : ∀ (H1 : Heap) (locs1 : List Loc), mm_P G R N (sI M o k x) H1 → va_S (mm_A G) s.heap H1 locs1 → H1.size = H.size → W p l e Rm s m args below meth c H1 locs1 cells slots Q (F0 m (pc + 1) ls rest)) : W p l e Rm s m args below meth c H locs cells slots Q (F0 m pc ls (.int x :: .int i :: .ref (mm_lo G + o) :: rest)) := by subst hk; exact mm_ist C hM hS ho hT hin hdg kk
theorem mm_cstk (C : mm_C G p s m args meth c own cc nL ret) (hM : mm_P G R N M H) (hS : va_S (mm_A G) s.heap H locs) (ho : o < N) {n : Nat} (hT : kT o = (7, n)) {i x : Int32} {k : Nat} (hin : vp_in i n) (hk : i.toNatClampNeg = k) (hnx : narrow .char (.int x) = .int x) (hdg : decode cc pc = .ok (.castore, 1))
    (kk : ∀ (H1 : Heap) (locs1 : List Loc), mm_P G R N (sI M o k x) H1 → va_S (mm_A G) s.heap H1 locs1 → H1.size = H.size → W p l e Rm s m args below meth c H1 locs1 cells slots Q (F0 m (pc + 1) ls rest)) : W p l e Rm s m args below meth c H locs cells slots Q (F0 m pc ls (.int x :: .int i :: .ref (mm_lo G + o) :: rest)) := by subst hk; exact mm_cst C hM hS ho hT hin hnx hdg kk
theorem mm_zstk (C : mm_C G p s m args meth c own cc nL ret) (hM : mm_P G R N M H) (hS : va_S (mm_A G) s.heap H locs) (ho : o < N) {n : Nat} (hT : kT o = (9, n)) {i x : Int32} {k : Nat} (hin : vp_in i n) (hk : i.toNatClampNeg = k) (hnx : narrow .boolean (.int x) = .int x) (hdg : decode cc pc = .ok (.bastore, 1))
    (kk : ∀ (H1 : Heap) (locs1 : List Loc), mm_P G R N (sI M o k x) H1 → va_S (mm_A G) s.heap H1 locs1 → H1.size = H.size → W p l e Rm s m args below meth c H1 locs1 cells slots Q (F0 m (pc + 1) ls rest)) : W p l e Rm s m args below meth c H locs cells slots Q (F0 m pc ls (.int x :: .int i :: .ref (mm_lo G + o) :: rest)) := by subst hk; exact mm_zst C hM hS ho hT hin hnx hdg kk
end MMK
end
section
theorem mq_1 {w : Cond} (i : Nat) (h : tables_1_1[i]? = some w) (hg : goodWord w = true) : w ∈ mm_good := List.mem_filter.mpr ⟨List.mem_append_right _ (mt_1 h), hg⟩
theorem mq_2 {w : Cond} (i : Nat) (h : tables_1_2[i]? = some w) (hg : goodWord w = true) : w ∈ mm_good := List.mem_filter.mpr ⟨List.mem_append_right _ (mt_2 h), hg⟩
theorem mq_3 {w : Cond} (i : Nat) (h : tables_1_3[i]? = some w) (hg : goodWord w = true) : w ∈ mm_good := List.mem_filter.mpr ⟨List.mem_append_right _ (mt_3 h), hg⟩
theorem mq_4 {w : Cond} (i : Nat) (h : tables_1_4[i]? = some w) (hg : goodWord w = true) : w ∈ mm_good := List.mem_filter.mpr ⟨List.mem_append_right _ (mt_4 h), hg⟩
theorem mq_5 {w : Cond} (i : Nat) (h : tables_1_5[i]? = some w) (hg : goodWord w = true) : w ∈ mm_good := List.mem_filter.mpr ⟨List.mem_append_right _ (mt_5 h), hg⟩
theorem inX0 : ∀ w ∈ u_ws RX0 TX0 18, w ∈ mm_good := by decide +kernel
theorem mm_e0 {G : mm_G} {R : mm_R} {M : mm_M} {o : Nat} (h : kT o = (0, 0)) : mm_en G R M o = .inr (0, [.int (M.1 o 0), .int (M.1 o 1), .int (M.1 o 2), .int (M.1 o 3), .int (M.1 o 4), .int (M.1 o 5), .int (M.1 o 6), .int (M.1 o 7), .int (M.1 o 8), .int (M.1 o 9), .int (M.1 o 10), .int (M.1 o 11), .long (M.2 o 12), .long (M.2 o 13), .long (M.2 o 14), .long (M.2 o 15), mm_q G (R o 16), mm_q G (R o 17)]) := by unfold mm_en; rw [h]; rfl
theorem inX2 : ∀ w ∈ u_ws RX2 TX2 3, w ∈ mm_good := by decide +kernel
theorem mm_e1 {G : mm_G} {R : mm_R} {M : mm_M} {o : Nat} (h : kT o = (1, 0)) : mm_en G R M o = .inr (1, [mm_q G (R o 0), .int (M.1 o 1), .int (M.1 o 2)]) := by unfold mm_en; rw [h]; rfl
theorem inX3 : ∀ w ∈ u_ws RX3 TX3 2, w ∈ mm_good := by decide +kernel
theorem mm_e2 {G : mm_G} {R : mm_R} {M : mm_M} {o : Nat} (h : kT o = (2, 0)) : mm_en G R M o = .inr (2, [mm_q G (R o 0), .int (M.1 o 1)]) := by unfold mm_en; rw [h]; rfl
theorem inX4 : ∀ w ∈ u_ws RX4 TX4 4, w ∈ mm_good := by decide +kernel
theorem mm_e3 {G : mm_G} {R : mm_R} {M : mm_M} {o : Nat} (h : kT o = (3, 0)) : mm_en G R M o = .inr (3, [.int (M.1 o 0), .int (M.1 o 1), .int (M.1 o 2), .int (M.1 o 3)]) := by unfold mm_en; rw [h]; rfl
theorem inX5 : ∀ w ∈ u_ws RX5 TX5 15, w ∈ mm_good := by decide +kernel
theorem mm_e4 {G : mm_G} {R : mm_R} {M : mm_M} {o : Nat} (h : kT o = (4, 0)) : mm_en G R M o = .inr (4, [.int (M.1 o 0), .int (M.1 o 1), .int (M.1 o 2), .int (M.1 o 3), .int (M.1 o 4), .int (M.1 o 5), .int (M.1 o 6), mm_q G (R o 7), mm_q G (R o 8), mm_q G (R o 9), mm_q G (R o 10), mm_q G (R o 11), mm_q G (R o 12), mm_q G (R o 13), .int (M.1 o 14)]) := by unfold mm_en; rw [h]; rfl
theorem inX6 : ∀ w ∈ u_ws RX6 TX6 6, w ∈ mm_good := by decide +kernel
theorem mm_e5 {G : mm_G} {R : mm_R} {M : mm_M} {o : Nat} (h : kT o = (5, 0)) : mm_en G R M o = .inr (5, [mm_q G (R o 0), mm_q G (R o 1), mm_q G (R o 2), mm_q G (R o 3), mm_q G (R o 4), mm_q G (R o 5)]) := by unfold mm_en; rw [h]; rfl
theorem inX7 : ∀ w ∈ u_ws RX7 TX7 15, w ∈ mm_good := by decide +kernel
theorem mm_e6 {G : mm_G} {R : mm_R} {M : mm_M} {o : Nat} (h : kT o = (6, 0)) : mm_en G R M o = .inr (6, [mm_q G (R o 0), mm_q G (R o 1), .int (M.1 o 2), mm_q G (R o 3), mm_q G (R o 4), mm_q G (R o 5), mm_q G (R o 6), .int (M.1 o 7), .int (M.1 o 8), .int (M.1 o 9), .int (M.1 o 10), .int (M.1 o 11), .int (M.1 o 12), mm_q G (R o 13), mm_q G (R o 14)]) := by unfold mm_en; rw [h]; rfl
theorem plRX0 : plainName RX0 = true := by decide
theorem plRX2 : plainName RX2 = true := by decide
theorem plRX3 : plainName RX3 = true := by decide
theorem plRX4 : plainName RX4 = true := by decide
theorem plRX5 : plainName RX5 = true := by decide
theorem plRX6 : plainName RX6 = true := by decide
theorem plRX7 : plainName RX7 = true := by decide
theorem plRX1 : plainName RX1 = true := by decide
abbrev rmX0_beginDay : Room := { frames := 0, cells := 0, slots := 0, locals := 0 }
abbrev rmX0_dropAllPoints : Room := { frames := 0, cells := 0, slots := 0, locals := 0 }
abbrev rmX0_begin : Room := { frames := 1, cells := 0, slots := 0, locals := 21 }
abbrev rmX0_copyFrom : Room := { frames := 1, cells := 0, slots := 0, locals := 48 }
abbrev rmX0_balance : Room := { frames := 0, cells := 0, slots := 0, locals := 0 }
abbrev rmX0_wishAt : Room := { frames := 0, cells := 0, slots := 0, locals := 0 }
abbrev rmX0_addPoints : Room := { frames := 0, cells := 0, slots := 0, locals := 0 }
abbrev rmX0_dropPointsOfSameSpot : Room := { frames := 0, cells := 0, slots := 0, locals := 0 }
abbrev rmX0_pointsLeft : Room := { frames := 0, cells := 0, slots := 0, locals := 0 }
abbrev rmX0_reasonBeforeLots : Room := { frames := 0, cells := 0, slots := 0, locals := 0 }
abbrev rmX1_nextToCheck : Room := { frames := 0, cells := 0, slots := 0, locals := 0 }
abbrev rmX1_runChecks : Room := { frames := 1, cells := 0, slots := 0, locals := 23 }
abbrev rmX1_clearLastDay : Room := { frames := 1, cells := 0, slots := 0, locals := 20 }
abbrev rmX5_hasCart : Room := { frames := 0, cells := 0, slots := 0, locals := 0 }
abbrev rmX5_hasPitch : Room := { frames := 0, cells := 0, slots := 0, locals := 0 }
abbrev rmX5_sameKindBeside : Room := { frames := 1, cells := 0, slots := 0, locals := 21 }
abbrev rmX5_seat : Room := { frames := 1, cells := 0, slots := 0, locals := 21 }
abbrev rmX1_choosePitch : Room := { frames := 2, cells := 0, slots := 0, locals := 45 }
abbrev rmX1_handOutTickets : Room := { frames := 1, cells := 0, slots := 0, locals := 21 }
abbrev rmX1_holderOfTicket : Room := { frames := 0, cells := 0, slots := 0, locals := 0 }
abbrev rmX1_drawLots : Room := { frames := 3, cells := 0, slots := 0, locals := 69 }
abbrev rmX5_givePoints : Room := { frames := 1, cells := 0, slots := 0, locals := 26 }
abbrev rmX5_unseat : Room := { frames := 1, cells := 0, slots := 0, locals := 21 }
abbrev rmX1_shareKitchens : Room := { frames := 2, cells := 0, slots := 0, locals := 49 }
abbrev rmX1_exchange : Room := { frames := 2, cells := 0, slots := 0, locals := 45 }
abbrev rmX1_makeSwaps : Room := { frames := 3, cells := 0, slots := 0, locals := 69 }
abbrev rmX1_trade : Room := { frames := 1, cells := 0, slots := 0, locals := 21 }
abbrev rmX4_copyFrom : Room := { frames := 0, cells := 0, slots := 0, locals := 0 }
abbrev rmX5_copyFrom : Room := { frames := 2, cells := 0, slots := 0, locals := 69 }
abbrev rmX2_prepare : Room := { frames := 3, cells := 0, slots := 0, locals := 91 }
abbrev rmX2_keepPrepared : Room := { frames := 0, cells := 0, slots := 0, locals := 0 }
abbrev rmX2_takeBack : Room := { frames := 3, cells := 0, slots := 0, locals := 91 }
abbrev rmX3_codeAt : Room := { frames := 0, cells := 0, slots := 0, locals := 0 }
abbrev rmX3_countGiven : Room := { frames := 1, cells := 0, slots := 0, locals := 22 }
abbrev rmX3_append : Room := { frames := 2, cells := 0, slots := 0, locals := 46 }
abbrev rmX3_signAt : Room := { frames := 0, cells := 0, slots := 0, locals := 0 }
abbrev rmX3_awaitedBehindOrder : Room := { frames := 0, cells := 0, slots := 0, locals := 0 }
abbrev rmX3_isCart : Room := { frames := 0, cells := 0, slots := 0, locals := 0 }
abbrev rmX3_isDigit : Room := { frames := 0, cells := 0, slots := 0, locals := 0 }
abbrev rmX3_awaitedBehind : Room := { frames := 1, cells := 0, slots := 0, locals := 20 }
abbrev rmX3_findFault : Room := { frames := 2, cells := 0, slots := 0, locals := 41 }
abbrev rmX3_endsOrder : Room := { frames := 1, cells := 0, slots := 0, locals := 21 }
abbrev rmX3_wishAt : Room := { frames := 1, cells := 0, slots := 0, locals := 21 }
abbrev rmX3_numberAt : Room := { frames := 1, cells := 0, slots := 0, locals := 21 }
abbrev rmX4_begin : Room := { frames := 0, cells := 0, slots := 0, locals := 0 }
abbrev rmX5_changeSetting : Room := { frames := 0, cells := 0, slots := 0, locals := 0 }
abbrev rmX5_changeLots : Room := { frames := 0, cells := 0, slots := 0, locals := 0 }
abbrev rmX5_addPitch : Room := { frames := 1, cells := 0, slots := 0, locals := 21 }
abbrev rmX5_changeRent : Room := { frames := 1, cells := 0, slots := 0, locals := 21 }
abbrev rmX5_addCart : Room := { frames := 2, cells := 0, slots := 0, locals := 44 }
abbrev rmX5_isPitchOrNone : Room := { frames := 1, cells := 0, slots := 0, locals := 21 }
abbrev rmX5_tellWishes : Room := { frames := 2, cells := 0, slots := 0, locals := 42 }
abbrev rmX5_punish : Room := { frames := 2, cells := 0, slots := 0, locals := 49 }
abbrev rmX5_countWaiting : Room := { frames := 0, cells := 0, slots := 0, locals := 0 }
abbrev rmX5_askCheck : Room := { frames := 1, cells := 0, slots := 0, locals := 22 }
abbrev rmX5_askSwap : Room := { frames := 1, cells := 0, slots := 0, locals := 21 }
abbrev rmX5_takeMoney : Room := { frames := 1, cells := 0, slots := 0, locals := 21 }
abbrev rmX5_beginNextDay : Room := { frames := 1, cells := 0, slots := 0, locals := 22 }
abbrev rmX5_passDays : Room := { frames := 4, cells := 0, slots := 0, locals := 92 }
abbrev rmX5_countOnPitches : Room := { frames := 0, cells := 0, slots := 0, locals := 0 }
abbrev rmX6_recorded : Room := { frames := 1, cells := 0, slots := 0, locals := 20 }
abbrev rmX6_set : Room := { frames := 4, cells := 0, slots := 0, locals := 112 }
abbrev rmX6_seed : Room := { frames := 4, cells := 0, slots := 0, locals := 112 }
abbrev rmX6_pitch : Room := { frames := 4, cells := 0, slots := 0, locals := 112 }
abbrev rmX6_rent : Room := { frames := 4, cells := 0, slots := 0, locals := 112 }
abbrev rmX6_cart : Room := { frames := 4, cells := 0, slots := 0, locals := 112 }
abbrev rmX6_wish : Room := { frames := 4, cells := 0, slots := 0, locals := 112 }
abbrev rmX6_fine : Room := { frames := 4, cells := 0, slots := 0, locals := 112 }
abbrev rmX6_check : Room := { frames := 4, cells := 0, slots := 0, locals := 112 }
abbrev rmX6_swap : Room := { frames := 4, cells := 0, slots := 0, locals := 112 }
abbrev rmX6_pay : Room := { frames := 4, cells := 0, slots := 0, locals := 112 }
abbrev rmX6_days : Room := { frames := 5, cells := 0, slots := 0, locals := 114 }
abbrev rmX6_aboutCart : Room := { frames := 1, cells := 0, slots := 0, locals := 21 }
abbrev rmX6_aboutPastOfCart : Room := { frames := 1, cells := 0, slots := 0, locals := 26 }
abbrev rmX6_ofCart : Room := { frames := 2, cells := 0, slots := 0, locals := 48 }
abbrev rmX6_money : Room := { frames := 1, cells := 0, slots := 0, locals := 21 }
abbrev rmX6_ofPitch : Room := { frames := 1, cells := 0, slots := 0, locals := 21 }
abbrev rmX6_count : Room := { frames := 1, cells := 0, slots := 0, locals := 22 }
abbrev rmX6_pointsOn : Room := { frames := 1, cells := 0, slots := 0, locals := 26 }
abbrev rmX6_pitchOnTrialDay : Room := { frames := 5, cells := 0, slots := 0, locals := 114 }
abbrev rmX6_wouldHave : Room := { frames := 6, cells := 0, slots := 0, locals := 135 }
abbrev rmX6_ifWished : Room := { frames := 6, cells := 0, slots := 0, locals := 135 }
abbrev rmX6_firstDay : Room := { frames := 6, cells := 0, slots := 0, locals := 135 }
abbrev rmX6_daysOf : Room := { frames := 6, cells := 0, slots := 0, locals := 135 }
abbrev rmX6_luckySeed : Room := { frames := 6, cells := 0, slots := 0, locals := 135 }
abbrev rmX6_whyNot : Room := { frames := 2, cells := 0, slots := 0, locals := 45 }
abbrev rmX6_put : Room := { frames := 3, cells := 0, slots := 0, locals := 70 }
abbrev rmX6_wipe : Room := { frames := 0, cells := 0, slots := 0, locals := 0 }
abbrev rmX6_fault : Room := { frames := 3, cells := 0, slots := 0, locals := 63 }
abbrev rmX6_performOrder : Room := { frames := 5, cells := 0, slots := 0, locals := 114 }
abbrev rmX6_carryOut : Room := { frames := 6, cells := 0, slots := 0, locals := 137 }
abbrev rmX6_undo : Room := { frames := 4, cells := 0, slots := 0, locals := 112 }
abbrev rmX6_save : Room := { frames := 3, cells := 0, slots := 0, locals := 91 }
abbrev rmX6_restore : Room := { frames := 4, cells := 0, slots := 0, locals := 112 }
abbrev rmX7_in : Room := { frames := 0, cells := 0, slots := 0, locals := 0 }
abbrev rmX7_of : Room := { frames := 0, cells := 0, slots := 0, locals := 0 }
abbrev rmX7_lay : Room := { frames := 0, cells := 0, slots := 0, locals := 0 }
abbrev rmX7_ofP : Room := { frames := 0, cells := 0, slots := 0, locals := 0 }
abbrev rmX7_isCart : Room := { frames := 1, cells := 0, slots := 0, locals := 22 }
abbrev rmX7_isPitch : Room := { frames := 1, cells := 0, slots := 0, locals := 22 }
abbrev rmX7_keep : Room := { frames := 0, cells := 0, slots := 0, locals := 0 }
abbrev rmX7_keepIf : Room := { frames := 1, cells := 0, slots := 0, locals := 21 }
abbrev rmX7_layAside : Room := { frames := 0, cells := 0, slots := 0, locals := 0 }
abbrev rmX7_layBack : Room := { frames := 0, cells := 0, slots := 0, locals := 0 }
abbrev rmX7_least : Room := { frames := 0, cells := 0, slots := 0, locals := 0 }
abbrev rmX7_greatest : Room := { frames := 0, cells := 0, slots := 0, locals := 0 }
abbrev rmX7_set : Room := { frames := 1, cells := 0, slots := 0, locals := 22 }
abbrev rmX7_seed : Room := { frames := 1, cells := 0, slots := 0, locals := 22 }
abbrev rmX7_pitch : Room := { frames := 1, cells := 0, slots := 0, locals := 22 }
abbrev rmX7_rent : Room := { frames := 2, cells := 0, slots := 0, locals := 43 }
abbrev rmX7_cart : Room := { frames := 1, cells := 0, slots := 0, locals := 23 }
abbrev rmX7_pointsAt : Room := { frames := 0, cells := 0, slots := 0, locals := 0 }
abbrev rmX7_give : Room := { frames := 1, cells := 0, slots := 0, locals := 26 }
abbrev rmX7_isNumber : Room := { frames := 2, cells := 0, slots := 0, locals := 43 }
abbrev rmX7_tryWish : Room := { frames := 3, cells := 0, slots := 0, locals := 64 }
abbrev rmX7_wish : Room := { frames := 4, cells := 0, slots := 0, locals := 91 }
abbrev rmX7_tryFine : Room := { frames := 2, cells := 0, slots := 0, locals := 49 }
abbrev rmX7_fine : Room := { frames := 3, cells := 0, slots := 0, locals := 72 }
abbrev rmX7_waiting : Room := { frames := 1, cells := 0, slots := 0, locals := 22 }
abbrev rmX7_tryCheck : Room := { frames := 2, cells := 0, slots := 0, locals := 44 }
abbrev rmX7_check : Room := { frames := 3, cells := 0, slots := 0, locals := 66 }
abbrev rmX7_trySwap : Room := { frames := 2, cells := 0, slots := 0, locals := 43 }
abbrev rmX7_swap : Room := { frames := 3, cells := 0, slots := 0, locals := 66 }
abbrev rmX7_balance : Room := { frames := 1, cells := 0, slots := 0, locals := 22 }
abbrev rmX7_pay : Room := { frames := 2, cells := 0, slots := 0, locals := 43 }
abbrev rmX7_nextToCheck : Room := { frames := 1, cells := 0, slots := 0, locals := 22 }
abbrev rmX7_checkAll : Room := { frames := 2, cells := 0, slots := 0, locals := 45 }
abbrev rmX7_whyOut : Room := { frames := 1, cells := 0, slots := 0, locals := 22 }
abbrev rmX7_beginDay : Room := { frames := 2, cells := 0, slots := 0, locals := 43 }
abbrev rmX7_isKindAt : Room := { frames := 2, cells := 0, slots := 0, locals := 43 }
abbrev rmX7_isApart : Room := { frames := 3, cells := 0, slots := 0, locals := 67 }
abbrev rmX7_put : Room := { frames := 1, cells := 0, slots := 0, locals := 23 }
abbrev rmX7_choose : Room := { frames := 4, cells := 0, slots := 0, locals := 89 }
abbrev rmX7_isToDraw : Room := { frames := 1, cells := 0, slots := 0, locals := 22 }
abbrev rmX7_ticketsOf : Room := { frames := 1, cells := 0, slots := 0, locals := 22 }
abbrev rmX7_drawOne : Room := { frames := 2, cells := 0, slots := 0, locals := 44 }
abbrev rmX7_drawAll : Room := { frames := 5, cells := 0, slots := 0, locals := 112 }
abbrev rmX7_drawnAt : Room := { frames := 1, cells := 0, slots := 0, locals := 22 }
abbrev rmX7_cook : Room := { frames := 2, cells := 0, slots := 0, locals := 49 }
abbrev rmX7_cookAll : Room := { frames := 3, cells := 0, slots := 0, locals := 73 }
abbrev rmX7_swapAll : Room := { frames := 4, cells := 0, slots := 0, locals := 89 }
abbrev rmX7_trade : Room := { frames := 1, cells := 0, slots := 0, locals := 23 }
abbrev rmX7_passDay : Room := { frames := 6, cells := 0, slots := 0, locals := 136 }
abbrev rmX7_tryDays : Room := { frames := 7, cells := 0, slots := 0, locals := 157 }
abbrev rmX7_days : Room := { frames := 8, cells := 0, slots := 0, locals := 180 }
abbrev rmX7_ofCart : Room := { frames := 2, cells := 0, slots := 0, locals := 43 }
abbrev rmX7_money : Room := { frames := 2, cells := 0, slots := 0, locals := 43 }
abbrev rmX7_ofPitch : Room := { frames := 2, cells := 0, slots := 0, locals := 43 }
abbrev rmX7_atPitches : Room := { frames := 1, cells := 0, slots := 0, locals := 22 }
abbrev rmX7_count : Room := { frames := 2, cells := 0, slots := 0, locals := 44 }
abbrev rmX7_pointsOn : Room := { frames := 2, cells := 0, slots := 0, locals := 43 }
abbrev rmX7_wouldHave : Room := { frames := 7, cells := 0, slots := 0, locals := 157 }
abbrev rmX7_ifWished : Room := { frames := 7, cells := 0, slots := 0, locals := 157 }
abbrev rmX7_firstDay : Room := { frames := 7, cells := 0, slots := 0, locals := 157 }
abbrev rmX7_daysOf : Room := { frames := 7, cells := 0, slots := 0, locals := 157 }
abbrev rmX7_luckySeed : Room := { frames := 7, cells := 0, slots := 0, locals := 157 }
abbrev rmX7_whyNot : Room := { frames := 4, cells := 0, slots := 0, locals := 89 }
abbrev rmX7_put_ : Room := { frames := 1, cells := 0, slots := 0, locals := 22 }
abbrev rmX7_wipe : Room := { frames := 0, cells := 0, slots := 0, locals := 0 }
abbrev rmX7_next : Room := { frames := 0, cells := 0, slots := 0, locals := 0 }
abbrev rmX7_takeOne : Room := { frames := 1, cells := 0, slots := 0, locals := 22 }
abbrev rmX7_takeNumber : Room := { frames := 2, cells := 0, slots := 0, locals := 45 }
abbrev rmX7_takeWishes : Room := { frames := 2, cells := 0, slots := 0, locals := 45 }
abbrev rmX7_takeOrder : Room := { frames := 3, cells := 0, slots := 0, locals := 66 }
abbrev rmX7_fault : Room := { frames := 4, cells := 0, slots := 0, locals := 87 }
abbrev rmX7_carry : Room := { frames := 8, cells := 0, slots := 0, locals := 180 }
abbrev rmX7_carryOut : Room := { frames := 9, cells := 0, slots := 0, locals := 202 }
abbrev rmX7_undo : Room := { frames := 0, cells := 0, slots := 0, locals := 0 }
abbrev rmX7_save : Room := { frames := 1, cells := 0, slots := 0, locals := 22 }
abbrev rmX7_restore : Room := { frames := 1, cells := 0, slots := 0, locals := 22 }
set_option maxRecDepth 100000 in
theorem wMin1 : Cond.static Lib.Math.min.name ∈ mm_good := mq_2 230 rfl rfl
set_option maxRecDepth 100000 in
theorem wMin2 : Cond.initialized "java/lang/Math" ∈ mm_good := mq_1 10 rfl rfl
set_option maxRecDepth 100000 in
theorem wMin3 : Cond.code Lib.Math.min.name Lib.Math.min.code 2 (some .int) ∈ mm_good := mq_2 231 rfl rfl
set_option maxRecDepth 100000 in
theorem wCpy1 : Cond.native arraycopyName ∈ mm_good := mq_2 52 rfl rfl
set_option maxRecDepth 100000 in
theorem wCpy2 : Cond.static arraycopyName ∈ mm_good := mq_2 51 rfl rfl
set_option maxRecDepth 100000 in
theorem wCpy3 : Cond.initialized "java/lang/System" ∈ mm_good := mq_1 8 rfl rfl
section WDS
variable {p : Program} {l : Launch} {e : Env} {Rm : Room} {s : State} {m : MethodId} {args : Array Value} {below : List Frame} {meth : Method} {c : Code} {H : Heap} {locs : List Loc} {cells slots : Nat} {Q : State → Prop}
variable {cc : ByteArray} {pc : Nat} {ls : Array Slot} {rest : List Value} {G : mm_G} {own : String} {nL : Nat} {ret : Option FieldType} {R : mm_R} {N : Nat} {M : mm_M} {o : Nat}
set_option maxRecDepth 100000 in
theorem mX0_75 : Cond.methodLink RX0 75 arraycopyName ∈ mm_good := mq_2 61 rfl rfl
set_option maxRecDepth 100000 in
theorem mX5_63 : Cond.methodLink RX5 63 arraycopyName ∈ mm_good := mq_2 50 rfl rfl
set_option maxRecDepth 100000 in
theorem gX0_15 (C : mm_C G p s m args meth c RX0 cc nL ret) (hM : mm_P G R N M H) (ho : o < N) (hT : kT o = (0, 0)) {b : Nat} (hr : R o 17 = some b) (hdg : decode cc pc = .ok (.getfield 15, 3)) (kk : W p l e Rm s m args below meth c H locs cells slots Q (F0 m (pc + 3) ls (.ref (mm_lo G + b) :: rest))) : W p l e Rm s m args below meth c H locs cells slots Q (F0 m pc ls (.ref (mm_lo G + o) :: rest)) := mm_get C hM ho (mm_e0 hT) rfl inX0 (k := 17) (by decide) rfl (mq_1 118 rfl rfl) rfl hdg (by rw [mm_q_some hr]; exact kk)
set_option maxRecDepth 100000 in
theorem gX0_18 (C : mm_C G p s m args meth c RX0 cc nL ret) (hM : mm_P G R N M H) (ho : o < N) (hT : kT o = (0, 0)) (hdg : decode cc pc = .ok (.getfield 18, 3)) (kk : W p l e Rm s m args below meth c H locs cells slots Q (F0 m (pc + 3) ls (.int (M.1 o 0) :: rest))) : W p l e Rm s m args below meth c H locs cells slots Q (F0 m pc ls (.ref (mm_lo G + o) :: rest)) := mm_get C hM ho (mm_e0 hT) rfl inX0 (k := 0) (by decide) rfl (mq_1 65 rfl rfl) rfl hdg kk
set_option maxRecDepth 100000 in
theorem gX0_22 (C : mm_C G p s m args meth c RX0 cc nL ret) (hM : mm_P G R N M H) (ho : o < N) (hT : kT o = (0, 0)) (hdg : decode cc pc = .ok (.getfield 22, 3)) (kk : W p l e Rm s m args below meth c H locs cells slots Q (F0 m (pc + 3) ls (.int (M.1 o 1) :: rest))) : W p l e Rm s m args below meth c H locs cells slots Q (F0 m pc ls (.ref (mm_lo G + o) :: rest)) := mm_get C hM ho (mm_e0 hT) rfl inX0 (k := 1) (by decide) rfl (mq_1 68 rfl rfl) rfl hdg kk
set_option maxRecDepth 100000 in
theorem gX0_25 (C : mm_C G p s m args meth c RX0 cc nL ret) (hM : mm_P G R N M H) (ho : o < N) (hT : kT o = (0, 0)) (hdg : decode cc pc = .ok (.getfield 25, 3)) (kk : W p l e Rm s m args below meth c H locs cells slots Q (F0 m (pc + 3) ls (.int (M.1 o 4) :: rest))) : W p l e Rm s m args below meth c H locs cells slots Q (F0 m pc ls (.ref (mm_lo G + o) :: rest)) := mm_get C hM ho (mm_e0 hT) rfl inX0 (k := 4) (by decide) rfl (mq_1 78 rfl rfl) rfl hdg kk
set_option maxRecDepth 100000 in
theorem gX0_28 (C : mm_C G p s m args meth c RX0 cc nL ret) (hM : mm_P G R N M H) (ho : o < N) (hT : kT o = (0, 0)) (hdg : decode cc pc = .ok (.getfield 28, 3)) (kk : W p l e Rm s m args below meth c H locs cells slots Q (F0 m (pc + 3) ls (.int (M.1 o 2) :: rest))) : W p l e Rm s m args below meth c H locs cells slots Q (F0 m pc ls (.ref (mm_lo G + o) :: rest)) := mm_get C hM ho (mm_e0 hT) rfl inX0 (k := 2) (by decide) rfl (mq_1 71 rfl rfl) rfl hdg kk
set_option maxRecDepth 100000 in
theorem gX0_31 (C : mm_C G p s m args meth c RX0 cc nL ret) (hM : mm_P G R N M H) (ho : o < N) (hT : kT o = (0, 0)) (hdg : decode cc pc = .ok (.getfield 31, 3)) (kk : W p l e Rm s m args below meth c H locs cells slots Q (F0 m (pc + 3) ls (.int (M.1 o 3) :: rest))) : W p l e Rm s m args below meth c H locs cells slots Q (F0 m pc ls (.ref (mm_lo G + o) :: rest)) := mm_get C hM ho (mm_e0 hT) rfl inX0 (k := 3) (by decide) rfl (mq_1 75 rfl rfl) rfl hdg kk
set_option maxRecDepth 100000 in
theorem gX0_34 (C : mm_C G p s m args meth c RX0 cc nL ret) (hM : mm_P G R N M H) (ho : o < N) (hT : kT o = (0, 0)) (hdg : decode cc pc = .ok (.getfield 34, 3)) (kk : W p l e Rm s m args below meth c H locs cells slots Q (F0 m (pc + 3) ls (.int (M.1 o 5) :: rest))) : W p l e Rm s m args below meth c H locs cells slots Q (F0 m pc ls (.ref (mm_lo G + o) :: rest)) := mm_get C hM ho (mm_e0 hT) rfl inX0 (k := 5) (by decide) rfl (mq_1 81 rfl rfl) rfl hdg kk
set_option maxRecDepth 100000 in
theorem gX0_38 (C : mm_C G p s m args meth c RX0 cc nL ret) (hM : mm_P G R N M H) (ho : o < N) (hT : kT o = (0, 0)) (hdg : decode cc pc = .ok (.getfield 38, 3)) (kk : W p l e Rm s m args below meth c H locs cells slots Q (F0 m (pc + 3) ls (.int (M.1 o 6) :: rest))) : W p l e Rm s m args below meth c H locs cells slots Q (F0 m pc ls (.ref (mm_lo G + o) :: rest)) := mm_get C hM ho (mm_e0 hT) rfl inX0 (k := 6) (by decide) rfl (mq_1 85 rfl rfl) rfl hdg kk
set_option maxRecDepth 100000 in
theorem gX0_41 (C : mm_C G p s m args meth c RX0 cc nL ret) (hM : mm_P G R N M H) (ho : o < N) (hT : kT o = (0, 0)) (hdg : decode cc pc = .ok (.getfield 41, 3)) (kk : W p l e Rm s m args below meth c H locs cells slots Q (F0 m (pc + 3) ls (.int (M.1 o 7) :: rest))) : W p l e Rm s m args below meth c H locs cells slots Q (F0 m pc ls (.ref (mm_lo G + o) :: rest)) := mm_get C hM ho (mm_e0 hT) rfl inX0 (k := 7) (by decide) rfl (mq_1 88 rfl rfl) rfl hdg kk
set_option maxRecDepth 100000 in
theorem gX0_44 (C : mm_C G p s m args meth c RX0 cc nL ret) (hM : mm_P G R N M H) (ho : o < N) (hT : kT o = (0, 0)) (hdg : decode cc pc = .ok (.getfield 44, 3)) (kk : W p l e Rm s m args below meth c H locs cells slots Q (F0 m (pc + 3) ls (.long (M.2 o 12) :: rest))) : W p l e Rm s m args below meth c H locs cells slots Q (F0 m pc ls (.ref (mm_lo G + o) :: rest)) := mm_get C hM ho (mm_e0 hT) rfl inX0 (k := 12) (by decide) rfl (mq_1 104 rfl rfl) rfl hdg kk
set_option maxRecDepth 100000 in
theorem gX0_48 (C : mm_C G p s m args meth c RX0 cc nL ret) (hM : mm_P G R N M H) (ho : o < N) (hT : kT o = (0, 0)) (hdg : decode cc pc = .ok (.getfield 48, 3)) (kk : W p l e Rm s m args below meth c H locs cells slots Q (F0 m (pc + 3) ls (.long (M.2 o 13) :: rest))) : W p l e Rm s m args below meth c H locs cells slots Q (F0 m pc ls (.ref (mm_lo G + o) :: rest)) := mm_get C hM ho (mm_e0 hT) rfl inX0 (k := 13) (by decide) rfl (mq_1 107 rfl rfl) rfl hdg kk
set_option maxRecDepth 100000 in
theorem gX0_51 (C : mm_C G p s m args meth c RX0 cc nL ret) (hM : mm_P G R N M H) (ho : o < N) (hT : kT o = (0, 0)) (hdg : decode cc pc = .ok (.getfield 51, 3)) (kk : W p l e Rm s m args below meth c H locs cells slots Q (F0 m (pc + 3) ls (.long (M.2 o 14) :: rest))) : W p l e Rm s m args below meth c H locs cells slots Q (F0 m pc ls (.ref (mm_lo G + o) :: rest)) := mm_get C hM ho (mm_e0 hT) rfl inX0 (k := 14) (by decide) rfl (mq_1 110 rfl rfl) rfl hdg kk
set_option maxRecDepth 100000 in
theorem gX0_54 (C : mm_C G p s m args meth c RX0 cc nL ret) (hM : mm_P G R N M H) (ho : o < N) (hT : kT o = (0, 0)) (hdg : decode cc pc = .ok (.getfield 54, 3)) (kk : W p l e Rm s m args below meth c H locs cells slots Q (F0 m (pc + 3) ls (.long (M.2 o 15) :: rest))) : W p l e Rm s m args below meth c H locs cells slots Q (F0 m pc ls (.ref (mm_lo G + o) :: rest)) := mm_get C hM ho (mm_e0 hT) rfl inX0 (k := 15) (by decide) rfl (mq_1 113 rfl rfl) rfl hdg kk
set_option maxRecDepth 100000 in
theorem gX0_63 (C : mm_C G p s m args meth c RX0 cc nL ret) (hM : mm_P G R N M H) (ho : o < N) (hT : kT o = (0, 0)) (hdg : decode cc pc = .ok (.getfield 63, 3)) (kk : W p l e Rm s m args below meth c H locs cells slots Q (F0 m (pc + 3) ls (.int (M.1 o 8) :: rest))) : W p l e Rm s m args below meth c H locs cells slots Q (F0 m pc ls (.ref (mm_lo G + o) :: rest)) := mm_get C hM ho (mm_e0 hT) rfl inX0 (k := 8) (by decide) rfl (mq_1 91 rfl rfl) rfl hdg kk
set_option maxRecDepth 100000 in
theorem gX0_66 (C : mm_C G p s m args meth c RX0 cc nL ret) (hM : mm_P G R N M H) (ho : o < N) (hT : kT o = (0, 0)) (hdg : decode cc pc = .ok (.getfield 66, 3)) (kk : W p l e Rm s m args below meth c H locs cells slots Q (F0 m (pc + 3) ls (.int (M.1 o 9) :: rest))) : W p l e Rm s m args below meth c H locs cells slots Q (F0 m pc ls (.ref (mm_lo G + o) :: rest)) := mm_get C hM ho (mm_e0 hT) rfl inX0 (k := 9) (by decide) rfl (mq_1 95 rfl rfl) rfl hdg kk
set_option maxRecDepth 100000 in
theorem gX0_69 (C : mm_C G p s m args meth c RX0 cc nL ret) (hM : mm_P G R N M H) (ho : o < N) (hT : kT o = (0, 0)) (hdg : decode cc pc = .ok (.getfield 69, 3)) (kk : W p l e Rm s m args below meth c H locs cells slots Q (F0 m (pc + 3) ls (.int (M.1 o 10) :: rest))) : W p l e Rm s m args below meth c H locs cells slots Q (F0 m pc ls (.ref (mm_lo G + o) :: rest)) := mm_get C hM ho (mm_e0 hT) rfl inX0 (k := 10) (by decide) rfl (mq_1 98 rfl rfl) rfl hdg kk
set_option maxRecDepth 100000 in
theorem gX0_72 (C : mm_C G p s m args meth c RX0 cc nL ret) (hM : mm_P G R N M H) (ho : o < N) (hT : kT o = (0, 0)) (hdg : decode cc pc = .ok (.getfield 72, 3)) (kk : W p l e Rm s m args below meth c H locs cells slots Q (F0 m (pc + 3) ls (.int (M.1 o 11) :: rest))) : W p l e Rm s m args below meth c H locs cells slots Q (F0 m pc ls (.ref (mm_lo G + o) :: rest)) := mm_get C hM ho (mm_e0 hT) rfl inX0 (k := 11) (by decide) rfl (mq_1 101 rfl rfl) rfl hdg kk
set_option maxRecDepth 100000 in
theorem gX0_9 (C : mm_C G p s m args meth c RX0 cc nL ret) (hM : mm_P G R N M H) (ho : o < N) (hT : kT o = (0, 0)) {b : Nat} (hr : R o 16 = some b) (hdg : decode cc pc = .ok (.getfield 9, 3)) (kk : W p l e Rm s m args below meth c H locs cells slots Q (F0 m (pc + 3) ls (.ref (mm_lo G + b) :: rest))) : W p l e Rm s m args below meth c H locs cells slots Q (F0 m pc ls (.ref (mm_lo G + o) :: rest)) := mm_get C hM ho (mm_e0 hT) rfl inX0 (k := 16) (by decide) rfl (mq_1 116 rfl rfl) rfl hdg (by rw [mm_q_some hr]; exact kk)
set_option maxRecDepth 100000 in
theorem gX1_104 (C : mm_C G p s m args meth c RX1 cc nL ret) (hM : mm_P G R N M H) (ho : o < N) (hT : kT o = (0, 0)) (hdg : decode cc pc = .ok (.getfield 104, 3)) (kk : W p l e Rm s m args below meth c H locs cells slots Q (F0 m (pc + 3) ls (.int (M.1 o 2) :: rest))) : W p l e Rm s m args below meth c H locs cells slots Q (F0 m pc ls (.ref (mm_lo G + o) :: rest)) := mm_get C hM ho (mm_e0 hT) rfl inX0 (k := 2) (by decide) rfl (mq_1 72 rfl rfl) rfl hdg kk
set_option maxRecDepth 100000 in
theorem gX1_121 (C : mm_C G p s m args meth c RX1 cc nL ret) (hM : mm_P G R N M H) (ho : o < N) (hT : kT o = (0, 0)) (hdg : decode cc pc = .ok (.getfield 121, 3)) (kk : W p l e Rm s m args below meth c H locs cells slots Q (F0 m (pc + 3) ls (.int (M.1 o 8) :: rest))) : W p l e Rm s m args below meth c H locs cells slots Q (F0 m pc ls (.ref (mm_lo G + o) :: rest)) := mm_get C hM ho (mm_e0 hT) rfl inX0 (k := 8) (by decide) rfl (mq_1 92 rfl rfl) rfl hdg kk
set_option maxRecDepth 100000 in
theorem gX1_124 (C : mm_C G p s m args meth c RX1 cc nL ret) (hM : mm_P G R N M H) (ho : o < N) (hT : kT o = (0, 0)) (hdg : decode cc pc = .ok (.getfield 124, 3)) (kk : W p l e Rm s m args below meth c H locs cells slots Q (F0 m (pc + 3) ls (.int (M.1 o 1) :: rest))) : W p l e Rm s m args below meth c H locs cells slots Q (F0 m pc ls (.ref (mm_lo G + o) :: rest)) := mm_get C hM ho (mm_e0 hT) rfl inX0 (k := 1) (by decide) rfl (mq_1 69 rfl rfl) rfl hdg kk
set_option maxRecDepth 100000 in
theorem gX1_138 (C : mm_C G p s m args meth c RX1 cc nL ret) (hM : mm_P G R N M H) (ho : o < N) (hT : kT o = (4, 0)) (hdg : decode cc pc = .ok (.getfield 138, 3)) (kk : W p l e Rm s m args below meth c H locs cells slots Q (F0 m (pc + 3) ls (.int (M.1 o 4) :: rest))) : W p l e Rm s m args below meth c H locs cells slots Q (F0 m pc ls (.ref (mm_lo G + o) :: rest)) := mm_get C hM ho (mm_e4 hT) rfl inX5 (k := 4) (by decide) rfl (mq_1 169 rfl rfl) rfl hdg kk
set_option maxRecDepth 100000 in
theorem gX1_141 (C : mm_C G p s m args meth c RX1 cc nL ret) (hM : mm_P G R N M H) (ho : o < N) (hT : kT o = (4, 0)) {b : Nat} (hr : R o 10 = some b) (hdg : decode cc pc = .ok (.getfield 141, 3)) (kk : W p l e Rm s m args below meth c H locs cells slots Q (F0 m (pc + 3) ls (.ref (mm_lo G + b) :: rest))) : W p l e Rm s m args below meth c H locs cells slots Q (F0 m pc ls (.ref (mm_lo G + o) :: rest)) := mm_get C hM ho (mm_e4 hT) rfl inX5 (k := 10) (by decide) rfl (mq_1 185 rfl rfl) rfl hdg (by rw [mm_q_some hr]; exact kk)
set_option maxRecDepth 100000 in
theorem gX1_144 (C : mm_C G p s m args meth c RX1 cc nL ret) (hM : mm_P G R N M H) (ho : o < N) (hT : kT o = (4, 0)) {b : Nat} (hr : R o 11 = some b) (hdg : decode cc pc = .ok (.getfield 144, 3)) (kk : W p l e Rm s m args below meth c H locs cells slots Q (F0 m (pc + 3) ls (.ref (mm_lo G + b) :: rest))) : W p l e Rm s m args below meth c H locs cells slots Q (F0 m pc ls (.ref (mm_lo G + o) :: rest)) := mm_get C hM ho (mm_e4 hT) rfl inX5 (k := 11) (by decide) rfl (mq_1 187 rfl rfl) rfl hdg (by rw [mm_q_some hr]; exact kk)
set_option maxRecDepth 100000 in
theorem gX1_151 (C : mm_C G p s m args meth c RX1 cc nL ret) (hM : mm_P G R N M H) (ho : o < N) (hT : kT o = (0, 0)) (hdg : decode cc pc = .ok (.getfield 151, 3)) (kk : W p l e Rm s m args below meth c H locs cells slots Q (F0 m (pc + 3) ls (.long (M.2 o 15) :: rest))) : W p l e Rm s m args below meth c H locs cells slots Q (F0 m pc ls (.ref (mm_lo G + o) :: rest)) := mm_get C hM ho (mm_e0 hT) rfl inX0 (k := 15) (by decide) rfl (mq_1 114 rfl rfl) rfl hdg kk
set_option maxRecDepth 100000 in
theorem gX1_155 (C : mm_C G p s m args meth c RX1 cc nL ret) (hM : mm_P G R N M H) (ho : o < N) (hT : kT o = (4, 0)) (hdg : decode cc pc = .ok (.getfield 155, 3)) (kk : W p l e Rm s m args below meth c H locs cells slots Q (F0 m (pc + 3) ls (.int (M.1 o 5) :: rest))) : W p l e Rm s m args below meth c H locs cells slots Q (F0 m pc ls (.ref (mm_lo G + o) :: rest)) := mm_get C hM ho (mm_e4 hT) rfl inX5 (k := 5) (by decide) rfl (mq_1 172 rfl rfl) rfl hdg kk
set_option maxRecDepth 100000 in
theorem gX1_158 (C : mm_C G p s m args meth c RX1 cc nL ret) (hM : mm_P G R N M H) (ho : o < N) (hT : kT o = (0, 0)) (hdg : decode cc pc = .ok (.getfield 158, 3)) (kk : W p l e Rm s m args below meth c H locs cells slots Q (F0 m (pc + 3) ls (.long (M.2 o 13) :: rest))) : W p l e Rm s m args below meth c H locs cells slots Q (F0 m pc ls (.ref (mm_lo G + o) :: rest)) := mm_get C hM ho (mm_e0 hT) rfl inX0 (k := 13) (by decide) rfl (mq_1 108 rfl rfl) rfl hdg kk
set_option maxRecDepth 100000 in
theorem gX1_161 (C : mm_C G p s m args meth c RX1 cc nL ret) (hM : mm_P G R N M H) (ho : o < N) (hT : kT o = (3, 0)) (hdg : decode cc pc = .ok (.getfield 161, 3)) (kk : W p l e Rm s m args below meth c H locs cells slots Q (F0 m (pc + 3) ls (.int (M.1 o 0) :: rest))) : W p l e Rm s m args below meth c H locs cells slots Q (F0 m pc ls (.ref (mm_lo G + o) :: rest)) := mm_get C hM ho (mm_e3 hT) rfl inX4 (k := 0) (by decide) rfl (mq_1 38 rfl rfl) rfl hdg kk
set_option maxRecDepth 100000 in
theorem gX1_164 (C : mm_C G p s m args meth c RX1 cc nL ret) (hM : mm_P G R N M H) (ho : o < N) (hT : kT o = (0, 0)) (hdg : decode cc pc = .ok (.getfield 164, 3)) (kk : W p l e Rm s m args below meth c H locs cells slots Q (F0 m (pc + 3) ls (.int (M.1 o 7) :: rest))) : W p l e Rm s m args below meth c H locs cells slots Q (F0 m pc ls (.ref (mm_lo G + o) :: rest)) := mm_get C hM ho (mm_e0 hT) rfl inX0 (k := 7) (by decide) rfl (mq_1 89 rfl rfl) rfl hdg kk
set_option maxRecDepth 100000 in
theorem gX1_167 (C : mm_C G p s m args meth c RX1 cc nL ret) (hM : mm_P G R N M H) (ho : o < N) (hT : kT o = (3, 0)) (hdg : decode cc pc = .ok (.getfield 167, 3)) (kk : W p l e Rm s m args below meth c H locs cells slots Q (F0 m (pc + 3) ls (.int (M.1 o 2) :: rest))) : W p l e Rm s m args below meth c H locs cells slots Q (F0 m pc ls (.ref (mm_lo G + o) :: rest)) := mm_get C hM ho (mm_e3 hT) rfl inX4 (k := 2) (by decide) rfl (mq_1 44 rfl rfl) rfl hdg kk
set_option maxRecDepth 100000 in
theorem gX1_170 (C : mm_C G p s m args meth c RX1 cc nL ret) (hM : mm_P G R N M H) (ho : o < N) (hT : kT o = (3, 0)) (hdg : decode cc pc = .ok (.getfield 170, 3)) (kk : W p l e Rm s m args below meth c H locs cells slots Q (F0 m (pc + 3) ls (.int (M.1 o 1) :: rest))) : W p l e Rm s m args below meth c H locs cells slots Q (F0 m pc ls (.ref (mm_lo G + o) :: rest)) := mm_get C hM ho (mm_e3 hT) rfl inX4 (k := 1) (by decide) rfl (mq_1 41 rfl rfl) rfl hdg kk
set_option maxRecDepth 100000 in
theorem gX1_21 (C : mm_C G p s m args meth c RX1 cc nL ret) (hM : mm_P G R N M H) (ho : o < N) (hT : kT o = (4, 0)) (hdg : decode cc pc = .ok (.getfield 21, 3)) (kk : W p l e Rm s m args below meth c H locs cells slots Q (F0 m (pc + 3) ls (.int (M.1 o 0) :: rest))) : W p l e Rm s m args below meth c H locs cells slots Q (F0 m pc ls (.ref (mm_lo G + o) :: rest)) := mm_get C hM ho (mm_e4 hT) rfl inX5 (k := 0) (by decide) rfl (mq_1 157 rfl rfl) rfl hdg kk
set_option maxRecDepth 100000 in
theorem gX1_25 (C : mm_C G p s m args meth c RX1 cc nL ret) (hM : mm_P G R N M H) (ho : o < N) (hT : kT o = (0, 0)) (hdg : decode cc pc = .ok (.getfield 25, 3)) (kk : W p l e Rm s m args below meth c H locs cells slots Q (F0 m (pc + 3) ls (.int (M.1 o 4) :: rest))) : W p l e Rm s m args below meth c H locs cells slots Q (F0 m pc ls (.ref (mm_lo G + o) :: rest)) := mm_get C hM ho (mm_e0 hT) rfl inX0 (k := 4) (by decide) rfl (mq_1 79 rfl rfl) rfl hdg kk
set_option maxRecDepth 100000 in
theorem gX1_30 (C : mm_C G p s m args meth c RX1 cc nL ret) (hM : mm_P G R N M H) (ho : o < N) (hT : kT o = (0, 0)) (hdg : decode cc pc = .ok (.getfield 30, 3)) (kk : W p l e Rm s m args below meth c H locs cells slots Q (F0 m (pc + 3) ls (.int (M.1 o 5) :: rest))) : W p l e Rm s m args below meth c H locs cells slots Q (F0 m pc ls (.ref (mm_lo G + o) :: rest)) := mm_get C hM ho (mm_e0 hT) rfl inX0 (k := 5) (by decide) rfl (mq_1 82 rfl rfl) rfl hdg kk
set_option maxRecDepth 100000 in
theorem gX1_34 (C : mm_C G p s m args meth c RX1 cc nL ret) (hM : mm_P G R N M H) (ho : o < N) (hT : kT o = (4, 0)) (hdg : decode cc pc = .ok (.getfield 34, 3)) (kk : W p l e Rm s m args below meth c H locs cells slots Q (F0 m (pc + 3) ls (.int (M.1 o 3) :: rest))) : W p l e Rm s m args below meth c H locs cells slots Q (F0 m pc ls (.ref (mm_lo G + o) :: rest)) := mm_get C hM ho (mm_e4 hT) rfl inX5 (k := 3) (by decide) rfl (mq_1 166 rfl rfl) rfl hdg kk
set_option maxRecDepth 100000 in
theorem gX1_37 (C : mm_C G p s m args meth c RX1 cc nL ret) (hM : mm_P G R N M H) (ho : o < N) (hT : kT o = (4, 0)) {b : Nat} (hr : R o 9 = some b) (hdg : decode cc pc = .ok (.getfield 37, 3)) (kk : W p l e Rm s m args below meth c H locs cells slots Q (F0 m (pc + 3) ls (.ref (mm_lo G + b) :: rest))) : W p l e Rm s m args below meth c H locs cells slots Q (F0 m pc ls (.ref (mm_lo G + o) :: rest)) := mm_get C hM ho (mm_e4 hT) rfl inX5 (k := 9) (by decide) rfl (mq_1 182 rfl rfl) rfl hdg (by rw [mm_q_some hr]; exact kk)
set_option maxRecDepth 100000 in
theorem gX1_41 (C : mm_C G p s m args meth c RX1 cc nL ret) (hM : mm_P G R N M H) (ho : o < N) (hT : kT o = (4, 0)) (hdg : decode cc pc = .ok (.getfield 41, 3)) (kk : W p l e Rm s m args below meth c H locs cells slots Q (F0 m (pc + 3) ls (.int (M.1 o 2) :: rest))) : W p l e Rm s m args below meth c H locs cells slots Q (F0 m pc ls (.ref (mm_lo G + o) :: rest)) := mm_get C hM ho (mm_e4 hT) rfl inX5 (k := 2) (by decide) rfl (mq_1 163 rfl rfl) rfl hdg kk
set_option maxRecDepth 100000 in
theorem gX1_44 (C : mm_C G p s m args meth c RX1 cc nL ret) (hM : mm_P G R N M H) (ho : o < N) (hT : kT o = (4, 0)) {b : Nat} (hr : R o 8 = some b) (hdg : decode cc pc = .ok (.getfield 44, 3)) (kk : W p l e Rm s m args below meth c H locs cells slots Q (F0 m (pc + 3) ls (.ref (mm_lo G + b) :: rest))) : W p l e Rm s m args below meth c H locs cells slots Q (F0 m pc ls (.ref (mm_lo G + o) :: rest)) := mm_get C hM ho (mm_e4 hT) rfl inX5 (k := 8) (by decide) rfl (mq_1 179 rfl rfl) rfl hdg (by rw [mm_q_some hr]; exact kk)
set_option maxRecDepth 100000 in
theorem gX1_48 (C : mm_C G p s m args meth c RX1 cc nL ret) (hM : mm_P G R N M H) (ho : o < N) (hT : kT o = (3, 0)) (hdg : decode cc pc = .ok (.getfield 48, 3)) (kk : W p l e Rm s m args below meth c H locs cells slots Q (F0 m (pc + 3) ls (.int (M.1 o 3) :: rest))) : W p l e Rm s m args below meth c H locs cells slots Q (F0 m pc ls (.ref (mm_lo G + o) :: rest)) := mm_get C hM ho (mm_e3 hT) rfl inX4 (k := 3) (by decide) rfl (mq_1 47 rfl rfl) rfl hdg kk
set_option maxRecDepth 100000 in
theorem gX1_60 (C : mm_C G p s m args meth c RX1 cc nL ret) (hM : mm_P G R N M H) (ho : o < N) (hT : kT o = (4, 0)) (hdg : decode cc pc = .ok (.getfield 60, 3)) (kk : W p l e Rm s m args below meth c H locs cells slots Q (F0 m (pc + 3) ls (.int (M.1 o 14) :: rest))) : W p l e Rm s m args below meth c H locs cells slots Q (F0 m pc ls (.ref (mm_lo G + o) :: rest)) := mm_get C hM ho (mm_e4 hT) rfl inX5 (k := 14) (by decide) rfl (mq_1 192 rfl rfl) rfl hdg kk
set_option maxRecDepth 100000 in
theorem gX1_63 (C : mm_C G p s m args meth c RX1 cc nL ret) (hM : mm_P G R N M H) (ho : o < N) (hT : kT o = (4, 0)) (hdg : decode cc pc = .ok (.getfield 63, 3)) (kk : W p l e Rm s m args below meth c H locs cells slots Q (F0 m (pc + 3) ls (.int (M.1 o 1) :: rest))) : W p l e Rm s m args below meth c H locs cells slots Q (F0 m pc ls (.ref (mm_lo G + o) :: rest)) := mm_get C hM ho (mm_e4 hT) rfl inX5 (k := 1) (by decide) rfl (mq_1 160 rfl rfl) rfl hdg kk
set_option maxRecDepth 100000 in
theorem gX1_75 (C : mm_C G p s m args meth c RX1 cc nL ret) (hM : mm_P G R N M H) (ho : o < N) (hT : kT o = (4, 0)) {b : Nat} (hr : R o 12 = some b) (hdg : decode cc pc = .ok (.getfield 75, 3)) (kk : W p l e Rm s m args below meth c H locs cells slots Q (F0 m (pc + 3) ls (.ref (mm_lo G + b) :: rest))) : W p l e Rm s m args below meth c H locs cells slots Q (F0 m pc ls (.ref (mm_lo G + o) :: rest)) := mm_get C hM ho (mm_e4 hT) rfl inX5 (k := 12) (by decide) rfl (mq_1 189 rfl rfl) rfl hdg (by rw [mm_q_some hr]; exact kk)
set_option maxRecDepth 100000 in
theorem gX1_78 (C : mm_C G p s m args meth c RX1 cc nL ret) (hM : mm_P G R N M H) (ho : o < N) (hT : kT o = (4, 0)) {b : Nat} (hr : R o 13 = some b) (hdg : decode cc pc = .ok (.getfield 78, 3)) (kk : W p l e Rm s m args below meth c H locs cells slots Q (F0 m (pc + 3) ls (.ref (mm_lo G + b) :: rest))) : W p l e Rm s m args below meth c H locs cells slots Q (F0 m pc ls (.ref (mm_lo G + o) :: rest)) := mm_get C hM ho (mm_e4 hT) rfl inX5 (k := 13) (by decide) rfl (mq_1 191 rfl rfl) rfl hdg (by rw [mm_q_some hr]; exact kk)
set_option maxRecDepth 100000 in
theorem gX1_81 (C : mm_C G p s m args meth c RX1 cc nL ret) (hM : mm_P G R N M H) (ho : o < N) (hT : kT o = (0, 0)) (hdg : decode cc pc = .ok (.getfield 81, 3)) (kk : W p l e Rm s m args below meth c H locs cells slots Q (F0 m (pc + 3) ls (.int (M.1 o 11) :: rest))) : W p l e Rm s m args below meth c H locs cells slots Q (F0 m pc ls (.ref (mm_lo G + o) :: rest)) := mm_get C hM ho (mm_e0 hT) rfl inX0 (k := 11) (by decide) rfl (mq_1 102 rfl rfl) rfl hdg kk
set_option maxRecDepth 100000 in
theorem gX1_9 (C : mm_C G p s m args meth c RX1 cc nL ret) (hM : mm_P G R N M H) (ho : o < N) (hT : kT o = (4, 0)) {b : Nat} (hr : R o 7 = some b) (hdg : decode cc pc = .ok (.getfield 9, 3)) (kk : W p l e Rm s m args below meth c H locs cells slots Q (F0 m (pc + 3) ls (.ref (mm_lo G + b) :: rest))) : W p l e Rm s m args below meth c H locs cells slots Q (F0 m pc ls (.ref (mm_lo G + o) :: rest)) := mm_get C hM ho (mm_e4 hT) rfl inX5 (k := 7) (by decide) rfl (mq_1 176 rfl rfl) rfl hdg (by rw [mm_q_some hr]; exact kk)
set_option maxRecDepth 100000 in
theorem gX1_92 (C : mm_C G p s m args meth c RX1 cc nL ret) (hM : mm_P G R N M H) (ho : o < N) (hT : kT o = (0, 0)) (hdg : decode cc pc = .ok (.getfield 92, 3)) (kk : W p l e Rm s m args below meth c H locs cells slots Q (F0 m (pc + 3) ls (.int (M.1 o 10) :: rest))) : W p l e Rm s m args below meth c H locs cells slots Q (F0 m pc ls (.ref (mm_lo G + o) :: rest)) := mm_get C hM ho (mm_e0 hT) rfl inX0 (k := 10) (by decide) rfl (mq_1 99 rfl rfl) rfl hdg kk
set_option maxRecDepth 100000 in
theorem gX1_95 (C : mm_C G p s m args meth c RX1 cc nL ret) (hM : mm_P G R N M H) (ho : o < N) (hT : kT o = (0, 0)) (hdg : decode cc pc = .ok (.getfield 95, 3)) (kk : W p l e Rm s m args below meth c H locs cells slots Q (F0 m (pc + 3) ls (.int (M.1 o 3) :: rest))) : W p l e Rm s m args below meth c H locs cells slots Q (F0 m pc ls (.ref (mm_lo G + o) :: rest)) := mm_get C hM ho (mm_e0 hT) rfl inX0 (k := 3) (by decide) rfl (mq_1 76 rfl rfl) rfl hdg kk
set_option maxRecDepth 100000 in
theorem gX2_13 (C : mm_C G p s m args meth c RX2 cc nL ret) (hM : mm_P G R N M H) (ho : o < N) (hT : kT o = (1, 0)) {b : Nat} (hr : R o 0 = some b) (hdg : decode cc pc = .ok (.getfield 13, 3)) (kk : W p l e Rm s m args below meth c H locs cells slots Q (F0 m (pc + 3) ls (.ref (mm_lo G + b) :: rest))) : W p l e Rm s m args below meth c H locs cells slots Q (F0 m pc ls (.ref (mm_lo G + o) :: rest)) := mm_get C hM ho (mm_e1 hT) rfl inX2 (k := 0) (by decide) rfl (mq_1 233 rfl rfl) rfl hdg (by rw [mm_q_some hr]; exact kk)
set_option maxRecDepth 100000 in
theorem gX2_18 (C : mm_C G p s m args meth c RX2 cc nL ret) (hM : mm_P G R N M H) (ho : o < N) (hT : kT o = (1, 0)) (hdg : decode cc pc = .ok (.getfield 18, 3)) (kk : W p l e Rm s m args below meth c H locs cells slots Q (F0 m (pc + 3) ls (.int (M.1 o 1) :: rest))) : W p l e Rm s m args below meth c H locs cells slots Q (F0 m pc ls (.ref (mm_lo G + o) :: rest)) := mm_get C hM ho (mm_e1 hT) rfl inX2 (k := 1) (by decide) rfl (mq_1 234 rfl rfl) rfl hdg kk
set_option maxRecDepth 100000 in
theorem gX2_22 (C : mm_C G p s m args meth c RX2 cc nL ret) (hM : mm_P G R N M H) (ho : o < N) (hT : kT o = (1, 0)) (hdg : decode cc pc = .ok (.getfield 22, 3)) (kk : W p l e Rm s m args below meth c H locs cells slots Q (F0 m (pc + 3) ls (.int (M.1 o 2) :: rest))) : W p l e Rm s m args below meth c H locs cells slots Q (F0 m pc ls (.ref (mm_lo G + o) :: rest)) := mm_get C hM ho (mm_e1 hT) rfl inX2 (k := 2) (by decide) rfl (mq_1 235 rfl rfl) rfl hdg kk
set_option maxRecDepth 100000 in
theorem gX3_19 (C : mm_C G p s m args meth c RX3 cc nL ret) (hM : mm_P G R N M H) (ho : o < N) (hT : kT o = (2, 0)) (hdg : decode cc pc = .ok (.getfield 19, 3)) (kk : W p l e Rm s m args below meth c H locs cells slots Q (F0 m (pc + 3) ls (.int (M.1 o 1) :: rest))) : W p l e Rm s m args below meth c H locs cells slots Q (F0 m pc ls (.ref (mm_lo G + o) :: rest)) := mm_get C hM ho (mm_e2 hT) rfl inX3 (k := 1) (by decide) rfl (mq_2 11 rfl rfl) rfl hdg kk
set_option maxRecDepth 100000 in
theorem gX3_9 (C : mm_C G p s m args meth c RX3 cc nL ret) (hM : mm_P G R N M H) (ho : o < N) (hT : kT o = (2, 0)) {b : Nat} (hr : R o 0 = some b) (hdg : decode cc pc = .ok (.getfield 9, 3)) (kk : W p l e Rm s m args below meth c H locs cells slots Q (F0 m (pc + 3) ls (.ref (mm_lo G + b) :: rest))) : W p l e Rm s m args below meth c H locs cells slots Q (F0 m pc ls (.ref (mm_lo G + o) :: rest)) := mm_get C hM ho (mm_e2 hT) rfl inX3 (k := 0) (by decide) rfl (mq_2 10 rfl rfl) rfl hdg (by rw [mm_q_some hr]; exact kk)
set_option maxRecDepth 100000 in
theorem gX4_15 (C : mm_C G p s m args meth c RX4 cc nL ret) (hM : mm_P G R N M H) (ho : o < N) (hT : kT o = (3, 0)) (hdg : decode cc pc = .ok (.getfield 15, 3)) (kk : W p l e Rm s m args below meth c H locs cells slots Q (F0 m (pc + 3) ls (.int (M.1 o 1) :: rest))) : W p l e Rm s m args below meth c H locs cells slots Q (F0 m pc ls (.ref (mm_lo G + o) :: rest)) := mm_get C hM ho (mm_e3 hT) rfl inX4 (k := 1) (by decide) rfl (mq_1 40 rfl rfl) rfl hdg kk
set_option maxRecDepth 100000 in
theorem gX4_18 (C : mm_C G p s m args meth c RX4 cc nL ret) (hM : mm_P G R N M H) (ho : o < N) (hT : kT o = (3, 0)) (hdg : decode cc pc = .ok (.getfield 18, 3)) (kk : W p l e Rm s m args below meth c H locs cells slots Q (F0 m (pc + 3) ls (.int (M.1 o 2) :: rest))) : W p l e Rm s m args below meth c H locs cells slots Q (F0 m pc ls (.ref (mm_lo G + o) :: rest)) := mm_get C hM ho (mm_e3 hT) rfl inX4 (k := 2) (by decide) rfl (mq_1 43 rfl rfl) rfl hdg kk
set_option maxRecDepth 100000 in
theorem gX4_21 (C : mm_C G p s m args meth c RX4 cc nL ret) (hM : mm_P G R N M H) (ho : o < N) (hT : kT o = (3, 0)) (hdg : decode cc pc = .ok (.getfield 21, 3)) (kk : W p l e Rm s m args below meth c H locs cells slots Q (F0 m (pc + 3) ls (.int (M.1 o 3) :: rest))) : W p l e Rm s m args below meth c H locs cells slots Q (F0 m pc ls (.ref (mm_lo G + o) :: rest)) := mm_get C hM ho (mm_e3 hT) rfl inX4 (k := 3) (by decide) rfl (mq_1 46 rfl rfl) rfl hdg kk
set_option maxRecDepth 100000 in
theorem gX4_9 (C : mm_C G p s m args meth c RX4 cc nL ret) (hM : mm_P G R N M H) (ho : o < N) (hT : kT o = (3, 0)) (hdg : decode cc pc = .ok (.getfield 9, 3)) (kk : W p l e Rm s m args below meth c H locs cells slots Q (F0 m (pc + 3) ls (.int (M.1 o 0) :: rest))) : W p l e Rm s m args below meth c H locs cells slots Q (F0 m pc ls (.ref (mm_lo G + o) :: rest)) := mm_get C hM ho (mm_e3 hT) rfl inX4 (k := 0) (by decide) rfl (mq_1 36 rfl rfl) rfl hdg kk
set_option maxRecDepth 100000 in
theorem gX5_106 (C : mm_C G p s m args meth c RX5 cc nL ret) (hM : mm_P G R N M H) (ho : o < N) (hT : kT o = (0, 0)) {b : Nat} (hr : R o 16 = some b) (hdg : decode cc pc = .ok (.getfield 106, 3)) (kk : W p l e Rm s m args below meth c H locs cells slots Q (F0 m (pc + 3) ls (.ref (mm_lo G + b) :: rest))) : W p l e Rm s m args below meth c H locs cells slots Q (F0 m pc ls (.ref (mm_lo G + o) :: rest)) := mm_get C hM ho (mm_e0 hT) rfl inX0 (k := 16) (by decide) rfl (mq_1 117 rfl rfl) rfl hdg (by rw [mm_q_some hr]; exact kk)
set_option maxRecDepth 100000 in
theorem gX5_113 (C : mm_C G p s m args meth c RX5 cc nL ret) (hM : mm_P G R N M H) (ho : o < N) (hT : kT o = (0, 0)) (hdg : decode cc pc = .ok (.getfield 113, 3)) (kk : W p l e Rm s m args below meth c H locs cells slots Q (F0 m (pc + 3) ls (.long (M.2 o 14) :: rest))) : W p l e Rm s m args below meth c H locs cells slots Q (F0 m pc ls (.ref (mm_lo G + o) :: rest)) := mm_get C hM ho (mm_e0 hT) rfl inX0 (k := 14) (by decide) rfl (mq_1 111 rfl rfl) rfl hdg kk
set_option maxRecDepth 100000 in
theorem gX5_131 (C : mm_C G p s m args meth c RX5 cc nL ret) (hM : mm_P G R N M H) (ho : o < N) (hT : kT o = (0, 0)) (hdg : decode cc pc = .ok (.getfield 131, 3)) (kk : W p l e Rm s m args below meth c H locs cells slots Q (F0 m (pc + 3) ls (.int (M.1 o 5) :: rest))) : W p l e Rm s m args below meth c H locs cells slots Q (F0 m pc ls (.ref (mm_lo G + o) :: rest)) := mm_get C hM ho (mm_e0 hT) rfl inX0 (k := 5) (by decide) rfl (mq_1 83 rfl rfl) rfl hdg kk
set_option maxRecDepth 100000 in
theorem gX5_140 (C : mm_C G p s m args meth c RX5 cc nL ret) (hM : mm_P G R N M H) (ho : o < N) (hT : kT o = (0, 0)) (hdg : decode cc pc = .ok (.getfield 140, 3)) (kk : W p l e Rm s m args below meth c H locs cells slots Q (F0 m (pc + 3) ls (.long (M.2 o 12) :: rest))) : W p l e Rm s m args below meth c H locs cells slots Q (F0 m pc ls (.ref (mm_lo G + o) :: rest)) := mm_get C hM ho (mm_e0 hT) rfl inX0 (k := 12) (by decide) rfl (mq_1 105 rfl rfl) rfl hdg kk
set_option maxRecDepth 100000 in
theorem gX5_15 (C : mm_C G p s m args meth c RX5 cc nL ret) (hM : mm_P G R N M H) (ho : o < N) (hT : kT o = (4, 0)) {b : Nat} (hr : R o 7 = some b) (hdg : decode cc pc = .ok (.getfield 15, 3)) (kk : W p l e Rm s m args below meth c H locs cells slots Q (F0 m (pc + 3) ls (.ref (mm_lo G + b) :: rest))) : W p l e Rm s m args below meth c H locs cells slots Q (F0 m pc ls (.ref (mm_lo G + o) :: rest)) := mm_get C hM ho (mm_e4 hT) rfl inX5 (k := 7) (by decide) rfl (mq_1 175 rfl rfl) rfl hdg (by rw [mm_q_some hr]; exact kk)
set_option maxRecDepth 100000 in
theorem gX5_174 (C : mm_C G p s m args meth c RX5 cc nL ret) (hM : mm_P G R N M H) (ho : o < N) (hT : kT o = (0, 0)) (hdg : decode cc pc = .ok (.getfield 174, 3)) (kk : W p l e Rm s m args below meth c H locs cells slots Q (F0 m (pc + 3) ls (.int (M.1 o 8) :: rest))) : W p l e Rm s m args below meth c H locs cells slots Q (F0 m pc ls (.ref (mm_lo G + o) :: rest)) := mm_get C hM ho (mm_e0 hT) rfl inX0 (k := 8) (by decide) rfl (mq_1 94 rfl rfl) rfl hdg kk
set_option maxRecDepth 100000 in
theorem gX5_177 (C : mm_C G p s m args meth c RX5 cc nL ret) (hM : mm_P G R N M H) (ho : o < N) (hT : kT o = (3, 0)) (hdg : decode cc pc = .ok (.getfield 177, 3)) (kk : W p l e Rm s m args below meth c H locs cells slots Q (F0 m (pc + 3) ls (.int (M.1 o 3) :: rest))) : W p l e Rm s m args below meth c H locs cells slots Q (F0 m pc ls (.ref (mm_lo G + o) :: rest)) := mm_get C hM ho (mm_e3 hT) rfl inX4 (k := 3) (by decide) rfl (mq_1 49 rfl rfl) rfl hdg kk
set_option maxRecDepth 100000 in
theorem gX5_180 (C : mm_C G p s m args meth c RX5 cc nL ret) (hM : mm_P G R N M H) (ho : o < N) (hT : kT o = (0, 0)) (hdg : decode cc pc = .ok (.getfield 180, 3)) (kk : W p l e Rm s m args below meth c H locs cells slots Q (F0 m (pc + 3) ls (.int (M.1 o 0) :: rest))) : W p l e Rm s m args below meth c H locs cells slots Q (F0 m pc ls (.ref (mm_lo G + o) :: rest)) := mm_get C hM ho (mm_e0 hT) rfl inX0 (k := 0) (by decide) rfl (mq_1 67 rfl rfl) rfl hdg kk
set_option maxRecDepth 100000 in
theorem gX5_21 (C : mm_C G p s m args meth c RX5 cc nL ret) (hM : mm_P G R N M H) (ho : o < N) (hT : kT o = (4, 0)) {b : Nat} (hr : R o 8 = some b) (hdg : decode cc pc = .ok (.getfield 21, 3)) (kk : W p l e Rm s m args below meth c H locs cells slots Q (F0 m (pc + 3) ls (.ref (mm_lo G + b) :: rest))) : W p l e Rm s m args below meth c H locs cells slots Q (F0 m pc ls (.ref (mm_lo G + o) :: rest)) := mm_get C hM ho (mm_e4 hT) rfl inX5 (k := 8) (by decide) rfl (mq_1 178 rfl rfl) rfl hdg (by rw [mm_q_some hr]; exact kk)
set_option maxRecDepth 100000 in
theorem gX5_27 (C : mm_C G p s m args meth c RX5 cc nL ret) (hM : mm_P G R N M H) (ho : o < N) (hT : kT o = (4, 0)) {b : Nat} (hr : R o 9 = some b) (hdg : decode cc pc = .ok (.getfield 27, 3)) (kk : W p l e Rm s m args below meth c H locs cells slots Q (F0 m (pc + 3) ls (.ref (mm_lo G + b) :: rest))) : W p l e Rm s m args below meth c H locs cells slots Q (F0 m pc ls (.ref (mm_lo G + o) :: rest)) := mm_get C hM ho (mm_e4 hT) rfl inX5 (k := 9) (by decide) rfl (mq_1 181 rfl rfl) rfl hdg (by rw [mm_q_some hr]; exact kk)
set_option maxRecDepth 100000 in
theorem gX5_31 (C : mm_C G p s m args meth c RX5 cc nL ret) (hM : mm_P G R N M H) (ho : o < N) (hT : kT o = (4, 0)) {b : Nat} (hr : R o 10 = some b) (hdg : decode cc pc = .ok (.getfield 31, 3)) (kk : W p l e Rm s m args below meth c H locs cells slots Q (F0 m (pc + 3) ls (.ref (mm_lo G + b) :: rest))) : W p l e Rm s m args below meth c H locs cells slots Q (F0 m pc ls (.ref (mm_lo G + o) :: rest)) := mm_get C hM ho (mm_e4 hT) rfl inX5 (k := 10) (by decide) rfl (mq_1 184 rfl rfl) rfl hdg (by rw [mm_q_some hr]; exact kk)
set_option maxRecDepth 100000 in
theorem gX5_34 (C : mm_C G p s m args meth c RX5 cc nL ret) (hM : mm_P G R N M H) (ho : o < N) (hT : kT o = (4, 0)) {b : Nat} (hr : R o 11 = some b) (hdg : decode cc pc = .ok (.getfield 34, 3)) (kk : W p l e Rm s m args below meth c H locs cells slots Q (F0 m (pc + 3) ls (.ref (mm_lo G + b) :: rest))) : W p l e Rm s m args below meth c H locs cells slots Q (F0 m pc ls (.ref (mm_lo G + o) :: rest)) := mm_get C hM ho (mm_e4 hT) rfl inX5 (k := 11) (by decide) rfl (mq_1 186 rfl rfl) rfl hdg (by rw [mm_q_some hr]; exact kk)
set_option maxRecDepth 100000 in
theorem gX5_48 (C : mm_C G p s m args meth c RX5 cc nL ret) (hM : mm_P G R N M H) (ho : o < N) (hT : kT o = (4, 0)) (hdg : decode cc pc = .ok (.getfield 48, 3)) (kk : W p l e Rm s m args below meth c H locs cells slots Q (F0 m (pc + 3) ls (.int (M.1 o 0) :: rest))) : W p l e Rm s m args below meth c H locs cells slots Q (F0 m pc ls (.ref (mm_lo G + o) :: rest)) := mm_get C hM ho (mm_e4 hT) rfl inX5 (k := 0) (by decide) rfl (mq_1 156 rfl rfl) rfl hdg kk
set_option maxRecDepth 100000 in
theorem gX5_51 (C : mm_C G p s m args meth c RX5 cc nL ret) (hM : mm_P G R N M H) (ho : o < N) (hT : kT o = (4, 0)) (hdg : decode cc pc = .ok (.getfield 51, 3)) (kk : W p l e Rm s m args below meth c H locs cells slots Q (F0 m (pc + 3) ls (.int (M.1 o 2) :: rest))) : W p l e Rm s m args below meth c H locs cells slots Q (F0 m pc ls (.ref (mm_lo G + o) :: rest)) := mm_get C hM ho (mm_e4 hT) rfl inX5 (k := 2) (by decide) rfl (mq_1 162 rfl rfl) rfl hdg kk
set_option maxRecDepth 100000 in
theorem gX5_54 (C : mm_C G p s m args meth c RX5 cc nL ret) (hM : mm_P G R N M H) (ho : o < N) (hT : kT o = (4, 0)) (hdg : decode cc pc = .ok (.getfield 54, 3)) (kk : W p l e Rm s m args below meth c H locs cells slots Q (F0 m (pc + 3) ls (.int (M.1 o 3) :: rest))) : W p l e Rm s m args below meth c H locs cells slots Q (F0 m pc ls (.ref (mm_lo G + o) :: rest)) := mm_get C hM ho (mm_e4 hT) rfl inX5 (k := 3) (by decide) rfl (mq_1 165 rfl rfl) rfl hdg kk
set_option maxRecDepth 100000 in
theorem gX5_57 (C : mm_C G p s m args meth c RX5 cc nL ret) (hM : mm_P G R N M H) (ho : o < N) (hT : kT o = (4, 0)) (hdg : decode cc pc = .ok (.getfield 57, 3)) (kk : W p l e Rm s m args below meth c H locs cells slots Q (F0 m (pc + 3) ls (.int (M.1 o 4) :: rest))) : W p l e Rm s m args below meth c H locs cells slots Q (F0 m pc ls (.ref (mm_lo G + o) :: rest)) := mm_get C hM ho (mm_e4 hT) rfl inX5 (k := 4) (by decide) rfl (mq_1 168 rfl rfl) rfl hdg kk
set_option maxRecDepth 100000 in
theorem gX5_60 (C : mm_C G p s m args meth c RX5 cc nL ret) (hM : mm_P G R N M H) (ho : o < N) (hT : kT o = (4, 0)) (hdg : decode cc pc = .ok (.getfield 60, 3)) (kk : W p l e Rm s m args below meth c H locs cells slots Q (F0 m (pc + 3) ls (.int (M.1 o 5) :: rest))) : W p l e Rm s m args below meth c H locs cells slots Q (F0 m pc ls (.ref (mm_lo G + o) :: rest)) := mm_get C hM ho (mm_e4 hT) rfl inX5 (k := 5) (by decide) rfl (mq_1 171 rfl rfl) rfl hdg kk
set_option maxRecDepth 100000 in
theorem gX5_9 (C : mm_C G p s m args meth c RX5 cc nL ret) (hM : mm_P G R N M H) (ho : o < N) (hT : kT o = (4, 0)) (hdg : decode cc pc = .ok (.getfield 9, 3)) (kk : W p l e Rm s m args below meth c H locs cells slots Q (F0 m (pc + 3) ls (.int (M.1 o 1) :: rest))) : W p l e Rm s m args below meth c H locs cells slots Q (F0 m pc ls (.ref (mm_lo G + o) :: rest)) := mm_get C hM ho (mm_e4 hT) rfl inX5 (k := 1) (by decide) rfl (mq_1 159 rfl rfl) rfl hdg kk
set_option maxRecDepth 100000 in
theorem gX5_91 (C : mm_C G p s m args meth c RX5 cc nL ret) (hM : mm_P G R N M H) (ho : o < N) (hT : kT o = (3, 0)) (hdg : decode cc pc = .ok (.getfield 91, 3)) (kk : W p l e Rm s m args below meth c H locs cells slots Q (F0 m (pc + 3) ls (.int (M.1 o 0) :: rest))) : W p l e Rm s m args below meth c H locs cells slots Q (F0 m pc ls (.ref (mm_lo G + o) :: rest)) := mm_get C hM ho (mm_e3 hT) rfl inX4 (k := 0) (by decide) rfl (mq_1 37 rfl rfl) rfl hdg kk
set_option maxRecDepth 100000 in
theorem gX6_10 (C : mm_C G p s m args meth c RX6 cc nL ret) (hM : mm_P G R N M H) (ho : o < N) (hT : kT o = (5, 0)) {b : Nat} (hr : R o 0 = some b) (hdg : decode cc pc = .ok (.getfield 10, 3)) (kk : W p l e Rm s m args below meth c H locs cells slots Q (F0 m (pc + 3) ls (.ref (mm_lo G + b) :: rest))) : W p l e Rm s m args below meth c H locs cells slots Q (F0 m pc ls (.ref (mm_lo G + o) :: rest)) := mm_get C hM ho (mm_e5 hT) rfl inX6 (k := 0) (by decide) rfl (mq_2 19 rfl rfl) rfl hdg (by rw [mm_q_some hr]; exact kk)
set_option maxRecDepth 100000 in
theorem gX6_100 (C : mm_C G p s m args meth c RX6 cc nL ret) (hM : mm_P G R N M H) (ho : o < N) (hT : kT o = (0, 0)) (hdg : decode cc pc = .ok (.getfield 100, 3)) (kk : W p l e Rm s m args below meth c H locs cells slots Q (F0 m (pc + 3) ls (.int (M.1 o 0) :: rest))) : W p l e Rm s m args below meth c H locs cells slots Q (F0 m pc ls (.ref (mm_lo G + o) :: rest)) := mm_get C hM ho (mm_e0 hT) rfl inX0 (k := 0) (by decide) rfl (mq_1 66 rfl rfl) rfl hdg kk
set_option maxRecDepth 100000 in
theorem gX6_106 (C : mm_C G p s m args meth c RX6 cc nL ret) (hM : mm_P G R N M H) (ho : o < N) (hT : kT o = (0, 0)) (hdg : decode cc pc = .ok (.getfield 106, 3)) (kk : W p l e Rm s m args below meth c H locs cells slots Q (F0 m (pc + 3) ls (.int (M.1 o 1) :: rest))) : W p l e Rm s m args below meth c H locs cells slots Q (F0 m pc ls (.ref (mm_lo G + o) :: rest)) := mm_get C hM ho (mm_e0 hT) rfl inX0 (k := 1) (by decide) rfl (mq_1 70 rfl rfl) rfl hdg kk
set_option maxRecDepth 100000 in
theorem gX6_109 (C : mm_C G p s m args meth c RX6 cc nL ret) (hM : mm_P G R N M H) (ho : o < N) (hT : kT o = (0, 0)) (hdg : decode cc pc = .ok (.getfield 109, 3)) (kk : W p l e Rm s m args below meth c H locs cells slots Q (F0 m (pc + 3) ls (.int (M.1 o 2) :: rest))) : W p l e Rm s m args below meth c H locs cells slots Q (F0 m pc ls (.ref (mm_lo G + o) :: rest)) := mm_get C hM ho (mm_e0 hT) rfl inX0 (k := 2) (by decide) rfl (mq_1 74 rfl rfl) rfl hdg kk
set_option maxRecDepth 100000 in
theorem gX6_115 (C : mm_C G p s m args meth c RX6 cc nL ret) (hM : mm_P G R N M H) (ho : o < N) (hT : kT o = (0, 0)) (hdg : decode cc pc = .ok (.getfield 115, 3)) (kk : W p l e Rm s m args below meth c H locs cells slots Q (F0 m (pc + 3) ls (.int (M.1 o 3) :: rest))) : W p l e Rm s m args below meth c H locs cells slots Q (F0 m pc ls (.ref (mm_lo G + o) :: rest)) := mm_get C hM ho (mm_e0 hT) rfl inX0 (k := 3) (by decide) rfl (mq_1 77 rfl rfl) rfl hdg kk
set_option maxRecDepth 100000 in
theorem gX6_118 (C : mm_C G p s m args meth c RX6 cc nL ret) (hM : mm_P G R N M H) (ho : o < N) (hT : kT o = (0, 0)) (hdg : decode cc pc = .ok (.getfield 118, 3)) (kk : W p l e Rm s m args below meth c H locs cells slots Q (F0 m (pc + 3) ls (.int (M.1 o 4) :: rest))) : W p l e Rm s m args below meth c H locs cells slots Q (F0 m pc ls (.ref (mm_lo G + o) :: rest)) := mm_get C hM ho (mm_e0 hT) rfl inX0 (k := 4) (by decide) rfl (mq_1 80 rfl rfl) rfl hdg kk
set_option maxRecDepth 100000 in
theorem gX6_121 (C : mm_C G p s m args meth c RX6 cc nL ret) (hM : mm_P G R N M H) (ho : o < N) (hT : kT o = (0, 0)) (hdg : decode cc pc = .ok (.getfield 121, 3)) (kk : W p l e Rm s m args below meth c H locs cells slots Q (F0 m (pc + 3) ls (.int (M.1 o 5) :: rest))) : W p l e Rm s m args below meth c H locs cells slots Q (F0 m pc ls (.ref (mm_lo G + o) :: rest)) := mm_get C hM ho (mm_e0 hT) rfl inX0 (k := 5) (by decide) rfl (mq_1 84 rfl rfl) rfl hdg kk
set_option maxRecDepth 100000 in
theorem gX6_125 (C : mm_C G p s m args meth c RX6 cc nL ret) (hM : mm_P G R N M H) (ho : o < N) (hT : kT o = (4, 0)) (hdg : decode cc pc = .ok (.getfield 125, 3)) (kk : W p l e Rm s m args below meth c H locs cells slots Q (F0 m (pc + 3) ls (.int (M.1 o 0) :: rest))) : W p l e Rm s m args below meth c H locs cells slots Q (F0 m pc ls (.ref (mm_lo G + o) :: rest)) := mm_get C hM ho (mm_e4 hT) rfl inX5 (k := 0) (by decide) rfl (mq_1 158 rfl rfl) rfl hdg kk
set_option maxRecDepth 100000 in
theorem gX6_128 (C : mm_C G p s m args meth c RX6 cc nL ret) (hM : mm_P G R N M H) (ho : o < N) (hT : kT o = (4, 0)) {b : Nat} (hr : R o 7 = some b) (hdg : decode cc pc = .ok (.getfield 128, 3)) (kk : W p l e Rm s m args below meth c H locs cells slots Q (F0 m (pc + 3) ls (.ref (mm_lo G + b) :: rest))) : W p l e Rm s m args below meth c H locs cells slots Q (F0 m pc ls (.ref (mm_lo G + o) :: rest)) := mm_get C hM ho (mm_e4 hT) rfl inX5 (k := 7) (by decide) rfl (mq_1 177 rfl rfl) rfl hdg (by rw [mm_q_some hr]; exact kk)
set_option maxRecDepth 100000 in
theorem gX6_136 (C : mm_C G p s m args meth c RX6 cc nL ret) (hM : mm_P G R N M H) (ho : o < N) (hT : kT o = (0, 0)) (hdg : decode cc pc = .ok (.getfield 136, 3)) (kk : W p l e Rm s m args below meth c H locs cells slots Q (F0 m (pc + 3) ls (.int (M.1 o 6) :: rest))) : W p l e Rm s m args below meth c H locs cells slots Q (F0 m pc ls (.ref (mm_lo G + o) :: rest)) := mm_get C hM ho (mm_e0 hT) rfl inX0 (k := 6) (by decide) rfl (mq_1 87 rfl rfl) rfl hdg kk
set_option maxRecDepth 100000 in
theorem gX6_139 (C : mm_C G p s m args meth c RX6 cc nL ret) (hM : mm_P G R N M H) (ho : o < N) (hT : kT o = (0, 0)) (hdg : decode cc pc = .ok (.getfield 139, 3)) (kk : W p l e Rm s m args below meth c H locs cells slots Q (F0 m (pc + 3) ls (.int (M.1 o 7) :: rest))) : W p l e Rm s m args below meth c H locs cells slots Q (F0 m pc ls (.ref (mm_lo G + o) :: rest)) := mm_get C hM ho (mm_e0 hT) rfl inX0 (k := 7) (by decide) rfl (mq_1 90 rfl rfl) rfl hdg kk
set_option maxRecDepth 100000 in
theorem gX6_142 (C : mm_C G p s m args meth c RX6 cc nL ret) (hM : mm_P G R N M H) (ho : o < N) (hT : kT o = (0, 0)) (hdg : decode cc pc = .ok (.getfield 142, 3)) (kk : W p l e Rm s m args below meth c H locs cells slots Q (F0 m (pc + 3) ls (.int (M.1 o 8) :: rest))) : W p l e Rm s m args below meth c H locs cells slots Q (F0 m pc ls (.ref (mm_lo G + o) :: rest)) := mm_get C hM ho (mm_e0 hT) rfl inX0 (k := 8) (by decide) rfl (mq_1 93 rfl rfl) rfl hdg kk
set_option maxRecDepth 100000 in
theorem gX6_145 (C : mm_C G p s m args meth c RX6 cc nL ret) (hM : mm_P G R N M H) (ho : o < N) (hT : kT o = (0, 0)) (hdg : decode cc pc = .ok (.getfield 145, 3)) (kk : W p l e Rm s m args below meth c H locs cells slots Q (F0 m (pc + 3) ls (.int (M.1 o 9) :: rest))) : W p l e Rm s m args below meth c H locs cells slots Q (F0 m pc ls (.ref (mm_lo G + o) :: rest)) := mm_get C hM ho (mm_e0 hT) rfl inX0 (k := 9) (by decide) rfl (mq_1 97 rfl rfl) rfl hdg kk
set_option maxRecDepth 100000 in
theorem gX6_148 (C : mm_C G p s m args meth c RX6 cc nL ret) (hM : mm_P G R N M H) (ho : o < N) (hT : kT o = (0, 0)) (hdg : decode cc pc = .ok (.getfield 148, 3)) (kk : W p l e Rm s m args below meth c H locs cells slots Q (F0 m (pc + 3) ls (.int (M.1 o 10) :: rest))) : W p l e Rm s m args below meth c H locs cells slots Q (F0 m pc ls (.ref (mm_lo G + o) :: rest)) := mm_get C hM ho (mm_e0 hT) rfl inX0 (k := 10) (by decide) rfl (mq_1 100 rfl rfl) rfl hdg kk
set_option maxRecDepth 100000 in
theorem gX6_151 (C : mm_C G p s m args meth c RX6 cc nL ret) (hM : mm_P G R N M H) (ho : o < N) (hT : kT o = (0, 0)) (hdg : decode cc pc = .ok (.getfield 151, 3)) (kk : W p l e Rm s m args below meth c H locs cells slots Q (F0 m (pc + 3) ls (.int (M.1 o 11) :: rest))) : W p l e Rm s m args below meth c H locs cells slots Q (F0 m pc ls (.ref (mm_lo G + o) :: rest)) := mm_get C hM ho (mm_e0 hT) rfl inX0 (k := 11) (by decide) rfl (mq_1 103 rfl rfl) rfl hdg kk
set_option maxRecDepth 100000 in
theorem gX6_16 (C : mm_C G p s m args meth c RX6 cc nL ret) (hM : mm_P G R N M H) (ho : o < N) (hT : kT o = (5, 0)) {b : Nat} (hr : R o 1 = some b) (hdg : decode cc pc = .ok (.getfield 16, 3)) (kk : W p l e Rm s m args below meth c H locs cells slots Q (F0 m (pc + 3) ls (.ref (mm_lo G + b) :: rest))) : W p l e Rm s m args below meth c H locs cells slots Q (F0 m pc ls (.ref (mm_lo G + o) :: rest)) := mm_get C hM ho (mm_e5 hT) rfl inX6 (k := 1) (by decide) rfl (mq_2 20 rfl rfl) rfl hdg (by rw [mm_q_some hr]; exact kk)
set_option maxRecDepth 100000 in
theorem gX6_160 (C : mm_C G p s m args meth c RX6 cc nL ret) (hM : mm_P G R N M H) (ho : o < N) (hT : kT o = (0, 0)) (hdg : decode cc pc = .ok (.getfield 160, 3)) (kk : W p l e Rm s m args below meth c H locs cells slots Q (F0 m (pc + 3) ls (.long (M.2 o 12) :: rest))) : W p l e Rm s m args below meth c H locs cells slots Q (F0 m pc ls (.ref (mm_lo G + o) :: rest)) := mm_get C hM ho (mm_e0 hT) rfl inX0 (k := 12) (by decide) rfl (mq_1 106 rfl rfl) rfl hdg kk
set_option maxRecDepth 100000 in
theorem gX6_164 (C : mm_C G p s m args meth c RX6 cc nL ret) (hM : mm_P G R N M H) (ho : o < N) (hT : kT o = (0, 0)) (hdg : decode cc pc = .ok (.getfield 164, 3)) (kk : W p l e Rm s m args below meth c H locs cells slots Q (F0 m (pc + 3) ls (.long (M.2 o 13) :: rest))) : W p l e Rm s m args below meth c H locs cells slots Q (F0 m pc ls (.ref (mm_lo G + o) :: rest)) := mm_get C hM ho (mm_e0 hT) rfl inX0 (k := 13) (by decide) rfl (mq_1 109 rfl rfl) rfl hdg kk
set_option maxRecDepth 100000 in
theorem gX6_167 (C : mm_C G p s m args meth c RX6 cc nL ret) (hM : mm_P G R N M H) (ho : o < N) (hT : kT o = (0, 0)) (hdg : decode cc pc = .ok (.getfield 167, 3)) (kk : W p l e Rm s m args below meth c H locs cells slots Q (F0 m (pc + 3) ls (.long (M.2 o 14) :: rest))) : W p l e Rm s m args below meth c H locs cells slots Q (F0 m pc ls (.ref (mm_lo G + o) :: rest)) := mm_get C hM ho (mm_e0 hT) rfl inX0 (k := 14) (by decide) rfl (mq_1 112 rfl rfl) rfl hdg kk
set_option maxRecDepth 100000 in
theorem gX6_170 (C : mm_C G p s m args meth c RX6 cc nL ret) (hM : mm_P G R N M H) (ho : o < N) (hT : kT o = (0, 0)) (hdg : decode cc pc = .ok (.getfield 170, 3)) (kk : W p l e Rm s m args below meth c H locs cells slots Q (F0 m (pc + 3) ls (.long (M.2 o 15) :: rest))) : W p l e Rm s m args below meth c H locs cells slots Q (F0 m pc ls (.ref (mm_lo G + o) :: rest)) := mm_get C hM ho (mm_e0 hT) rfl inX0 (k := 15) (by decide) rfl (mq_1 115 rfl rfl) rfl hdg kk
set_option maxRecDepth 100000 in
theorem gX6_178 (C : mm_C G p s m args meth c RX6 cc nL ret) (hM : mm_P G R N M H) (ho : o < N) (hT : kT o = (4, 0)) {b : Nat} (hr : R o 8 = some b) (hdg : decode cc pc = .ok (.getfield 178, 3)) (kk : W p l e Rm s m args below meth c H locs cells slots Q (F0 m (pc + 3) ls (.ref (mm_lo G + b) :: rest))) : W p l e Rm s m args below meth c H locs cells slots Q (F0 m pc ls (.ref (mm_lo G + o) :: rest)) := mm_get C hM ho (mm_e4 hT) rfl inX5 (k := 8) (by decide) rfl (mq_1 180 rfl rfl) rfl hdg (by rw [mm_q_some hr]; exact kk)
set_option maxRecDepth 100000 in
theorem gX6_182 (C : mm_C G p s m args meth c RX6 cc nL ret) (hM : mm_P G R N M H) (ho : o < N) (hT : kT o = (3, 0)) (hdg : decode cc pc = .ok (.getfield 182, 3)) (kk : W p l e Rm s m args below meth c H locs cells slots Q (F0 m (pc + 3) ls (.int (M.1 o 0) :: rest))) : W p l e Rm s m args below meth c H locs cells slots Q (F0 m pc ls (.ref (mm_lo G + o) :: rest)) := mm_get C hM ho (mm_e3 hT) rfl inX4 (k := 0) (by decide) rfl (mq_1 39 rfl rfl) rfl hdg kk
set_option maxRecDepth 100000 in
theorem gX6_187 (C : mm_C G p s m args meth c RX6 cc nL ret) (hM : mm_P G R N M H) (ho : o < N) (hT : kT o = (3, 0)) (hdg : decode cc pc = .ok (.getfield 187, 3)) (kk : W p l e Rm s m args below meth c H locs cells slots Q (F0 m (pc + 3) ls (.int (M.1 o 1) :: rest))) : W p l e Rm s m args below meth c H locs cells slots Q (F0 m pc ls (.ref (mm_lo G + o) :: rest)) := mm_get C hM ho (mm_e3 hT) rfl inX4 (k := 1) (by decide) rfl (mq_1 42 rfl rfl) rfl hdg kk
set_option maxRecDepth 100000 in
theorem gX6_190 (C : mm_C G p s m args meth c RX6 cc nL ret) (hM : mm_P G R N M H) (ho : o < N) (hT : kT o = (3, 0)) (hdg : decode cc pc = .ok (.getfield 190, 3)) (kk : W p l e Rm s m args below meth c H locs cells slots Q (F0 m (pc + 3) ls (.int (M.1 o 2) :: rest))) : W p l e Rm s m args below meth c H locs cells slots Q (F0 m pc ls (.ref (mm_lo G + o) :: rest)) := mm_get C hM ho (mm_e3 hT) rfl inX4 (k := 2) (by decide) rfl (mq_1 45 rfl rfl) rfl hdg kk
set_option maxRecDepth 100000 in
theorem gX6_193 (C : mm_C G p s m args meth c RX6 cc nL ret) (hM : mm_P G R N M H) (ho : o < N) (hT : kT o = (3, 0)) (hdg : decode cc pc = .ok (.getfield 193, 3)) (kk : W p l e Rm s m args below meth c H locs cells slots Q (F0 m (pc + 3) ls (.int (M.1 o 3) :: rest))) : W p l e Rm s m args below meth c H locs cells slots Q (F0 m pc ls (.ref (mm_lo G + o) :: rest)) := mm_get C hM ho (mm_e3 hT) rfl inX4 (k := 3) (by decide) rfl (mq_1 48 rfl rfl) rfl hdg kk
set_option maxRecDepth 100000 in
theorem gX6_196 (C : mm_C G p s m args meth c RX6 cc nL ret) (hM : mm_P G R N M H) (ho : o < N) (hT : kT o = (4, 0)) (hdg : decode cc pc = .ok (.getfield 196, 3)) (kk : W p l e Rm s m args below meth c H locs cells slots Q (F0 m (pc + 3) ls (.int (M.1 o 3) :: rest))) : W p l e Rm s m args below meth c H locs cells slots Q (F0 m pc ls (.ref (mm_lo G + o) :: rest)) := mm_get C hM ho (mm_e4 hT) rfl inX5 (k := 3) (by decide) rfl (mq_1 167 rfl rfl) rfl hdg kk
set_option maxRecDepth 100000 in
theorem gX6_199 (C : mm_C G p s m args meth c RX6 cc nL ret) (hM : mm_P G R N M H) (ho : o < N) (hT : kT o = (4, 0)) (hdg : decode cc pc = .ok (.getfield 199, 3)) (kk : W p l e Rm s m args below meth c H locs cells slots Q (F0 m (pc + 3) ls (.int (M.1 o 2) :: rest))) : W p l e Rm s m args below meth c H locs cells slots Q (F0 m pc ls (.ref (mm_lo G + o) :: rest)) := mm_get C hM ho (mm_e4 hT) rfl inX5 (k := 2) (by decide) rfl (mq_1 164 rfl rfl) rfl hdg kk
set_option maxRecDepth 100000 in
theorem gX6_202 (C : mm_C G p s m args meth c RX6 cc nL ret) (hM : mm_P G R N M H) (ho : o < N) (hT : kT o = (4, 0)) (hdg : decode cc pc = .ok (.getfield 202, 3)) (kk : W p l e Rm s m args below meth c H locs cells slots Q (F0 m (pc + 3) ls (.int (M.1 o 1) :: rest))) : W p l e Rm s m args below meth c H locs cells slots Q (F0 m pc ls (.ref (mm_lo G + o) :: rest)) := mm_get C hM ho (mm_e4 hT) rfl inX5 (k := 1) (by decide) rfl (mq_1 161 rfl rfl) rfl hdg kk
set_option maxRecDepth 100000 in
theorem gX6_209 (C : mm_C G p s m args meth c RX6 cc nL ret) (hM : mm_P G R N M H) (ho : o < N) (hT : kT o = (4, 0)) (hdg : decode cc pc = .ok (.getfield 209, 3)) (kk : W p l e Rm s m args below meth c H locs cells slots Q (F0 m (pc + 3) ls (.int (M.1 o 4) :: rest))) : W p l e Rm s m args below meth c H locs cells slots Q (F0 m pc ls (.ref (mm_lo G + o) :: rest)) := mm_get C hM ho (mm_e4 hT) rfl inX5 (k := 4) (by decide) rfl (mq_1 170 rfl rfl) rfl hdg kk
set_option maxRecDepth 100000 in
theorem gX6_212 (C : mm_C G p s m args meth c RX6 cc nL ret) (hM : mm_P G R N M H) (ho : o < N) (hT : kT o = (2, 0)) (hdg : decode cc pc = .ok (.getfield 212, 3)) (kk : W p l e Rm s m args below meth c H locs cells slots Q (F0 m (pc + 3) ls (.int (M.1 o 1) :: rest))) : W p l e Rm s m args below meth c H locs cells slots Q (F0 m pc ls (.ref (mm_lo G + o) :: rest)) := mm_get C hM ho (mm_e2 hT) rfl inX3 (k := 1) (by decide) rfl (mq_2 12 rfl rfl) rfl hdg kk
set_option maxRecDepth 100000 in
theorem gX6_215 (C : mm_C G p s m args meth c RX6 cc nL ret) (hM : mm_P G R N M H) (ho : o < N) (hT : kT o = (1, 0)) (hdg : decode cc pc = .ok (.getfield 215, 3)) (kk : W p l e Rm s m args below meth c H locs cells slots Q (F0 m (pc + 3) ls (.int (M.1 o 2) :: rest))) : W p l e Rm s m args below meth c H locs cells slots Q (F0 m pc ls (.ref (mm_lo G + o) :: rest)) := mm_get C hM ho (mm_e1 hT) rfl inX2 (k := 2) (by decide) rfl (mq_1 236 rfl rfl) rfl hdg kk
set_option maxRecDepth 100000 in
theorem gX6_22 (C : mm_C G p s m args meth c RX6 cc nL ret) (hM : mm_P G R N M H) (ho : o < N) (hT : kT o = (5, 0)) {b : Nat} (hr : R o 2 = some b) (hdg : decode cc pc = .ok (.getfield 22, 3)) (kk : W p l e Rm s m args below meth c H locs cells slots Q (F0 m (pc + 3) ls (.ref (mm_lo G + b) :: rest))) : W p l e Rm s m args below meth c H locs cells slots Q (F0 m pc ls (.ref (mm_lo G + o) :: rest)) := mm_get C hM ho (mm_e5 hT) rfl inX6 (k := 2) (by decide) rfl (mq_2 21 rfl rfl) rfl hdg (by rw [mm_q_some hr]; exact kk)
set_option maxRecDepth 100000 in
theorem gX6_221 (C : mm_C G p s m args meth c RX6 cc nL ret) (hM : mm_P G R N M H) (ho : o < N) (hT : kT o = (4, 0)) (hdg : decode cc pc = .ok (.getfield 221, 3)) (kk : W p l e Rm s m args below meth c H locs cells slots Q (F0 m (pc + 3) ls (.int (M.1 o 5) :: rest))) : W p l e Rm s m args below meth c H locs cells slots Q (F0 m pc ls (.ref (mm_lo G + o) :: rest)) := mm_get C hM ho (mm_e4 hT) rfl inX5 (k := 5) (by decide) rfl (mq_1 173 rfl rfl) rfl hdg kk
set_option maxRecDepth 100000 in
theorem gX6_258 (C : mm_C G p s m args meth c RX6 cc nL ret) (hM : mm_P G R N M H) (ho : o < N) (hT : kT o = (4, 0)) (hdg : decode cc pc = .ok (.getfield 258, 3)) (kk : W p l e Rm s m args below meth c H locs cells slots Q (F0 m (pc + 3) ls (.int (M.1 o 6) :: rest))) : W p l e Rm s m args below meth c H locs cells slots Q (F0 m pc ls (.ref (mm_lo G + o) :: rest)) := mm_get C hM ho (mm_e4 hT) rfl inX5 (k := 6) (by decide) rfl (mq_1 174 rfl rfl) rfl hdg kk
set_option maxRecDepth 100000 in
theorem gX6_26 (C : mm_C G p s m args meth c RX6 cc nL ret) (hM : mm_P G R N M H) (ho : o < N) (hT : kT o = (5, 0)) {b : Nat} (hr : R o 3 = some b) (hdg : decode cc pc = .ok (.getfield 26, 3)) (kk : W p l e Rm s m args below meth c H locs cells slots Q (F0 m (pc + 3) ls (.ref (mm_lo G + b) :: rest))) : W p l e Rm s m args below meth c H locs cells slots Q (F0 m pc ls (.ref (mm_lo G + o) :: rest)) := mm_get C hM ho (mm_e5 hT) rfl inX6 (k := 3) (by decide) rfl (mq_2 22 rfl rfl) rfl hdg (by rw [mm_q_some hr]; exact kk)
set_option maxRecDepth 100000 in
theorem gX6_29 (C : mm_C G p s m args meth c RX6 cc nL ret) (hM : mm_P G R N M H) (ho : o < N) (hT : kT o = (5, 0)) {b : Nat} (hr : R o 4 = some b) (hdg : decode cc pc = .ok (.getfield 29, 3)) (kk : W p l e Rm s m args below meth c H locs cells slots Q (F0 m (pc + 3) ls (.ref (mm_lo G + b) :: rest))) : W p l e Rm s m args below meth c H locs cells slots Q (F0 m pc ls (.ref (mm_lo G + o) :: rest)) := mm_get C hM ho (mm_e5 hT) rfl inX6 (k := 4) (by decide) rfl (mq_2 23 rfl rfl) rfl hdg (by rw [mm_q_some hr]; exact kk)
set_option maxRecDepth 100000 in
theorem gX6_35 (C : mm_C G p s m args meth c RX6 cc nL ret) (hM : mm_P G R N M H) (ho : o < N) (hT : kT o = (5, 0)) {b : Nat} (hr : R o 5 = some b) (hdg : decode cc pc = .ok (.getfield 35, 3)) (kk : W p l e Rm s m args below meth c H locs cells slots Q (F0 m (pc + 3) ls (.ref (mm_lo G + b) :: rest))) : W p l e Rm s m args below meth c H locs cells slots Q (F0 m pc ls (.ref (mm_lo G + o) :: rest)) := mm_get C hM ho (mm_e5 hT) rfl inX6 (k := 5) (by decide) rfl (mq_2 24 rfl rfl) rfl hdg (by rw [mm_q_some hr]; exact kk)
set_option maxRecDepth 100000 in
theorem gX6_89 (C : mm_C G p s m args meth c RX6 cc nL ret) (hM : mm_P G R N M H) (ho : o < N) (hT : kT o = (4, 0)) {b : Nat} (hr : R o 9 = some b) (hdg : decode cc pc = .ok (.getfield 89, 3)) (kk : W p l e Rm s m args below meth c H locs cells slots Q (F0 m (pc + 3) ls (.ref (mm_lo G + b) :: rest))) : W p l e Rm s m args below meth c H locs cells slots Q (F0 m pc ls (.ref (mm_lo G + o) :: rest)) := mm_get C hM ho (mm_e4 hT) rfl inX5 (k := 9) (by decide) rfl (mq_1 183 rfl rfl) rfl hdg (by rw [mm_q_some hr]; exact kk)
set_option maxRecDepth 100000 in
theorem gX7_13 (C : mm_C G p s m args meth c RX7 cc nL ret) (hM : mm_P G R N M H) (ho : o < N) (hT : kT o = (6, 0)) {b : Nat} (hr : R o 1 = some b) (hdg : decode cc pc = .ok (.getfield 13, 3)) (kk : W p l e Rm s m args below meth c H locs cells slots Q (F0 m (pc + 3) ls (.ref (mm_lo G + b) :: rest))) : W p l e Rm s m args below meth c H locs cells slots Q (F0 m pc ls (.ref (mm_lo G + o) :: rest)) := mm_get C hM ho (mm_e6 hT) rfl inX7 (k := 1) (by decide) rfl (mq_3 194 rfl rfl) rfl hdg (by rw [mm_q_some hr]; exact kk)
set_option maxRecDepth 100000 in
theorem gX7_139 (C : mm_C G p s m args meth c RX7 cc nL ret) (hM : mm_P G R N M H) (ho : o < N) (hT : kT o = (6, 0)) (hdg : decode cc pc = .ok (.getfield 139, 3)) (kk : W p l e Rm s m args below meth c H locs cells slots Q (F0 m (pc + 3) ls (.int (M.1 o 8) :: rest))) : W p l e Rm s m args below meth c H locs cells slots Q (F0 m pc ls (.ref (mm_lo G + o) :: rest)) := mm_get C hM ho (mm_e6 hT) rfl inX7 (k := 8) (by decide) rfl (mq_3 201 rfl rfl) rfl hdg kk
set_option maxRecDepth 100000 in
theorem gX7_142 (C : mm_C G p s m args meth c RX7 cc nL ret) (hM : mm_P G R N M H) (ho : o < N) (hT : kT o = (6, 0)) (hdg : decode cc pc = .ok (.getfield 142, 3)) (kk : W p l e Rm s m args below meth c H locs cells slots Q (F0 m (pc + 3) ls (.int (M.1 o 9) :: rest))) : W p l e Rm s m args below meth c H locs cells slots Q (F0 m pc ls (.ref (mm_lo G + o) :: rest)) := mm_get C hM ho (mm_e6 hT) rfl inX7 (k := 9) (by decide) rfl (mq_3 202 rfl rfl) rfl hdg kk
set_option maxRecDepth 100000 in
theorem gX7_16 (C : mm_C G p s m args meth c RX7 cc nL ret) (hM : mm_P G R N M H) (ho : o < N) (hT : kT o = (6, 0)) {b : Nat} (hr : R o 3 = some b) (hdg : decode cc pc = .ok (.getfield 16, 3)) (kk : W p l e Rm s m args below meth c H locs cells slots Q (F0 m (pc + 3) ls (.ref (mm_lo G + b) :: rest))) : W p l e Rm s m args below meth c H locs cells slots Q (F0 m pc ls (.ref (mm_lo G + o) :: rest)) := mm_get C hM ho (mm_e6 hT) rfl inX7 (k := 3) (by decide) rfl (mq_3 196 rfl rfl) rfl hdg (by rw [mm_q_some hr]; exact kk)
set_option maxRecDepth 100000 in
theorem gX7_179 (C : mm_C G p s m args meth c RX7 cc nL ret) (hM : mm_P G R N M H) (ho : o < N) (hT : kT o = (6, 0)) (hdg : decode cc pc = .ok (.getfield 179, 3)) (kk : W p l e Rm s m args below meth c H locs cells slots Q (F0 m (pc + 3) ls (.int (M.1 o 7) :: rest))) : W p l e Rm s m args below meth c H locs cells slots Q (F0 m pc ls (.ref (mm_lo G + o) :: rest)) := mm_get C hM ho (mm_e6 hT) rfl inX7 (k := 7) (by decide) rfl (mq_3 200 rfl rfl) rfl hdg kk
set_option maxRecDepth 100000 in
theorem gX7_19 (C : mm_C G p s m args meth c RX7 cc nL ret) (hM : mm_P G R N M H) (ho : o < N) (hT : kT o = (6, 0)) {b : Nat} (hr : R o 4 = some b) (hdg : decode cc pc = .ok (.getfield 19, 3)) (kk : W p l e Rm s m args below meth c H locs cells slots Q (F0 m (pc + 3) ls (.ref (mm_lo G + b) :: rest))) : W p l e Rm s m args below meth c H locs cells slots Q (F0 m pc ls (.ref (mm_lo G + o) :: rest)) := mm_get C hM ho (mm_e6 hT) rfl inX7 (k := 4) (by decide) rfl (mq_3 197 rfl rfl) rfl hdg (by rw [mm_q_some hr]; exact kk)
set_option maxRecDepth 100000 in
theorem gX7_193 (C : mm_C G p s m args meth c RX7 cc nL ret) (hM : mm_P G R N M H) (ho : o < N) (hT : kT o = (6, 0)) (hdg : decode cc pc = .ok (.getfield 193, 3)) (kk : W p l e Rm s m args below meth c H locs cells slots Q (F0 m (pc + 3) ls (.int (M.1 o 10) :: rest))) : W p l e Rm s m args below meth c H locs cells slots Q (F0 m pc ls (.ref (mm_lo G + o) :: rest)) := mm_get C hM ho (mm_e6 hT) rfl inX7 (k := 10) (by decide) rfl (mq_3 203 rfl rfl) rfl hdg kk
set_option maxRecDepth 100000 in
theorem gX7_196 (C : mm_C G p s m args meth c RX7 cc nL ret) (hM : mm_P G R N M H) (ho : o < N) (hT : kT o = (6, 0)) (hdg : decode cc pc = .ok (.getfield 196, 3)) (kk : W p l e Rm s m args below meth c H locs cells slots Q (F0 m (pc + 3) ls (.int (M.1 o 11) :: rest))) : W p l e Rm s m args below meth c H locs cells slots Q (F0 m pc ls (.ref (mm_lo G + o) :: rest)) := mm_get C hM ho (mm_e6 hT) rfl inX7 (k := 11) (by decide) rfl (mq_3 204 rfl rfl) rfl hdg kk
set_option maxRecDepth 100000 in
theorem gX7_203 (C : mm_C G p s m args meth c RX7 cc nL ret) (hM : mm_P G R N M H) (ho : o < N) (hT : kT o = (6, 0)) (hdg : decode cc pc = .ok (.getfield 203, 3)) (kk : W p l e Rm s m args below meth c H locs cells slots Q (F0 m (pc + 3) ls (.int (M.1 o 12) :: rest))) : W p l e Rm s m args below meth c H locs cells slots Q (F0 m pc ls (.ref (mm_lo G + o) :: rest)) := mm_get C hM ho (mm_e6 hT) rfl inX7 (k := 12) (by decide) rfl (mq_3 205 rfl rfl) rfl hdg kk
set_option maxRecDepth 100000 in
theorem gX7_23 (C : mm_C G p s m args meth c RX7 cc nL ret) (hM : mm_P G R N M H) (ho : o < N) (hT : kT o = (6, 0)) {b : Nat} (hr : R o 5 = some b) (hdg : decode cc pc = .ok (.getfield 23, 3)) (kk : W p l e Rm s m args below meth c H locs cells slots Q (F0 m (pc + 3) ls (.ref (mm_lo G + b) :: rest))) : W p l e Rm s m args below meth c H locs cells slots Q (F0 m pc ls (.ref (mm_lo G + o) :: rest)) := mm_get C hM ho (mm_e6 hT) rfl inX7 (k := 5) (by decide) rfl (mq_3 198 rfl rfl) rfl hdg (by rw [mm_q_some hr]; exact kk)
set_option maxRecDepth 100000 in
theorem gX7_26 (C : mm_C G p s m args meth c RX7 cc nL ret) (hM : mm_P G R N M H) (ho : o < N) (hT : kT o = (6, 0)) {b : Nat} (hr : R o 6 = some b) (hdg : decode cc pc = .ok (.getfield 26, 3)) (kk : W p l e Rm s m args below meth c H locs cells slots Q (F0 m (pc + 3) ls (.ref (mm_lo G + b) :: rest))) : W p l e Rm s m args below meth c H locs cells slots Q (F0 m pc ls (.ref (mm_lo G + o) :: rest)) := mm_get C hM ho (mm_e6 hT) rfl inX7 (k := 6) (by decide) rfl (mq_3 199 rfl rfl) rfl hdg (by rw [mm_q_some hr]; exact kk)
set_option maxRecDepth 100000 in
theorem gX7_29 (C : mm_C G p s m args meth c RX7 cc nL ret) (hM : mm_P G R N M H) (ho : o < N) (hT : kT o = (6, 0)) {b : Nat} (hr : R o 13 = some b) (hdg : decode cc pc = .ok (.getfield 29, 3)) (kk : W p l e Rm s m args below meth c H locs cells slots Q (F0 m (pc + 3) ls (.ref (mm_lo G + b) :: rest))) : W p l e Rm s m args below meth c H locs cells slots Q (F0 m pc ls (.ref (mm_lo G + o) :: rest)) := mm_get C hM ho (mm_e6 hT) rfl inX7 (k := 13) (by decide) rfl (mq_3 206 rfl rfl) rfl hdg (by rw [mm_q_some hr]; exact kk)
set_option maxRecDepth 100000 in
theorem gX7_32 (C : mm_C G p s m args meth c RX7 cc nL ret) (hM : mm_P G R N M H) (ho : o < N) (hT : kT o = (6, 0)) {b : Nat} (hr : R o 14 = some b) (hdg : decode cc pc = .ok (.getfield 32, 3)) (kk : W p l e Rm s m args below meth c H locs cells slots Q (F0 m (pc + 3) ls (.ref (mm_lo G + b) :: rest))) : W p l e Rm s m args below meth c H locs cells slots Q (F0 m pc ls (.ref (mm_lo G + o) :: rest)) := mm_get C hM ho (mm_e6 hT) rfl inX7 (k := 14) (by decide) rfl (mq_3 207 rfl rfl) rfl hdg (by rw [mm_q_some hr]; exact kk)
set_option maxRecDepth 100000 in
theorem gX7_39 (C : mm_C G p s m args meth c RX7 cc nL ret) (hM : mm_P G R N M H) (ho : o < N) (hT : kT o = (6, 0)) (hdg : decode cc pc = .ok (.getfield 39, 3)) (kk : W p l e Rm s m args below meth c H locs cells slots Q (F0 m (pc + 3) ls (.int (M.1 o 2) :: rest))) : W p l e Rm s m args below meth c H locs cells slots Q (F0 m pc ls (.ref (mm_lo G + o) :: rest)) := mm_get C hM ho (mm_e6 hT) rfl inX7 (k := 2) (by decide) rfl (mq_3 195 rfl rfl) rfl hdg kk
set_option maxRecDepth 100000 in
theorem gX7_7 (C : mm_C G p s m args meth c RX7 cc nL ret) (hM : mm_P G R N M H) (ho : o < N) (hT : kT o = (6, 0)) {b : Nat} (hr : R o 0 = some b) (hdg : decode cc pc = .ok (.getfield 7, 3)) (kk : W p l e Rm s m args below meth c H locs cells slots Q (F0 m (pc + 3) ls (.ref (mm_lo G + b) :: rest))) : W p l e Rm s m args below meth c H locs cells slots Q (F0 m pc ls (.ref (mm_lo G + o) :: rest)) := mm_get C hM ho (mm_e6 hT) rfl inX7 (k := 0) (by decide) rfl (mq_3 193 rfl rfl) rfl hdg (by rw [mm_q_some hr]; exact kk)
set_option maxRecDepth 100000 in
theorem kL_105 : Cond.constantLong RL 105 4294967295 ∈ mm_good := mq_5 68 rfl rfl
set_option maxRecDepth 100000 in
theorem kX1_66 : Cond.constant RX1 66 65537 ∈ mm_good := mq_2 232 rfl rfl
set_option maxRecDepth 100000 in
theorem kX5_139 : Cond.constant RX5 139 1000000 ∈ mm_good := mq_2 196 rfl rfl
set_option maxRecDepth 100000 in
theorem kX5_82 : Cond.constant RX5 82 65537 ∈ mm_good := mq_2 86 rfl rfl
set_option maxRecDepth 100000 in
theorem kX6_154 : Cond.constantLong RX6 154 (-1) ∈ mm_good := mq_3 57 rfl rfl
set_option maxRecDepth 100000 in
theorem kX6_173 : Cond.constantLong RX6 173 (-2) ∈ mm_good := mq_3 59 rfl rfl
set_option maxRecDepth 100000 in
theorem kX7_105 : Cond.constant RX7 105 1000000 ∈ mm_good := mq_4 110 rfl rfl
set_option maxRecDepth 100000 in
theorem kX7_125 : Cond.constant RX7 125 65537 ∈ mm_good := mq_4 159 rfl rfl
set_option maxRecDepth 100000 in
theorem kX7_175 : Cond.constantLong RX7 175 (-1) ∈ mm_good := mq_4 204 rfl rfl
set_option maxRecDepth 100000 in
theorem kX7_177 : Cond.constantLong RX7 177 (-2) ∈ mm_good := mq_4 205 rfl rfl
set_option maxRecDepth 100000 in
theorem kX7_191 : Cond.constantLong RX7 191 255 ∈ mm_good := mq_5 18 rfl rfl
set_option maxRecDepth 100000 in
theorem kX7_53 : Cond.constant RX7 53 65536 ∈ mm_good := mq_4 21 rfl rfl
set_option maxRecDepth 100000 in
theorem mX1_98 : Cond.methodLink RX1 98 Lib.Math.min.name ∈ mm_good := mq_2 229 rfl rfl
set_option maxRecDepth 100000 in
theorem pX0_15 {v : Nat} (C : mm_C G p s m args meth c RX0 cc nL ret) (hM : mm_P G R N M H) (hS : va_S (mm_A G) s.heap H locs) (ho : o < N) (hT : kT o = (0, 0)) (hin : meth.name = "<init>") (hdg : decode cc pc = .ok (.putfield 15, 3)) (kk : ∀ (H1 : Heap) (locs1 : List Loc), mm_P G (sR R o 17 (some v)) N M H1 → va_S (mm_A G) s.heap H1 locs1 → H1.size = H.size → W p l e Rm s m args below meth c H1 locs1 cells slots Q (F0 m (pc + 3) ls rest)) : W p l e Rm s m args below meth c H locs cells slots Q (F0 m pc ls (.ref (mm_lo G + v) :: .ref (mm_lo G + o) :: rest)) := mm_put0 C hM hS ho (mm_e0 hT) rfl inX0 tyX0 tyX0_ok nmX0 (k := 17) (by decide) rfl (mq_1 118 rfl rfl) (Or.inr ⟨rfl, hin, rfl⟩) rfl rfl (Nat.le_of_ble_eq_true rfl) hdg (fun H1 locs1 ha oq hz hS1 => kk H1 locs1 (mm_upd hM oq (by rw [show mm_en G (sR R o 17 (some v)) M o = .inr (0, [.int (M.1 o 0), .int (M.1 o 1), .int (M.1 o 2), .int (M.1 o 3), .int (M.1 o 4), .int (M.1 o 5), .int (M.1 o 6), .int (M.1 o 7), .int (M.1 o 8), .int (M.1 o 9), .int (M.1 o 10), .int (M.1 o 11), .long (M.2 o 12), .long (M.2 o 13), .long (M.2 o 14), .long (M.2 o 15), mm_q G (R o 16), mm_q G (R o 17)].set 17 (.ref (mm_lo G + v))) by rw [mm_e0 hT]; simp [sR, mm_q] <;> rfl]; exact ha) mm_en_R) hS1 hz)
set_option maxRecDepth 100000 in
theorem pX0_18 {v : Int32} (C : mm_C G p s m args meth c RX0 cc nL ret) (hM : mm_P G R N M H) (hS : va_S (mm_A G) s.heap H locs) (ho : o < N) (hT : kT o = (0, 0)) (hdg : decode cc pc = .ok (.putfield 18, 3)) (kk : ∀ (H1 : Heap) (locs1 : List Loc), mm_P G R N (sI M o 0 v) H1 → va_S (mm_A G) s.heap H1 locs1 → H1.size = H.size → W p l e Rm s m args below meth c H1 locs1 cells slots Q (F0 m (pc + 3) ls rest)) : W p l e Rm s m args below meth c H locs cells slots Q (F0 m pc ls (.int v :: .ref (mm_lo G + o) :: rest)) := mm_put0 C hM hS ho (mm_e0 hT) rfl inX0 tyX0 tyX0_ok nmX0 (k := 0) (by decide) rfl (mq_1 65 rfl rfl) (Or.inl rfl) rfl rfl (Nat.le_of_ble_eq_true rfl) hdg (fun H1 locs1 ha oq hz hS1 => kk H1 locs1 (mm_upd hM oq (by rw [show mm_en G R (sI M o 0 v) o = .inr (0, [.int (M.1 o 0), .int (M.1 o 1), .int (M.1 o 2), .int (M.1 o 3), .int (M.1 o 4), .int (M.1 o 5), .int (M.1 o 6), .int (M.1 o 7), .int (M.1 o 8), .int (M.1 o 9), .int (M.1 o 10), .int (M.1 o 11), .long (M.2 o 12), .long (M.2 o 13), .long (M.2 o 14), .long (M.2 o 15), mm_q G (R o 16), mm_q G (R o 17)].set 0 (.int v)) by rw [mm_e0 hT]; simp [sI, mm_q] <;> rfl]; exact ha) mm_en_I) hS1 hz)
set_option maxRecDepth 100000 in
theorem pX0_22 {v : Int32} (C : mm_C G p s m args meth c RX0 cc nL ret) (hM : mm_P G R N M H) (hS : va_S (mm_A G) s.heap H locs) (ho : o < N) (hT : kT o = (0, 0)) (hdg : decode cc pc = .ok (.putfield 22, 3)) (kk : ∀ (H1 : Heap) (locs1 : List Loc), mm_P G R N (sI M o 1 v) H1 → va_S (mm_A G) s.heap H1 locs1 → H1.size = H.size → W p l e Rm s m args below meth c H1 locs1 cells slots Q (F0 m (pc + 3) ls rest)) : W p l e Rm s m args below meth c H locs cells slots Q (F0 m pc ls (.int v :: .ref (mm_lo G + o) :: rest)) := mm_put0 C hM hS ho (mm_e0 hT) rfl inX0 tyX0 tyX0_ok nmX0 (k := 1) (by decide) rfl (mq_1 68 rfl rfl) (Or.inl rfl) rfl rfl (Nat.le_of_ble_eq_true rfl) hdg (fun H1 locs1 ha oq hz hS1 => kk H1 locs1 (mm_upd hM oq (by rw [show mm_en G R (sI M o 1 v) o = .inr (0, [.int (M.1 o 0), .int (M.1 o 1), .int (M.1 o 2), .int (M.1 o 3), .int (M.1 o 4), .int (M.1 o 5), .int (M.1 o 6), .int (M.1 o 7), .int (M.1 o 8), .int (M.1 o 9), .int (M.1 o 10), .int (M.1 o 11), .long (M.2 o 12), .long (M.2 o 13), .long (M.2 o 14), .long (M.2 o 15), mm_q G (R o 16), mm_q G (R o 17)].set 1 (.int v)) by rw [mm_e0 hT]; simp [sI, mm_q] <;> rfl]; exact ha) mm_en_I) hS1 hz)
set_option maxRecDepth 100000 in
theorem pX0_25 {v : Int32} (C : mm_C G p s m args meth c RX0 cc nL ret) (hM : mm_P G R N M H) (hS : va_S (mm_A G) s.heap H locs) (ho : o < N) (hT : kT o = (0, 0)) (hdg : decode cc pc = .ok (.putfield 25, 3)) (kk : ∀ (H1 : Heap) (locs1 : List Loc), mm_P G R N (sI M o 4 v) H1 → va_S (mm_A G) s.heap H1 locs1 → H1.size = H.size → W p l e Rm s m args below meth c H1 locs1 cells slots Q (F0 m (pc + 3) ls rest)) : W p l e Rm s m args below meth c H locs cells slots Q (F0 m pc ls (.int v :: .ref (mm_lo G + o) :: rest)) := mm_put0 C hM hS ho (mm_e0 hT) rfl inX0 tyX0 tyX0_ok nmX0 (k := 4) (by decide) rfl (mq_1 78 rfl rfl) (Or.inl rfl) rfl rfl (Nat.le_of_ble_eq_true rfl) hdg (fun H1 locs1 ha oq hz hS1 => kk H1 locs1 (mm_upd hM oq (by rw [show mm_en G R (sI M o 4 v) o = .inr (0, [.int (M.1 o 0), .int (M.1 o 1), .int (M.1 o 2), .int (M.1 o 3), .int (M.1 o 4), .int (M.1 o 5), .int (M.1 o 6), .int (M.1 o 7), .int (M.1 o 8), .int (M.1 o 9), .int (M.1 o 10), .int (M.1 o 11), .long (M.2 o 12), .long (M.2 o 13), .long (M.2 o 14), .long (M.2 o 15), mm_q G (R o 16), mm_q G (R o 17)].set 4 (.int v)) by rw [mm_e0 hT]; simp [sI, mm_q] <;> rfl]; exact ha) mm_en_I) hS1 hz)
set_option maxRecDepth 100000 in
theorem pX0_28 {v : Int32} (C : mm_C G p s m args meth c RX0 cc nL ret) (hM : mm_P G R N M H) (hS : va_S (mm_A G) s.heap H locs) (ho : o < N) (hT : kT o = (0, 0)) (hdg : decode cc pc = .ok (.putfield 28, 3)) (kk : ∀ (H1 : Heap) (locs1 : List Loc), mm_P G R N (sI M o 2 v) H1 → va_S (mm_A G) s.heap H1 locs1 → H1.size = H.size → W p l e Rm s m args below meth c H1 locs1 cells slots Q (F0 m (pc + 3) ls rest)) : W p l e Rm s m args below meth c H locs cells slots Q (F0 m pc ls (.int v :: .ref (mm_lo G + o) :: rest)) := mm_put0 C hM hS ho (mm_e0 hT) rfl inX0 tyX0 tyX0_ok nmX0 (k := 2) (by decide) rfl (mq_1 71 rfl rfl) (Or.inl rfl) rfl rfl (Nat.le_of_ble_eq_true rfl) hdg (fun H1 locs1 ha oq hz hS1 => kk H1 locs1 (mm_upd hM oq (by rw [show mm_en G R (sI M o 2 v) o = .inr (0, [.int (M.1 o 0), .int (M.1 o 1), .int (M.1 o 2), .int (M.1 o 3), .int (M.1 o 4), .int (M.1 o 5), .int (M.1 o 6), .int (M.1 o 7), .int (M.1 o 8), .int (M.1 o 9), .int (M.1 o 10), .int (M.1 o 11), .long (M.2 o 12), .long (M.2 o 13), .long (M.2 o 14), .long (M.2 o 15), mm_q G (R o 16), mm_q G (R o 17)].set 2 (.int v)) by rw [mm_e0 hT]; simp [sI, mm_q] <;> rfl]; exact ha) mm_en_I) hS1 hz)
set_option maxRecDepth 100000 in
theorem pX0_31 {v : Int32} (C : mm_C G p s m args meth c RX0 cc nL ret) (hM : mm_P G R N M H) (hS : va_S (mm_A G) s.heap H locs) (ho : o < N) (hT : kT o = (0, 0)) (hdg : decode cc pc = .ok (.putfield 31, 3)) (kk : ∀ (H1 : Heap) (locs1 : List Loc), mm_P G R N (sI M o 3 v) H1 → va_S (mm_A G) s.heap H1 locs1 → H1.size = H.size → W p l e Rm s m args below meth c H1 locs1 cells slots Q (F0 m (pc + 3) ls rest)) : W p l e Rm s m args below meth c H locs cells slots Q (F0 m pc ls (.int v :: .ref (mm_lo G + o) :: rest)) := mm_put0 C hM hS ho (mm_e0 hT) rfl inX0 tyX0 tyX0_ok nmX0 (k := 3) (by decide) rfl (mq_1 75 rfl rfl) (Or.inl rfl) rfl rfl (Nat.le_of_ble_eq_true rfl) hdg (fun H1 locs1 ha oq hz hS1 => kk H1 locs1 (mm_upd hM oq (by rw [show mm_en G R (sI M o 3 v) o = .inr (0, [.int (M.1 o 0), .int (M.1 o 1), .int (M.1 o 2), .int (M.1 o 3), .int (M.1 o 4), .int (M.1 o 5), .int (M.1 o 6), .int (M.1 o 7), .int (M.1 o 8), .int (M.1 o 9), .int (M.1 o 10), .int (M.1 o 11), .long (M.2 o 12), .long (M.2 o 13), .long (M.2 o 14), .long (M.2 o 15), mm_q G (R o 16), mm_q G (R o 17)].set 3 (.int v)) by rw [mm_e0 hT]; simp [sI, mm_q] <;> rfl]; exact ha) mm_en_I) hS1 hz)
set_option maxRecDepth 100000 in
theorem pX0_34 {v : Int32} (C : mm_C G p s m args meth c RX0 cc nL ret) (hM : mm_P G R N M H) (hS : va_S (mm_A G) s.heap H locs) (ho : o < N) (hT : kT o = (0, 0)) (hn : v = 0 ∨ v = 1) (hdg : decode cc pc = .ok (.putfield 34, 3)) (kk : ∀ (H1 : Heap) (locs1 : List Loc), mm_P G R N (sI M o 5 v) H1 → va_S (mm_A G) s.heap H1 locs1 → H1.size = H.size → W p l e Rm s m args below meth c H1 locs1 cells slots Q (F0 m (pc + 3) ls rest)) : W p l e Rm s m args below meth c H locs cells slots Q (F0 m pc ls (.int v :: .ref (mm_lo G + o) :: rest)) := mm_put0 C hM hS ho (mm_e0 hT) rfl inX0 tyX0 tyX0_ok nmX0 (k := 5) (by decide) rfl (mq_1 81 rfl rfl) (Or.inl rfl) (nb01 hn) (fb01 hn) (Nat.le_of_ble_eq_true rfl) hdg (fun H1 locs1 ha oq hz hS1 => kk H1 locs1 (mm_upd hM oq (by rw [show mm_en G R (sI M o 5 v) o = .inr (0, [.int (M.1 o 0), .int (M.1 o 1), .int (M.1 o 2), .int (M.1 o 3), .int (M.1 o 4), .int (M.1 o 5), .int (M.1 o 6), .int (M.1 o 7), .int (M.1 o 8), .int (M.1 o 9), .int (M.1 o 10), .int (M.1 o 11), .long (M.2 o 12), .long (M.2 o 13), .long (M.2 o 14), .long (M.2 o 15), mm_q G (R o 16), mm_q G (R o 17)].set 5 (.int v)) by rw [mm_e0 hT]; simp [sI, mm_q] <;> rfl]; exact ha) mm_en_I) hS1 hz)
set_option maxRecDepth 100000 in
theorem pX0_38 {v : Int32} (C : mm_C G p s m args meth c RX0 cc nL ret) (hM : mm_P G R N M H) (hS : va_S (mm_A G) s.heap H locs) (ho : o < N) (hT : kT o = (0, 0)) (hdg : decode cc pc = .ok (.putfield 38, 3)) (kk : ∀ (H1 : Heap) (locs1 : List Loc), mm_P G R N (sI M o 6 v) H1 → va_S (mm_A G) s.heap H1 locs1 → H1.size = H.size → W p l e Rm s m args below meth c H1 locs1 cells slots Q (F0 m (pc + 3) ls rest)) : W p l e Rm s m args below meth c H locs cells slots Q (F0 m pc ls (.int v :: .ref (mm_lo G + o) :: rest)) := mm_put0 C hM hS ho (mm_e0 hT) rfl inX0 tyX0 tyX0_ok nmX0 (k := 6) (by decide) rfl (mq_1 85 rfl rfl) (Or.inl rfl) rfl rfl (Nat.le_of_ble_eq_true rfl) hdg (fun H1 locs1 ha oq hz hS1 => kk H1 locs1 (mm_upd hM oq (by rw [show mm_en G R (sI M o 6 v) o = .inr (0, [.int (M.1 o 0), .int (M.1 o 1), .int (M.1 o 2), .int (M.1 o 3), .int (M.1 o 4), .int (M.1 o 5), .int (M.1 o 6), .int (M.1 o 7), .int (M.1 o 8), .int (M.1 o 9), .int (M.1 o 10), .int (M.1 o 11), .long (M.2 o 12), .long (M.2 o 13), .long (M.2 o 14), .long (M.2 o 15), mm_q G (R o 16), mm_q G (R o 17)].set 6 (.int v)) by rw [mm_e0 hT]; simp [sI, mm_q] <;> rfl]; exact ha) mm_en_I) hS1 hz)
set_option maxRecDepth 100000 in
theorem pX0_41 {v : Int32} (C : mm_C G p s m args meth c RX0 cc nL ret) (hM : mm_P G R N M H) (hS : va_S (mm_A G) s.heap H locs) (ho : o < N) (hT : kT o = (0, 0)) (hdg : decode cc pc = .ok (.putfield 41, 3)) (kk : ∀ (H1 : Heap) (locs1 : List Loc), mm_P G R N (sI M o 7 v) H1 → va_S (mm_A G) s.heap H1 locs1 → H1.size = H.size → W p l e Rm s m args below meth c H1 locs1 cells slots Q (F0 m (pc + 3) ls rest)) : W p l e Rm s m args below meth c H locs cells slots Q (F0 m pc ls (.int v :: .ref (mm_lo G + o) :: rest)) := mm_put0 C hM hS ho (mm_e0 hT) rfl inX0 tyX0 tyX0_ok nmX0 (k := 7) (by decide) rfl (mq_1 88 rfl rfl) (Or.inl rfl) rfl rfl (Nat.le_of_ble_eq_true rfl) hdg (fun H1 locs1 ha oq hz hS1 => kk H1 locs1 (mm_upd hM oq (by rw [show mm_en G R (sI M o 7 v) o = .inr (0, [.int (M.1 o 0), .int (M.1 o 1), .int (M.1 o 2), .int (M.1 o 3), .int (M.1 o 4), .int (M.1 o 5), .int (M.1 o 6), .int (M.1 o 7), .int (M.1 o 8), .int (M.1 o 9), .int (M.1 o 10), .int (M.1 o 11), .long (M.2 o 12), .long (M.2 o 13), .long (M.2 o 14), .long (M.2 o 15), mm_q G (R o 16), mm_q G (R o 17)].set 7 (.int v)) by rw [mm_e0 hT]; simp [sI, mm_q] <;> rfl]; exact ha) mm_en_I) hS1 hz)
set_option maxRecDepth 100000 in
theorem pX0_44 {v : Int64} (C : mm_C G p s m args meth c RX0 cc nL ret) (hM : mm_P G R N M H) (hS : va_S (mm_A G) s.heap H locs) (ho : o < N) (hT : kT o = (0, 0)) (hdg : decode cc pc = .ok (.putfield 44, 3)) (kk : ∀ (H1 : Heap) (locs1 : List Loc), mm_P G R N (sL M o 12 v) H1 → va_S (mm_A G) s.heap H1 locs1 → H1.size = H.size → W p l e Rm s m args below meth c H1 locs1 cells slots Q (F0 m (pc + 3) ls rest)) : W p l e Rm s m args below meth c H locs cells slots Q (F0 m pc ls (.long v :: .ref (mm_lo G + o) :: rest)) := mm_put0 C hM hS ho (mm_e0 hT) rfl inX0 tyX0 tyX0_ok nmX0 (k := 12) (by decide) rfl (mq_1 104 rfl rfl) (Or.inl rfl) rfl rfl (Nat.le_of_ble_eq_true rfl) hdg (fun H1 locs1 ha oq hz hS1 => kk H1 locs1 (mm_upd hM oq (by rw [show mm_en G R (sL M o 12 v) o = .inr (0, [.int (M.1 o 0), .int (M.1 o 1), .int (M.1 o 2), .int (M.1 o 3), .int (M.1 o 4), .int (M.1 o 5), .int (M.1 o 6), .int (M.1 o 7), .int (M.1 o 8), .int (M.1 o 9), .int (M.1 o 10), .int (M.1 o 11), .long (M.2 o 12), .long (M.2 o 13), .long (M.2 o 14), .long (M.2 o 15), mm_q G (R o 16), mm_q G (R o 17)].set 12 (.long v)) by rw [mm_e0 hT]; simp [sL, mm_q] <;> rfl]; exact ha) mm_en_L) hS1 hz)
set_option maxRecDepth 100000 in
theorem pX0_48 {v : Int64} (C : mm_C G p s m args meth c RX0 cc nL ret) (hM : mm_P G R N M H) (hS : va_S (mm_A G) s.heap H locs) (ho : o < N) (hT : kT o = (0, 0)) (hdg : decode cc pc = .ok (.putfield 48, 3)) (kk : ∀ (H1 : Heap) (locs1 : List Loc), mm_P G R N (sL M o 13 v) H1 → va_S (mm_A G) s.heap H1 locs1 → H1.size = H.size → W p l e Rm s m args below meth c H1 locs1 cells slots Q (F0 m (pc + 3) ls rest)) : W p l e Rm s m args below meth c H locs cells slots Q (F0 m pc ls (.long v :: .ref (mm_lo G + o) :: rest)) := mm_put0 C hM hS ho (mm_e0 hT) rfl inX0 tyX0 tyX0_ok nmX0 (k := 13) (by decide) rfl (mq_1 107 rfl rfl) (Or.inl rfl) rfl rfl (Nat.le_of_ble_eq_true rfl) hdg (fun H1 locs1 ha oq hz hS1 => kk H1 locs1 (mm_upd hM oq (by rw [show mm_en G R (sL M o 13 v) o = .inr (0, [.int (M.1 o 0), .int (M.1 o 1), .int (M.1 o 2), .int (M.1 o 3), .int (M.1 o 4), .int (M.1 o 5), .int (M.1 o 6), .int (M.1 o 7), .int (M.1 o 8), .int (M.1 o 9), .int (M.1 o 10), .int (M.1 o 11), .long (M.2 o 12), .long (M.2 o 13), .long (M.2 o 14), .long (M.2 o 15), mm_q G (R o 16), mm_q G (R o 17)].set 13 (.long v)) by rw [mm_e0 hT]; simp [sL, mm_q] <;> rfl]; exact ha) mm_en_L) hS1 hz)
set_option maxRecDepth 100000 in
theorem pX0_51 {v : Int64} (C : mm_C G p s m args meth c RX0 cc nL ret) (hM : mm_P G R N M H) (hS : va_S (mm_A G) s.heap H locs) (ho : o < N) (hT : kT o = (0, 0)) (hdg : decode cc pc = .ok (.putfield 51, 3)) (kk : ∀ (H1 : Heap) (locs1 : List Loc), mm_P G R N (sL M o 14 v) H1 → va_S (mm_A G) s.heap H1 locs1 → H1.size = H.size → W p l e Rm s m args below meth c H1 locs1 cells slots Q (F0 m (pc + 3) ls rest)) : W p l e Rm s m args below meth c H locs cells slots Q (F0 m pc ls (.long v :: .ref (mm_lo G + o) :: rest)) := mm_put0 C hM hS ho (mm_e0 hT) rfl inX0 tyX0 tyX0_ok nmX0 (k := 14) (by decide) rfl (mq_1 110 rfl rfl) (Or.inl rfl) rfl rfl (Nat.le_of_ble_eq_true rfl) hdg (fun H1 locs1 ha oq hz hS1 => kk H1 locs1 (mm_upd hM oq (by rw [show mm_en G R (sL M o 14 v) o = .inr (0, [.int (M.1 o 0), .int (M.1 o 1), .int (M.1 o 2), .int (M.1 o 3), .int (M.1 o 4), .int (M.1 o 5), .int (M.1 o 6), .int (M.1 o 7), .int (M.1 o 8), .int (M.1 o 9), .int (M.1 o 10), .int (M.1 o 11), .long (M.2 o 12), .long (M.2 o 13), .long (M.2 o 14), .long (M.2 o 15), mm_q G (R o 16), mm_q G (R o 17)].set 14 (.long v)) by rw [mm_e0 hT]; simp [sL, mm_q] <;> rfl]; exact ha) mm_en_L) hS1 hz)
set_option maxRecDepth 100000 in
theorem pX0_54 {v : Int64} (C : mm_C G p s m args meth c RX0 cc nL ret) (hM : mm_P G R N M H) (hS : va_S (mm_A G) s.heap H locs) (ho : o < N) (hT : kT o = (0, 0)) (hdg : decode cc pc = .ok (.putfield 54, 3)) (kk : ∀ (H1 : Heap) (locs1 : List Loc), mm_P G R N (sL M o 15 v) H1 → va_S (mm_A G) s.heap H1 locs1 → H1.size = H.size → W p l e Rm s m args below meth c H1 locs1 cells slots Q (F0 m (pc + 3) ls rest)) : W p l e Rm s m args below meth c H locs cells slots Q (F0 m pc ls (.long v :: .ref (mm_lo G + o) :: rest)) := mm_put0 C hM hS ho (mm_e0 hT) rfl inX0 tyX0 tyX0_ok nmX0 (k := 15) (by decide) rfl (mq_1 113 rfl rfl) (Or.inl rfl) rfl rfl (Nat.le_of_ble_eq_true rfl) hdg (fun H1 locs1 ha oq hz hS1 => kk H1 locs1 (mm_upd hM oq (by rw [show mm_en G R (sL M o 15 v) o = .inr (0, [.int (M.1 o 0), .int (M.1 o 1), .int (M.1 o 2), .int (M.1 o 3), .int (M.1 o 4), .int (M.1 o 5), .int (M.1 o 6), .int (M.1 o 7), .int (M.1 o 8), .int (M.1 o 9), .int (M.1 o 10), .int (M.1 o 11), .long (M.2 o 12), .long (M.2 o 13), .long (M.2 o 14), .long (M.2 o 15), mm_q G (R o 16), mm_q G (R o 17)].set 15 (.long v)) by rw [mm_e0 hT]; simp [sL, mm_q] <;> rfl]; exact ha) mm_en_L) hS1 hz)
set_option maxRecDepth 100000 in
theorem pX0_63 {v : Int32} (C : mm_C G p s m args meth c RX0 cc nL ret) (hM : mm_P G R N M H) (hS : va_S (mm_A G) s.heap H locs) (ho : o < N) (hT : kT o = (0, 0)) (hdg : decode cc pc = .ok (.putfield 63, 3)) (kk : ∀ (H1 : Heap) (locs1 : List Loc), mm_P G R N (sI M o 8 v) H1 → va_S (mm_A G) s.heap H1 locs1 → H1.size = H.size → W p l e Rm s m args below meth c H1 locs1 cells slots Q (F0 m (pc + 3) ls rest)) : W p l e Rm s m args below meth c H locs cells slots Q (F0 m pc ls (.int v :: .ref (mm_lo G + o) :: rest)) := mm_put0 C hM hS ho (mm_e0 hT) rfl inX0 tyX0 tyX0_ok nmX0 (k := 8) (by decide) rfl (mq_1 91 rfl rfl) (Or.inl rfl) rfl rfl (Nat.le_of_ble_eq_true rfl) hdg (fun H1 locs1 ha oq hz hS1 => kk H1 locs1 (mm_upd hM oq (by rw [show mm_en G R (sI M o 8 v) o = .inr (0, [.int (M.1 o 0), .int (M.1 o 1), .int (M.1 o 2), .int (M.1 o 3), .int (M.1 o 4), .int (M.1 o 5), .int (M.1 o 6), .int (M.1 o 7), .int (M.1 o 8), .int (M.1 o 9), .int (M.1 o 10), .int (M.1 o 11), .long (M.2 o 12), .long (M.2 o 13), .long (M.2 o 14), .long (M.2 o 15), mm_q G (R o 16), mm_q G (R o 17)].set 8 (.int v)) by rw [mm_e0 hT]; simp [sI, mm_q] <;> rfl]; exact ha) mm_en_I) hS1 hz)
set_option maxRecDepth 100000 in
theorem pX0_66 {v : Int32} (C : mm_C G p s m args meth c RX0 cc nL ret) (hM : mm_P G R N M H) (hS : va_S (mm_A G) s.heap H locs) (ho : o < N) (hT : kT o = (0, 0)) (hdg : decode cc pc = .ok (.putfield 66, 3)) (kk : ∀ (H1 : Heap) (locs1 : List Loc), mm_P G R N (sI M o 9 v) H1 → va_S (mm_A G) s.heap H1 locs1 → H1.size = H.size → W p l e Rm s m args below meth c H1 locs1 cells slots Q (F0 m (pc + 3) ls rest)) : W p l e Rm s m args below meth c H locs cells slots Q (F0 m pc ls (.int v :: .ref (mm_lo G + o) :: rest)) := mm_put0 C hM hS ho (mm_e0 hT) rfl inX0 tyX0 tyX0_ok nmX0 (k := 9) (by decide) rfl (mq_1 95 rfl rfl) (Or.inl rfl) rfl rfl (Nat.le_of_ble_eq_true rfl) hdg (fun H1 locs1 ha oq hz hS1 => kk H1 locs1 (mm_upd hM oq (by rw [show mm_en G R (sI M o 9 v) o = .inr (0, [.int (M.1 o 0), .int (M.1 o 1), .int (M.1 o 2), .int (M.1 o 3), .int (M.1 o 4), .int (M.1 o 5), .int (M.1 o 6), .int (M.1 o 7), .int (M.1 o 8), .int (M.1 o 9), .int (M.1 o 10), .int (M.1 o 11), .long (M.2 o 12), .long (M.2 o 13), .long (M.2 o 14), .long (M.2 o 15), mm_q G (R o 16), mm_q G (R o 17)].set 9 (.int v)) by rw [mm_e0 hT]; simp [sI, mm_q] <;> rfl]; exact ha) mm_en_I) hS1 hz)
set_option maxRecDepth 100000 in
theorem pX0_69 {v : Int32} (C : mm_C G p s m args meth c RX0 cc nL ret) (hM : mm_P G R N M H) (hS : va_S (mm_A G) s.heap H locs) (ho : o < N) (hT : kT o = (0, 0)) (hdg : decode cc pc = .ok (.putfield 69, 3)) (kk : ∀ (H1 : Heap) (locs1 : List Loc), mm_P G R N (sI M o 10 v) H1 → va_S (mm_A G) s.heap H1 locs1 → H1.size = H.size → W p l e Rm s m args below meth c H1 locs1 cells slots Q (F0 m (pc + 3) ls rest)) : W p l e Rm s m args below meth c H locs cells slots Q (F0 m pc ls (.int v :: .ref (mm_lo G + o) :: rest)) := mm_put0 C hM hS ho (mm_e0 hT) rfl inX0 tyX0 tyX0_ok nmX0 (k := 10) (by decide) rfl (mq_1 98 rfl rfl) (Or.inl rfl) rfl rfl (Nat.le_of_ble_eq_true rfl) hdg (fun H1 locs1 ha oq hz hS1 => kk H1 locs1 (mm_upd hM oq (by rw [show mm_en G R (sI M o 10 v) o = .inr (0, [.int (M.1 o 0), .int (M.1 o 1), .int (M.1 o 2), .int (M.1 o 3), .int (M.1 o 4), .int (M.1 o 5), .int (M.1 o 6), .int (M.1 o 7), .int (M.1 o 8), .int (M.1 o 9), .int (M.1 o 10), .int (M.1 o 11), .long (M.2 o 12), .long (M.2 o 13), .long (M.2 o 14), .long (M.2 o 15), mm_q G (R o 16), mm_q G (R o 17)].set 10 (.int v)) by rw [mm_e0 hT]; simp [sI, mm_q] <;> rfl]; exact ha) mm_en_I) hS1 hz)
set_option maxRecDepth 100000 in
theorem pX0_72 {v : Int32} (C : mm_C G p s m args meth c RX0 cc nL ret) (hM : mm_P G R N M H) (hS : va_S (mm_A G) s.heap H locs) (ho : o < N) (hT : kT o = (0, 0)) (hdg : decode cc pc = .ok (.putfield 72, 3)) (kk : ∀ (H1 : Heap) (locs1 : List Loc), mm_P G R N (sI M o 11 v) H1 → va_S (mm_A G) s.heap H1 locs1 → H1.size = H.size → W p l e Rm s m args below meth c H1 locs1 cells slots Q (F0 m (pc + 3) ls rest)) : W p l e Rm s m args below meth c H locs cells slots Q (F0 m pc ls (.int v :: .ref (mm_lo G + o) :: rest)) := mm_put0 C hM hS ho (mm_e0 hT) rfl inX0 tyX0 tyX0_ok nmX0 (k := 11) (by decide) rfl (mq_1 101 rfl rfl) (Or.inl rfl) rfl rfl (Nat.le_of_ble_eq_true rfl) hdg (fun H1 locs1 ha oq hz hS1 => kk H1 locs1 (mm_upd hM oq (by rw [show mm_en G R (sI M o 11 v) o = .inr (0, [.int (M.1 o 0), .int (M.1 o 1), .int (M.1 o 2), .int (M.1 o 3), .int (M.1 o 4), .int (M.1 o 5), .int (M.1 o 6), .int (M.1 o 7), .int (M.1 o 8), .int (M.1 o 9), .int (M.1 o 10), .int (M.1 o 11), .long (M.2 o 12), .long (M.2 o 13), .long (M.2 o 14), .long (M.2 o 15), mm_q G (R o 16), mm_q G (R o 17)].set 11 (.int v)) by rw [mm_e0 hT]; simp [sI, mm_q] <;> rfl]; exact ha) mm_en_I) hS1 hz)
set_option maxRecDepth 100000 in
theorem pX0_9 {v : Nat} (C : mm_C G p s m args meth c RX0 cc nL ret) (hM : mm_P G R N M H) (hS : va_S (mm_A G) s.heap H locs) (ho : o < N) (hT : kT o = (0, 0)) (hin : meth.name = "<init>") (hdg : decode cc pc = .ok (.putfield 9, 3)) (kk : ∀ (H1 : Heap) (locs1 : List Loc), mm_P G (sR R o 16 (some v)) N M H1 → va_S (mm_A G) s.heap H1 locs1 → H1.size = H.size → W p l e Rm s m args below meth c H1 locs1 cells slots Q (F0 m (pc + 3) ls rest)) : W p l e Rm s m args below meth c H locs cells slots Q (F0 m pc ls (.ref (mm_lo G + v) :: .ref (mm_lo G + o) :: rest)) := mm_put0 C hM hS ho (mm_e0 hT) rfl inX0 tyX0 tyX0_ok nmX0 (k := 16) (by decide) rfl (mq_1 116 rfl rfl) (Or.inr ⟨rfl, hin, rfl⟩) rfl rfl (Nat.le_of_ble_eq_true rfl) hdg (fun H1 locs1 ha oq hz hS1 => kk H1 locs1 (mm_upd hM oq (by rw [show mm_en G (sR R o 16 (some v)) M o = .inr (0, [.int (M.1 o 0), .int (M.1 o 1), .int (M.1 o 2), .int (M.1 o 3), .int (M.1 o 4), .int (M.1 o 5), .int (M.1 o 6), .int (M.1 o 7), .int (M.1 o 8), .int (M.1 o 9), .int (M.1 o 10), .int (M.1 o 11), .long (M.2 o 12), .long (M.2 o 13), .long (M.2 o 14), .long (M.2 o 15), mm_q G (R o 16), mm_q G (R o 17)].set 16 (.ref (mm_lo G + v))) by rw [mm_e0 hT]; simp [sR, mm_q] <;> rfl]; exact ha) mm_en_R) hS1 hz)
set_option maxRecDepth 100000 in
theorem pX1_135 {v : Int32} (C : mm_C G p s m args meth c RX1 cc nL ret) (hM : mm_P G R N M H) (hS : va_S (mm_A G) s.heap H locs) (ho : o < N) (hT : kT o = (0, 0)) (hdg : decode cc pc = .ok (.putfield 135, 3)) (kk : ∀ (H1 : Heap) (locs1 : List Loc), mm_P G R N (sI M o 9 v) H1 → va_S (mm_A G) s.heap H1 locs1 → H1.size = H.size → W p l e Rm s m args below meth c H1 locs1 cells slots Q (F0 m (pc + 3) ls rest)) : W p l e Rm s m args below meth c H locs cells slots Q (F0 m pc ls (.int v :: .ref (mm_lo G + o) :: rest)) := mm_put0 C hM hS ho (mm_e0 hT) rfl inX0 tyX0 tyX0_ok nmX0 (k := 9) (by decide) rfl (mq_1 96 rfl rfl) (Or.inl rfl) rfl rfl (Nat.le_of_ble_eq_true rfl) hdg (fun H1 locs1 ha oq hz hS1 => kk H1 locs1 (mm_upd hM oq (by rw [show mm_en G R (sI M o 9 v) o = .inr (0, [.int (M.1 o 0), .int (M.1 o 1), .int (M.1 o 2), .int (M.1 o 3), .int (M.1 o 4), .int (M.1 o 5), .int (M.1 o 6), .int (M.1 o 7), .int (M.1 o 8), .int (M.1 o 9), .int (M.1 o 10), .int (M.1 o 11), .long (M.2 o 12), .long (M.2 o 13), .long (M.2 o 14), .long (M.2 o 15), mm_q G (R o 16), mm_q G (R o 17)].set 9 (.int v)) by rw [mm_e0 hT]; simp [sI, mm_q] <;> rfl]; exact ha) mm_en_I) hS1 hz)
set_option maxRecDepth 100000 in
theorem pX1_138 {v : Int32} (C : mm_C G p s m args meth c RX1 cc nL ret) (hM : mm_P G R N M H) (hS : va_S (mm_A G) s.heap H locs) (ho : o < N) (hT : kT o = (4, 0)) (hdg : decode cc pc = .ok (.putfield 138, 3)) (kk : ∀ (H1 : Heap) (locs1 : List Loc), mm_P G R N (sI M o 4 v) H1 → va_S (mm_A G) s.heap H1 locs1 → H1.size = H.size → W p l e Rm s m args below meth c H1 locs1 cells slots Q (F0 m (pc + 3) ls rest)) : W p l e Rm s m args below meth c H locs cells slots Q (F0 m pc ls (.int v :: .ref (mm_lo G + o) :: rest)) := mm_put0 C hM hS ho (mm_e4 hT) rfl inX5 tyX5 tyX5_ok nmX5 (k := 4) (by decide) rfl (mq_1 169 rfl rfl) (Or.inl rfl) rfl rfl (Nat.le_of_ble_eq_true rfl) hdg (fun H1 locs1 ha oq hz hS1 => kk H1 locs1 (mm_upd hM oq (by rw [show mm_en G R (sI M o 4 v) o = .inr (4, [.int (M.1 o 0), .int (M.1 o 1), .int (M.1 o 2), .int (M.1 o 3), .int (M.1 o 4), .int (M.1 o 5), .int (M.1 o 6), mm_q G (R o 7), mm_q G (R o 8), mm_q G (R o 9), mm_q G (R o 10), mm_q G (R o 11), mm_q G (R o 12), mm_q G (R o 13), .int (M.1 o 14)].set 4 (.int v)) by rw [mm_e4 hT]; simp [sI, mm_q] <;> rfl]; exact ha) mm_en_I) hS1 hz)
set_option maxRecDepth 100000 in
theorem pX1_151 {v : Int64} (C : mm_C G p s m args meth c RX1 cc nL ret) (hM : mm_P G R N M H) (hS : va_S (mm_A G) s.heap H locs) (ho : o < N) (hT : kT o = (0, 0)) (hdg : decode cc pc = .ok (.putfield 151, 3)) (kk : ∀ (H1 : Heap) (locs1 : List Loc), mm_P G R N (sL M o 15 v) H1 → va_S (mm_A G) s.heap H1 locs1 → H1.size = H.size → W p l e Rm s m args below meth c H1 locs1 cells slots Q (F0 m (pc + 3) ls rest)) : W p l e Rm s m args below meth c H locs cells slots Q (F0 m pc ls (.long v :: .ref (mm_lo G + o) :: rest)) := mm_put0 C hM hS ho (mm_e0 hT) rfl inX0 tyX0 tyX0_ok nmX0 (k := 15) (by decide) rfl (mq_1 114 rfl rfl) (Or.inl rfl) rfl rfl (Nat.le_of_ble_eq_true rfl) hdg (fun H1 locs1 ha oq hz hS1 => kk H1 locs1 (mm_upd hM oq (by rw [show mm_en G R (sL M o 15 v) o = .inr (0, [.int (M.1 o 0), .int (M.1 o 1), .int (M.1 o 2), .int (M.1 o 3), .int (M.1 o 4), .int (M.1 o 5), .int (M.1 o 6), .int (M.1 o 7), .int (M.1 o 8), .int (M.1 o 9), .int (M.1 o 10), .int (M.1 o 11), .long (M.2 o 12), .long (M.2 o 13), .long (M.2 o 14), .long (M.2 o 15), mm_q G (R o 16), mm_q G (R o 17)].set 15 (.long v)) by rw [mm_e0 hT]; simp [sL, mm_q] <;> rfl]; exact ha) mm_en_L) hS1 hz)
set_option maxRecDepth 100000 in
theorem pX1_155 {v : Int32} (C : mm_C G p s m args meth c RX1 cc nL ret) (hM : mm_P G R N M H) (hS : va_S (mm_A G) s.heap H locs) (ho : o < N) (hT : kT o = (4, 0)) (hdg : decode cc pc = .ok (.putfield 155, 3)) (kk : ∀ (H1 : Heap) (locs1 : List Loc), mm_P G R N (sI M o 5 v) H1 → va_S (mm_A G) s.heap H1 locs1 → H1.size = H.size → W p l e Rm s m args below meth c H1 locs1 cells slots Q (F0 m (pc + 3) ls rest)) : W p l e Rm s m args below meth c H locs cells slots Q (F0 m pc ls (.int v :: .ref (mm_lo G + o) :: rest)) := mm_put0 C hM hS ho (mm_e4 hT) rfl inX5 tyX5 tyX5_ok nmX5 (k := 5) (by decide) rfl (mq_1 172 rfl rfl) (Or.inl rfl) rfl rfl (Nat.le_of_ble_eq_true rfl) hdg (fun H1 locs1 ha oq hz hS1 => kk H1 locs1 (mm_upd hM oq (by rw [show mm_en G R (sI M o 5 v) o = .inr (4, [.int (M.1 o 0), .int (M.1 o 1), .int (M.1 o 2), .int (M.1 o 3), .int (M.1 o 4), .int (M.1 o 5), .int (M.1 o 6), mm_q G (R o 7), mm_q G (R o 8), mm_q G (R o 9), mm_q G (R o 10), mm_q G (R o 11), mm_q G (R o 12), mm_q G (R o 13), .int (M.1 o 14)].set 5 (.int v)) by rw [mm_e4 hT]; simp [sI, mm_q] <;> rfl]; exact ha) mm_en_I) hS1 hz)
set_option maxRecDepth 100000 in
theorem pX1_158 {v : Int64} (C : mm_C G p s m args meth c RX1 cc nL ret) (hM : mm_P G R N M H) (hS : va_S (mm_A G) s.heap H locs) (ho : o < N) (hT : kT o = (0, 0)) (hdg : decode cc pc = .ok (.putfield 158, 3)) (kk : ∀ (H1 : Heap) (locs1 : List Loc), mm_P G R N (sL M o 13 v) H1 → va_S (mm_A G) s.heap H1 locs1 → H1.size = H.size → W p l e Rm s m args below meth c H1 locs1 cells slots Q (F0 m (pc + 3) ls rest)) : W p l e Rm s m args below meth c H locs cells slots Q (F0 m pc ls (.long v :: .ref (mm_lo G + o) :: rest)) := mm_put0 C hM hS ho (mm_e0 hT) rfl inX0 tyX0 tyX0_ok nmX0 (k := 13) (by decide) rfl (mq_1 108 rfl rfl) (Or.inl rfl) rfl rfl (Nat.le_of_ble_eq_true rfl) hdg (fun H1 locs1 ha oq hz hS1 => kk H1 locs1 (mm_upd hM oq (by rw [show mm_en G R (sL M o 13 v) o = .inr (0, [.int (M.1 o 0), .int (M.1 o 1), .int (M.1 o 2), .int (M.1 o 3), .int (M.1 o 4), .int (M.1 o 5), .int (M.1 o 6), .int (M.1 o 7), .int (M.1 o 8), .int (M.1 o 9), .int (M.1 o 10), .int (M.1 o 11), .long (M.2 o 12), .long (M.2 o 13), .long (M.2 o 14), .long (M.2 o 15), mm_q G (R o 16), mm_q G (R o 17)].set 13 (.long v)) by rw [mm_e0 hT]; simp [sL, mm_q] <;> rfl]; exact ha) mm_en_L) hS1 hz)
set_option maxRecDepth 100000 in
theorem pX1_164 {v : Int32} (C : mm_C G p s m args meth c RX1 cc nL ret) (hM : mm_P G R N M H) (hS : va_S (mm_A G) s.heap H locs) (ho : o < N) (hT : kT o = (0, 0)) (hdg : decode cc pc = .ok (.putfield 164, 3)) (kk : ∀ (H1 : Heap) (locs1 : List Loc), mm_P G R N (sI M o 7 v) H1 → va_S (mm_A G) s.heap H1 locs1 → H1.size = H.size → W p l e Rm s m args below meth c H1 locs1 cells slots Q (F0 m (pc + 3) ls rest)) : W p l e Rm s m args below meth c H locs cells slots Q (F0 m pc ls (.int v :: .ref (mm_lo G + o) :: rest)) := mm_put0 C hM hS ho (mm_e0 hT) rfl inX0 tyX0 tyX0_ok nmX0 (k := 7) (by decide) rfl (mq_1 89 rfl rfl) (Or.inl rfl) rfl rfl (Nat.le_of_ble_eq_true rfl) hdg (fun H1 locs1 ha oq hz hS1 => kk H1 locs1 (mm_upd hM oq (by rw [show mm_en G R (sI M o 7 v) o = .inr (0, [.int (M.1 o 0), .int (M.1 o 1), .int (M.1 o 2), .int (M.1 o 3), .int (M.1 o 4), .int (M.1 o 5), .int (M.1 o 6), .int (M.1 o 7), .int (M.1 o 8), .int (M.1 o 9), .int (M.1 o 10), .int (M.1 o 11), .long (M.2 o 12), .long (M.2 o 13), .long (M.2 o 14), .long (M.2 o 15), mm_q G (R o 16), mm_q G (R o 17)].set 7 (.int v)) by rw [mm_e0 hT]; simp [sI, mm_q] <;> rfl]; exact ha) mm_en_I) hS1 hz)
set_option maxRecDepth 100000 in
theorem pX1_167 {v : Int32} (C : mm_C G p s m args meth c RX1 cc nL ret) (hM : mm_P G R N M H) (hS : va_S (mm_A G) s.heap H locs) (ho : o < N) (hT : kT o = (3, 0)) (hdg : decode cc pc = .ok (.putfield 167, 3)) (kk : ∀ (H1 : Heap) (locs1 : List Loc), mm_P G R N (sI M o 2 v) H1 → va_S (mm_A G) s.heap H1 locs1 → H1.size = H.size → W p l e Rm s m args below meth c H1 locs1 cells slots Q (F0 m (pc + 3) ls rest)) : W p l e Rm s m args below meth c H locs cells slots Q (F0 m pc ls (.int v :: .ref (mm_lo G + o) :: rest)) := mm_put0 C hM hS ho (mm_e3 hT) rfl inX4 tyX4 tyX4_ok nmX4 (k := 2) (by decide) rfl (mq_1 44 rfl rfl) (Or.inl rfl) rfl rfl (Nat.le_of_ble_eq_true rfl) hdg (fun H1 locs1 ha oq hz hS1 => kk H1 locs1 (mm_upd hM oq (by rw [show mm_en G R (sI M o 2 v) o = .inr (3, [.int (M.1 o 0), .int (M.1 o 1), .int (M.1 o 2), .int (M.1 o 3)].set 2 (.int v)) by rw [mm_e3 hT]; simp [sI, mm_q] <;> rfl]; exact ha) mm_en_I) hS1 hz)
set_option maxRecDepth 100000 in
theorem pX1_170 {v : Int32} (C : mm_C G p s m args meth c RX1 cc nL ret) (hM : mm_P G R N M H) (hS : va_S (mm_A G) s.heap H locs) (ho : o < N) (hT : kT o = (3, 0)) (hdg : decode cc pc = .ok (.putfield 170, 3)) (kk : ∀ (H1 : Heap) (locs1 : List Loc), mm_P G R N (sI M o 1 v) H1 → va_S (mm_A G) s.heap H1 locs1 → H1.size = H.size → W p l e Rm s m args below meth c H1 locs1 cells slots Q (F0 m (pc + 3) ls rest)) : W p l e Rm s m args below meth c H locs cells slots Q (F0 m pc ls (.int v :: .ref (mm_lo G + o) :: rest)) := mm_put0 C hM hS ho (mm_e3 hT) rfl inX4 tyX4 tyX4_ok nmX4 (k := 1) (by decide) rfl (mq_1 41 rfl rfl) (Or.inl rfl) rfl rfl (Nat.le_of_ble_eq_true rfl) hdg (fun H1 locs1 ha oq hz hS1 => kk H1 locs1 (mm_upd hM oq (by rw [show mm_en G R (sI M o 1 v) o = .inr (3, [.int (M.1 o 0), .int (M.1 o 1), .int (M.1 o 2), .int (M.1 o 3)].set 1 (.int v)) by rw [mm_e3 hT]; simp [sI, mm_q] <;> rfl]; exact ha) mm_en_I) hS1 hz)
set_option maxRecDepth 100000 in
theorem pX1_25 {v : Int32} (C : mm_C G p s m args meth c RX1 cc nL ret) (hM : mm_P G R N M H) (hS : va_S (mm_A G) s.heap H locs) (ho : o < N) (hT : kT o = (0, 0)) (hdg : decode cc pc = .ok (.putfield 25, 3)) (kk : ∀ (H1 : Heap) (locs1 : List Loc), mm_P G R N (sI M o 4 v) H1 → va_S (mm_A G) s.heap H1 locs1 → H1.size = H.size → W p l e Rm s m args below meth c H1 locs1 cells slots Q (F0 m (pc + 3) ls rest)) : W p l e Rm s m args below meth c H locs cells slots Q (F0 m pc ls (.int v :: .ref (mm_lo G + o) :: rest)) := mm_put0 C hM hS ho (mm_e0 hT) rfl inX0 tyX0 tyX0_ok nmX0 (k := 4) (by decide) rfl (mq_1 79 rfl rfl) (Or.inl rfl) rfl rfl (Nat.le_of_ble_eq_true rfl) hdg (fun H1 locs1 ha oq hz hS1 => kk H1 locs1 (mm_upd hM oq (by rw [show mm_en G R (sI M o 4 v) o = .inr (0, [.int (M.1 o 0), .int (M.1 o 1), .int (M.1 o 2), .int (M.1 o 3), .int (M.1 o 4), .int (M.1 o 5), .int (M.1 o 6), .int (M.1 o 7), .int (M.1 o 8), .int (M.1 o 9), .int (M.1 o 10), .int (M.1 o 11), .long (M.2 o 12), .long (M.2 o 13), .long (M.2 o 14), .long (M.2 o 15), mm_q G (R o 16), mm_q G (R o 17)].set 4 (.int v)) by rw [mm_e0 hT]; simp [sI, mm_q] <;> rfl]; exact ha) mm_en_I) hS1 hz)
set_option maxRecDepth 100000 in
theorem pX1_30 {v : Int32} (C : mm_C G p s m args meth c RX1 cc nL ret) (hM : mm_P G R N M H) (hS : va_S (mm_A G) s.heap H locs) (ho : o < N) (hT : kT o = (0, 0)) (hn : v = 0 ∨ v = 1) (hdg : decode cc pc = .ok (.putfield 30, 3)) (kk : ∀ (H1 : Heap) (locs1 : List Loc), mm_P G R N (sI M o 5 v) H1 → va_S (mm_A G) s.heap H1 locs1 → H1.size = H.size → W p l e Rm s m args below meth c H1 locs1 cells slots Q (F0 m (pc + 3) ls rest)) : W p l e Rm s m args below meth c H locs cells slots Q (F0 m pc ls (.int v :: .ref (mm_lo G + o) :: rest)) := mm_put0 C hM hS ho (mm_e0 hT) rfl inX0 tyX0 tyX0_ok nmX0 (k := 5) (by decide) rfl (mq_1 82 rfl rfl) (Or.inl rfl) (nb01 hn) (fb01 hn) (Nat.le_of_ble_eq_true rfl) hdg (fun H1 locs1 ha oq hz hS1 => kk H1 locs1 (mm_upd hM oq (by rw [show mm_en G R (sI M o 5 v) o = .inr (0, [.int (M.1 o 0), .int (M.1 o 1), .int (M.1 o 2), .int (M.1 o 3), .int (M.1 o 4), .int (M.1 o 5), .int (M.1 o 6), .int (M.1 o 7), .int (M.1 o 8), .int (M.1 o 9), .int (M.1 o 10), .int (M.1 o 11), .long (M.2 o 12), .long (M.2 o 13), .long (M.2 o 14), .long (M.2 o 15), mm_q G (R o 16), mm_q G (R o 17)].set 5 (.int v)) by rw [mm_e0 hT]; simp [sI, mm_q] <;> rfl]; exact ha) mm_en_I) hS1 hz)
set_option maxRecDepth 100000 in
theorem pX1_48 {v : Int32} (C : mm_C G p s m args meth c RX1 cc nL ret) (hM : mm_P G R N M H) (hS : va_S (mm_A G) s.heap H locs) (ho : o < N) (hT : kT o = (3, 0)) (hdg : decode cc pc = .ok (.putfield 48, 3)) (kk : ∀ (H1 : Heap) (locs1 : List Loc), mm_P G R N (sI M o 3 v) H1 → va_S (mm_A G) s.heap H1 locs1 → H1.size = H.size → W p l e Rm s m args below meth c H1 locs1 cells slots Q (F0 m (pc + 3) ls rest)) : W p l e Rm s m args below meth c H locs cells slots Q (F0 m pc ls (.int v :: .ref (mm_lo G + o) :: rest)) := mm_put0 C hM hS ho (mm_e3 hT) rfl inX4 tyX4 tyX4_ok nmX4 (k := 3) (by decide) rfl (mq_1 47 rfl rfl) (Or.inl rfl) rfl rfl (Nat.le_of_ble_eq_true rfl) hdg (fun H1 locs1 ha oq hz hS1 => kk H1 locs1 (mm_upd hM oq (by rw [show mm_en G R (sI M o 3 v) o = .inr (3, [.int (M.1 o 0), .int (M.1 o 1), .int (M.1 o 2), .int (M.1 o 3)].set 3 (.int v)) by rw [mm_e3 hT]; simp [sI, mm_q] <;> rfl]; exact ha) mm_en_I) hS1 hz)
set_option maxRecDepth 100000 in
theorem pX1_60 {v : Int32} (C : mm_C G p s m args meth c RX1 cc nL ret) (hM : mm_P G R N M H) (hS : va_S (mm_A G) s.heap H locs) (ho : o < N) (hT : kT o = (4, 0)) (hdg : decode cc pc = .ok (.putfield 60, 3)) (kk : ∀ (H1 : Heap) (locs1 : List Loc), mm_P G R N (sI M o 14 v) H1 → va_S (mm_A G) s.heap H1 locs1 → H1.size = H.size → W p l e Rm s m args below meth c H1 locs1 cells slots Q (F0 m (pc + 3) ls rest)) : W p l e Rm s m args below meth c H locs cells slots Q (F0 m pc ls (.int v :: .ref (mm_lo G + o) :: rest)) := mm_put0 C hM hS ho (mm_e4 hT) rfl inX5 tyX5 tyX5_ok nmX5 (k := 14) (by decide) rfl (mq_1 192 rfl rfl) (Or.inl rfl) rfl rfl (Nat.le_of_ble_eq_true rfl) hdg (fun H1 locs1 ha oq hz hS1 => kk H1 locs1 (mm_upd hM oq (by rw [show mm_en G R (sI M o 14 v) o = .inr (4, [.int (M.1 o 0), .int (M.1 o 1), .int (M.1 o 2), .int (M.1 o 3), .int (M.1 o 4), .int (M.1 o 5), .int (M.1 o 6), mm_q G (R o 7), mm_q G (R o 8), mm_q G (R o 9), mm_q G (R o 10), mm_q G (R o 11), mm_q G (R o 12), mm_q G (R o 13), .int (M.1 o 14)].set 14 (.int v)) by rw [mm_e4 hT]; simp [sI, mm_q] <;> rfl]; exact ha) mm_en_I) hS1 hz)
set_option maxRecDepth 100000 in
theorem pX1_63 {v : Int32} (C : mm_C G p s m args meth c RX1 cc nL ret) (hM : mm_P G R N M H) (hS : va_S (mm_A G) s.heap H locs) (ho : o < N) (hT : kT o = (4, 0)) (hdg : decode cc pc = .ok (.putfield 63, 3)) (kk : ∀ (H1 : Heap) (locs1 : List Loc), mm_P G R N (sI M o 1 v) H1 → va_S (mm_A G) s.heap H1 locs1 → H1.size = H.size → W p l e Rm s m args below meth c H1 locs1 cells slots Q (F0 m (pc + 3) ls rest)) : W p l e Rm s m args below meth c H locs cells slots Q (F0 m pc ls (.int v :: .ref (mm_lo G + o) :: rest)) := mm_put0 C hM hS ho (mm_e4 hT) rfl inX5 tyX5 tyX5_ok nmX5 (k := 1) (by decide) rfl (mq_1 160 rfl rfl) (Or.inl rfl) rfl rfl (Nat.le_of_ble_eq_true rfl) hdg (fun H1 locs1 ha oq hz hS1 => kk H1 locs1 (mm_upd hM oq (by rw [show mm_en G R (sI M o 1 v) o = .inr (4, [.int (M.1 o 0), .int (M.1 o 1), .int (M.1 o 2), .int (M.1 o 3), .int (M.1 o 4), .int (M.1 o 5), .int (M.1 o 6), mm_q G (R o 7), mm_q G (R o 8), mm_q G (R o 9), mm_q G (R o 10), mm_q G (R o 11), mm_q G (R o 12), mm_q G (R o 13), .int (M.1 o 14)].set 1 (.int v)) by rw [mm_e4 hT]; simp [sI, mm_q] <;> rfl]; exact ha) mm_en_I) hS1 hz)
set_option maxRecDepth 100000 in
theorem pX1_81 {v : Int32} (C : mm_C G p s m args meth c RX1 cc nL ret) (hM : mm_P G R N M H) (hS : va_S (mm_A G) s.heap H locs) (ho : o < N) (hT : kT o = (0, 0)) (hdg : decode cc pc = .ok (.putfield 81, 3)) (kk : ∀ (H1 : Heap) (locs1 : List Loc), mm_P G R N (sI M o 11 v) H1 → va_S (mm_A G) s.heap H1 locs1 → H1.size = H.size → W p l e Rm s m args below meth c H1 locs1 cells slots Q (F0 m (pc + 3) ls rest)) : W p l e Rm s m args below meth c H locs cells slots Q (F0 m pc ls (.int v :: .ref (mm_lo G + o) :: rest)) := mm_put0 C hM hS ho (mm_e0 hT) rfl inX0 tyX0 tyX0_ok nmX0 (k := 11) (by decide) rfl (mq_1 102 rfl rfl) (Or.inl rfl) rfl rfl (Nat.le_of_ble_eq_true rfl) hdg (fun H1 locs1 ha oq hz hS1 => kk H1 locs1 (mm_upd hM oq (by rw [show mm_en G R (sI M o 11 v) o = .inr (0, [.int (M.1 o 0), .int (M.1 o 1), .int (M.1 o 2), .int (M.1 o 3), .int (M.1 o 4), .int (M.1 o 5), .int (M.1 o 6), .int (M.1 o 7), .int (M.1 o 8), .int (M.1 o 9), .int (M.1 o 10), .int (M.1 o 11), .long (M.2 o 12), .long (M.2 o 13), .long (M.2 o 14), .long (M.2 o 15), mm_q G (R o 16), mm_q G (R o 17)].set 11 (.int v)) by rw [mm_e0 hT]; simp [sI, mm_q] <;> rfl]; exact ha) mm_en_I) hS1 hz)
set_option maxRecDepth 100000 in
theorem pX1_92 {v : Int32} (C : mm_C G p s m args meth c RX1 cc nL ret) (hM : mm_P G R N M H) (hS : va_S (mm_A G) s.heap H locs) (ho : o < N) (hT : kT o = (0, 0)) (hdg : decode cc pc = .ok (.putfield 92, 3)) (kk : ∀ (H1 : Heap) (locs1 : List Loc), mm_P G R N (sI M o 10 v) H1 → va_S (mm_A G) s.heap H1 locs1 → H1.size = H.size → W p l e Rm s m args below meth c H1 locs1 cells slots Q (F0 m (pc + 3) ls rest)) : W p l e Rm s m args below meth c H locs cells slots Q (F0 m pc ls (.int v :: .ref (mm_lo G + o) :: rest)) := mm_put0 C hM hS ho (mm_e0 hT) rfl inX0 tyX0 tyX0_ok nmX0 (k := 10) (by decide) rfl (mq_1 99 rfl rfl) (Or.inl rfl) rfl rfl (Nat.le_of_ble_eq_true rfl) hdg (fun H1 locs1 ha oq hz hS1 => kk H1 locs1 (mm_upd hM oq (by rw [show mm_en G R (sI M o 10 v) o = .inr (0, [.int (M.1 o 0), .int (M.1 o 1), .int (M.1 o 2), .int (M.1 o 3), .int (M.1 o 4), .int (M.1 o 5), .int (M.1 o 6), .int (M.1 o 7), .int (M.1 o 8), .int (M.1 o 9), .int (M.1 o 10), .int (M.1 o 11), .long (M.2 o 12), .long (M.2 o 13), .long (M.2 o 14), .long (M.2 o 15), mm_q G (R o 16), mm_q G (R o 17)].set 10 (.int v)) by rw [mm_e0 hT]; simp [sI, mm_q] <;> rfl]; exact ha) mm_en_I) hS1 hz)
set_option maxRecDepth 100000 in
theorem pX1_95 {v : Int32} (C : mm_C G p s m args meth c RX1 cc nL ret) (hM : mm_P G R N M H) (hS : va_S (mm_A G) s.heap H locs) (ho : o < N) (hT : kT o = (0, 0)) (hdg : decode cc pc = .ok (.putfield 95, 3)) (kk : ∀ (H1 : Heap) (locs1 : List Loc), mm_P G R N (sI M o 3 v) H1 → va_S (mm_A G) s.heap H1 locs1 → H1.size = H.size → W p l e Rm s m args below meth c H1 locs1 cells slots Q (F0 m (pc + 3) ls rest)) : W p l e Rm s m args below meth c H locs cells slots Q (F0 m pc ls (.int v :: .ref (mm_lo G + o) :: rest)) := mm_put0 C hM hS ho (mm_e0 hT) rfl inX0 tyX0 tyX0_ok nmX0 (k := 3) (by decide) rfl (mq_1 76 rfl rfl) (Or.inl rfl) rfl rfl (Nat.le_of_ble_eq_true rfl) hdg (fun H1 locs1 ha oq hz hS1 => kk H1 locs1 (mm_upd hM oq (by rw [show mm_en G R (sI M o 3 v) o = .inr (0, [.int (M.1 o 0), .int (M.1 o 1), .int (M.1 o 2), .int (M.1 o 3), .int (M.1 o 4), .int (M.1 o 5), .int (M.1 o 6), .int (M.1 o 7), .int (M.1 o 8), .int (M.1 o 9), .int (M.1 o 10), .int (M.1 o 11), .long (M.2 o 12), .long (M.2 o 13), .long (M.2 o 14), .long (M.2 o 15), mm_q G (R o 16), mm_q G (R o 17)].set 3 (.int v)) by rw [mm_e0 hT]; simp [sI, mm_q] <;> rfl]; exact ha) mm_en_I) hS1 hz)
set_option maxRecDepth 100000 in
theorem pX2_13 {v : Nat} (C : mm_C G p s m args meth c RX2 cc nL ret) (hM : mm_P G R N M H) (hS : va_S (mm_A G) s.heap H locs) (ho : o < N) (hT : kT o = (1, 0)) (hin : meth.name = "<init>") (hdg : decode cc pc = .ok (.putfield 13, 3)) (kk : ∀ (H1 : Heap) (locs1 : List Loc), mm_P G (sR R o 0 (some v)) N M H1 → va_S (mm_A G) s.heap H1 locs1 → H1.size = H.size → W p l e Rm s m args below meth c H1 locs1 cells slots Q (F0 m (pc + 3) ls rest)) : W p l e Rm s m args below meth c H locs cells slots Q (F0 m pc ls (.ref (mm_lo G + v) :: .ref (mm_lo G + o) :: rest)) := mm_put0 C hM hS ho (mm_e1 hT) rfl inX2 tyX2 tyX2_ok nmX2 (k := 0) (by decide) rfl (mq_1 233 rfl rfl) (Or.inr ⟨rfl, hin, rfl⟩) rfl rfl (Nat.le_of_ble_eq_true rfl) hdg (fun H1 locs1 ha oq hz hS1 => kk H1 locs1 (mm_upd hM oq (by rw [show mm_en G (sR R o 0 (some v)) M o = .inr (1, [mm_q G (R o 0), .int (M.1 o 1), .int (M.1 o 2)].set 0 (.ref (mm_lo G + v))) by rw [mm_e1 hT]; simp [sR, mm_q] <;> rfl]; exact ha) mm_en_R) hS1 hz)
set_option maxRecDepth 100000 in
theorem pX2_18 {v : Int32} (C : mm_C G p s m args meth c RX2 cc nL ret) (hM : mm_P G R N M H) (hS : va_S (mm_A G) s.heap H locs) (ho : o < N) (hT : kT o = (1, 0)) (hdg : decode cc pc = .ok (.putfield 18, 3)) (kk : ∀ (H1 : Heap) (locs1 : List Loc), mm_P G R N (sI M o 1 v) H1 → va_S (mm_A G) s.heap H1 locs1 → H1.size = H.size → W p l e Rm s m args below meth c H1 locs1 cells slots Q (F0 m (pc + 3) ls rest)) : W p l e Rm s m args below meth c H locs cells slots Q (F0 m pc ls (.int v :: .ref (mm_lo G + o) :: rest)) := mm_put0 C hM hS ho (mm_e1 hT) rfl inX2 tyX2 tyX2_ok nmX2 (k := 1) (by decide) rfl (mq_1 234 rfl rfl) (Or.inl rfl) rfl rfl (Nat.le_of_ble_eq_true rfl) hdg (fun H1 locs1 ha oq hz hS1 => kk H1 locs1 (mm_upd hM oq (by rw [show mm_en G R (sI M o 1 v) o = .inr (1, [mm_q G (R o 0), .int (M.1 o 1), .int (M.1 o 2)].set 1 (.int v)) by rw [mm_e1 hT]; simp [sI, mm_q] <;> rfl]; exact ha) mm_en_I) hS1 hz)
set_option maxRecDepth 100000 in
theorem pX2_22 {v : Int32} (C : mm_C G p s m args meth c RX2 cc nL ret) (hM : mm_P G R N M H) (hS : va_S (mm_A G) s.heap H locs) (ho : o < N) (hT : kT o = (1, 0)) (hdg : decode cc pc = .ok (.putfield 22, 3)) (kk : ∀ (H1 : Heap) (locs1 : List Loc), mm_P G R N (sI M o 2 v) H1 → va_S (mm_A G) s.heap H1 locs1 → H1.size = H.size → W p l e Rm s m args below meth c H1 locs1 cells slots Q (F0 m (pc + 3) ls rest)) : W p l e Rm s m args below meth c H locs cells slots Q (F0 m pc ls (.int v :: .ref (mm_lo G + o) :: rest)) := mm_put0 C hM hS ho (mm_e1 hT) rfl inX2 tyX2 tyX2_ok nmX2 (k := 2) (by decide) rfl (mq_1 235 rfl rfl) (Or.inl rfl) rfl rfl (Nat.le_of_ble_eq_true rfl) hdg (fun H1 locs1 ha oq hz hS1 => kk H1 locs1 (mm_upd hM oq (by rw [show mm_en G R (sI M o 2 v) o = .inr (1, [mm_q G (R o 0), .int (M.1 o 1), .int (M.1 o 2)].set 2 (.int v)) by rw [mm_e1 hT]; simp [sI, mm_q] <;> rfl]; exact ha) mm_en_I) hS1 hz)
set_option maxRecDepth 100000 in
theorem pX3_19 {v : Int32} (C : mm_C G p s m args meth c RX3 cc nL ret) (hM : mm_P G R N M H) (hS : va_S (mm_A G) s.heap H locs) (ho : o < N) (hT : kT o = (2, 0)) (hdg : decode cc pc = .ok (.putfield 19, 3)) (kk : ∀ (H1 : Heap) (locs1 : List Loc), mm_P G R N (sI M o 1 v) H1 → va_S (mm_A G) s.heap H1 locs1 → H1.size = H.size → W p l e Rm s m args below meth c H1 locs1 cells slots Q (F0 m (pc + 3) ls rest)) : W p l e Rm s m args below meth c H locs cells slots Q (F0 m pc ls (.int v :: .ref (mm_lo G + o) :: rest)) := mm_put0 C hM hS ho (mm_e2 hT) rfl inX3 tyX3 tyX3_ok nmX3 (k := 1) (by decide) rfl (mq_2 11 rfl rfl) (Or.inl rfl) rfl rfl (Nat.le_of_ble_eq_true rfl) hdg (fun H1 locs1 ha oq hz hS1 => kk H1 locs1 (mm_upd hM oq (by rw [show mm_en G R (sI M o 1 v) o = .inr (2, [mm_q G (R o 0), .int (M.1 o 1)].set 1 (.int v)) by rw [mm_e2 hT]; simp [sI, mm_q] <;> rfl]; exact ha) mm_en_I) hS1 hz)
set_option maxRecDepth 100000 in
theorem pX3_9 {v : Nat} (C : mm_C G p s m args meth c RX3 cc nL ret) (hM : mm_P G R N M H) (hS : va_S (mm_A G) s.heap H locs) (ho : o < N) (hT : kT o = (2, 0)) (hin : meth.name = "<init>") (hdg : decode cc pc = .ok (.putfield 9, 3)) (kk : ∀ (H1 : Heap) (locs1 : List Loc), mm_P G (sR R o 0 (some v)) N M H1 → va_S (mm_A G) s.heap H1 locs1 → H1.size = H.size → W p l e Rm s m args below meth c H1 locs1 cells slots Q (F0 m (pc + 3) ls rest)) : W p l e Rm s m args below meth c H locs cells slots Q (F0 m pc ls (.ref (mm_lo G + v) :: .ref (mm_lo G + o) :: rest)) := mm_put0 C hM hS ho (mm_e2 hT) rfl inX3 tyX3 tyX3_ok nmX3 (k := 0) (by decide) rfl (mq_2 10 rfl rfl) (Or.inr ⟨rfl, hin, rfl⟩) rfl rfl (Nat.le_of_ble_eq_true rfl) hdg (fun H1 locs1 ha oq hz hS1 => kk H1 locs1 (mm_upd hM oq (by rw [show mm_en G (sR R o 0 (some v)) M o = .inr (2, [mm_q G (R o 0), .int (M.1 o 1)].set 0 (.ref (mm_lo G + v))) by rw [mm_e2 hT]; simp [sR, mm_q] <;> rfl]; exact ha) mm_en_R) hS1 hz)
set_option maxRecDepth 100000 in
theorem pX4_15 {v : Int32} (C : mm_C G p s m args meth c RX4 cc nL ret) (hM : mm_P G R N M H) (hS : va_S (mm_A G) s.heap H locs) (ho : o < N) (hT : kT o = (3, 0)) (hdg : decode cc pc = .ok (.putfield 15, 3)) (kk : ∀ (H1 : Heap) (locs1 : List Loc), mm_P G R N (sI M o 1 v) H1 → va_S (mm_A G) s.heap H1 locs1 → H1.size = H.size → W p l e Rm s m args below meth c H1 locs1 cells slots Q (F0 m (pc + 3) ls rest)) : W p l e Rm s m args below meth c H locs cells slots Q (F0 m pc ls (.int v :: .ref (mm_lo G + o) :: rest)) := mm_put0 C hM hS ho (mm_e3 hT) rfl inX4 tyX4 tyX4_ok nmX4 (k := 1) (by decide) rfl (mq_1 40 rfl rfl) (Or.inl rfl) rfl rfl (Nat.le_of_ble_eq_true rfl) hdg (fun H1 locs1 ha oq hz hS1 => kk H1 locs1 (mm_upd hM oq (by rw [show mm_en G R (sI M o 1 v) o = .inr (3, [.int (M.1 o 0), .int (M.1 o 1), .int (M.1 o 2), .int (M.1 o 3)].set 1 (.int v)) by rw [mm_e3 hT]; simp [sI, mm_q] <;> rfl]; exact ha) mm_en_I) hS1 hz)
set_option maxRecDepth 100000 in
theorem pX4_18 {v : Int32} (C : mm_C G p s m args meth c RX4 cc nL ret) (hM : mm_P G R N M H) (hS : va_S (mm_A G) s.heap H locs) (ho : o < N) (hT : kT o = (3, 0)) (hdg : decode cc pc = .ok (.putfield 18, 3)) (kk : ∀ (H1 : Heap) (locs1 : List Loc), mm_P G R N (sI M o 2 v) H1 → va_S (mm_A G) s.heap H1 locs1 → H1.size = H.size → W p l e Rm s m args below meth c H1 locs1 cells slots Q (F0 m (pc + 3) ls rest)) : W p l e Rm s m args below meth c H locs cells slots Q (F0 m pc ls (.int v :: .ref (mm_lo G + o) :: rest)) := mm_put0 C hM hS ho (mm_e3 hT) rfl inX4 tyX4 tyX4_ok nmX4 (k := 2) (by decide) rfl (mq_1 43 rfl rfl) (Or.inl rfl) rfl rfl (Nat.le_of_ble_eq_true rfl) hdg (fun H1 locs1 ha oq hz hS1 => kk H1 locs1 (mm_upd hM oq (by rw [show mm_en G R (sI M o 2 v) o = .inr (3, [.int (M.1 o 0), .int (M.1 o 1), .int (M.1 o 2), .int (M.1 o 3)].set 2 (.int v)) by rw [mm_e3 hT]; simp [sI, mm_q] <;> rfl]; exact ha) mm_en_I) hS1 hz)
set_option maxRecDepth 100000 in
theorem pX4_21 {v : Int32} (C : mm_C G p s m args meth c RX4 cc nL ret) (hM : mm_P G R N M H) (hS : va_S (mm_A G) s.heap H locs) (ho : o < N) (hT : kT o = (3, 0)) (hdg : decode cc pc = .ok (.putfield 21, 3)) (kk : ∀ (H1 : Heap) (locs1 : List Loc), mm_P G R N (sI M o 3 v) H1 → va_S (mm_A G) s.heap H1 locs1 → H1.size = H.size → W p l e Rm s m args below meth c H1 locs1 cells slots Q (F0 m (pc + 3) ls rest)) : W p l e Rm s m args below meth c H locs cells slots Q (F0 m pc ls (.int v :: .ref (mm_lo G + o) :: rest)) := mm_put0 C hM hS ho (mm_e3 hT) rfl inX4 tyX4 tyX4_ok nmX4 (k := 3) (by decide) rfl (mq_1 46 rfl rfl) (Or.inl rfl) rfl rfl (Nat.le_of_ble_eq_true rfl) hdg (fun H1 locs1 ha oq hz hS1 => kk H1 locs1 (mm_upd hM oq (by rw [show mm_en G R (sI M o 3 v) o = .inr (3, [.int (M.1 o 0), .int (M.1 o 1), .int (M.1 o 2), .int (M.1 o 3)].set 3 (.int v)) by rw [mm_e3 hT]; simp [sI, mm_q] <;> rfl]; exact ha) mm_en_I) hS1 hz)
set_option maxRecDepth 100000 in
theorem pX4_9 {v : Int32} (C : mm_C G p s m args meth c RX4 cc nL ret) (hM : mm_P G R N M H) (hS : va_S (mm_A G) s.heap H locs) (ho : o < N) (hT : kT o = (3, 0)) (hdg : decode cc pc = .ok (.putfield 9, 3)) (kk : ∀ (H1 : Heap) (locs1 : List Loc), mm_P G R N (sI M o 0 v) H1 → va_S (mm_A G) s.heap H1 locs1 → H1.size = H.size → W p l e Rm s m args below meth c H1 locs1 cells slots Q (F0 m (pc + 3) ls rest)) : W p l e Rm s m args below meth c H locs cells slots Q (F0 m pc ls (.int v :: .ref (mm_lo G + o) :: rest)) := mm_put0 C hM hS ho (mm_e3 hT) rfl inX4 tyX4 tyX4_ok nmX4 (k := 0) (by decide) rfl (mq_1 36 rfl rfl) (Or.inl rfl) rfl rfl (Nat.le_of_ble_eq_true rfl) hdg (fun H1 locs1 ha oq hz hS1 => kk H1 locs1 (mm_upd hM oq (by rw [show mm_en G R (sI M o 0 v) o = .inr (3, [.int (M.1 o 0), .int (M.1 o 1), .int (M.1 o 2), .int (M.1 o 3)].set 0 (.int v)) by rw [mm_e3 hT]; simp [sI, mm_q] <;> rfl]; exact ha) mm_en_I) hS1 hz)
set_option maxRecDepth 100000 in
theorem pX5_103 {v : Int32} (C : mm_C G p s m args meth c RX5 cc nL ret) (hM : mm_P G R N M H) (hS : va_S (mm_A G) s.heap H locs) (ho : o < N) (hT : kT o = (0, 0)) (hdg : decode cc pc = .ok (.putfield 103, 3)) (kk : ∀ (H1 : Heap) (locs1 : List Loc), mm_P G R N (sI M o 2 v) H1 → va_S (mm_A G) s.heap H1 locs1 → H1.size = H.size → W p l e Rm s m args below meth c H1 locs1 cells slots Q (F0 m (pc + 3) ls rest)) : W p l e Rm s m args below meth c H locs cells slots Q (F0 m pc ls (.int v :: .ref (mm_lo G + o) :: rest)) := mm_put0 C hM hS ho (mm_e0 hT) rfl inX0 tyX0 tyX0_ok nmX0 (k := 2) (by decide) rfl (mq_1 73 rfl rfl) (Or.inl rfl) rfl rfl (Nat.le_of_ble_eq_true rfl) hdg (fun H1 locs1 ha oq hz hS1 => kk H1 locs1 (mm_upd hM oq (by rw [show mm_en G R (sI M o 2 v) o = .inr (0, [.int (M.1 o 0), .int (M.1 o 1), .int (M.1 o 2), .int (M.1 o 3), .int (M.1 o 4), .int (M.1 o 5), .int (M.1 o 6), .int (M.1 o 7), .int (M.1 o 8), .int (M.1 o 9), .int (M.1 o 10), .int (M.1 o 11), .long (M.2 o 12), .long (M.2 o 13), .long (M.2 o 14), .long (M.2 o 15), mm_q G (R o 16), mm_q G (R o 17)].set 2 (.int v)) by rw [mm_e0 hT]; simp [sI, mm_q] <;> rfl]; exact ha) mm_en_I) hS1 hz)
set_option maxRecDepth 100000 in
theorem pX5_113 {v : Int64} (C : mm_C G p s m args meth c RX5 cc nL ret) (hM : mm_P G R N M H) (hS : va_S (mm_A G) s.heap H locs) (ho : o < N) (hT : kT o = (0, 0)) (hdg : decode cc pc = .ok (.putfield 113, 3)) (kk : ∀ (H1 : Heap) (locs1 : List Loc), mm_P G R N (sL M o 14 v) H1 → va_S (mm_A G) s.heap H1 locs1 → H1.size = H.size → W p l e Rm s m args below meth c H1 locs1 cells slots Q (F0 m (pc + 3) ls rest)) : W p l e Rm s m args below meth c H locs cells slots Q (F0 m pc ls (.long v :: .ref (mm_lo G + o) :: rest)) := mm_put0 C hM hS ho (mm_e0 hT) rfl inX0 tyX0 tyX0_ok nmX0 (k := 14) (by decide) rfl (mq_1 111 rfl rfl) (Or.inl rfl) rfl rfl (Nat.le_of_ble_eq_true rfl) hdg (fun H1 locs1 ha oq hz hS1 => kk H1 locs1 (mm_upd hM oq (by rw [show mm_en G R (sL M o 14 v) o = .inr (0, [.int (M.1 o 0), .int (M.1 o 1), .int (M.1 o 2), .int (M.1 o 3), .int (M.1 o 4), .int (M.1 o 5), .int (M.1 o 6), .int (M.1 o 7), .int (M.1 o 8), .int (M.1 o 9), .int (M.1 o 10), .int (M.1 o 11), .long (M.2 o 12), .long (M.2 o 13), .long (M.2 o 14), .long (M.2 o 15), mm_q G (R o 16), mm_q G (R o 17)].set 14 (.long v)) by rw [mm_e0 hT]; simp [sL, mm_q] <;> rfl]; exact ha) mm_en_L) hS1 hz)
set_option maxRecDepth 100000 in
theorem pX5_125 {v : Int32} (C : mm_C G p s m args meth c RX5 cc nL ret) (hM : mm_P G R N M H) (hS : va_S (mm_A G) s.heap H locs) (ho : o < N) (hT : kT o = (0, 0)) (hdg : decode cc pc = .ok (.putfield 125, 3)) (kk : ∀ (H1 : Heap) (locs1 : List Loc), mm_P G R N (sI M o 6 v) H1 → va_S (mm_A G) s.heap H1 locs1 → H1.size = H.size → W p l e Rm s m args below meth c H1 locs1 cells slots Q (F0 m (pc + 3) ls rest)) : W p l e Rm s m args below meth c H locs cells slots Q (F0 m pc ls (.int v :: .ref (mm_lo G + o) :: rest)) := mm_put0 C hM hS ho (mm_e0 hT) rfl inX0 tyX0 tyX0_ok nmX0 (k := 6) (by decide) rfl (mq_1 86 rfl rfl) (Or.inl rfl) rfl rfl (Nat.le_of_ble_eq_true rfl) hdg (fun H1 locs1 ha oq hz hS1 => kk H1 locs1 (mm_upd hM oq (by rw [show mm_en G R (sI M o 6 v) o = .inr (0, [.int (M.1 o 0), .int (M.1 o 1), .int (M.1 o 2), .int (M.1 o 3), .int (M.1 o 4), .int (M.1 o 5), .int (M.1 o 6), .int (M.1 o 7), .int (M.1 o 8), .int (M.1 o 9), .int (M.1 o 10), .int (M.1 o 11), .long (M.2 o 12), .long (M.2 o 13), .long (M.2 o 14), .long (M.2 o 15), mm_q G (R o 16), mm_q G (R o 17)].set 6 (.int v)) by rw [mm_e0 hT]; simp [sI, mm_q] <;> rfl]; exact ha) mm_en_I) hS1 hz)
set_option maxRecDepth 100000 in
theorem pX5_131 {v : Int32} (C : mm_C G p s m args meth c RX5 cc nL ret) (hM : mm_P G R N M H) (hS : va_S (mm_A G) s.heap H locs) (ho : o < N) (hT : kT o = (0, 0)) (hn : v = 0 ∨ v = 1) (hdg : decode cc pc = .ok (.putfield 131, 3)) (kk : ∀ (H1 : Heap) (locs1 : List Loc), mm_P G R N (sI M o 5 v) H1 → va_S (mm_A G) s.heap H1 locs1 → H1.size = H.size → W p l e Rm s m args below meth c H1 locs1 cells slots Q (F0 m (pc + 3) ls rest)) : W p l e Rm s m args below meth c H locs cells slots Q (F0 m pc ls (.int v :: .ref (mm_lo G + o) :: rest)) := mm_put0 C hM hS ho (mm_e0 hT) rfl inX0 tyX0 tyX0_ok nmX0 (k := 5) (by decide) rfl (mq_1 83 rfl rfl) (Or.inl rfl) (nb01 hn) (fb01 hn) (Nat.le_of_ble_eq_true rfl) hdg (fun H1 locs1 ha oq hz hS1 => kk H1 locs1 (mm_upd hM oq (by rw [show mm_en G R (sI M o 5 v) o = .inr (0, [.int (M.1 o 0), .int (M.1 o 1), .int (M.1 o 2), .int (M.1 o 3), .int (M.1 o 4), .int (M.1 o 5), .int (M.1 o 6), .int (M.1 o 7), .int (M.1 o 8), .int (M.1 o 9), .int (M.1 o 10), .int (M.1 o 11), .long (M.2 o 12), .long (M.2 o 13), .long (M.2 o 14), .long (M.2 o 15), mm_q G (R o 16), mm_q G (R o 17)].set 5 (.int v)) by rw [mm_e0 hT]; simp [sI, mm_q] <;> rfl]; exact ha) mm_en_I) hS1 hz)
set_option maxRecDepth 100000 in
theorem pX5_140 {v : Int64} (C : mm_C G p s m args meth c RX5 cc nL ret) (hM : mm_P G R N M H) (hS : va_S (mm_A G) s.heap H locs) (ho : o < N) (hT : kT o = (0, 0)) (hdg : decode cc pc = .ok (.putfield 140, 3)) (kk : ∀ (H1 : Heap) (locs1 : List Loc), mm_P G R N (sL M o 12 v) H1 → va_S (mm_A G) s.heap H1 locs1 → H1.size = H.size → W p l e Rm s m args below meth c H1 locs1 cells slots Q (F0 m (pc + 3) ls rest)) : W p l e Rm s m args below meth c H locs cells slots Q (F0 m pc ls (.long v :: .ref (mm_lo G + o) :: rest)) := mm_put0 C hM hS ho (mm_e0 hT) rfl inX0 tyX0 tyX0_ok nmX0 (k := 12) (by decide) rfl (mq_1 105 rfl rfl) (Or.inl rfl) rfl rfl (Nat.le_of_ble_eq_true rfl) hdg (fun H1 locs1 ha oq hz hS1 => kk H1 locs1 (mm_upd hM oq (by rw [show mm_en G R (sL M o 12 v) o = .inr (0, [.int (M.1 o 0), .int (M.1 o 1), .int (M.1 o 2), .int (M.1 o 3), .int (M.1 o 4), .int (M.1 o 5), .int (M.1 o 6), .int (M.1 o 7), .int (M.1 o 8), .int (M.1 o 9), .int (M.1 o 10), .int (M.1 o 11), .long (M.2 o 12), .long (M.2 o 13), .long (M.2 o 14), .long (M.2 o 15), mm_q G (R o 16), mm_q G (R o 17)].set 12 (.long v)) by rw [mm_e0 hT]; simp [sL, mm_q] <;> rfl]; exact ha) mm_en_L) hS1 hz)
set_option maxRecDepth 100000 in
theorem pX5_15 {v : Nat} (C : mm_C G p s m args meth c RX5 cc nL ret) (hM : mm_P G R N M H) (hS : va_S (mm_A G) s.heap H locs) (ho : o < N) (hT : kT o = (4, 0)) (hin : meth.name = "<init>") (hdg : decode cc pc = .ok (.putfield 15, 3)) (kk : ∀ (H1 : Heap) (locs1 : List Loc), mm_P G (sR R o 7 (some v)) N M H1 → va_S (mm_A G) s.heap H1 locs1 → H1.size = H.size → W p l e Rm s m args below meth c H1 locs1 cells slots Q (F0 m (pc + 3) ls rest)) : W p l e Rm s m args below meth c H locs cells slots Q (F0 m pc ls (.ref (mm_lo G + v) :: .ref (mm_lo G + o) :: rest)) := mm_put0 C hM hS ho (mm_e4 hT) rfl inX5 tyX5 tyX5_ok nmX5 (k := 7) (by decide) rfl (mq_1 175 rfl rfl) (Or.inr ⟨rfl, hin, rfl⟩) rfl rfl (Nat.le_of_ble_eq_true rfl) hdg (fun H1 locs1 ha oq hz hS1 => kk H1 locs1 (mm_upd hM oq (by rw [show mm_en G (sR R o 7 (some v)) M o = .inr (4, [.int (M.1 o 0), .int (M.1 o 1), .int (M.1 o 2), .int (M.1 o 3), .int (M.1 o 4), .int (M.1 o 5), .int (M.1 o 6), mm_q G (R o 7), mm_q G (R o 8), mm_q G (R o 9), mm_q G (R o 10), mm_q G (R o 11), mm_q G (R o 12), mm_q G (R o 13), .int (M.1 o 14)].set 7 (.ref (mm_lo G + v))) by rw [mm_e4 hT]; simp [sR, mm_q] <;> rfl]; exact ha) mm_en_R) hS1 hz)
set_option maxRecDepth 100000 in
theorem pX5_174 {v : Int32} (C : mm_C G p s m args meth c RX5 cc nL ret) (hM : mm_P G R N M H) (hS : va_S (mm_A G) s.heap H locs) (ho : o < N) (hT : kT o = (0, 0)) (hdg : decode cc pc = .ok (.putfield 174, 3)) (kk : ∀ (H1 : Heap) (locs1 : List Loc), mm_P G R N (sI M o 8 v) H1 → va_S (mm_A G) s.heap H1 locs1 → H1.size = H.size → W p l e Rm s m args below meth c H1 locs1 cells slots Q (F0 m (pc + 3) ls rest)) : W p l e Rm s m args below meth c H locs cells slots Q (F0 m pc ls (.int v :: .ref (mm_lo G + o) :: rest)) := mm_put0 C hM hS ho (mm_e0 hT) rfl inX0 tyX0 tyX0_ok nmX0 (k := 8) (by decide) rfl (mq_1 94 rfl rfl) (Or.inl rfl) rfl rfl (Nat.le_of_ble_eq_true rfl) hdg (fun H1 locs1 ha oq hz hS1 => kk H1 locs1 (mm_upd hM oq (by rw [show mm_en G R (sI M o 8 v) o = .inr (0, [.int (M.1 o 0), .int (M.1 o 1), .int (M.1 o 2), .int (M.1 o 3), .int (M.1 o 4), .int (M.1 o 5), .int (M.1 o 6), .int (M.1 o 7), .int (M.1 o 8), .int (M.1 o 9), .int (M.1 o 10), .int (M.1 o 11), .long (M.2 o 12), .long (M.2 o 13), .long (M.2 o 14), .long (M.2 o 15), mm_q G (R o 16), mm_q G (R o 17)].set 8 (.int v)) by rw [mm_e0 hT]; simp [sI, mm_q] <;> rfl]; exact ha) mm_en_I) hS1 hz)
set_option maxRecDepth 100000 in
theorem pX5_177 {v : Int32} (C : mm_C G p s m args meth c RX5 cc nL ret) (hM : mm_P G R N M H) (hS : va_S (mm_A G) s.heap H locs) (ho : o < N) (hT : kT o = (3, 0)) (hdg : decode cc pc = .ok (.putfield 177, 3)) (kk : ∀ (H1 : Heap) (locs1 : List Loc), mm_P G R N (sI M o 3 v) H1 → va_S (mm_A G) s.heap H1 locs1 → H1.size = H.size → W p l e Rm s m args below meth c H1 locs1 cells slots Q (F0 m (pc + 3) ls rest)) : W p l e Rm s m args below meth c H locs cells slots Q (F0 m pc ls (.int v :: .ref (mm_lo G + o) :: rest)) := mm_put0 C hM hS ho (mm_e3 hT) rfl inX4 tyX4 tyX4_ok nmX4 (k := 3) (by decide) rfl (mq_1 49 rfl rfl) (Or.inl rfl) rfl rfl (Nat.le_of_ble_eq_true rfl) hdg (fun H1 locs1 ha oq hz hS1 => kk H1 locs1 (mm_upd hM oq (by rw [show mm_en G R (sI M o 3 v) o = .inr (3, [.int (M.1 o 0), .int (M.1 o 1), .int (M.1 o 2), .int (M.1 o 3)].set 3 (.int v)) by rw [mm_e3 hT]; simp [sI, mm_q] <;> rfl]; exact ha) mm_en_I) hS1 hz)
set_option maxRecDepth 100000 in
theorem pX5_21 {v : Nat} (C : mm_C G p s m args meth c RX5 cc nL ret) (hM : mm_P G R N M H) (hS : va_S (mm_A G) s.heap H locs) (ho : o < N) (hT : kT o = (4, 0)) (hin : meth.name = "<init>") (hdg : decode cc pc = .ok (.putfield 21, 3)) (kk : ∀ (H1 : Heap) (locs1 : List Loc), mm_P G (sR R o 8 (some v)) N M H1 → va_S (mm_A G) s.heap H1 locs1 → H1.size = H.size → W p l e Rm s m args below meth c H1 locs1 cells slots Q (F0 m (pc + 3) ls rest)) : W p l e Rm s m args below meth c H locs cells slots Q (F0 m pc ls (.ref (mm_lo G + v) :: .ref (mm_lo G + o) :: rest)) := mm_put0 C hM hS ho (mm_e4 hT) rfl inX5 tyX5 tyX5_ok nmX5 (k := 8) (by decide) rfl (mq_1 178 rfl rfl) (Or.inr ⟨rfl, hin, rfl⟩) rfl rfl (Nat.le_of_ble_eq_true rfl) hdg (fun H1 locs1 ha oq hz hS1 => kk H1 locs1 (mm_upd hM oq (by rw [show mm_en G (sR R o 8 (some v)) M o = .inr (4, [.int (M.1 o 0), .int (M.1 o 1), .int (M.1 o 2), .int (M.1 o 3), .int (M.1 o 4), .int (M.1 o 5), .int (M.1 o 6), mm_q G (R o 7), mm_q G (R o 8), mm_q G (R o 9), mm_q G (R o 10), mm_q G (R o 11), mm_q G (R o 12), mm_q G (R o 13), .int (M.1 o 14)].set 8 (.ref (mm_lo G + v))) by rw [mm_e4 hT]; simp [sR, mm_q] <;> rfl]; exact ha) mm_en_R) hS1 hz)
set_option maxRecDepth 100000 in
theorem pX5_27 {v : Nat} (C : mm_C G p s m args meth c RX5 cc nL ret) (hM : mm_P G R N M H) (hS : va_S (mm_A G) s.heap H locs) (ho : o < N) (hT : kT o = (4, 0)) (hin : meth.name = "<init>") (hdg : decode cc pc = .ok (.putfield 27, 3)) (kk : ∀ (H1 : Heap) (locs1 : List Loc), mm_P G (sR R o 9 (some v)) N M H1 → va_S (mm_A G) s.heap H1 locs1 → H1.size = H.size → W p l e Rm s m args below meth c H1 locs1 cells slots Q (F0 m (pc + 3) ls rest)) : W p l e Rm s m args below meth c H locs cells slots Q (F0 m pc ls (.ref (mm_lo G + v) :: .ref (mm_lo G + o) :: rest)) := mm_put0 C hM hS ho (mm_e4 hT) rfl inX5 tyX5 tyX5_ok nmX5 (k := 9) (by decide) rfl (mq_1 181 rfl rfl) (Or.inr ⟨rfl, hin, rfl⟩) rfl rfl (Nat.le_of_ble_eq_true rfl) hdg (fun H1 locs1 ha oq hz hS1 => kk H1 locs1 (mm_upd hM oq (by rw [show mm_en G (sR R o 9 (some v)) M o = .inr (4, [.int (M.1 o 0), .int (M.1 o 1), .int (M.1 o 2), .int (M.1 o 3), .int (M.1 o 4), .int (M.1 o 5), .int (M.1 o 6), mm_q G (R o 7), mm_q G (R o 8), mm_q G (R o 9), mm_q G (R o 10), mm_q G (R o 11), mm_q G (R o 12), mm_q G (R o 13), .int (M.1 o 14)].set 9 (.ref (mm_lo G + v))) by rw [mm_e4 hT]; simp [sR, mm_q] <;> rfl]; exact ha) mm_en_R) hS1 hz)
set_option maxRecDepth 100000 in
theorem pX5_31 {v : Nat} (C : mm_C G p s m args meth c RX5 cc nL ret) (hM : mm_P G R N M H) (hS : va_S (mm_A G) s.heap H locs) (ho : o < N) (hT : kT o = (4, 0)) (hin : meth.name = "<init>") (hdg : decode cc pc = .ok (.putfield 31, 3)) (kk : ∀ (H1 : Heap) (locs1 : List Loc), mm_P G (sR R o 10 (some v)) N M H1 → va_S (mm_A G) s.heap H1 locs1 → H1.size = H.size → W p l e Rm s m args below meth c H1 locs1 cells slots Q (F0 m (pc + 3) ls rest)) : W p l e Rm s m args below meth c H locs cells slots Q (F0 m pc ls (.ref (mm_lo G + v) :: .ref (mm_lo G + o) :: rest)) := mm_put0 C hM hS ho (mm_e4 hT) rfl inX5 tyX5 tyX5_ok nmX5 (k := 10) (by decide) rfl (mq_1 184 rfl rfl) (Or.inr ⟨rfl, hin, rfl⟩) rfl rfl (Nat.le_of_ble_eq_true rfl) hdg (fun H1 locs1 ha oq hz hS1 => kk H1 locs1 (mm_upd hM oq (by rw [show mm_en G (sR R o 10 (some v)) M o = .inr (4, [.int (M.1 o 0), .int (M.1 o 1), .int (M.1 o 2), .int (M.1 o 3), .int (M.1 o 4), .int (M.1 o 5), .int (M.1 o 6), mm_q G (R o 7), mm_q G (R o 8), mm_q G (R o 9), mm_q G (R o 10), mm_q G (R o 11), mm_q G (R o 12), mm_q G (R o 13), .int (M.1 o 14)].set 10 (.ref (mm_lo G + v))) by rw [mm_e4 hT]; simp [sR, mm_q] <;> rfl]; exact ha) mm_en_R) hS1 hz)
set_option maxRecDepth 100000 in
theorem pX5_34 {v : Nat} (C : mm_C G p s m args meth c RX5 cc nL ret) (hM : mm_P G R N M H) (hS : va_S (mm_A G) s.heap H locs) (ho : o < N) (hT : kT o = (4, 0)) (hin : meth.name = "<init>") (hdg : decode cc pc = .ok (.putfield 34, 3)) (kk : ∀ (H1 : Heap) (locs1 : List Loc), mm_P G (sR R o 11 (some v)) N M H1 → va_S (mm_A G) s.heap H1 locs1 → H1.size = H.size → W p l e Rm s m args below meth c H1 locs1 cells slots Q (F0 m (pc + 3) ls rest)) : W p l e Rm s m args below meth c H locs cells slots Q (F0 m pc ls (.ref (mm_lo G + v) :: .ref (mm_lo G + o) :: rest)) := mm_put0 C hM hS ho (mm_e4 hT) rfl inX5 tyX5 tyX5_ok nmX5 (k := 11) (by decide) rfl (mq_1 186 rfl rfl) (Or.inr ⟨rfl, hin, rfl⟩) rfl rfl (Nat.le_of_ble_eq_true rfl) hdg (fun H1 locs1 ha oq hz hS1 => kk H1 locs1 (mm_upd hM oq (by rw [show mm_en G (sR R o 11 (some v)) M o = .inr (4, [.int (M.1 o 0), .int (M.1 o 1), .int (M.1 o 2), .int (M.1 o 3), .int (M.1 o 4), .int (M.1 o 5), .int (M.1 o 6), mm_q G (R o 7), mm_q G (R o 8), mm_q G (R o 9), mm_q G (R o 10), mm_q G (R o 11), mm_q G (R o 12), mm_q G (R o 13), .int (M.1 o 14)].set 11 (.ref (mm_lo G + v))) by rw [mm_e4 hT]; simp [sR, mm_q] <;> rfl]; exact ha) mm_en_R) hS1 hz)
set_option maxRecDepth 100000 in
theorem pX5_37 {v : Nat} (C : mm_C G p s m args meth c RX5 cc nL ret) (hM : mm_P G R N M H) (hS : va_S (mm_A G) s.heap H locs) (ho : o < N) (hT : kT o = (4, 0)) (hin : meth.name = "<init>") (hdg : decode cc pc = .ok (.putfield 37, 3)) (kk : ∀ (H1 : Heap) (locs1 : List Loc), mm_P G (sR R o 12 (some v)) N M H1 → va_S (mm_A G) s.heap H1 locs1 → H1.size = H.size → W p l e Rm s m args below meth c H1 locs1 cells slots Q (F0 m (pc + 3) ls rest)) : W p l e Rm s m args below meth c H locs cells slots Q (F0 m pc ls (.ref (mm_lo G + v) :: .ref (mm_lo G + o) :: rest)) := mm_put0 C hM hS ho (mm_e4 hT) rfl inX5 tyX5 tyX5_ok nmX5 (k := 12) (by decide) rfl (mq_1 188 rfl rfl) (Or.inr ⟨rfl, hin, rfl⟩) rfl rfl (Nat.le_of_ble_eq_true rfl) hdg (fun H1 locs1 ha oq hz hS1 => kk H1 locs1 (mm_upd hM oq (by rw [show mm_en G (sR R o 12 (some v)) M o = .inr (4, [.int (M.1 o 0), .int (M.1 o 1), .int (M.1 o 2), .int (M.1 o 3), .int (M.1 o 4), .int (M.1 o 5), .int (M.1 o 6), mm_q G (R o 7), mm_q G (R o 8), mm_q G (R o 9), mm_q G (R o 10), mm_q G (R o 11), mm_q G (R o 12), mm_q G (R o 13), .int (M.1 o 14)].set 12 (.ref (mm_lo G + v))) by rw [mm_e4 hT]; simp [sR, mm_q] <;> rfl]; exact ha) mm_en_R) hS1 hz)
set_option maxRecDepth 100000 in
theorem pX5_40 {v : Nat} (C : mm_C G p s m args meth c RX5 cc nL ret) (hM : mm_P G R N M H) (hS : va_S (mm_A G) s.heap H locs) (ho : o < N) (hT : kT o = (4, 0)) (hin : meth.name = "<init>") (hdg : decode cc pc = .ok (.putfield 40, 3)) (kk : ∀ (H1 : Heap) (locs1 : List Loc), mm_P G (sR R o 13 (some v)) N M H1 → va_S (mm_A G) s.heap H1 locs1 → H1.size = H.size → W p l e Rm s m args below meth c H1 locs1 cells slots Q (F0 m (pc + 3) ls rest)) : W p l e Rm s m args below meth c H locs cells slots Q (F0 m pc ls (.ref (mm_lo G + v) :: .ref (mm_lo G + o) :: rest)) := mm_put0 C hM hS ho (mm_e4 hT) rfl inX5 tyX5 tyX5_ok nmX5 (k := 13) (by decide) rfl (mq_1 190 rfl rfl) (Or.inr ⟨rfl, hin, rfl⟩) rfl rfl (Nat.le_of_ble_eq_true rfl) hdg (fun H1 locs1 ha oq hz hS1 => kk H1 locs1 (mm_upd hM oq (by rw [show mm_en G (sR R o 13 (some v)) M o = .inr (4, [.int (M.1 o 0), .int (M.1 o 1), .int (M.1 o 2), .int (M.1 o 3), .int (M.1 o 4), .int (M.1 o 5), .int (M.1 o 6), mm_q G (R o 7), mm_q G (R o 8), mm_q G (R o 9), mm_q G (R o 10), mm_q G (R o 11), mm_q G (R o 12), mm_q G (R o 13), .int (M.1 o 14)].set 13 (.ref (mm_lo G + v))) by rw [mm_e4 hT]; simp [sR, mm_q] <;> rfl]; exact ha) mm_en_R) hS1 hz)
set_option maxRecDepth 100000 in
theorem pX5_48 {v : Int32} (C : mm_C G p s m args meth c RX5 cc nL ret) (hM : mm_P G R N M H) (hS : va_S (mm_A G) s.heap H locs) (ho : o < N) (hT : kT o = (4, 0)) (hdg : decode cc pc = .ok (.putfield 48, 3)) (kk : ∀ (H1 : Heap) (locs1 : List Loc), mm_P G R N (sI M o 0 v) H1 → va_S (mm_A G) s.heap H1 locs1 → H1.size = H.size → W p l e Rm s m args below meth c H1 locs1 cells slots Q (F0 m (pc + 3) ls rest)) : W p l e Rm s m args below meth c H locs cells slots Q (F0 m pc ls (.int v :: .ref (mm_lo G + o) :: rest)) := mm_put0 C hM hS ho (mm_e4 hT) rfl inX5 tyX5 tyX5_ok nmX5 (k := 0) (by decide) rfl (mq_1 156 rfl rfl) (Or.inl rfl) rfl rfl (Nat.le_of_ble_eq_true rfl) hdg (fun H1 locs1 ha oq hz hS1 => kk H1 locs1 (mm_upd hM oq (by rw [show mm_en G R (sI M o 0 v) o = .inr (4, [.int (M.1 o 0), .int (M.1 o 1), .int (M.1 o 2), .int (M.1 o 3), .int (M.1 o 4), .int (M.1 o 5), .int (M.1 o 6), mm_q G (R o 7), mm_q G (R o 8), mm_q G (R o 9), mm_q G (R o 10), mm_q G (R o 11), mm_q G (R o 12), mm_q G (R o 13), .int (M.1 o 14)].set 0 (.int v)) by rw [mm_e4 hT]; simp [sI, mm_q] <;> rfl]; exact ha) mm_en_I) hS1 hz)
set_option maxRecDepth 100000 in
theorem pX5_51 {v : Int32} (C : mm_C G p s m args meth c RX5 cc nL ret) (hM : mm_P G R N M H) (hS : va_S (mm_A G) s.heap H locs) (ho : o < N) (hT : kT o = (4, 0)) (hdg : decode cc pc = .ok (.putfield 51, 3)) (kk : ∀ (H1 : Heap) (locs1 : List Loc), mm_P G R N (sI M o 2 v) H1 → va_S (mm_A G) s.heap H1 locs1 → H1.size = H.size → W p l e Rm s m args below meth c H1 locs1 cells slots Q (F0 m (pc + 3) ls rest)) : W p l e Rm s m args below meth c H locs cells slots Q (F0 m pc ls (.int v :: .ref (mm_lo G + o) :: rest)) := mm_put0 C hM hS ho (mm_e4 hT) rfl inX5 tyX5 tyX5_ok nmX5 (k := 2) (by decide) rfl (mq_1 162 rfl rfl) (Or.inl rfl) rfl rfl (Nat.le_of_ble_eq_true rfl) hdg (fun H1 locs1 ha oq hz hS1 => kk H1 locs1 (mm_upd hM oq (by rw [show mm_en G R (sI M o 2 v) o = .inr (4, [.int (M.1 o 0), .int (M.1 o 1), .int (M.1 o 2), .int (M.1 o 3), .int (M.1 o 4), .int (M.1 o 5), .int (M.1 o 6), mm_q G (R o 7), mm_q G (R o 8), mm_q G (R o 9), mm_q G (R o 10), mm_q G (R o 11), mm_q G (R o 12), mm_q G (R o 13), .int (M.1 o 14)].set 2 (.int v)) by rw [mm_e4 hT]; simp [sI, mm_q] <;> rfl]; exact ha) mm_en_I) hS1 hz)
set_option maxRecDepth 100000 in
theorem pX5_54 {v : Int32} (C : mm_C G p s m args meth c RX5 cc nL ret) (hM : mm_P G R N M H) (hS : va_S (mm_A G) s.heap H locs) (ho : o < N) (hT : kT o = (4, 0)) (hdg : decode cc pc = .ok (.putfield 54, 3)) (kk : ∀ (H1 : Heap) (locs1 : List Loc), mm_P G R N (sI M o 3 v) H1 → va_S (mm_A G) s.heap H1 locs1 → H1.size = H.size → W p l e Rm s m args below meth c H1 locs1 cells slots Q (F0 m (pc + 3) ls rest)) : W p l e Rm s m args below meth c H locs cells slots Q (F0 m pc ls (.int v :: .ref (mm_lo G + o) :: rest)) := mm_put0 C hM hS ho (mm_e4 hT) rfl inX5 tyX5 tyX5_ok nmX5 (k := 3) (by decide) rfl (mq_1 165 rfl rfl) (Or.inl rfl) rfl rfl (Nat.le_of_ble_eq_true rfl) hdg (fun H1 locs1 ha oq hz hS1 => kk H1 locs1 (mm_upd hM oq (by rw [show mm_en G R (sI M o 3 v) o = .inr (4, [.int (M.1 o 0), .int (M.1 o 1), .int (M.1 o 2), .int (M.1 o 3), .int (M.1 o 4), .int (M.1 o 5), .int (M.1 o 6), mm_q G (R o 7), mm_q G (R o 8), mm_q G (R o 9), mm_q G (R o 10), mm_q G (R o 11), mm_q G (R o 12), mm_q G (R o 13), .int (M.1 o 14)].set 3 (.int v)) by rw [mm_e4 hT]; simp [sI, mm_q] <;> rfl]; exact ha) mm_en_I) hS1 hz)
set_option maxRecDepth 100000 in
theorem pX5_57 {v : Int32} (C : mm_C G p s m args meth c RX5 cc nL ret) (hM : mm_P G R N M H) (hS : va_S (mm_A G) s.heap H locs) (ho : o < N) (hT : kT o = (4, 0)) (hdg : decode cc pc = .ok (.putfield 57, 3)) (kk : ∀ (H1 : Heap) (locs1 : List Loc), mm_P G R N (sI M o 4 v) H1 → va_S (mm_A G) s.heap H1 locs1 → H1.size = H.size → W p l e Rm s m args below meth c H1 locs1 cells slots Q (F0 m (pc + 3) ls rest)) : W p l e Rm s m args below meth c H locs cells slots Q (F0 m pc ls (.int v :: .ref (mm_lo G + o) :: rest)) := mm_put0 C hM hS ho (mm_e4 hT) rfl inX5 tyX5 tyX5_ok nmX5 (k := 4) (by decide) rfl (mq_1 168 rfl rfl) (Or.inl rfl) rfl rfl (Nat.le_of_ble_eq_true rfl) hdg (fun H1 locs1 ha oq hz hS1 => kk H1 locs1 (mm_upd hM oq (by rw [show mm_en G R (sI M o 4 v) o = .inr (4, [.int (M.1 o 0), .int (M.1 o 1), .int (M.1 o 2), .int (M.1 o 3), .int (M.1 o 4), .int (M.1 o 5), .int (M.1 o 6), mm_q G (R o 7), mm_q G (R o 8), mm_q G (R o 9), mm_q G (R o 10), mm_q G (R o 11), mm_q G (R o 12), mm_q G (R o 13), .int (M.1 o 14)].set 4 (.int v)) by rw [mm_e4 hT]; simp [sI, mm_q] <;> rfl]; exact ha) mm_en_I) hS1 hz)
set_option maxRecDepth 100000 in
theorem pX5_60 {v : Int32} (C : mm_C G p s m args meth c RX5 cc nL ret) (hM : mm_P G R N M H) (hS : va_S (mm_A G) s.heap H locs) (ho : o < N) (hT : kT o = (4, 0)) (hdg : decode cc pc = .ok (.putfield 60, 3)) (kk : ∀ (H1 : Heap) (locs1 : List Loc), mm_P G R N (sI M o 5 v) H1 → va_S (mm_A G) s.heap H1 locs1 → H1.size = H.size → W p l e Rm s m args below meth c H1 locs1 cells slots Q (F0 m (pc + 3) ls rest)) : W p l e Rm s m args below meth c H locs cells slots Q (F0 m pc ls (.int v :: .ref (mm_lo G + o) :: rest)) := mm_put0 C hM hS ho (mm_e4 hT) rfl inX5 tyX5 tyX5_ok nmX5 (k := 5) (by decide) rfl (mq_1 171 rfl rfl) (Or.inl rfl) rfl rfl (Nat.le_of_ble_eq_true rfl) hdg (fun H1 locs1 ha oq hz hS1 => kk H1 locs1 (mm_upd hM oq (by rw [show mm_en G R (sI M o 5 v) o = .inr (4, [.int (M.1 o 0), .int (M.1 o 1), .int (M.1 o 2), .int (M.1 o 3), .int (M.1 o 4), .int (M.1 o 5), .int (M.1 o 6), mm_q G (R o 7), mm_q G (R o 8), mm_q G (R o 9), mm_q G (R o 10), mm_q G (R o 11), mm_q G (R o 12), mm_q G (R o 13), .int (M.1 o 14)].set 5 (.int v)) by rw [mm_e4 hT]; simp [sI, mm_q] <;> rfl]; exact ha) mm_en_I) hS1 hz)
set_option maxRecDepth 100000 in
theorem pX5_9 {v : Int32} (C : mm_C G p s m args meth c RX5 cc nL ret) (hM : mm_P G R N M H) (hS : va_S (mm_A G) s.heap H locs) (ho : o < N) (hT : kT o = (4, 0)) (hdg : decode cc pc = .ok (.putfield 9, 3)) (kk : ∀ (H1 : Heap) (locs1 : List Loc), mm_P G R N (sI M o 1 v) H1 → va_S (mm_A G) s.heap H1 locs1 → H1.size = H.size → W p l e Rm s m args below meth c H1 locs1 cells slots Q (F0 m (pc + 3) ls rest)) : W p l e Rm s m args below meth c H locs cells slots Q (F0 m pc ls (.int v :: .ref (mm_lo G + o) :: rest)) := mm_put0 C hM hS ho (mm_e4 hT) rfl inX5 tyX5 tyX5_ok nmX5 (k := 1) (by decide) rfl (mq_1 159 rfl rfl) (Or.inl rfl) rfl rfl (Nat.le_of_ble_eq_true rfl) hdg (fun H1 locs1 ha oq hz hS1 => kk H1 locs1 (mm_upd hM oq (by rw [show mm_en G R (sI M o 1 v) o = .inr (4, [.int (M.1 o 0), .int (M.1 o 1), .int (M.1 o 2), .int (M.1 o 3), .int (M.1 o 4), .int (M.1 o 5), .int (M.1 o 6), mm_q G (R o 7), mm_q G (R o 8), mm_q G (R o 9), mm_q G (R o 10), mm_q G (R o 11), mm_q G (R o 12), mm_q G (R o 13), .int (M.1 o 14)].set 1 (.int v)) by rw [mm_e4 hT]; simp [sI, mm_q] <;> rfl]; exact ha) mm_en_I) hS1 hz)
set_option maxRecDepth 100000 in
theorem pX5_91 {v : Int32} (C : mm_C G p s m args meth c RX5 cc nL ret) (hM : mm_P G R N M H) (hS : va_S (mm_A G) s.heap H locs) (ho : o < N) (hT : kT o = (3, 0)) (hdg : decode cc pc = .ok (.putfield 91, 3)) (kk : ∀ (H1 : Heap) (locs1 : List Loc), mm_P G R N (sI M o 0 v) H1 → va_S (mm_A G) s.heap H1 locs1 → H1.size = H.size → W p l e Rm s m args below meth c H1 locs1 cells slots Q (F0 m (pc + 3) ls rest)) : W p l e Rm s m args below meth c H locs cells slots Q (F0 m pc ls (.int v :: .ref (mm_lo G + o) :: rest)) := mm_put0 C hM hS ho (mm_e3 hT) rfl inX4 tyX4 tyX4_ok nmX4 (k := 0) (by decide) rfl (mq_1 37 rfl rfl) (Or.inl rfl) rfl rfl (Nat.le_of_ble_eq_true rfl) hdg (fun H1 locs1 ha oq hz hS1 => kk H1 locs1 (mm_upd hM oq (by rw [show mm_en G R (sI M o 0 v) o = .inr (3, [.int (M.1 o 0), .int (M.1 o 1), .int (M.1 o 2), .int (M.1 o 3)].set 0 (.int v)) by rw [mm_e3 hT]; simp [sI, mm_q] <;> rfl]; exact ha) mm_en_I) hS1 hz)
set_option maxRecDepth 100000 in
theorem pX6_10 {v : Nat} (C : mm_C G p s m args meth c RX6 cc nL ret) (hM : mm_P G R N M H) (hS : va_S (mm_A G) s.heap H locs) (ho : o < N) (hT : kT o = (5, 0)) (hin : meth.name = "<init>") (hdg : decode cc pc = .ok (.putfield 10, 3)) (kk : ∀ (H1 : Heap) (locs1 : List Loc), mm_P G (sR R o 0 (some v)) N M H1 → va_S (mm_A G) s.heap H1 locs1 → H1.size = H.size → W p l e Rm s m args below meth c H1 locs1 cells slots Q (F0 m (pc + 3) ls rest)) : W p l e Rm s m args below meth c H locs cells slots Q (F0 m pc ls (.ref (mm_lo G + v) :: .ref (mm_lo G + o) :: rest)) := mm_put0 C hM hS ho (mm_e5 hT) rfl inX6 tyX6 tyX6_ok nmX6 (k := 0) (by decide) rfl (mq_2 19 rfl rfl) (Or.inr ⟨rfl, hin, rfl⟩) rfl rfl (Nat.le_of_ble_eq_true rfl) hdg (fun H1 locs1 ha oq hz hS1 => kk H1 locs1 (mm_upd hM oq (by rw [show mm_en G (sR R o 0 (some v)) M o = .inr (5, [mm_q G (R o 0), mm_q G (R o 1), mm_q G (R o 2), mm_q G (R o 3), mm_q G (R o 4), mm_q G (R o 5)].set 0 (.ref (mm_lo G + v))) by rw [mm_e5 hT]; simp [sR, mm_q] <;> rfl]; exact ha) mm_en_R) hS1 hz)
set_option maxRecDepth 100000 in
theorem pX6_16 {v : Nat} (C : mm_C G p s m args meth c RX6 cc nL ret) (hM : mm_P G R N M H) (hS : va_S (mm_A G) s.heap H locs) (ho : o < N) (hT : kT o = (5, 0)) (hin : meth.name = "<init>") (hdg : decode cc pc = .ok (.putfield 16, 3)) (kk : ∀ (H1 : Heap) (locs1 : List Loc), mm_P G (sR R o 1 (some v)) N M H1 → va_S (mm_A G) s.heap H1 locs1 → H1.size = H.size → W p l e Rm s m args below meth c H1 locs1 cells slots Q (F0 m (pc + 3) ls rest)) : W p l e Rm s m args below meth c H locs cells slots Q (F0 m pc ls (.ref (mm_lo G + v) :: .ref (mm_lo G + o) :: rest)) := mm_put0 C hM hS ho (mm_e5 hT) rfl inX6 tyX6 tyX6_ok nmX6 (k := 1) (by decide) rfl (mq_2 20 rfl rfl) (Or.inr ⟨rfl, hin, rfl⟩) rfl rfl (Nat.le_of_ble_eq_true rfl) hdg (fun H1 locs1 ha oq hz hS1 => kk H1 locs1 (mm_upd hM oq (by rw [show mm_en G (sR R o 1 (some v)) M o = .inr (5, [mm_q G (R o 0), mm_q G (R o 1), mm_q G (R o 2), mm_q G (R o 3), mm_q G (R o 4), mm_q G (R o 5)].set 1 (.ref (mm_lo G + v))) by rw [mm_e5 hT]; simp [sR, mm_q] <;> rfl]; exact ha) mm_en_R) hS1 hz)
set_option maxRecDepth 100000 in
theorem pX6_212 {v : Int32} (C : mm_C G p s m args meth c RX6 cc nL ret) (hM : mm_P G R N M H) (hS : va_S (mm_A G) s.heap H locs) (ho : o < N) (hT : kT o = (2, 0)) (hdg : decode cc pc = .ok (.putfield 212, 3)) (kk : ∀ (H1 : Heap) (locs1 : List Loc), mm_P G R N (sI M o 1 v) H1 → va_S (mm_A G) s.heap H1 locs1 → H1.size = H.size → W p l e Rm s m args below meth c H1 locs1 cells slots Q (F0 m (pc + 3) ls rest)) : W p l e Rm s m args below meth c H locs cells slots Q (F0 m pc ls (.int v :: .ref (mm_lo G + o) :: rest)) := mm_put0 C hM hS ho (mm_e2 hT) rfl inX3 tyX3 tyX3_ok nmX3 (k := 1) (by decide) rfl (mq_2 12 rfl rfl) (Or.inl rfl) rfl rfl (Nat.le_of_ble_eq_true rfl) hdg (fun H1 locs1 ha oq hz hS1 => kk H1 locs1 (mm_upd hM oq (by rw [show mm_en G R (sI M o 1 v) o = .inr (2, [mm_q G (R o 0), .int (M.1 o 1)].set 1 (.int v)) by rw [mm_e2 hT]; simp [sI, mm_q] <;> rfl]; exact ha) mm_en_I) hS1 hz)
set_option maxRecDepth 100000 in
theorem pX6_22 {v : Nat} (C : mm_C G p s m args meth c RX6 cc nL ret) (hM : mm_P G R N M H) (hS : va_S (mm_A G) s.heap H locs) (ho : o < N) (hT : kT o = (5, 0)) (hin : meth.name = "<init>") (hdg : decode cc pc = .ok (.putfield 22, 3)) (kk : ∀ (H1 : Heap) (locs1 : List Loc), mm_P G (sR R o 2 (some v)) N M H1 → va_S (mm_A G) s.heap H1 locs1 → H1.size = H.size → W p l e Rm s m args below meth c H1 locs1 cells slots Q (F0 m (pc + 3) ls rest)) : W p l e Rm s m args below meth c H locs cells slots Q (F0 m pc ls (.ref (mm_lo G + v) :: .ref (mm_lo G + o) :: rest)) := mm_put0 C hM hS ho (mm_e5 hT) rfl inX6 tyX6 tyX6_ok nmX6 (k := 2) (by decide) rfl (mq_2 21 rfl rfl) (Or.inr ⟨rfl, hin, rfl⟩) rfl rfl (Nat.le_of_ble_eq_true rfl) hdg (fun H1 locs1 ha oq hz hS1 => kk H1 locs1 (mm_upd hM oq (by rw [show mm_en G (sR R o 2 (some v)) M o = .inr (5, [mm_q G (R o 0), mm_q G (R o 1), mm_q G (R o 2), mm_q G (R o 3), mm_q G (R o 4), mm_q G (R o 5)].set 2 (.ref (mm_lo G + v))) by rw [mm_e5 hT]; simp [sR, mm_q] <;> rfl]; exact ha) mm_en_R) hS1 hz)
set_option maxRecDepth 100000 in
theorem pX6_258 {v : Int32} (C : mm_C G p s m args meth c RX6 cc nL ret) (hM : mm_P G R N M H) (hS : va_S (mm_A G) s.heap H locs) (ho : o < N) (hT : kT o = (4, 0)) (hn : v = 0 ∨ v = 1) (hdg : decode cc pc = .ok (.putfield 258, 3)) (kk : ∀ (H1 : Heap) (locs1 : List Loc), mm_P G R N (sI M o 6 v) H1 → va_S (mm_A G) s.heap H1 locs1 → H1.size = H.size → W p l e Rm s m args below meth c H1 locs1 cells slots Q (F0 m (pc + 3) ls rest)) : W p l e Rm s m args below meth c H locs cells slots Q (F0 m pc ls (.int v :: .ref (mm_lo G + o) :: rest)) := mm_put0 C hM hS ho (mm_e4 hT) rfl inX5 tyX5 tyX5_ok nmX5 (k := 6) (by decide) rfl (mq_1 174 rfl rfl) (Or.inl rfl) (nb01 hn) (fb01 hn) (Nat.le_of_ble_eq_true rfl) hdg (fun H1 locs1 ha oq hz hS1 => kk H1 locs1 (mm_upd hM oq (by rw [show mm_en G R (sI M o 6 v) o = .inr (4, [.int (M.1 o 0), .int (M.1 o 1), .int (M.1 o 2), .int (M.1 o 3), .int (M.1 o 4), .int (M.1 o 5), .int (M.1 o 6), mm_q G (R o 7), mm_q G (R o 8), mm_q G (R o 9), mm_q G (R o 10), mm_q G (R o 11), mm_q G (R o 12), mm_q G (R o 13), .int (M.1 o 14)].set 6 (.int v)) by rw [mm_e4 hT]; simp [sI, mm_q] <;> rfl]; exact ha) mm_en_I) hS1 hz)
set_option maxRecDepth 100000 in
theorem pX6_26 {v : Nat} (C : mm_C G p s m args meth c RX6 cc nL ret) (hM : mm_P G R N M H) (hS : va_S (mm_A G) s.heap H locs) (ho : o < N) (hT : kT o = (5, 0)) (hin : meth.name = "<init>") (hdg : decode cc pc = .ok (.putfield 26, 3)) (kk : ∀ (H1 : Heap) (locs1 : List Loc), mm_P G (sR R o 3 (some v)) N M H1 → va_S (mm_A G) s.heap H1 locs1 → H1.size = H.size → W p l e Rm s m args below meth c H1 locs1 cells slots Q (F0 m (pc + 3) ls rest)) : W p l e Rm s m args below meth c H locs cells slots Q (F0 m pc ls (.ref (mm_lo G + v) :: .ref (mm_lo G + o) :: rest)) := mm_put0 C hM hS ho (mm_e5 hT) rfl inX6 tyX6 tyX6_ok nmX6 (k := 3) (by decide) rfl (mq_2 22 rfl rfl) (Or.inr ⟨rfl, hin, rfl⟩) rfl rfl (Nat.le_of_ble_eq_true rfl) hdg (fun H1 locs1 ha oq hz hS1 => kk H1 locs1 (mm_upd hM oq (by rw [show mm_en G (sR R o 3 (some v)) M o = .inr (5, [mm_q G (R o 0), mm_q G (R o 1), mm_q G (R o 2), mm_q G (R o 3), mm_q G (R o 4), mm_q G (R o 5)].set 3 (.ref (mm_lo G + v))) by rw [mm_e5 hT]; simp [sR, mm_q] <;> rfl]; exact ha) mm_en_R) hS1 hz)
set_option maxRecDepth 100000 in
theorem pX6_29 {v : Nat} (C : mm_C G p s m args meth c RX6 cc nL ret) (hM : mm_P G R N M H) (hS : va_S (mm_A G) s.heap H locs) (ho : o < N) (hT : kT o = (5, 0)) (hin : meth.name = "<init>") (hdg : decode cc pc = .ok (.putfield 29, 3)) (kk : ∀ (H1 : Heap) (locs1 : List Loc), mm_P G (sR R o 4 (some v)) N M H1 → va_S (mm_A G) s.heap H1 locs1 → H1.size = H.size → W p l e Rm s m args below meth c H1 locs1 cells slots Q (F0 m (pc + 3) ls rest)) : W p l e Rm s m args below meth c H locs cells slots Q (F0 m pc ls (.ref (mm_lo G + v) :: .ref (mm_lo G + o) :: rest)) := mm_put0 C hM hS ho (mm_e5 hT) rfl inX6 tyX6 tyX6_ok nmX6 (k := 4) (by decide) rfl (mq_2 23 rfl rfl) (Or.inr ⟨rfl, hin, rfl⟩) rfl rfl (Nat.le_of_ble_eq_true rfl) hdg (fun H1 locs1 ha oq hz hS1 => kk H1 locs1 (mm_upd hM oq (by rw [show mm_en G (sR R o 4 (some v)) M o = .inr (5, [mm_q G (R o 0), mm_q G (R o 1), mm_q G (R o 2), mm_q G (R o 3), mm_q G (R o 4), mm_q G (R o 5)].set 4 (.ref (mm_lo G + v))) by rw [mm_e5 hT]; simp [sR, mm_q] <;> rfl]; exact ha) mm_en_R) hS1 hz)
set_option maxRecDepth 100000 in
theorem pX6_35 {v : Nat} (C : mm_C G p s m args meth c RX6 cc nL ret) (hM : mm_P G R N M H) (hS : va_S (mm_A G) s.heap H locs) (ho : o < N) (hT : kT o = (5, 0)) (hin : meth.name = "<init>") (hdg : decode cc pc = .ok (.putfield 35, 3)) (kk : ∀ (H1 : Heap) (locs1 : List Loc), mm_P G (sR R o 5 (some v)) N M H1 → va_S (mm_A G) s.heap H1 locs1 → H1.size = H.size → W p l e Rm s m args below meth c H1 locs1 cells slots Q (F0 m (pc + 3) ls rest)) : W p l e Rm s m args below meth c H locs cells slots Q (F0 m pc ls (.ref (mm_lo G + v) :: .ref (mm_lo G + o) :: rest)) := mm_put0 C hM hS ho (mm_e5 hT) rfl inX6 tyX6 tyX6_ok nmX6 (k := 5) (by decide) rfl (mq_2 24 rfl rfl) (Or.inr ⟨rfl, hin, rfl⟩) rfl rfl (Nat.le_of_ble_eq_true rfl) hdg (fun H1 locs1 ha oq hz hS1 => kk H1 locs1 (mm_upd hM oq (by rw [show mm_en G (sR R o 5 (some v)) M o = .inr (5, [mm_q G (R o 0), mm_q G (R o 1), mm_q G (R o 2), mm_q G (R o 3), mm_q G (R o 4), mm_q G (R o 5)].set 5 (.ref (mm_lo G + v))) by rw [mm_e5 hT]; simp [sR, mm_q] <;> rfl]; exact ha) mm_en_R) hS1 hz)
set_option maxRecDepth 100000 in
theorem pX7_13 {v : Nat} (C : mm_C G p s m args meth c RX7 cc nL ret) (hM : mm_P G R N M H) (hS : va_S (mm_A G) s.heap H locs) (ho : o < N) (hT : kT o = (6, 0)) (hin : meth.name = "<init>") (hdg : decode cc pc = .ok (.putfield 13, 3)) (kk : ∀ (H1 : Heap) (locs1 : List Loc), mm_P G (sR R o 1 (some v)) N M H1 → va_S (mm_A G) s.heap H1 locs1 → H1.size = H.size → W p l e Rm s m args below meth c H1 locs1 cells slots Q (F0 m (pc + 3) ls rest)) : W p l e Rm s m args below meth c H locs cells slots Q (F0 m pc ls (.ref (mm_lo G + v) :: .ref (mm_lo G + o) :: rest)) := mm_put0 C hM hS ho (mm_e6 hT) rfl inX7 tyX7 tyX7_ok nmX7 (k := 1) (by decide) rfl (mq_3 194 rfl rfl) (Or.inr ⟨rfl, hin, rfl⟩) rfl rfl (Nat.le_of_ble_eq_true rfl) hdg (fun H1 locs1 ha oq hz hS1 => kk H1 locs1 (mm_upd hM oq (by rw [show mm_en G (sR R o 1 (some v)) M o = .inr (6, [mm_q G (R o 0), mm_q G (R o 1), .int (M.1 o 2), mm_q G (R o 3), mm_q G (R o 4), mm_q G (R o 5), mm_q G (R o 6), .int (M.1 o 7), .int (M.1 o 8), .int (M.1 o 9), .int (M.1 o 10), .int (M.1 o 11), .int (M.1 o 12), mm_q G (R o 13), mm_q G (R o 14)].set 1 (.ref (mm_lo G + v))) by rw [mm_e6 hT]; simp [sR, mm_q] <;> rfl]; exact ha) mm_en_R) hS1 hz)
set_option maxRecDepth 100000 in
theorem pX7_139 {v : Int32} (C : mm_C G p s m args meth c RX7 cc nL ret) (hM : mm_P G R N M H) (hS : va_S (mm_A G) s.heap H locs) (ho : o < N) (hT : kT o = (6, 0)) (hdg : decode cc pc = .ok (.putfield 139, 3)) (kk : ∀ (H1 : Heap) (locs1 : List Loc), mm_P G R N (sI M o 8 v) H1 → va_S (mm_A G) s.heap H1 locs1 → H1.size = H.size → W p l e Rm s m args below meth c H1 locs1 cells slots Q (F0 m (pc + 3) ls rest)) : W p l e Rm s m args below meth c H locs cells slots Q (F0 m pc ls (.int v :: .ref (mm_lo G + o) :: rest)) := mm_put0 C hM hS ho (mm_e6 hT) rfl inX7 tyX7 tyX7_ok nmX7 (k := 8) (by decide) rfl (mq_3 201 rfl rfl) (Or.inl rfl) rfl rfl (Nat.le_of_ble_eq_true rfl) hdg (fun H1 locs1 ha oq hz hS1 => kk H1 locs1 (mm_upd hM oq (by rw [show mm_en G R (sI M o 8 v) o = .inr (6, [mm_q G (R o 0), mm_q G (R o 1), .int (M.1 o 2), mm_q G (R o 3), mm_q G (R o 4), mm_q G (R o 5), mm_q G (R o 6), .int (M.1 o 7), .int (M.1 o 8), .int (M.1 o 9), .int (M.1 o 10), .int (M.1 o 11), .int (M.1 o 12), mm_q G (R o 13), mm_q G (R o 14)].set 8 (.int v)) by rw [mm_e6 hT]; simp [sI, mm_q] <;> rfl]; exact ha) mm_en_I) hS1 hz)
set_option maxRecDepth 100000 in
theorem pX7_142 {v : Int32} (C : mm_C G p s m args meth c RX7 cc nL ret) (hM : mm_P G R N M H) (hS : va_S (mm_A G) s.heap H locs) (ho : o < N) (hT : kT o = (6, 0)) (hdg : decode cc pc = .ok (.putfield 142, 3)) (kk : ∀ (H1 : Heap) (locs1 : List Loc), mm_P G R N (sI M o 9 v) H1 → va_S (mm_A G) s.heap H1 locs1 → H1.size = H.size → W p l e Rm s m args below meth c H1 locs1 cells slots Q (F0 m (pc + 3) ls rest)) : W p l e Rm s m args below meth c H locs cells slots Q (F0 m pc ls (.int v :: .ref (mm_lo G + o) :: rest)) := mm_put0 C hM hS ho (mm_e6 hT) rfl inX7 tyX7 tyX7_ok nmX7 (k := 9) (by decide) rfl (mq_3 202 rfl rfl) (Or.inl rfl) rfl rfl (Nat.le_of_ble_eq_true rfl) hdg (fun H1 locs1 ha oq hz hS1 => kk H1 locs1 (mm_upd hM oq (by rw [show mm_en G R (sI M o 9 v) o = .inr (6, [mm_q G (R o 0), mm_q G (R o 1), .int (M.1 o 2), mm_q G (R o 3), mm_q G (R o 4), mm_q G (R o 5), mm_q G (R o 6), .int (M.1 o 7), .int (M.1 o 8), .int (M.1 o 9), .int (M.1 o 10), .int (M.1 o 11), .int (M.1 o 12), mm_q G (R o 13), mm_q G (R o 14)].set 9 (.int v)) by rw [mm_e6 hT]; simp [sI, mm_q] <;> rfl]; exact ha) mm_en_I) hS1 hz)
set_option maxRecDepth 100000 in
theorem pX7_16 {v : Nat} (C : mm_C G p s m args meth c RX7 cc nL ret) (hM : mm_P G R N M H) (hS : va_S (mm_A G) s.heap H locs) (ho : o < N) (hT : kT o = (6, 0)) (hin : meth.name = "<init>") (hdg : decode cc pc = .ok (.putfield 16, 3)) (kk : ∀ (H1 : Heap) (locs1 : List Loc), mm_P G (sR R o 3 (some v)) N M H1 → va_S (mm_A G) s.heap H1 locs1 → H1.size = H.size → W p l e Rm s m args below meth c H1 locs1 cells slots Q (F0 m (pc + 3) ls rest)) : W p l e Rm s m args below meth c H locs cells slots Q (F0 m pc ls (.ref (mm_lo G + v) :: .ref (mm_lo G + o) :: rest)) := mm_put0 C hM hS ho (mm_e6 hT) rfl inX7 tyX7 tyX7_ok nmX7 (k := 3) (by decide) rfl (mq_3 196 rfl rfl) (Or.inr ⟨rfl, hin, rfl⟩) rfl rfl (Nat.le_of_ble_eq_true rfl) hdg (fun H1 locs1 ha oq hz hS1 => kk H1 locs1 (mm_upd hM oq (by rw [show mm_en G (sR R o 3 (some v)) M o = .inr (6, [mm_q G (R o 0), mm_q G (R o 1), .int (M.1 o 2), mm_q G (R o 3), mm_q G (R o 4), mm_q G (R o 5), mm_q G (R o 6), .int (M.1 o 7), .int (M.1 o 8), .int (M.1 o 9), .int (M.1 o 10), .int (M.1 o 11), .int (M.1 o 12), mm_q G (R o 13), mm_q G (R o 14)].set 3 (.ref (mm_lo G + v))) by rw [mm_e6 hT]; simp [sR, mm_q] <;> rfl]; exact ha) mm_en_R) hS1 hz)
set_option maxRecDepth 100000 in
theorem pX7_179 {v : Int32} (C : mm_C G p s m args meth c RX7 cc nL ret) (hM : mm_P G R N M H) (hS : va_S (mm_A G) s.heap H locs) (ho : o < N) (hT : kT o = (6, 0)) (hdg : decode cc pc = .ok (.putfield 179, 3)) (kk : ∀ (H1 : Heap) (locs1 : List Loc), mm_P G R N (sI M o 7 v) H1 → va_S (mm_A G) s.heap H1 locs1 → H1.size = H.size → W p l e Rm s m args below meth c H1 locs1 cells slots Q (F0 m (pc + 3) ls rest)) : W p l e Rm s m args below meth c H locs cells slots Q (F0 m pc ls (.int v :: .ref (mm_lo G + o) :: rest)) := mm_put0 C hM hS ho (mm_e6 hT) rfl inX7 tyX7 tyX7_ok nmX7 (k := 7) (by decide) rfl (mq_3 200 rfl rfl) (Or.inl rfl) rfl rfl (Nat.le_of_ble_eq_true rfl) hdg (fun H1 locs1 ha oq hz hS1 => kk H1 locs1 (mm_upd hM oq (by rw [show mm_en G R (sI M o 7 v) o = .inr (6, [mm_q G (R o 0), mm_q G (R o 1), .int (M.1 o 2), mm_q G (R o 3), mm_q G (R o 4), mm_q G (R o 5), mm_q G (R o 6), .int (M.1 o 7), .int (M.1 o 8), .int (M.1 o 9), .int (M.1 o 10), .int (M.1 o 11), .int (M.1 o 12), mm_q G (R o 13), mm_q G (R o 14)].set 7 (.int v)) by rw [mm_e6 hT]; simp [sI, mm_q] <;> rfl]; exact ha) mm_en_I) hS1 hz)
set_option maxRecDepth 100000 in
theorem pX7_19 {v : Nat} (C : mm_C G p s m args meth c RX7 cc nL ret) (hM : mm_P G R N M H) (hS : va_S (mm_A G) s.heap H locs) (ho : o < N) (hT : kT o = (6, 0)) (hin : meth.name = "<init>") (hdg : decode cc pc = .ok (.putfield 19, 3)) (kk : ∀ (H1 : Heap) (locs1 : List Loc), mm_P G (sR R o 4 (some v)) N M H1 → va_S (mm_A G) s.heap H1 locs1 → H1.size = H.size → W p l e Rm s m args below meth c H1 locs1 cells slots Q (F0 m (pc + 3) ls rest)) : W p l e Rm s m args below meth c H locs cells slots Q (F0 m pc ls (.ref (mm_lo G + v) :: .ref (mm_lo G + o) :: rest)) := mm_put0 C hM hS ho (mm_e6 hT) rfl inX7 tyX7 tyX7_ok nmX7 (k := 4) (by decide) rfl (mq_3 197 rfl rfl) (Or.inr ⟨rfl, hin, rfl⟩) rfl rfl (Nat.le_of_ble_eq_true rfl) hdg (fun H1 locs1 ha oq hz hS1 => kk H1 locs1 (mm_upd hM oq (by rw [show mm_en G (sR R o 4 (some v)) M o = .inr (6, [mm_q G (R o 0), mm_q G (R o 1), .int (M.1 o 2), mm_q G (R o 3), mm_q G (R o 4), mm_q G (R o 5), mm_q G (R o 6), .int (M.1 o 7), .int (M.1 o 8), .int (M.1 o 9), .int (M.1 o 10), .int (M.1 o 11), .int (M.1 o 12), mm_q G (R o 13), mm_q G (R o 14)].set 4 (.ref (mm_lo G + v))) by rw [mm_e6 hT]; simp [sR, mm_q] <;> rfl]; exact ha) mm_en_R) hS1 hz)
set_option maxRecDepth 100000 in
theorem pX7_193 {v : Int32} (C : mm_C G p s m args meth c RX7 cc nL ret) (hM : mm_P G R N M H) (hS : va_S (mm_A G) s.heap H locs) (ho : o < N) (hT : kT o = (6, 0)) (hdg : decode cc pc = .ok (.putfield 193, 3)) (kk : ∀ (H1 : Heap) (locs1 : List Loc), mm_P G R N (sI M o 10 v) H1 → va_S (mm_A G) s.heap H1 locs1 → H1.size = H.size → W p l e Rm s m args below meth c H1 locs1 cells slots Q (F0 m (pc + 3) ls rest)) : W p l e Rm s m args below meth c H locs cells slots Q (F0 m pc ls (.int v :: .ref (mm_lo G + o) :: rest)) := mm_put0 C hM hS ho (mm_e6 hT) rfl inX7 tyX7 tyX7_ok nmX7 (k := 10) (by decide) rfl (mq_3 203 rfl rfl) (Or.inl rfl) rfl rfl (Nat.le_of_ble_eq_true rfl) hdg (fun H1 locs1 ha oq hz hS1 => kk H1 locs1 (mm_upd hM oq (by rw [show mm_en G R (sI M o 10 v) o = .inr (6, [mm_q G (R o 0), mm_q G (R o 1), .int (M.1 o 2), mm_q G (R o 3), mm_q G (R o 4), mm_q G (R o 5), mm_q G (R o 6), .int (M.1 o 7), .int (M.1 o 8), .int (M.1 o 9), .int (M.1 o 10), .int (M.1 o 11), .int (M.1 o 12), mm_q G (R o 13), mm_q G (R o 14)].set 10 (.int v)) by rw [mm_e6 hT]; simp [sI, mm_q] <;> rfl]; exact ha) mm_en_I) hS1 hz)
set_option maxRecDepth 100000 in
theorem pX7_196 {v : Int32} (C : mm_C G p s m args meth c RX7 cc nL ret) (hM : mm_P G R N M H) (hS : va_S (mm_A G) s.heap H locs) (ho : o < N) (hT : kT o = (6, 0)) (hn : v = 0 ∨ v = 1) (hdg : decode cc pc = .ok (.putfield 196, 3)) (kk : ∀ (H1 : Heap) (locs1 : List Loc), mm_P G R N (sI M o 11 v) H1 → va_S (mm_A G) s.heap H1 locs1 → H1.size = H.size → W p l e Rm s m args below meth c H1 locs1 cells slots Q (F0 m (pc + 3) ls rest)) : W p l e Rm s m args below meth c H locs cells slots Q (F0 m pc ls (.int v :: .ref (mm_lo G + o) :: rest)) := mm_put0 C hM hS ho (mm_e6 hT) rfl inX7 tyX7 tyX7_ok nmX7 (k := 11) (by decide) rfl (mq_3 204 rfl rfl) (Or.inl rfl) (nb01 hn) (fb01 hn) (Nat.le_of_ble_eq_true rfl) hdg (fun H1 locs1 ha oq hz hS1 => kk H1 locs1 (mm_upd hM oq (by rw [show mm_en G R (sI M o 11 v) o = .inr (6, [mm_q G (R o 0), mm_q G (R o 1), .int (M.1 o 2), mm_q G (R o 3), mm_q G (R o 4), mm_q G (R o 5), mm_q G (R o 6), .int (M.1 o 7), .int (M.1 o 8), .int (M.1 o 9), .int (M.1 o 10), .int (M.1 o 11), .int (M.1 o 12), mm_q G (R o 13), mm_q G (R o 14)].set 11 (.int v)) by rw [mm_e6 hT]; simp [sI, mm_q] <;> rfl]; exact ha) mm_en_I) hS1 hz)
set_option maxRecDepth 100000 in
theorem pX7_203 {v : Int32} (C : mm_C G p s m args meth c RX7 cc nL ret) (hM : mm_P G R N M H) (hS : va_S (mm_A G) s.heap H locs) (ho : o < N) (hT : kT o = (6, 0)) (hdg : decode cc pc = .ok (.putfield 203, 3)) (kk : ∀ (H1 : Heap) (locs1 : List Loc), mm_P G R N (sI M o 12 v) H1 → va_S (mm_A G) s.heap H1 locs1 → H1.size = H.size → W p l e Rm s m args below meth c H1 locs1 cells slots Q (F0 m (pc + 3) ls rest)) : W p l e Rm s m args below meth c H locs cells slots Q (F0 m pc ls (.int v :: .ref (mm_lo G + o) :: rest)) := mm_put0 C hM hS ho (mm_e6 hT) rfl inX7 tyX7 tyX7_ok nmX7 (k := 12) (by decide) rfl (mq_3 205 rfl rfl) (Or.inl rfl) rfl rfl (Nat.le_of_ble_eq_true rfl) hdg (fun H1 locs1 ha oq hz hS1 => kk H1 locs1 (mm_upd hM oq (by rw [show mm_en G R (sI M o 12 v) o = .inr (6, [mm_q G (R o 0), mm_q G (R o 1), .int (M.1 o 2), mm_q G (R o 3), mm_q G (R o 4), mm_q G (R o 5), mm_q G (R o 6), .int (M.1 o 7), .int (M.1 o 8), .int (M.1 o 9), .int (M.1 o 10), .int (M.1 o 11), .int (M.1 o 12), mm_q G (R o 13), mm_q G (R o 14)].set 12 (.int v)) by rw [mm_e6 hT]; simp [sI, mm_q] <;> rfl]; exact ha) mm_en_I) hS1 hz)
set_option maxRecDepth 100000 in
theorem pX7_23 {v : Nat} (C : mm_C G p s m args meth c RX7 cc nL ret) (hM : mm_P G R N M H) (hS : va_S (mm_A G) s.heap H locs) (ho : o < N) (hT : kT o = (6, 0)) (hin : meth.name = "<init>") (hdg : decode cc pc = .ok (.putfield 23, 3)) (kk : ∀ (H1 : Heap) (locs1 : List Loc), mm_P G (sR R o 5 (some v)) N M H1 → va_S (mm_A G) s.heap H1 locs1 → H1.size = H.size → W p l e Rm s m args below meth c H1 locs1 cells slots Q (F0 m (pc + 3) ls rest)) : W p l e Rm s m args below meth c H locs cells slots Q (F0 m pc ls (.ref (mm_lo G + v) :: .ref (mm_lo G + o) :: rest)) := mm_put0 C hM hS ho (mm_e6 hT) rfl inX7 tyX7 tyX7_ok nmX7 (k := 5) (by decide) rfl (mq_3 198 rfl rfl) (Or.inr ⟨rfl, hin, rfl⟩) rfl rfl (Nat.le_of_ble_eq_true rfl) hdg (fun H1 locs1 ha oq hz hS1 => kk H1 locs1 (mm_upd hM oq (by rw [show mm_en G (sR R o 5 (some v)) M o = .inr (6, [mm_q G (R o 0), mm_q G (R o 1), .int (M.1 o 2), mm_q G (R o 3), mm_q G (R o 4), mm_q G (R o 5), mm_q G (R o 6), .int (M.1 o 7), .int (M.1 o 8), .int (M.1 o 9), .int (M.1 o 10), .int (M.1 o 11), .int (M.1 o 12), mm_q G (R o 13), mm_q G (R o 14)].set 5 (.ref (mm_lo G + v))) by rw [mm_e6 hT]; simp [sR, mm_q] <;> rfl]; exact ha) mm_en_R) hS1 hz)
set_option maxRecDepth 100000 in
theorem pX7_26 {v : Nat} (C : mm_C G p s m args meth c RX7 cc nL ret) (hM : mm_P G R N M H) (hS : va_S (mm_A G) s.heap H locs) (ho : o < N) (hT : kT o = (6, 0)) (hin : meth.name = "<init>") (hdg : decode cc pc = .ok (.putfield 26, 3)) (kk : ∀ (H1 : Heap) (locs1 : List Loc), mm_P G (sR R o 6 (some v)) N M H1 → va_S (mm_A G) s.heap H1 locs1 → H1.size = H.size → W p l e Rm s m args below meth c H1 locs1 cells slots Q (F0 m (pc + 3) ls rest)) : W p l e Rm s m args below meth c H locs cells slots Q (F0 m pc ls (.ref (mm_lo G + v) :: .ref (mm_lo G + o) :: rest)) := mm_put0 C hM hS ho (mm_e6 hT) rfl inX7 tyX7 tyX7_ok nmX7 (k := 6) (by decide) rfl (mq_3 199 rfl rfl) (Or.inr ⟨rfl, hin, rfl⟩) rfl rfl (Nat.le_of_ble_eq_true rfl) hdg (fun H1 locs1 ha oq hz hS1 => kk H1 locs1 (mm_upd hM oq (by rw [show mm_en G (sR R o 6 (some v)) M o = .inr (6, [mm_q G (R o 0), mm_q G (R o 1), .int (M.1 o 2), mm_q G (R o 3), mm_q G (R o 4), mm_q G (R o 5), mm_q G (R o 6), .int (M.1 o 7), .int (M.1 o 8), .int (M.1 o 9), .int (M.1 o 10), .int (M.1 o 11), .int (M.1 o 12), mm_q G (R o 13), mm_q G (R o 14)].set 6 (.ref (mm_lo G + v))) by rw [mm_e6 hT]; simp [sR, mm_q] <;> rfl]; exact ha) mm_en_R) hS1 hz)
set_option maxRecDepth 100000 in
theorem pX7_29 {v : Nat} (C : mm_C G p s m args meth c RX7 cc nL ret) (hM : mm_P G R N M H) (hS : va_S (mm_A G) s.heap H locs) (ho : o < N) (hT : kT o = (6, 0)) (hin : meth.name = "<init>") (hdg : decode cc pc = .ok (.putfield 29, 3)) (kk : ∀ (H1 : Heap) (locs1 : List Loc), mm_P G (sR R o 13 (some v)) N M H1 → va_S (mm_A G) s.heap H1 locs1 → H1.size = H.size → W p l e Rm s m args below meth c H1 locs1 cells slots Q (F0 m (pc + 3) ls rest)) : W p l e Rm s m args below meth c H locs cells slots Q (F0 m pc ls (.ref (mm_lo G + v) :: .ref (mm_lo G + o) :: rest)) := mm_put0 C hM hS ho (mm_e6 hT) rfl inX7 tyX7 tyX7_ok nmX7 (k := 13) (by decide) rfl (mq_3 206 rfl rfl) (Or.inr ⟨rfl, hin, rfl⟩) rfl rfl (Nat.le_of_ble_eq_true rfl) hdg (fun H1 locs1 ha oq hz hS1 => kk H1 locs1 (mm_upd hM oq (by rw [show mm_en G (sR R o 13 (some v)) M o = .inr (6, [mm_q G (R o 0), mm_q G (R o 1), .int (M.1 o 2), mm_q G (R o 3), mm_q G (R o 4), mm_q G (R o 5), mm_q G (R o 6), .int (M.1 o 7), .int (M.1 o 8), .int (M.1 o 9), .int (M.1 o 10), .int (M.1 o 11), .int (M.1 o 12), mm_q G (R o 13), mm_q G (R o 14)].set 13 (.ref (mm_lo G + v))) by rw [mm_e6 hT]; simp [sR, mm_q] <;> rfl]; exact ha) mm_en_R) hS1 hz)
set_option maxRecDepth 100000 in
theorem pX7_32 {v : Nat} (C : mm_C G p s m args meth c RX7 cc nL ret) (hM : mm_P G R N M H) (hS : va_S (mm_A G) s.heap H locs) (ho : o < N) (hT : kT o = (6, 0)) (hin : meth.name = "<init>") (hdg : decode cc pc = .ok (.putfield 32, 3)) (kk : ∀ (H1 : Heap) (locs1 : List Loc), mm_P G (sR R o 14 (some v)) N M H1 → va_S (mm_A G) s.heap H1 locs1 → H1.size = H.size → W p l e Rm s m args below meth c H1 locs1 cells slots Q (F0 m (pc + 3) ls rest)) : W p l e Rm s m args below meth c H locs cells slots Q (F0 m pc ls (.ref (mm_lo G + v) :: .ref (mm_lo G + o) :: rest)) := mm_put0 C hM hS ho (mm_e6 hT) rfl inX7 tyX7 tyX7_ok nmX7 (k := 14) (by decide) rfl (mq_3 207 rfl rfl) (Or.inr ⟨rfl, hin, rfl⟩) rfl rfl (Nat.le_of_ble_eq_true rfl) hdg (fun H1 locs1 ha oq hz hS1 => kk H1 locs1 (mm_upd hM oq (by rw [show mm_en G (sR R o 14 (some v)) M o = .inr (6, [mm_q G (R o 0), mm_q G (R o 1), .int (M.1 o 2), mm_q G (R o 3), mm_q G (R o 4), mm_q G (R o 5), mm_q G (R o 6), .int (M.1 o 7), .int (M.1 o 8), .int (M.1 o 9), .int (M.1 o 10), .int (M.1 o 11), .int (M.1 o 12), mm_q G (R o 13), mm_q G (R o 14)].set 14 (.ref (mm_lo G + v))) by rw [mm_e6 hT]; simp [sR, mm_q] <;> rfl]; exact ha) mm_en_R) hS1 hz)
set_option maxRecDepth 100000 in
theorem pX7_39 {v : Int32} (C : mm_C G p s m args meth c RX7 cc nL ret) (hM : mm_P G R N M H) (hS : va_S (mm_A G) s.heap H locs) (ho : o < N) (hT : kT o = (6, 0)) (hdg : decode cc pc = .ok (.putfield 39, 3)) (kk : ∀ (H1 : Heap) (locs1 : List Loc), mm_P G R N (sI M o 2 v) H1 → va_S (mm_A G) s.heap H1 locs1 → H1.size = H.size → W p l e Rm s m args below meth c H1 locs1 cells slots Q (F0 m (pc + 3) ls rest)) : W p l e Rm s m args below meth c H locs cells slots Q (F0 m pc ls (.int v :: .ref (mm_lo G + o) :: rest)) := mm_put0 C hM hS ho (mm_e6 hT) rfl inX7 tyX7 tyX7_ok nmX7 (k := 2) (by decide) rfl (mq_3 195 rfl rfl) (Or.inl rfl) rfl rfl (Nat.le_of_ble_eq_true rfl) hdg (fun H1 locs1 ha oq hz hS1 => kk H1 locs1 (mm_upd hM oq (by rw [show mm_en G R (sI M o 2 v) o = .inr (6, [mm_q G (R o 0), mm_q G (R o 1), .int (M.1 o 2), mm_q G (R o 3), mm_q G (R o 4), mm_q G (R o 5), mm_q G (R o 6), .int (M.1 o 7), .int (M.1 o 8), .int (M.1 o 9), .int (M.1 o 10), .int (M.1 o 11), .int (M.1 o 12), mm_q G (R o 13), mm_q G (R o 14)].set 2 (.int v)) by rw [mm_e6 hT]; simp [sI, mm_q] <;> rfl]; exact ha) mm_en_I) hS1 hz)
set_option maxRecDepth 100000 in
theorem pX7_7 {v : Nat} (C : mm_C G p s m args meth c RX7 cc nL ret) (hM : mm_P G R N M H) (hS : va_S (mm_A G) s.heap H locs) (ho : o < N) (hT : kT o = (6, 0)) (hin : meth.name = "<init>") (hdg : decode cc pc = .ok (.putfield 7, 3)) (kk : ∀ (H1 : Heap) (locs1 : List Loc), mm_P G (sR R o 0 (some v)) N M H1 → va_S (mm_A G) s.heap H1 locs1 → H1.size = H.size → W p l e Rm s m args below meth c H1 locs1 cells slots Q (F0 m (pc + 3) ls rest)) : W p l e Rm s m args below meth c H locs cells slots Q (F0 m pc ls (.ref (mm_lo G + v) :: .ref (mm_lo G + o) :: rest)) := mm_put0 C hM hS ho (mm_e6 hT) rfl inX7 tyX7 tyX7_ok nmX7 (k := 0) (by decide) rfl (mq_3 193 rfl rfl) (Or.inr ⟨rfl, hin, rfl⟩) rfl rfl (Nat.le_of_ble_eq_true rfl) hdg (fun H1 locs1 ha oq hz hS1 => kk H1 locs1 (mm_upd hM oq (by rw [show mm_en G (sR R o 0 (some v)) M o = .inr (6, [mm_q G (R o 0), mm_q G (R o 1), .int (M.1 o 2), mm_q G (R o 3), mm_q G (R o 4), mm_q G (R o 5), mm_q G (R o 6), .int (M.1 o 7), .int (M.1 o 8), .int (M.1 o 9), .int (M.1 o 10), .int (M.1 o 11), .int (M.1 o 12), mm_q G (R o 13), mm_q G (R o 14)].set 0 (.ref (mm_lo G + v))) by rw [mm_e6 hT]; simp [sR, mm_q] <;> rfl]; exact ha) mm_en_R) hS1 hz)
theorem sX5_43 : Cond.fieldLink RX5 43 "CartPitches" "FIRST_VALUE" "[I" ∈ mm_good ∨ Cond.fieldLinkNest RX5 43 "CartPitches" "FIRST_VALUE" "[I" "CartPitches" ∈ lw_tbl := Or.inr (List.mem_of_getElem? (i := 79) (by decide +kernel))
theorem sX5_76 : Cond.fieldLink RX5 76 "CartPitches" "LEAST_VALUE" "[I" ∈ mm_good ∨ Cond.fieldLinkNest RX5 76 "CartPitches" "LEAST_VALUE" "[I" "CartPitches" ∈ lw_tbl := Or.inr (List.mem_of_getElem? (i := 356) (by decide +kernel))
theorem sX5_79 : Cond.fieldLink RX5 79 "CartPitches" "MOST_VALUE" "[I" ∈ mm_good ∨ Cond.fieldLinkNest RX5 79 "CartPitches" "MOST_VALUE" "[I" "CartPitches" ∈ lw_tbl := Or.inr (List.mem_of_getElem? (i := 358) (by decide +kernel))
set_option maxRecDepth 100000 in
theorem uL_100 (Rm : Room) (h1 : rmX7_luckySeed.frames + 1 ≤ Rm.frames) (h2 : 8 + (6 + 11) + rmX7_luckySeed.locals ≤ Rm.locals) : mm_V Rm rmX7_luckySeed RL RX7 100 yX7_luckySeed cX7_luckySeed 6 (some .int) 2 := ⟨mm_gV (mq_5 6 rfl rfl) (mq_5 7 rfl rfl) (mq_5 8 rfl rfl) (mq_1 7 rfl rfl) (mq_5 9 rfl rfl), rfl, rfl, by decide +kernel, h1, h2⟩
set_option maxRecDepth 100000 in
theorem uL_101 (Rm : Room) (h1 : rmX6_whyNot.frames + 1 ≤ Rm.frames) (h2 : 8 + (4 + 11) + rmX6_whyNot.locals ≤ Rm.locals) : mm_V Rm rmX6_whyNot RL RX6 101 yX6_whyNot cX6_whyNot 4 (some .int) 2 := ⟨mm_gV (mq_3 103 rfl rfl) (mq_3 104 rfl rfl) (mq_3 105 rfl rfl) (mq_1 1 rfl rfl) (mq_3 106 rfl rfl), rfl, rfl, by decide +kernel, h1, h2⟩
set_option maxRecDepth 100000 in
theorem uL_104 (Rm : Room) (h1 : rmX7_whyNot.frames + 1 ≤ Rm.frames) (h2 : 8 + (4 + 11) + rmX7_whyNot.locals ≤ Rm.locals) : mm_V Rm rmX7_whyNot RL RX7 104 yX7_whyNot cX7_whyNot 4 (some .int) 2 := ⟨mm_gV (mq_5 10 rfl rfl) (mq_5 11 rfl rfl) (mq_5 12 rfl rfl) (mq_1 7 rfl rfl) (mq_5 13 rfl rfl), rfl, rfl, by decide +kernel, h1, h2⟩
set_option maxRecDepth 100000 in
theorem uL_107 (Rm : Room) (h1 : rmX6_put.frames + 1 ≤ Rm.frames) (h2 : 8 + (3 + 11) + rmX6_put.locals ≤ Rm.locals) : mm_V Rm rmX6_put RL RX6 107 yX6_put cX6_put 3 (some .int) 1 := ⟨mm_gV (mq_3 108 rfl rfl) (mq_3 109 rfl rfl) (mq_3 110 rfl rfl) (mq_1 1 rfl rfl) (mq_3 111 rfl rfl), rfl, rfl, by decide +kernel, h1, h2⟩
set_option maxRecDepth 100000 in
theorem uL_111 (Rm : Room) (h1 : rmX7_put_.frames + 1 ≤ Rm.frames) (h2 : 8 + (7 + 11) + rmX7_put_.locals ≤ Rm.locals) : mm_V Rm rmX7_put_ RL RX7 111 yX7_put_ cX7_put_ 7 (some .int) 1 := ⟨mm_gV (mq_5 14 rfl rfl) (mq_5 15 rfl rfl) (mq_5 16 rfl rfl) (mq_1 7 rfl rfl) (mq_5 17 rfl rfl), rfl, rfl, by decide +kernel, h1, h2⟩
set_option maxRecDepth 100000 in
theorem uL_112 (Rm : Room) (h1 : rmX6_wipe.frames + 1 ≤ Rm.frames) (h2 : 8 + (2 + 11) + rmX6_wipe.locals ≤ Rm.locals) : mm_V Rm rmX6_wipe RL RX6 112 yX6_wipe cX6_wipe 2 (some .int) 0 := ⟨mm_gV (mq_3 122 rfl rfl) (mq_3 123 rfl rfl) (mq_3 124 rfl rfl) (mq_1 1 rfl rfl) (mq_3 125 rfl rfl), rfl, rfl, by decide +kernel, h1, h2⟩
set_option maxRecDepth 100000 in
theorem uL_116 (Rm : Room) (h1 : rmX7_wipe.frames + 1 ≤ Rm.frames) (h2 : 8 + (2 + 11) + rmX7_wipe.locals ≤ Rm.locals) : mm_V Rm rmX7_wipe RL RX7 116 yX7_wipe cX7_wipe 2 (some .int) 0 := ⟨mm_gV (mq_5 19 rfl rfl) (mq_5 20 rfl rfl) (mq_5 21 rfl rfl) (mq_1 7 rfl rfl) (mq_5 22 rfl rfl), rfl, rfl, by decide +kernel, h1, h2⟩
set_option maxRecDepth 100000 in
theorem uL_117 (Rm : Room) (h1 : rmX6_fault.frames + 1 ≤ Rm.frames) (h2 : 8 + (1 + 11) + rmX6_fault.locals ≤ Rm.locals) : mm_V Rm rmX6_fault RL RX6 117 yX6_fault cX6_fault 1 (some .int) 0 := ⟨mm_gV (mq_3 126 rfl rfl) (mq_3 127 rfl rfl) (mq_3 128 rfl rfl) (mq_1 1 rfl rfl) (mq_3 129 rfl rfl), rfl, rfl, by decide +kernel, h1, h2⟩
set_option maxRecDepth 100000 in
theorem uL_120 (Rm : Room) (h1 : rmX7_fault.frames + 1 ≤ Rm.frames) (h2 : 8 + (1 + 11) + rmX7_fault.locals ≤ Rm.locals) : mm_V Rm rmX7_fault RL RX7 120 yX7_fault cX7_fault 1 (some .int) 0 := ⟨mm_gV (mq_5 23 rfl rfl) (mq_5 24 rfl rfl) (mq_5 25 rfl rfl) (mq_1 7 rfl rfl) (mq_5 26 rfl rfl), rfl, rfl, by decide +kernel, h1, h2⟩
set_option maxRecDepth 100000 in
theorem uL_121 (Rm : Room) (h1 : rmX6_carryOut.frames + 1 ≤ Rm.frames) (h2 : 8 + (4 + 11) + rmX6_carryOut.locals ≤ Rm.locals) : mm_V Rm rmX6_carryOut RL RX6 121 yX6_carryOut cX6_carryOut 4 (some .int) 0 := ⟨mm_gV (mq_3 150 rfl rfl) (mq_3 151 rfl rfl) (mq_3 152 rfl rfl) (mq_1 1 rfl rfl) (mq_3 153 rfl rfl), rfl, rfl, by decide +kernel, h1, h2⟩
set_option maxRecDepth 100000 in
theorem uL_124 (Rm : Room) (h1 : rmX7_carryOut.frames + 1 ≤ Rm.frames) (h2 : 8 + (2 + 11) + rmX7_carryOut.locals ≤ Rm.locals) : mm_V Rm rmX7_carryOut RL RX7 124 yX7_carryOut cX7_carryOut 2 (some .int) 0 := ⟨mm_gV (mq_5 47 rfl rfl) (mq_5 48 rfl rfl) (mq_5 49 rfl rfl) (mq_1 7 rfl rfl) (mq_5 50 rfl rfl), rfl, rfl, by decide +kernel, h1, h2⟩
set_option maxRecDepth 100000 in
theorem uL_125 (Rm : Room) (h1 : rmX6_undo.frames + 1 ≤ Rm.frames) (h2 : 8 + (1 + 11) + rmX6_undo.locals ≤ Rm.locals) : mm_V Rm rmX6_undo RL RX6 125 yX6_undo cX6_undo 1 (some .int) 0 := ⟨mm_gV (mq_3 171 rfl rfl) (mq_3 172 rfl rfl) (mq_3 173 rfl rfl) (mq_1 1 rfl rfl) (mq_3 174 rfl rfl), rfl, rfl, by decide +kernel, h1, h2⟩
set_option maxRecDepth 100000 in
theorem uL_128 (Rm : Room) (h1 : rmX7_undo.frames + 1 ≤ Rm.frames) (h2 : 8 + (2 + 11) + rmX7_undo.locals ≤ Rm.locals) : mm_V Rm rmX7_undo RL RX7 128 yX7_undo cX7_undo 2 (some .int) 0 := ⟨mm_gV (mq_5 56 rfl rfl) (mq_5 57 rfl rfl) (mq_5 58 rfl rfl) (mq_1 7 rfl rfl) (mq_5 59 rfl rfl), rfl, rfl, by decide +kernel, h1, h2⟩
set_option maxRecDepth 100000 in
theorem uL_129 (Rm : Room) (h1 : rmX6_save.frames + 1 ≤ Rm.frames) (h2 : 8 + (3 + 11) + rmX6_save.locals ≤ Rm.locals) : mm_V Rm rmX6_save RL RX6 129 yX6_save cX6_save 3 (some .int) 1 := ⟨mm_gV (mq_3 179 rfl rfl) (mq_3 180 rfl rfl) (mq_3 181 rfl rfl) (mq_1 1 rfl rfl) (mq_3 182 rfl rfl), rfl, rfl, by decide +kernel, h1, h2⟩
set_option maxRecDepth 100000 in
theorem uL_13 (Rm : Room) (h1 : rmX6_set.frames + 1 ≤ Rm.frames) (h2 : 8 + (3 + 11) + rmX6_set.locals ≤ Rm.locals) : mm_V Rm rmX6_set RL RX6 13 yX6_set cX6_set 3 (some .int) 2 := ⟨mm_gV (mq_2 38 rfl rfl) (mq_2 39 rfl rfl) (mq_2 40 rfl rfl) (mq_1 1 rfl rfl) (mq_2 41 rfl rfl), rfl, rfl, by decide +kernel, h1, h2⟩
set_option maxRecDepth 100000 in
theorem uL_132 (Rm : Room) (h1 : rmX7_save.frames + 1 ≤ Rm.frames) (h2 : 8 + (3 + 11) + rmX7_save.locals ≤ Rm.locals) : mm_V Rm rmX7_save RL RX7 132 yX7_save cX7_save 3 (some .int) 1 := ⟨mm_gV (mq_5 60 rfl rfl) (mq_5 61 rfl rfl) (mq_5 62 rfl rfl) (mq_1 7 rfl rfl) (mq_5 63 rfl rfl), rfl, rfl, by decide +kernel, h1, h2⟩
set_option maxRecDepth 100000 in
theorem uL_133 (Rm : Room) (h1 : rmX6_restore.frames + 1 ≤ Rm.frames) (h2 : 8 + (3 + 11) + rmX6_restore.locals ≤ Rm.locals) : mm_V Rm rmX6_restore RL RX6 133 yX6_restore cX6_restore 3 (some .int) 1 := ⟨mm_gV (mq_3 183 rfl rfl) (mq_3 184 rfl rfl) (mq_3 185 rfl rfl) (mq_1 1 rfl rfl) (mq_3 186 rfl rfl), rfl, rfl, by decide +kernel, h1, h2⟩
set_option maxRecDepth 100000 in
theorem uL_136 (Rm : Room) (h1 : rmX7_restore.frames + 1 ≤ Rm.frames) (h2 : 8 + (3 + 11) + rmX7_restore.locals ≤ Rm.locals) : mm_V Rm rmX7_restore RL RX7 136 yX7_restore cX7_restore 3 (some .int) 1 := ⟨mm_gV (mq_5 64 rfl rfl) (mq_5 65 rfl rfl) (mq_5 66 rfl rfl) (mq_1 7 rfl rfl) (mq_5 67 rfl rfl), rfl, rfl, by decide +kernel, h1, h2⟩
set_option maxRecDepth 100000 in
theorem uL_17 (Rm : Room) (h1 : rmX7_set.frames + 1 ≤ Rm.frames) (h2 : 8 + (4 + 11) + rmX7_set.locals ≤ Rm.locals) : mm_V Rm rmX7_set RL RX7 17 yX7_set cX7_set 4 (some .int) 2 := ⟨mm_gV (mq_4 0 rfl rfl) (mq_4 1 rfl rfl) (mq_4 2 rfl rfl) (mq_1 7 rfl rfl) (mq_4 3 rfl rfl), rfl, rfl, by decide +kernel, h1, h2⟩
set_option maxRecDepth 100000 in
theorem uL_18 (Rm : Room) (h1 : rmX6_seed.frames + 1 ≤ Rm.frames) (h2 : 8 + (2 + 11) + rmX6_seed.locals ≤ Rm.locals) : mm_V Rm rmX6_seed RL RX6 18 yX6_seed cX6_seed 2 (some .int) 1 := ⟨mm_gV (mq_2 78 rfl rfl) (mq_2 79 rfl rfl) (mq_2 80 rfl rfl) (mq_1 1 rfl rfl) (mq_2 81 rfl rfl), rfl, rfl, by decide +kernel, h1, h2⟩
set_option maxRecDepth 100000 in
theorem uL_22 (Rm : Room) (h1 : rmX7_seed.frames + 1 ≤ Rm.frames) (h2 : 8 + (3 + 11) + rmX7_seed.locals ≤ Rm.locals) : mm_V Rm rmX7_seed RL RX7 22 yX7_seed cX7_seed 3 (some .int) 1 := ⟨mm_gV (mq_4 17 rfl rfl) (mq_4 18 rfl rfl) (mq_4 19 rfl rfl) (mq_1 7 rfl rfl) (mq_4 20 rfl rfl), rfl, rfl, by decide +kernel, h1, h2⟩
set_option maxRecDepth 100000 in
theorem uL_23 (Rm : Room) (h1 : rmX6_pitch.frames + 1 ≤ Rm.frames) (h2 : 8 + (2 + 11) + rmX6_pitch.locals ≤ Rm.locals) : mm_V Rm rmX6_pitch RL RX6 23 yX6_pitch cX6_pitch 2 (some .int) 1 := ⟨mm_gV (mq_2 87 rfl rfl) (mq_2 88 rfl rfl) (mq_2 89 rfl rfl) (mq_1 1 rfl rfl) (mq_2 90 rfl rfl), rfl, rfl, by decide +kernel, h1, h2⟩
set_option maxRecDepth 100000 in
theorem uL_26 (Rm : Room) (h1 : rmX7_pitch.frames + 1 ≤ Rm.frames) (h2 : 8 + (3 + 11) + rmX7_pitch.locals ≤ Rm.locals) : mm_V Rm rmX7_pitch RL RX7 26 yX7_pitch cX7_pitch 3 (some .int) 1 := ⟨mm_gV (mq_4 22 rfl rfl) (mq_4 23 rfl rfl) (mq_4 24 rfl rfl) (mq_1 7 rfl rfl) (mq_4 25 rfl rfl), rfl, rfl, by decide +kernel, h1, h2⟩
set_option maxRecDepth 100000 in
theorem uL_27 (Rm : Room) (h1 : rmX6_rent.frames + 1 ≤ Rm.frames) (h2 : 8 + (3 + 11) + rmX6_rent.locals ≤ Rm.locals) : mm_V Rm rmX6_rent RL RX6 27 yX6_rent cX6_rent 3 (some .int) 2 := ⟨mm_gV (mq_2 99 rfl rfl) (mq_2 100 rfl rfl) (mq_2 101 rfl rfl) (mq_1 1 rfl rfl) (mq_2 102 rfl rfl), rfl, rfl, by decide +kernel, h1, h2⟩
set_option maxRecDepth 100000 in
theorem uL_30 (Rm : Room) (h1 : rmX7_rent.frames + 1 ≤ Rm.frames) (h2 : 8 + (4 + 11) + rmX7_rent.locals ≤ Rm.locals) : mm_V Rm rmX7_rent RL RX7 30 yX7_rent cX7_rent 4 (some .int) 2 := ⟨mm_gV (mq_4 26 rfl rfl) (mq_4 27 rfl rfl) (mq_4 28 rfl rfl) (mq_1 7 rfl rfl) (mq_4 29 rfl rfl), rfl, rfl, by decide +kernel, h1, h2⟩
set_option maxRecDepth 100000 in
theorem uL_31 (Rm : Room) (h1 : rmX6_cart.frames + 1 ≤ Rm.frames) (h2 : 8 + (3 + 11) + rmX6_cart.locals ≤ Rm.locals) : mm_V Rm rmX6_cart RL RX6 31 yX6_cart cX6_cart 3 (some .int) 2 := ⟨mm_gV (mq_2 111 rfl rfl) (mq_2 112 rfl rfl) (mq_2 113 rfl rfl) (mq_1 1 rfl rfl) (mq_2 114 rfl rfl), rfl, rfl, by decide +kernel, h1, h2⟩
set_option maxRecDepth 100000 in
theorem uL_34 (Rm : Room) (h1 : rmX7_cart.frames + 1 ≤ Rm.frames) (h2 : 8 + (5 + 11) + rmX7_cart.locals ≤ Rm.locals) : mm_V Rm rmX7_cart RL RX7 34 yX7_cart cX7_cart 5 (some .int) 2 := ⟨mm_gV (mq_4 38 rfl rfl) (mq_4 39 rfl rfl) (mq_4 40 rfl rfl) (mq_1 7 rfl rfl) (mq_4 41 rfl rfl), rfl, rfl, by decide +kernel, h1, h2⟩
set_option maxRecDepth 100000 in
theorem uL_35 (Rm : Room) (h1 : rmX6_wish.frames + 1 ≤ Rm.frames) (h2 : 8 + (5 + 11) + rmX6_wish.locals ≤ Rm.locals) : mm_V Rm rmX6_wish RL RX6 35 yX6_wish cX6_wish 5 (some .int) 4 := ⟨mm_gV (mq_2 131 rfl rfl) (mq_2 132 rfl rfl) (mq_2 133 rfl rfl) (mq_1 1 rfl rfl) (mq_2 134 rfl rfl), rfl, rfl, by decide +kernel, h1, h2⟩
set_option maxRecDepth 100000 in
theorem uL_39 (Rm : Room) (h1 : rmX7_wish.frames + 1 ≤ Rm.frames) (h2 : 8 + (5 + 11) + rmX7_wish.locals ≤ Rm.locals) : mm_V Rm rmX7_wish RL RX7 39 yX7_wish cX7_wish 5 (some .int) 4 := ⟨mm_gV (mq_4 46 rfl rfl) (mq_4 47 rfl rfl) (mq_4 48 rfl rfl) (mq_1 7 rfl rfl) (mq_4 49 rfl rfl), rfl, rfl, by decide +kernel, h1, h2⟩
set_option maxRecDepth 100000 in
theorem uL_40 (Rm : Room) (h1 : rmX6_fine.frames + 1 ≤ Rm.frames) (h2 : 8 + (3 + 11) + rmX6_fine.locals ≤ Rm.locals) : mm_V Rm rmX6_fine RL RX6 40 yX6_fine cX6_fine 3 (some .int) 2 := ⟨mm_gV (mq_2 147 rfl rfl) (mq_2 148 rfl rfl) (mq_2 149 rfl rfl) (mq_1 1 rfl rfl) (mq_2 150 rfl rfl), rfl, rfl, by decide +kernel, h1, h2⟩
set_option maxRecDepth 100000 in
theorem uL_43 (Rm : Room) (h1 : rmX7_fine.frames + 1 ≤ Rm.frames) (h2 : 8 + (3 + 11) + rmX7_fine.locals ≤ Rm.locals) : mm_V Rm rmX7_fine RL RX7 43 yX7_fine cX7_fine 3 (some .int) 2 := ⟨mm_gV (mq_4 66 rfl rfl) (mq_4 67 rfl rfl) (mq_4 68 rfl rfl) (mq_1 7 rfl rfl) (mq_4 69 rfl rfl), rfl, rfl, by decide +kernel, h1, h2⟩
set_option maxRecDepth 100000 in
theorem uL_44 (Rm : Room) (h1 : rmX6_check.frames + 1 ≤ Rm.frames) (h2 : 8 + (2 + 11) + rmX6_check.locals ≤ Rm.locals) : mm_V Rm rmX6_check RL RX6 44 yX6_check cX6_check 2 (some .int) 1 := ⟨mm_gV (mq_2 168 rfl rfl) (mq_2 169 rfl rfl) (mq_2 170 rfl rfl) (mq_1 1 rfl rfl) (mq_2 171 rfl rfl), rfl, rfl, by decide +kernel, h1, h2⟩
set_option maxRecDepth 100000 in
theorem uL_47 (Rm : Room) (h1 : rmX7_check.frames + 1 ≤ Rm.frames) (h2 : 8 + (2 + 11) + rmX7_check.locals ≤ Rm.locals) : mm_V Rm rmX7_check RL RX7 47 yX7_check cX7_check 2 (some .int) 1 := ⟨mm_gV (mq_4 86 rfl rfl) (mq_4 87 rfl rfl) (mq_4 88 rfl rfl) (mq_1 7 rfl rfl) (mq_4 89 rfl rfl), rfl, rfl, by decide +kernel, h1, h2⟩
set_option maxRecDepth 100000 in
theorem uL_48 (Rm : Room) (h1 : rmX6_swap.frames + 1 ≤ Rm.frames) (h2 : 8 + (3 + 11) + rmX6_swap.locals ≤ Rm.locals) : mm_V Rm rmX6_swap RL RX6 48 yX6_swap cX6_swap 3 (some .int) 2 := ⟨mm_gV (mq_2 180 rfl rfl) (mq_2 181 rfl rfl) (mq_2 182 rfl rfl) (mq_1 1 rfl rfl) (mq_2 183 rfl rfl), rfl, rfl, by decide +kernel, h1, h2⟩
set_option maxRecDepth 100000 in
theorem uL_51 (Rm : Room) (h1 : rmX7_swap.frames + 1 ≤ Rm.frames) (h2 : 8 + (3 + 11) + rmX7_swap.locals ≤ Rm.locals) : mm_V Rm rmX7_swap RL RX7 51 yX7_swap cX7_swap 3 (some .int) 2 := ⟨mm_gV (mq_4 98 rfl rfl) (mq_4 99 rfl rfl) (mq_4 100 rfl rfl) (mq_1 7 rfl rfl) (mq_4 101 rfl rfl), rfl, rfl, by decide +kernel, h1, h2⟩
set_option maxRecDepth 100000 in
theorem uL_52 (Rm : Room) (h1 : rmX6_pay.frames + 1 ≤ Rm.frames) (h2 : 8 + (3 + 11) + rmX6_pay.locals ≤ Rm.locals) : mm_V Rm rmX6_pay RL RX6 52 yX6_pay cX6_pay 3 (some .int) 2 := ⟨mm_gV (mq_2 188 rfl rfl) (mq_2 189 rfl rfl) (mq_2 190 rfl rfl) (mq_1 1 rfl rfl) (mq_2 191 rfl rfl), rfl, rfl, by decide +kernel, h1, h2⟩
set_option maxRecDepth 100000 in
theorem uL_55 (Rm : Room) (h1 : rmX7_pay.frames + 1 ≤ Rm.frames) (h2 : 8 + (3 + 11) + rmX7_pay.locals ≤ Rm.locals) : mm_V Rm rmX7_pay RL RX7 55 yX7_pay cX7_pay 3 (some .int) 2 := ⟨mm_gV (mq_4 106 rfl rfl) (mq_4 107 rfl rfl) (mq_4 108 rfl rfl) (mq_1 7 rfl rfl) (mq_4 109 rfl rfl), rfl, rfl, by decide +kernel, h1, h2⟩
set_option maxRecDepth 100000 in
theorem uL_56 (Rm : Room) (h1 : rmX6_days.frames + 1 ≤ Rm.frames) (h2 : 8 + (2 + 11) + rmX6_days.locals ≤ Rm.locals) : mm_V Rm rmX6_days RL RX6 56 yX6_days cX6_days 2 (some .int) 1 := ⟨mm_gV (mq_2 201 rfl rfl) (mq_2 202 rfl rfl) (mq_2 203 rfl rfl) (mq_1 1 rfl rfl) (mq_2 204 rfl rfl), rfl, rfl, by decide +kernel, h1, h2⟩
set_option maxRecDepth 100000 in
theorem uL_59 (Rm : Room) (h1 : rmX7_days.frames + 1 ≤ Rm.frames) (h2 : 8 + (2 + 11) + rmX7_days.locals ≤ Rm.locals) : mm_V Rm rmX7_days RL RX7 59 yX7_days cX7_days 2 (some .int) 1 := ⟨mm_gV (mq_4 115 rfl rfl) (mq_4 116 rfl rfl) (mq_4 117 rfl rfl) (mq_1 7 rfl rfl) (mq_4 118 rfl rfl), rfl, rfl, by decide +kernel, h1, h2⟩
set_option maxRecDepth 100000 in
theorem uL_60 (Rm : Room) (h1 : rmX6_ofCart.frames + 1 ≤ Rm.frames) (h2 : 8 + (4 + 11) + rmX6_ofCart.locals ≤ Rm.locals) : mm_V Rm rmX6_ofCart RL RX6 60 yX6_ofCart cX6_ofCart 4 (some .int) 2 := ⟨mm_gV (mq_3 38 rfl rfl) (mq_3 39 rfl rfl) (mq_3 40 rfl rfl) (mq_1 1 rfl rfl) (mq_3 41 rfl rfl), rfl, rfl, by decide +kernel, h1, h2⟩
set_option maxRecDepth 100000 in
theorem uL_63 (Rm : Room) (h1 : rmX7_ofCart.frames + 1 ≤ Rm.frames) (h2 : 8 + (3 + 11) + rmX7_ofCart.locals ≤ Rm.locals) : mm_V Rm rmX7_ofCart RL RX7 63 yX7_ofCart cX7_ofCart 3 (some .int) 2 := ⟨mm_gV (mq_4 196 rfl rfl) (mq_4 197 rfl rfl) (mq_4 198 rfl rfl) (mq_1 7 rfl rfl) (mq_4 199 rfl rfl), rfl, rfl, by decide +kernel, h1, h2⟩
set_option maxRecDepth 100000 in
theorem uL_64 (Rm : Room) (h1 : rmX6_money.frames + 1 ≤ Rm.frames) (h2 : 8 + (4 + 11) + rmX6_money.locals ≤ Rm.locals) : mm_V Rm rmX6_money RL RX6 64 yX6_money cX6_money 4 (some .long) 2 := ⟨mm_gV (mq_3 53 rfl rfl) (mq_3 54 rfl rfl) (mq_3 55 rfl rfl) (mq_1 1 rfl rfl) (mq_3 56 rfl rfl), rfl, rfl, by decide +kernel, h1, h2⟩
set_option maxRecDepth 100000 in
theorem uL_68 (Rm : Room) (h1 : rmX7_money.frames + 1 ≤ Rm.frames) (h2 : 8 + (3 + 11) + rmX7_money.locals ≤ Rm.locals) : mm_V Rm rmX7_money RL RX7 68 yX7_money cX7_money 3 (some .long) 2 := ⟨mm_gV (mq_4 200 rfl rfl) (mq_4 201 rfl rfl) (mq_4 202 rfl rfl) (mq_1 7 rfl rfl) (mq_4 203 rfl rfl), rfl, rfl, by decide +kernel, h1, h2⟩
set_option maxRecDepth 100000 in
theorem uL_69 (Rm : Room) (h1 : rmX6_ofPitch.frames + 1 ≤ Rm.frames) (h2 : 8 + (4 + 11) + rmX6_ofPitch.locals ≤ Rm.locals) : mm_V Rm rmX6_ofPitch RL RX6 69 yX6_ofPitch cX6_ofPitch 4 (some .int) 2 := ⟨mm_gV (mq_3 60 rfl rfl) (mq_3 61 rfl rfl) (mq_3 62 rfl rfl) (mq_1 1 rfl rfl) (mq_3 63 rfl rfl), rfl, rfl, by decide +kernel, h1, h2⟩
set_option maxRecDepth 100000 in
theorem uL_72 (Rm : Room) (h1 : rmX7_ofPitch.frames + 1 ≤ Rm.frames) (h2 : 8 + (3 + 11) + rmX7_ofPitch.locals ≤ Rm.locals) : mm_V Rm rmX7_ofPitch RL RX7 72 yX7_ofPitch cX7_ofPitch 3 (some .int) 2 := ⟨mm_gV (mq_4 206 rfl rfl) (mq_4 207 rfl rfl) (mq_4 208 rfl rfl) (mq_1 7 rfl rfl) (mq_4 209 rfl rfl), rfl, rfl, by decide +kernel, h1, h2⟩
set_option maxRecDepth 100000 in
theorem uL_73 (Rm : Room) (h1 : rmX6_count.frames + 1 ≤ Rm.frames) (h2 : 8 + (2 + 11) + rmX6_count.locals ≤ Rm.locals) : mm_V Rm rmX6_count RL RX6 73 yX6_count cX6_count 2 (some .int) 1 := ⟨mm_gV (mq_3 65 rfl rfl) (mq_3 66 rfl rfl) (mq_3 67 rfl rfl) (mq_1 1 rfl rfl) (mq_3 68 rfl rfl), rfl, rfl, by decide +kernel, h1, h2⟩
set_option maxRecDepth 100000 in
theorem uL_76 (Rm : Room) (h1 : rmX7_count.frames + 1 ≤ Rm.frames) (h2 : 8 + (2 + 11) + rmX7_count.locals ≤ Rm.locals) : mm_V Rm rmX7_count RL RX7 76 yX7_count cX7_count 2 (some .int) 1 := ⟨mm_gV (mq_4 210 rfl rfl) (mq_4 211 rfl rfl) (mq_4 212 rfl rfl) (mq_1 7 rfl rfl) (mq_4 213 rfl rfl), rfl, rfl, by decide +kernel, h1, h2⟩
set_option maxRecDepth 100000 in
theorem uL_77 (Rm : Room) (h1 : rmX6_pointsOn.frames + 1 ≤ Rm.frames) (h2 : 8 + (3 + 11) + rmX6_pointsOn.locals ≤ Rm.locals) : mm_V Rm rmX6_pointsOn RL RX6 77 yX6_pointsOn cX6_pointsOn 3 (some .int) 2 := ⟨mm_gV (mq_3 74 rfl rfl) (mq_3 75 rfl rfl) (mq_3 76 rfl rfl) (mq_1 1 rfl rfl) (mq_3 77 rfl rfl), rfl, rfl, by decide +kernel, h1, h2⟩
set_option maxRecDepth 100000 in
theorem uL_80 (Rm : Room) (h1 : rmX7_pointsOn.frames + 1 ≤ Rm.frames) (h2 : 8 + (3 + 11) + rmX7_pointsOn.locals ≤ Rm.locals) : mm_V Rm rmX7_pointsOn RL RX7 80 yX7_pointsOn cX7_pointsOn 3 (some .int) 2 := ⟨mm_gV (mq_4 218 rfl rfl) (mq_4 219 rfl rfl) (mq_4 220 rfl rfl) (mq_1 7 rfl rfl) (mq_4 221 rfl rfl), rfl, rfl, by decide +kernel, h1, h2⟩
set_option maxRecDepth 100000 in
theorem uL_81 (Rm : Room) (h1 : rmX6_wouldHave.frames + 1 ≤ Rm.frames) (h2 : 8 + (2 + 11) + rmX6_wouldHave.locals ≤ Rm.locals) : mm_V Rm rmX6_wouldHave RL RX6 81 yX6_wouldHave cX6_wouldHave 2 (some .int) 1 := ⟨mm_gV (mq_3 78 rfl rfl) (mq_3 79 rfl rfl) (mq_3 80 rfl rfl) (mq_1 1 rfl rfl) (mq_3 81 rfl rfl), rfl, rfl, by decide +kernel, h1, h2⟩
set_option maxRecDepth 100000 in
theorem uL_84 (Rm : Room) (h1 : rmX7_wouldHave.frames + 1 ≤ Rm.frames) (h2 : 8 + (3 + 11) + rmX7_wouldHave.locals ≤ Rm.locals) : mm_V Rm rmX7_wouldHave RL RX7 84 yX7_wouldHave cX7_wouldHave 3 (some .int) 1 := ⟨mm_gV (mq_4 222 rfl rfl) (mq_4 223 rfl rfl) (mq_4 224 rfl rfl) (mq_1 7 rfl rfl) (mq_4 225 rfl rfl), rfl, rfl, by decide +kernel, h1, h2⟩
set_option maxRecDepth 100000 in
theorem uL_85 (Rm : Room) (h1 : rmX6_ifWished.frames + 1 ≤ Rm.frames) (h2 : 8 + (3 + 11) + rmX6_ifWished.locals ≤ Rm.locals) : mm_V Rm rmX6_ifWished RL RX6 85 yX6_ifWished cX6_ifWished 3 (some .int) 2 := ⟨mm_gV (mq_3 87 rfl rfl) (mq_3 88 rfl rfl) (mq_3 89 rfl rfl) (mq_1 1 rfl rfl) (mq_3 90 rfl rfl), rfl, rfl, by decide +kernel, h1, h2⟩
set_option maxRecDepth 100000 in
theorem uL_88 (Rm : Room) (h1 : rmX7_ifWished.frames + 1 ≤ Rm.frames) (h2 : 8 + (4 + 11) + rmX7_ifWished.locals ≤ Rm.locals) : mm_V Rm rmX7_ifWished RL RX7 88 yX7_ifWished cX7_ifWished 4 (some .int) 2 := ⟨mm_gV (mq_4 234 rfl rfl) (mq_4 235 rfl rfl) (mq_4 236 rfl rfl) (mq_1 7 rfl rfl) (mq_4 237 rfl rfl), rfl, rfl, by decide +kernel, h1, h2⟩
set_option maxRecDepth 100000 in
theorem uL_89 (Rm : Room) (h1 : rmX6_firstDay.frames + 1 ≤ Rm.frames) (h2 : 8 + (3 + 11) + rmX6_firstDay.locals ≤ Rm.locals) : mm_V Rm rmX6_firstDay RL RX6 89 yX6_firstDay cX6_firstDay 3 (some .int) 1 := ⟨mm_gV (mq_3 91 rfl rfl) (mq_3 92 rfl rfl) (mq_3 93 rfl rfl) (mq_1 1 rfl rfl) (mq_3 94 rfl rfl), rfl, rfl, by decide +kernel, h1, h2⟩
set_option maxRecDepth 100000 in
theorem uL_92 (Rm : Room) (h1 : rmX7_firstDay.frames + 1 ≤ Rm.frames) (h2 : 8 + (4 + 11) + rmX7_firstDay.locals ≤ Rm.locals) : mm_V Rm rmX7_firstDay RL RX7 92 yX7_firstDay cX7_firstDay 4 (some .int) 1 := ⟨mm_gV (mq_4 238 rfl rfl) (mq_4 239 rfl rfl) (mq_5 0 rfl rfl) (mq_1 7 rfl rfl) (mq_5 1 rfl rfl), rfl, rfl, by decide +kernel, h1, h2⟩
set_option maxRecDepth 100000 in
theorem uL_93 (Rm : Room) (h1 : rmX6_daysOf.frames + 1 ≤ Rm.frames) (h2 : 8 + (5 + 11) + rmX6_daysOf.locals ≤ Rm.locals) : mm_V Rm rmX6_daysOf RL RX6 93 yX6_daysOf cX6_daysOf 5 (some .int) 2 := ⟨mm_gV (mq_3 95 rfl rfl) (mq_3 96 rfl rfl) (mq_3 97 rfl rfl) (mq_1 1 rfl rfl) (mq_3 98 rfl rfl), rfl, rfl, by decide +kernel, h1, h2⟩
set_option maxRecDepth 100000 in
theorem uL_96 (Rm : Room) (h1 : rmX7_daysOf.frames + 1 ≤ Rm.frames) (h2 : 8 + (5 + 11) + rmX7_daysOf.locals ≤ Rm.locals) : mm_V Rm rmX7_daysOf RL RX7 96 yX7_daysOf cX7_daysOf 5 (some .int) 2 := ⟨mm_gV (mq_5 2 rfl rfl) (mq_5 3 rfl rfl) (mq_5 4 rfl rfl) (mq_1 7 rfl rfl) (mq_5 5 rfl rfl), rfl, rfl, by decide +kernel, h1, h2⟩
set_option maxRecDepth 100000 in
theorem uL_97 (Rm : Room) (h1 : rmX6_luckySeed.frames + 1 ≤ Rm.frames) (h2 : 8 + (5 + 11) + rmX6_luckySeed.locals ≤ Rm.locals) : mm_V Rm rmX6_luckySeed RL RX6 97 yX6_luckySeed cX6_luckySeed 5 (some .int) 2 := ⟨mm_gV (mq_3 99 rfl rfl) (mq_3 100 rfl rfl) (mq_3 101 rfl rfl) (mq_1 1 rfl rfl) (mq_3 102 rfl rfl), rfl, rfl, by decide +kernel, h1, h2⟩
set_option maxRecDepth 100000 in
theorem uX0_57 (Rm : Room) (h1 : rmX0_dropAllPoints.frames + 1 ≤ Rm.frames) (h2 : 8 + (2 + 11) + rmX0_dropAllPoints.locals ≤ Rm.locals) : mm_V Rm rmX0_dropAllPoints RX0 RX0 57 yX0_dropAllPoints cX0_dropAllPoints 2 none 0 := ⟨mm_gV (mq_2 123 rfl rfl) (mq_2 124 rfl rfl) (mq_2 125 rfl rfl) (mq_1 4 rfl rfl) (mq_2 126 rfl rfl), rfl, rfl, by decide +kernel, h1, h2⟩
set_option maxRecDepth 100000 in
theorem uX0_60 (Rm : Room) (h1 : rmX0_beginDay.frames + 1 ≤ Rm.frames) (h2 : 8 + (1 + 11) + rmX0_beginDay.locals ≤ Rm.locals) : mm_V Rm rmX0_beginDay RX0 RX0 60 yX0_beginDay cX0_beginDay 1 none 0 := ⟨mm_gV (mq_2 127 rfl rfl) (mq_2 128 rfl rfl) (mq_2 129 rfl rfl) (mq_1 4 rfl rfl) (mq_2 130 rfl rfl), rfl, rfl, by decide +kernel, h1, h2⟩
set_option maxRecDepth 100000 in
theorem uX1_107 (Rm : Room) (h1 : rmX0_wishAt.frames + 1 ≤ Rm.frames) (h2 : 8 + (2 + 11) + rmX0_wishAt.locals ≤ Rm.locals) : mm_V Rm rmX0_wishAt RX1 RX0 107 yX0_wishAt cX0_wishAt 2 (some .int) 1 := ⟨mm_gV (mq_3 0 rfl rfl) (mq_3 1 rfl rfl) (mq_3 2 rfl rfl) (mq_1 4 rfl rfl) (mq_3 3 rfl rfl), rfl, rfl, by decide +kernel, h1, h2⟩
set_option maxRecDepth 100000 in
theorem uX1_110 (Rm : Room) (h1 : rmX5_hasPitch.frames + 1 ≤ Rm.frames) (h2 : 8 + (2 + 11) + rmX5_hasPitch.locals ≤ Rm.locals) : mm_V Rm rmX5_hasPitch RX1 RX5 110 yX5_hasPitch cX5_hasPitch 2 (some .boolean) 1 := ⟨mm_gV (mq_3 4 rfl rfl) (mq_2 108 rfl rfl) (mq_2 109 rfl rfl) (mq_1 2 rfl rfl) (mq_2 110 rfl rfl), rfl, rfl, by decide +kernel, h1, h2⟩
set_option maxRecDepth 100000 in
theorem uX1_113 (Rm : Room) (h1 : rmX5_sameKindBeside.frames + 1 ≤ Rm.frames) (h2 : 8 + (5 + 11) + rmX5_sameKindBeside.locals ≤ Rm.locals) : mm_V Rm rmX5_sameKindBeside RX1 RX5 113 yX5_sameKindBeside cX5_sameKindBeside 5 (some .boolean) 2 := ⟨mm_gV (mq_3 5 rfl rfl) (mq_3 6 rfl rfl) (mq_3 7 rfl rfl) (mq_1 2 rfl rfl) (mq_3 8 rfl rfl), rfl, rfl, by decide +kernel, h1, h2⟩
set_option maxRecDepth 100000 in
theorem uX1_117 (Rm : Room) (h1 : rmX5_seat.frames + 1 ≤ Rm.frames) (h2 : 8 + (3 + 11) + rmX5_seat.locals ≤ Rm.locals) : mm_V Rm rmX5_seat RX1 RX5 117 yX5_seat cX5_seat 3 none 2 := ⟨mm_gV (mq_3 9 rfl rfl) (mq_3 10 rfl rfl) (mq_3 11 rfl rfl) (mq_1 2 rfl rfl) (mq_3 12 rfl rfl), rfl, rfl, by decide +kernel, h1, h2⟩
set_option maxRecDepth 100000 in
theorem uX1_127 (Rm : Room) (h1 : rmX5_unseat.frames + 1 ≤ Rm.frames) (h2 : 8 + (2 + 11) + rmX5_unseat.locals ≤ Rm.locals) : mm_V Rm rmX5_unseat RX1 RX5 127 yX5_unseat cX5_unseat 2 none 1 := ⟨mm_gV (mq_3 16 rfl rfl) (mq_3 17 rfl rfl) (mq_3 18 rfl rfl) (mq_1 2 rfl rfl) (mq_3 19 rfl rfl), rfl, rfl, by decide +kernel, h1, h2⟩
set_option maxRecDepth 100000 in
theorem uX1_131 (Rm : Room) (h1 : rmX5_givePoints.frames + 1 ≤ Rm.frames) (h2 : 8 + (4 + 11) + rmX5_givePoints.locals ≤ Rm.locals) : mm_V Rm rmX5_givePoints RX1 RX5 131 yX5_givePoints cX5_givePoints 4 (some .int) 2 := ⟨mm_gV (mq_3 20 rfl rfl) (mq_2 156 rfl rfl) (mq_2 157 rfl rfl) (mq_1 2 rfl rfl) (mq_2 158 rfl rfl), rfl, rfl, by decide +kernel, h1, h2⟩
set_option maxRecDepth 100000 in
theorem uX1_147 (Rm : Room) (h1 : rmX1_exchange.frames + 1 ≤ Rm.frames) (h2 : 8 + (5 + 11) + rmX1_exchange.locals ≤ Rm.locals) : mm_Sc Rm rmX1_exchange RX1 147 yX1_exchange cX1_exchange 5 (some .boolean) 3 := ⟨mm_gS (mq_3 24 rfl rfl) (mq_3 25 rfl rfl) (mq_1 9 rfl rfl) (mq_3 26 rfl rfl), rfl, rfl, by decide +kernel, h1, h2⟩
set_option maxRecDepth 100000 in
theorem uX1_15 (Rm : Room) (h1 : rmX1_nextToCheck.frames + 1 ≤ Rm.frames) (h2 : 8 + (4 + 11) + rmX1_nextToCheck.locals ≤ Rm.locals) : mm_Sc Rm rmX1_nextToCheck RX1 15 yX1_nextToCheck cX1_nextToCheck 4 (some (.object "CartPitches$Cart")) 1 := ⟨mm_gS (mq_2 212 rfl rfl) (mq_2 213 rfl rfl) (mq_1 9 rfl rfl) (mq_2 214 rfl rfl), rfl, rfl, by decide +kernel, h1, h2⟩
set_option maxRecDepth 100000 in
theorem uX1_53 (Rm : Room) (h1 : rmX0_beginDay.frames + 1 ≤ Rm.frames) (h2 : 8 + (1 + 11) + rmX0_beginDay.locals ≤ Rm.locals) : mm_V Rm rmX0_beginDay RX1 RX0 53 yX0_beginDay cX0_beginDay 1 none 0 := ⟨mm_gV (mq_2 218 rfl rfl) (mq_2 128 rfl rfl) (mq_2 129 rfl rfl) (mq_1 4 rfl rfl) (mq_2 130 rfl rfl), rfl, rfl, by decide +kernel, h1, h2⟩
set_option maxRecDepth 100000 in
theorem uX1_56 (Rm : Room) (h1 : rmX1_handOutTickets.frames + 1 ≤ Rm.frames) (h2 : 8 + (5 + 11) + rmX1_handOutTickets.locals ≤ Rm.locals) : mm_Sc Rm rmX1_handOutTickets RX1 56 yX1_handOutTickets cX1_handOutTickets 5 (some .int) 1 := ⟨mm_gS (mq_2 222 rfl rfl) (mq_2 223 rfl rfl) (mq_1 9 rfl rfl) (mq_2 224 rfl rfl), rfl, rfl, by decide +kernel, h1, h2⟩
set_option maxRecDepth 100000 in
theorem uX1_67 (Rm : Room) (h1 : rmX1_holderOfTicket.frames + 1 ≤ Rm.frames) (h2 : 8 + (4 + 11) + rmX1_holderOfTicket.locals ≤ Rm.locals) : mm_Sc Rm rmX1_holderOfTicket RX1 67 yX1_holderOfTicket cX1_holderOfTicket 4 (some .int) 2 := ⟨mm_gS (mq_2 233 rfl rfl) (mq_2 234 rfl rfl) (mq_1 9 rfl rfl) (mq_2 235 rfl rfl), rfl, rfl, by decide +kernel, h1, h2⟩
set_option maxRecDepth 100000 in
theorem uX1_71 (Rm : Room) (h1 : rmX5_hasCart.frames + 1 ≤ Rm.frames) (h2 : 8 + (2 + 11) + rmX5_hasCart.locals ≤ Rm.locals) : mm_V Rm rmX5_hasCart RX1 RX5 71 yX5_hasCart cX5_hasCart 2 (some .boolean) 1 := ⟨mm_gV (mq_2 236 rfl rfl) (mq_2 140 rfl rfl) (mq_2 141 rfl rfl) (mq_1 2 rfl rfl) (mq_2 142 rfl rfl), rfl, rfl, by decide +kernel, h1, h2⟩
set_option maxRecDepth 100000 in
theorem uX1_84 (Rm : Room) (h1 : rmX1_choosePitch.frames + 1 ≤ Rm.frames) (h2 : 8 + (5 + 11) + rmX1_choosePitch.locals ≤ Rm.locals) : mm_Sc Rm rmX1_choosePitch RX1 84 yX1_choosePitch cX1_choosePitch 5 none 2 := ⟨mm_gS (mq_2 237 rfl rfl) (mq_2 238 rfl rfl) (mq_1 9 rfl rfl) (mq_2 239 rfl rfl), rfl, rfl, by decide +kernel, h1, h2⟩
set_option maxRecDepth 100000 in
theorem uX1_88 (Rm : Room) (h1 : rmX0_reasonBeforeLots.frames + 1 ≤ Rm.frames) (h2 : 8 + (2 + 11) + rmX0_reasonBeforeLots.locals ≤ Rm.locals) : mm_V Rm rmX0_reasonBeforeLots RX1 RX0 88 yX0_reasonBeforeLots cX0_reasonBeforeLots 2 (some .int) 1 := ⟨mm_gV (mq_2 225 rfl rfl) (mq_2 226 rfl rfl) (mq_2 227 rfl rfl) (mq_1 4 rfl rfl) (mq_2 228 rfl rfl), rfl, rfl, by decide +kernel, h1, h2⟩
set_option maxRecDepth 100000 in
theorem uX2_25 (Rm : Room) (h1 : rmX5_copyFrom.frames + 1 ≤ Rm.frames) (h2 : 8 + (3 + 11) + rmX5_copyFrom.locals ≤ Rm.locals) : mm_V Rm rmX5_copyFrom RX2 RX5 25 yX5_copyFrom cX5_copyFrom 3 none 1 := ⟨mm_gV (mq_2 46 rfl rfl) (mq_2 47 rfl rfl) (mq_2 48 rfl rfl) (mq_1 2 rfl rfl) (mq_2 49 rfl rfl), rfl, rfl, by decide +kernel, h1, h2⟩
set_option maxRecDepth 100000 in
theorem uX3_15 (Rm : Room) (h1 : rmX3_countGiven.frames + 1 ≤ Rm.frames) (h2 : 8 + (5 + 11) + rmX3_countGiven.locals ≤ Rm.locals) : mm_Sc Rm rmX3_countGiven RX3 15 yX3_countGiven cX3_countGiven 5 (some .int) 1 := ⟨mm_gS (mq_3 116 rfl rfl) (mq_3 117 rfl rfl) (mq_1 6 rfl rfl) (mq_3 118 rfl rfl), rfl, rfl, by decide +kernel, h1, h2⟩
set_option maxRecDepth 100000 in
theorem uX3_23 (Rm : Room) (h1 : rmX3_codeAt.frames + 1 ≤ Rm.frames) (h2 : 8 + (3 + 11) + rmX3_codeAt.locals ≤ Rm.locals) : mm_Sc Rm rmX3_codeAt RX3 23 yX3_codeAt cX3_codeAt 3 (some .int) 2 := ⟨mm_gS (mq_3 119 rfl rfl) (mq_3 120 rfl rfl) (mq_1 6 rfl rfl) (mq_3 121 rfl rfl), rfl, rfl, by decide +kernel, h1, h2⟩
set_option maxRecDepth 100000 in
theorem uX3_27 (Rm : Room) (h1 : rmX3_signAt.frames + 1 ≤ Rm.frames) (h2 : 8 + (2 + 11) + rmX3_signAt.locals ≤ Rm.locals) : mm_V Rm rmX3_signAt RX3 RX3 27 yX3_signAt cX3_signAt 2 (some .int) 1 := ⟨mm_gV (mq_3 134 rfl rfl) (mq_3 135 rfl rfl) (mq_3 136 rfl rfl) (mq_1 6 rfl rfl) (mq_3 137 rfl rfl), rfl, rfl, by decide +kernel, h1, h2⟩
set_option maxRecDepth 100000 in
theorem uX3_31 (Rm : Room) (h1 : rmX3_awaitedBehind.frames + 1 ≤ Rm.frames) (h2 : 8 + (2 + 11) + rmX3_awaitedBehind.locals ≤ Rm.locals) : mm_Sc Rm rmX3_awaitedBehind RX3 31 yX3_awaitedBehind cX3_awaitedBehind 2 (some .int) 2 := ⟨mm_gS (mq_3 138 rfl rfl) (mq_3 139 rfl rfl) (mq_1 6 rfl rfl) (mq_3 140 rfl rfl), rfl, rfl, by decide +kernel, h1, h2⟩
set_option maxRecDepth 100000 in
theorem uX3_35 (Rm : Room) (h1 : rmX3_awaitedBehindOrder.frames + 1 ≤ Rm.frames) (h2 : 8 + (1 + 11) + rmX3_awaitedBehindOrder.locals ≤ Rm.locals) : mm_Sc Rm rmX3_awaitedBehindOrder RX3 35 yX3_awaitedBehindOrder cX3_awaitedBehindOrder 1 (some .int) 1 := ⟨mm_gS (mq_3 141 rfl rfl) (mq_3 142 rfl rfl) (mq_1 6 rfl rfl) (mq_3 143 rfl rfl), rfl, rfl, by decide +kernel, h1, h2⟩
set_option maxRecDepth 100000 in
theorem uX3_38 (Rm : Room) (h1 : rmX3_isCart.frames + 1 ≤ Rm.frames) (h2 : 8 + (1 + 11) + rmX3_isCart.locals ≤ Rm.locals) : mm_Sc Rm rmX3_isCart RX3 38 yX3_isCart cX3_isCart 1 (some .boolean) 1 := ⟨mm_gS (mq_3 144 rfl rfl) (mq_3 145 rfl rfl) (mq_1 6 rfl rfl) (mq_3 146 rfl rfl), rfl, rfl, by decide +kernel, h1, h2⟩
set_option maxRecDepth 100000 in
theorem uX3_42 (Rm : Room) (h1 : rmX3_isDigit.frames + 1 ≤ Rm.frames) (h2 : 8 + (1 + 11) + rmX3_isDigit.locals ≤ Rm.locals) : mm_Sc Rm rmX3_isDigit RX3 42 yX3_isDigit cX3_isDigit 1 (some .boolean) 1 := ⟨mm_gS (mq_3 147 rfl rfl) (mq_3 148 rfl rfl) (mq_1 6 rfl rfl) (mq_3 149 rfl rfl), rfl, rfl, by decide +kernel, h1, h2⟩
set_option maxRecDepth 100000 in
theorem uX5_100 (Rm : Room) (h1 : rmX5_isPitchOrNone.frames + 1 ≤ Rm.frames) (h2 : 8 + (2 + 11) + rmX5_isPitchOrNone.locals ≤ Rm.locals) : mm_V Rm rmX5_isPitchOrNone RX5 RX5 100 yX5_isPitchOrNone cX5_isPitchOrNone 2 (some .boolean) 1 := ⟨mm_gV (mq_2 143 rfl rfl) (mq_2 144 rfl rfl) (mq_2 145 rfl rfl) (mq_1 2 rfl rfl) (mq_2 146 rfl rfl), rfl, rfl, by decide +kernel, h1, h2⟩
set_option maxRecDepth 100000 in
theorem uX5_109 (Rm : Room) (h1 : rmX5_givePoints.frames + 1 ≤ Rm.frames) (h2 : 8 + (4 + 11) + rmX5_givePoints.locals ≤ Rm.locals) : mm_V Rm rmX5_givePoints RX5 RX5 109 yX5_givePoints cX5_givePoints 4 (some .int) 2 := ⟨mm_gV (mq_2 155 rfl rfl) (mq_2 156 rfl rfl) (mq_2 157 rfl rfl) (mq_1 2 rfl rfl) (mq_2 158 rfl rfl), rfl, rfl, by decide +kernel, h1, h2⟩
set_option maxRecDepth 100000 in
theorem uX5_117 (Rm : Room) (h1 : rmX0_addPoints.frames + 1 ≤ Rm.frames) (h2 : 8 + (4 + 11) + rmX0_addPoints.locals ≤ Rm.locals) : mm_V Rm rmX0_addPoints RX5 RX0 117 yX0_addPoints cX0_addPoints 4 none 2 := ⟨mm_gV (mq_2 159 rfl rfl) (mq_2 160 rfl rfl) (mq_2 161 rfl rfl) (mq_1 4 rfl rfl) (mq_2 162 rfl rfl), rfl, rfl, by decide +kernel, h1, h2⟩
set_option maxRecDepth 100000 in
theorem uX5_121 (Rm : Room) (h1 : rmX0_pointsLeft.frames + 1 ≤ Rm.frames) (h2 : 8 + (7 + 11) + rmX0_pointsLeft.locals ≤ Rm.locals) : mm_V Rm rmX0_pointsLeft RX5 RX0 121 yX0_pointsLeft cX0_pointsLeft 7 (some .int) 3 := ⟨mm_gV (mq_2 163 rfl rfl) (mq_2 164 rfl rfl) (mq_2 165 rfl rfl) (mq_1 4 rfl rfl) (mq_2 166 rfl rfl), rfl, rfl, by decide +kernel, h1, h2⟩
set_option maxRecDepth 100000 in
theorem uX5_128 (Rm : Room) (h1 : rmX0_dropAllPoints.frames + 1 ≤ Rm.frames) (h2 : 8 + (2 + 11) + rmX0_dropAllPoints.locals ≤ Rm.locals) : mm_V Rm rmX0_dropAllPoints RX5 RX0 128 yX0_dropAllPoints cX0_dropAllPoints 2 none 0 := ⟨mm_gV (mq_2 167 rfl rfl) (mq_2 124 rfl rfl) (mq_2 125 rfl rfl) (mq_1 4 rfl rfl) (mq_2 126 rfl rfl), rfl, rfl, by decide +kernel, h1, h2⟩
set_option maxRecDepth 100000 in
theorem uX5_135 (Rm : Room) (h1 : rmX5_countWaiting.frames + 1 ≤ Rm.frames) (h2 : 8 + (3 + 11) + rmX5_countWaiting.locals ≤ Rm.locals) : mm_V Rm rmX5_countWaiting RX5 RX5 135 yX5_countWaiting cX5_countWaiting 3 (some .int) 0 := ⟨mm_gV (mq_2 176 rfl rfl) (mq_2 177 rfl rfl) (mq_2 178 rfl rfl) (mq_1 2 rfl rfl) (mq_2 179 rfl rfl), rfl, rfl, by decide +kernel, h1, h2⟩
set_option maxRecDepth 100000 in
theorem uX5_143 (Rm : Room) (h1 : rmX0_balance.frames + 1 ≤ Rm.frames) (h2 : 8 + (1 + 11) + rmX0_balance.locals ≤ Rm.locals) : mm_V Rm rmX0_balance RX5 RX0 143 yX0_balance cX0_balance 1 (some .long) 0 := ⟨mm_gV (mq_2 197 rfl rfl) (mq_2 198 rfl rfl) (mq_2 199 rfl rfl) (mq_1 4 rfl rfl) (mq_2 200 rfl rfl), rfl, rfl, by decide +kernel, h1, h2⟩
set_option maxRecDepth 100000 in
theorem uX5_147 (Rm : Room) (h1 : rmX1_runChecks.frames + 1 ≤ Rm.frames) (h2 : 8 + (3 + 11) + rmX1_runChecks.locals ≤ Rm.locals) : mm_Sc Rm rmX1_runChecks RX5 147 yX1_runChecks cX1_runChecks 3 none 1 := ⟨mm_gS (mq_2 209 rfl rfl) (mq_2 210 rfl rfl) (mq_1 9 rfl rfl) (mq_2 211 rfl rfl), rfl, rfl, by decide +kernel, h1, h2⟩
set_option maxRecDepth 100000 in
theorem uX5_153 (Rm : Room) (h1 : rmX1_clearLastDay.frames + 1 ≤ Rm.frames) (h2 : 8 + (2 + 11) + rmX1_clearLastDay.locals ≤ Rm.locals) : mm_Sc Rm rmX1_clearLastDay RX5 153 yX1_clearLastDay cX1_clearLastDay 2 none 1 := ⟨mm_gS (mq_2 215 rfl rfl) (mq_2 216 rfl rfl) (mq_1 9 rfl rfl) (mq_2 217 rfl rfl), rfl, rfl, by decide +kernel, h1, h2⟩
set_option maxRecDepth 100000 in
theorem uX5_156 (Rm : Room) (h1 : rmX1_drawLots.frames + 1 ≤ Rm.frames) (h2 : 8 + (4 + 11) + rmX1_drawLots.locals ≤ Rm.locals) : mm_Sc Rm rmX1_drawLots RX5 156 yX1_drawLots cX1_drawLots 4 none 1 := ⟨mm_gS (mq_2 219 rfl rfl) (mq_2 220 rfl rfl) (mq_1 9 rfl rfl) (mq_2 221 rfl rfl), rfl, rfl, by decide +kernel, h1, h2⟩
set_option maxRecDepth 100000 in
theorem uX5_159 (Rm : Room) (h1 : rmX1_shareKitchens.frames + 1 ≤ Rm.frames) (h2 : 8 + (7 + 11) + rmX1_shareKitchens.locals ≤ Rm.locals) : mm_Sc Rm rmX1_shareKitchens RX5 159 yX1_shareKitchens cX1_shareKitchens 7 none 1 := ⟨mm_gS (mq_3 13 rfl rfl) (mq_3 14 rfl rfl) (mq_1 9 rfl rfl) (mq_3 15 rfl rfl), rfl, rfl, by decide +kernel, h1, h2⟩
set_option maxRecDepth 100000 in
theorem uX5_162 (Rm : Room) (h1 : rmX1_makeSwaps.frames + 1 ≤ Rm.frames) (h2 : 8 + (4 + 11) + rmX1_makeSwaps.locals ≤ Rm.locals) : mm_Sc Rm rmX1_makeSwaps RX5 162 yX1_makeSwaps cX1_makeSwaps 4 none 1 := ⟨mm_gS (mq_3 21 rfl rfl) (mq_3 22 rfl rfl) (mq_1 9 rfl rfl) (mq_3 23 rfl rfl), rfl, rfl, by decide +kernel, h1, h2⟩
set_option maxRecDepth 100000 in
theorem uX5_165 (Rm : Room) (h1 : rmX1_trade.frames + 1 ≤ Rm.frames) (h2 : 8 + (4 + 11) + rmX1_trade.locals ≤ Rm.locals) : mm_Sc Rm rmX1_trade RX5 165 yX1_trade cX1_trade 4 none 1 := ⟨mm_gS (mq_3 27 rfl rfl) (mq_3 28 rfl rfl) (mq_1 9 rfl rfl) (mq_3 29 rfl rfl), rfl, rfl, by decide +kernel, h1, h2⟩
set_option maxRecDepth 100000 in
theorem uX5_168 (Rm : Room) (h1 : rmX5_beginNextDay.frames + 1 ≤ Rm.frames) (h2 : 8 + (2 + 11) + rmX5_beginNextDay.locals ≤ Rm.locals) : mm_V Rm rmX5_beginNextDay RX5 RX5 168 yX5_beginNextDay cX5_beginNextDay 2 none 0 := ⟨mm_gV (mq_3 30 rfl rfl) (mq_3 32 rfl rfl) (mm_in 1 rfl rfl) (mq_1 2 rfl rfl) (mq_3 33 rfl rfl), rfl, rfl, by decide +kernel, h1, h2⟩
set_option maxRecDepth 100000 in
theorem uX5_171 (Rm : Room) (h1 : rmX0_dropPointsOfSameSpot.frames + 1 ≤ Rm.frames) (h2 : 8 + (3 + 11) + rmX0_dropPointsOfSameSpot.locals ≤ Rm.locals) : mm_V Rm rmX0_dropPointsOfSameSpot RX5 RX0 171 yX0_dropPointsOfSameSpot cX0_dropPointsOfSameSpot 3 none 1 := ⟨mm_gV (mq_3 34 rfl rfl) (mq_3 35 rfl rfl) (mq_3 36 rfl rfl) (mq_1 4 rfl rfl) (mq_3 37 rfl rfl), rfl, rfl, by decide +kernel, h1, h2⟩
set_option maxRecDepth 100000 in
theorem uX5_69 (Rm : Room) (h1 : rmX4_copyFrom.frames + 1 ≤ Rm.frames) (h2 : 8 + (2 + 11) + rmX4_copyFrom.locals ≤ Rm.locals) : mm_V Rm rmX4_copyFrom RX5 RX4 69 yX4_copyFrom cX4_copyFrom 2 none 1 := ⟨mm_gV (mq_2 53 rfl rfl) (mq_2 54 rfl rfl) (mq_2 55 rfl rfl) (mq_1 3 rfl rfl) (mq_2 56 rfl rfl), rfl, rfl, by decide +kernel, h1, h2⟩
set_option maxRecDepth 100000 in
theorem uX5_73 (Rm : Room) (h1 : rmX0_copyFrom.frames + 1 ≤ Rm.frames) (h2 : 8 + (2 + 11) + rmX0_copyFrom.locals ≤ Rm.locals) : mm_V Rm rmX0_copyFrom RX5 RX0 73 yX0_copyFrom cX0_copyFrom 2 none 1 := ⟨mm_gV (mq_2 57 rfl rfl) (mq_2 58 rfl rfl) (mq_2 59 rfl rfl) (mq_1 4 rfl rfl) (mq_2 60 rfl rfl), rfl, rfl, by decide +kernel, h1, h2⟩
set_option maxRecDepth 100000 in
theorem uX5_83 (Rm : Room) (h1 : rmX4_begin.frames + 1 ≤ Rm.frames) (h2 : 8 + (2 + 11) + rmX4_begin.locals ≤ Rm.locals) : mm_V Rm rmX4_begin RX5 RX4 83 yX4_begin cX4_begin 2 none 1 := ⟨mm_gV (mq_2 95 rfl rfl) (mq_2 96 rfl rfl) (mq_2 97 rfl rfl) (mq_1 3 rfl rfl) (mq_2 98 rfl rfl), rfl, rfl, by decide +kernel, h1, h2⟩
set_option maxRecDepth 100000 in
theorem uX5_87 (Rm : Room) (h1 : rmX5_hasPitch.frames + 1 ≤ Rm.frames) (h2 : 8 + (2 + 11) + rmX5_hasPitch.locals ≤ Rm.locals) : mm_V Rm rmX5_hasPitch RX5 RX5 87 yX5_hasPitch cX5_hasPitch 2 (some .boolean) 1 := ⟨mm_gV (mq_2 107 rfl rfl) (mq_2 108 rfl rfl) (mq_2 109 rfl rfl) (mq_1 2 rfl rfl) (mq_2 110 rfl rfl), rfl, rfl, by decide +kernel, h1, h2⟩
set_option maxRecDepth 100000 in
theorem uX5_94 (Rm : Room) (h1 : rmX0_begin.frames + 1 ≤ Rm.frames) (h2 : 8 + (4 + 11) + rmX0_begin.locals ≤ Rm.locals) : mm_V Rm rmX0_begin RX5 RX0 94 yX0_begin cX0_begin 4 none 3 := ⟨mm_gV (mq_2 119 rfl rfl) (mq_2 120 rfl rfl) (mq_2 121 rfl rfl) (mq_1 4 rfl rfl) (mq_2 122 rfl rfl), rfl, rfl, by decide +kernel, h1, h2⟩
set_option maxRecDepth 100000 in
theorem uX5_97 (Rm : Room) (h1 : rmX5_hasCart.frames + 1 ≤ Rm.frames) (h2 : 8 + (2 + 11) + rmX5_hasCart.locals ≤ Rm.locals) : mm_V Rm rmX5_hasCart RX5 RX5 97 yX5_hasCart cX5_hasCart 2 (some .boolean) 1 := ⟨mm_gV (mq_2 139 rfl rfl) (mq_2 140 rfl rfl) (mq_2 141 rfl rfl) (mq_1 2 rfl rfl) (mq_2 142 rfl rfl), rfl, rfl, by decide +kernel, h1, h2⟩
set_option maxRecDepth 100000 in
theorem uX6_112 (Rm : Room) (h1 : rmX0_wishAt.frames + 1 ≤ Rm.frames) (h2 : 8 + (2 + 11) + rmX0_wishAt.locals ≤ Rm.locals) : mm_V Rm rmX0_wishAt RX6 RX0 112 yX0_wishAt cX0_wishAt 2 (some .int) 1 := ⟨mm_gV (mq_3 47 rfl rfl) (mq_3 1 rfl rfl) (mq_3 2 rfl rfl) (mq_1 4 rfl rfl) (mq_3 3 rfl rfl), rfl, rfl, by decide +kernel, h1, h2⟩
set_option maxRecDepth 100000 in
theorem uX6_132 (Rm : Room) (h1 : rmX0_pointsLeft.frames + 1 ≤ Rm.frames) (h2 : 8 + (7 + 11) + rmX0_pointsLeft.locals ≤ Rm.locals) : mm_V Rm rmX0_pointsLeft RX6 RX0 132 yX0_pointsLeft cX0_pointsLeft 7 (some .int) 3 := ⟨mm_gV (mq_3 52 rfl rfl) (mq_2 164 rfl rfl) (mq_2 165 rfl rfl) (mq_1 4 rfl rfl) (mq_2 166 rfl rfl), rfl, rfl, by decide +kernel, h1, h2⟩
set_option maxRecDepth 100000 in
theorem uX6_156 (Rm : Room) (h1 : rmX0_balance.frames + 1 ≤ Rm.frames) (h2 : 8 + (1 + 11) + rmX0_balance.locals ≤ Rm.locals) : mm_V Rm rmX0_balance RX6 RX0 156 yX0_balance cX0_balance 1 (some .long) 0 := ⟨mm_gV (mq_3 58 rfl rfl) (mq_2 198 rfl rfl) (mq_2 199 rfl rfl) (mq_1 4 rfl rfl) (mq_2 200 rfl rfl), rfl, rfl, by decide +kernel, h1, h2⟩
set_option maxRecDepth 100000 in
theorem uX6_175 (Rm : Room) (h1 : rmX5_hasPitch.frames + 1 ≤ Rm.frames) (h2 : 8 + (2 + 11) + rmX5_hasPitch.locals ≤ Rm.locals) : mm_V Rm rmX5_hasPitch RX6 RX5 175 yX5_hasPitch cX5_hasPitch 2 (some .boolean) 1 := ⟨mm_gV (mq_3 64 rfl rfl) (mq_2 108 rfl rfl) (mq_2 109 rfl rfl) (mq_1 2 rfl rfl) (mq_2 110 rfl rfl), rfl, rfl, by decide +kernel, h1, h2⟩
set_option maxRecDepth 100000 in
theorem uX6_205 (Rm : Room) (h1 : rmX5_countWaiting.frames + 1 ≤ Rm.frames) (h2 : 8 + (3 + 11) + rmX5_countWaiting.locals ≤ Rm.locals) : mm_V Rm rmX5_countWaiting RX6 RX5 205 yX5_countWaiting cX5_countWaiting 3 (some .int) 0 := ⟨mm_gV (mq_3 69 rfl rfl) (mq_2 177 rfl rfl) (mq_2 178 rfl rfl) (mq_1 2 rfl rfl) (mq_2 179 rfl rfl), rfl, rfl, by decide +kernel, h1, h2⟩
set_option maxRecDepth 100000 in
theorem uX6_218 (Rm : Room) (h1 : rmX5_countOnPitches.frames + 1 ≤ Rm.frames) (h2 : 8 + (3 + 11) + rmX5_countOnPitches.locals ≤ Rm.locals) : mm_V Rm rmX5_countOnPitches RX6 RX5 218 yX5_countOnPitches cX5_countOnPitches 3 (some .int) 0 := ⟨mm_gV (mq_3 70 rfl rfl) (mq_3 71 rfl rfl) (mq_3 72 rfl rfl) (mq_1 2 rfl rfl) (mq_3 73 rfl rfl), rfl, rfl, by decide +kernel, h1, h2⟩
set_option maxRecDepth 100000 in
theorem uX6_224 (Rm : Room) (h1 : rmX5_copyFrom.frames + 1 ≤ Rm.frames) (h2 : 8 + (3 + 11) + rmX5_copyFrom.locals ≤ Rm.locals) : mm_V Rm rmX5_copyFrom RX6 RX5 224 yX5_copyFrom cX5_copyFrom 3 none 1 := ⟨mm_gV (mq_3 82 rfl rfl) (mq_2 47 rfl rfl) (mq_2 48 rfl rfl) (mq_1 2 rfl rfl) (mq_2 49 rfl rfl), rfl, rfl, by decide +kernel, h1, h2⟩
set_option maxRecDepth 100000 in
theorem uX6_227 (Rm : Room) (h1 : rmX6_pitchOnTrialDay.frames + 1 ≤ Rm.frames) (h2 : 8 + (2 + 11) + rmX6_pitchOnTrialDay.locals ≤ Rm.locals) : mm_V Rm rmX6_pitchOnTrialDay RX6 RX6 227 yX6_pitchOnTrialDay cX6_pitchOnTrialDay 2 (some .int) 1 := ⟨mm_gV (mq_3 83 rfl rfl) (mq_3 85 rfl rfl) (mm_in 4 rfl rfl) (mq_1 1 rfl rfl) (mq_3 86 rfl rfl), rfl, rfl, by decide +kernel, h1, h2⟩
set_option maxRecDepth 100000 in
theorem uX6_230 (Rm : Room) (h1 : rmX5_sameKindBeside.frames + 1 ≤ Rm.frames) (h2 : 8 + (5 + 11) + rmX5_sameKindBeside.locals ≤ Rm.locals) : mm_V Rm rmX5_sameKindBeside RX6 RX5 230 yX5_sameKindBeside cX5_sameKindBeside 5 (some .boolean) 2 := ⟨mm_gV (mq_3 107 rfl rfl) (mq_3 6 rfl rfl) (mq_3 7 rfl rfl) (mq_1 2 rfl rfl) (mq_3 8 rfl rfl), rfl, rfl, by decide +kernel, h1, h2⟩
set_option maxRecDepth 100000 in
theorem uX6_234 (Rm : Room) (h1 : rmX3_append.frames + 1 ≤ Rm.frames) (h2 : 8 + (5 + 11) + rmX3_append.locals ≤ Rm.locals) : mm_V Rm rmX3_append RX6 RX3 234 yX3_append cX3_append 5 (some .int) 1 := ⟨mm_gV (mq_3 112 rfl rfl) (mq_3 113 rfl rfl) (mq_3 114 rfl rfl) (mq_1 6 rfl rfl) (mq_3 115 rfl rfl), rfl, rfl, by decide +kernel, h1, h2⟩
set_option maxRecDepth 100000 in
theorem uX6_238 (Rm : Room) (h1 : rmX3_findFault.frames + 1 ≤ Rm.frames) (h2 : 8 + (3 + 11) + rmX3_findFault.locals ≤ Rm.locals) : mm_V Rm rmX3_findFault RX6 RX3 238 yX3_findFault cX3_findFault 3 (some .int) 0 := ⟨mm_gV (mq_3 130 rfl rfl) (mq_3 131 rfl rfl) (mq_3 132 rfl rfl) (mq_1 6 rfl rfl) (mq_3 133 rfl rfl), rfl, rfl, by decide +kernel, h1, h2⟩
set_option maxRecDepth 100000 in
theorem uX6_241 (Rm : Room) (h1 : rmX3_endsOrder.frames + 1 ≤ Rm.frames) (h2 : 8 + (2 + 11) + rmX3_endsOrder.locals ≤ Rm.locals) : mm_V Rm rmX3_endsOrder RX6 RX3 241 yX3_endsOrder cX3_endsOrder 2 (some .boolean) 1 := ⟨mm_gV (mq_3 154 rfl rfl) (mq_3 155 rfl rfl) (mq_3 156 rfl rfl) (mq_1 6 rfl rfl) (mq_3 157 rfl rfl), rfl, rfl, by decide +kernel, h1, h2⟩
set_option maxRecDepth 100000 in
theorem uX6_244 (Rm : Room) (h1 : rmX6_performOrder.frames + 1 ≤ Rm.frames) (h2 : 8 + (4 + 11) + rmX6_performOrder.locals ≤ Rm.locals) : mm_V Rm rmX6_performOrder RX6 RX6 244 yX6_performOrder cX6_performOrder 4 (some .int) 2 := ⟨mm_gV (mq_3 158 rfl rfl) (mq_3 160 rfl rfl) (mm_in 5 rfl rfl) (mq_1 1 rfl rfl) (mq_3 161 rfl rfl), rfl, rfl, by decide +kernel, h1, h2⟩
set_option maxRecDepth 100000 in
theorem uX6_247 (Rm : Room) (h1 : rmX3_signAt.frames + 1 ≤ Rm.frames) (h2 : 8 + (2 + 11) + rmX3_signAt.locals ≤ Rm.locals) : mm_V Rm rmX3_signAt RX6 RX3 247 yX3_signAt cX3_signAt 2 (some .int) 1 := ⟨mm_gV (mq_3 162 rfl rfl) (mq_3 135 rfl rfl) (mq_3 136 rfl rfl) (mq_1 6 rfl rfl) (mq_3 137 rfl rfl), rfl, rfl, by decide +kernel, h1, h2⟩
set_option maxRecDepth 100000 in
theorem uX6_250 (Rm : Room) (h1 : rmX3_wishAt.frames + 1 ≤ Rm.frames) (h2 : 8 + (3 + 11) + rmX3_wishAt.locals ≤ Rm.locals) : mm_V Rm rmX3_wishAt RX6 RX3 250 yX3_wishAt cX3_wishAt 3 (some .int) 2 := ⟨mm_gV (mq_3 163 rfl rfl) (mq_3 164 rfl rfl) (mq_3 165 rfl rfl) (mq_1 6 rfl rfl) (mq_3 166 rfl rfl), rfl, rfl, by decide +kernel, h1, h2⟩
set_option maxRecDepth 100000 in
theorem uX6_252 (Rm : Room) (h1 : rmX3_numberAt.frames + 1 ≤ Rm.frames) (h2 : 8 + (5 + 11) + rmX3_numberAt.locals ≤ Rm.locals) : mm_V Rm rmX3_numberAt RX6 RX3 252 yX3_numberAt cX3_numberAt 5 (some .int) 2 := ⟨mm_gV (mq_3 167 rfl rfl) (mq_3 168 rfl rfl) (mq_3 169 rfl rfl) (mq_1 6 rfl rfl) (mq_3 170 rfl rfl), rfl, rfl, by decide +kernel, h1, h2⟩
set_option maxRecDepth 100000 in
theorem uX6_255 (Rm : Room) (h1 : rmX2_takeBack.frames + 1 ≤ Rm.frames) (h2 : 8 + (2 + 11) + rmX2_takeBack.locals ≤ Rm.locals) : mm_V Rm rmX2_takeBack RX6 RX2 255 yX2_takeBack cX2_takeBack 2 none 1 := ⟨mm_gV (mq_3 175 rfl rfl) (mq_3 176 rfl rfl) (mq_3 177 rfl rfl) (mq_1 5 rfl rfl) (mq_3 178 rfl rfl), rfl, rfl, by decide +kernel, h1, h2⟩
set_option maxRecDepth 100000 in
theorem uX6_39 (Rm : Room) (h1 : rmX2_prepare.frames + 1 ≤ Rm.frames) (h2 : 8 + (2 + 11) + rmX2_prepare.locals ≤ Rm.locals) : mm_V Rm rmX2_prepare RX6 RX2 39 yX2_prepare cX2_prepare 2 none 1 := ⟨mm_gV (mq_2 42 rfl rfl) (mq_2 43 rfl rfl) (mq_2 44 rfl rfl) (mq_1 5 rfl rfl) (mq_2 45 rfl rfl), rfl, rfl, by decide +kernel, h1, h2⟩
set_option maxRecDepth 100000 in
theorem uX6_43 (Rm : Room) (h1 : rmX5_changeSetting.frames + 1 ≤ Rm.frames) (h2 : 8 + (4 + 11) + rmX5_changeSetting.locals ≤ Rm.locals) : mm_V Rm rmX5_changeSetting RX6 RX5 43 yX5_changeSetting cX5_changeSetting 4 (some .int) 2 := ⟨mm_gV (mq_2 62 rfl rfl) (mq_2 63 rfl rfl) (mq_2 64 rfl rfl) (mq_1 2 rfl rfl) (mq_2 65 rfl rfl), rfl, rfl, by decide +kernel, h1, h2⟩
set_option maxRecDepth 100000 in
theorem uX6_47 (Rm : Room) (h1 : rmX6_recorded.frames + 1 ≤ Rm.frames) (h2 : 8 + (2 + 11) + rmX6_recorded.locals ≤ Rm.locals) : mm_V Rm rmX6_recorded RX6 RX6 47 yX6_recorded cX6_recorded 2 (some .int) 1 := ⟨mm_gV (mq_2 70 rfl rfl) (mq_2 72 rfl rfl) (mm_in 0 rfl rfl) (mq_1 1 rfl rfl) (mq_2 73 rfl rfl), rfl, rfl, by decide +kernel, h1, h2⟩
set_option maxRecDepth 100000 in
theorem uX6_51 (Rm : Room) (h1 : rmX5_changeLots.frames + 1 ≤ Rm.frames) (h2 : 8 + (3 + 11) + rmX5_changeLots.locals ≤ Rm.locals) : mm_V Rm rmX5_changeLots RX6 RX5 51 yX5_changeLots cX5_changeLots 3 (some .int) 1 := ⟨mm_gV (mq_2 82 rfl rfl) (mq_2 83 rfl rfl) (mq_2 84 rfl rfl) (mq_1 2 rfl rfl) (mq_2 85 rfl rfl), rfl, rfl, by decide +kernel, h1, h2⟩
set_option maxRecDepth 100000 in
theorem uX6_54 (Rm : Room) (h1 : rmX5_addPitch.frames + 1 ≤ Rm.frames) (h2 : 8 + (2 + 11) + rmX5_addPitch.locals ≤ Rm.locals) : mm_V Rm rmX5_addPitch RX6 RX5 54 yX5_addPitch cX5_addPitch 2 (some .int) 1 := ⟨mm_gV (mq_2 91 rfl rfl) (mq_2 92 rfl rfl) (mq_2 93 rfl rfl) (mq_1 2 rfl rfl) (mq_2 94 rfl rfl), rfl, rfl, by decide +kernel, h1, h2⟩
set_option maxRecDepth 100000 in
theorem uX6_57 (Rm : Room) (h1 : rmX5_changeRent.frames + 1 ≤ Rm.frames) (h2 : 8 + (4 + 11) + rmX5_changeRent.locals ≤ Rm.locals) : mm_V Rm rmX5_changeRent RX6 RX5 57 yX5_changeRent cX5_changeRent 4 (some .int) 2 := ⟨mm_gV (mq_2 103 rfl rfl) (mq_2 104 rfl rfl) (mq_2 105 rfl rfl) (mq_1 2 rfl rfl) (mq_2 106 rfl rfl), rfl, rfl, by decide +kernel, h1, h2⟩
set_option maxRecDepth 100000 in
theorem uX6_60 (Rm : Room) (h1 : rmX5_addCart.frames + 1 ≤ Rm.frames) (h2 : 8 + (3 + 11) + rmX5_addCart.locals ≤ Rm.locals) : mm_V Rm rmX5_addCart RX6 RX5 60 yX5_addCart cX5_addCart 3 (some .int) 2 := ⟨mm_gV (mq_2 115 rfl rfl) (mq_2 116 rfl rfl) (mq_2 117 rfl rfl) (mq_1 2 rfl rfl) (mq_2 118 rfl rfl), rfl, rfl, by decide +kernel, h1, h2⟩
set_option maxRecDepth 100000 in
theorem uX6_63 (Rm : Room) (h1 : rmX5_tellWishes.frames + 1 ≤ Rm.frames) (h2 : 8 + (7 + 11) + rmX5_tellWishes.locals ≤ Rm.locals) : mm_V Rm rmX5_tellWishes RX6 RX5 63 yX5_tellWishes cX5_tellWishes 7 (some .int) 4 := ⟨mm_gV (mq_2 135 rfl rfl) (mq_2 136 rfl rfl) (mq_2 137 rfl rfl) (mq_1 2 rfl rfl) (mq_2 138 rfl rfl), rfl, rfl, by decide +kernel, h1, h2⟩
set_option maxRecDepth 100000 in
theorem uX6_67 (Rm : Room) (h1 : rmX5_punish.frames + 1 ≤ Rm.frames) (h2 : 8 + (3 + 11) + rmX5_punish.locals ≤ Rm.locals) : mm_V Rm rmX5_punish RX6 RX5 67 yX5_punish cX5_punish 3 (some .int) 2 := ⟨mm_gV (mq_2 151 rfl rfl) (mq_2 152 rfl rfl) (mq_2 153 rfl rfl) (mq_1 2 rfl rfl) (mq_2 154 rfl rfl), rfl, rfl, by decide +kernel, h1, h2⟩
set_option maxRecDepth 100000 in
theorem uX6_70 (Rm : Room) (h1 : rmX5_askCheck.frames + 1 ≤ Rm.frames) (h2 : 8 + (2 + 11) + rmX5_askCheck.locals ≤ Rm.locals) : mm_V Rm rmX5_askCheck RX6 RX5 70 yX5_askCheck cX5_askCheck 2 (some .int) 1 := ⟨mm_gV (mq_2 172 rfl rfl) (mq_2 173 rfl rfl) (mq_2 174 rfl rfl) (mq_1 2 rfl rfl) (mq_2 175 rfl rfl), rfl, rfl, by decide +kernel, h1, h2⟩
set_option maxRecDepth 100000 in
theorem uX6_73 (Rm : Room) (h1 : rmX5_askSwap.frames + 1 ≤ Rm.frames) (h2 : 8 + (3 + 11) + rmX5_askSwap.locals ≤ Rm.locals) : mm_V Rm rmX5_askSwap RX6 RX5 73 yX5_askSwap cX5_askSwap 3 (some .int) 2 := ⟨mm_gV (mq_2 184 rfl rfl) (mq_2 185 rfl rfl) (mq_2 186 rfl rfl) (mq_1 2 rfl rfl) (mq_2 187 rfl rfl), rfl, rfl, by decide +kernel, h1, h2⟩
set_option maxRecDepth 100000 in
theorem uX6_76 (Rm : Room) (h1 : rmX5_takeMoney.frames + 1 ≤ Rm.frames) (h2 : 8 + (3 + 11) + rmX5_takeMoney.locals ≤ Rm.locals) : mm_V Rm rmX5_takeMoney RX6 RX5 76 yX5_takeMoney cX5_takeMoney 3 (some .int) 2 := ⟨mm_gV (mq_2 192 rfl rfl) (mq_2 193 rfl rfl) (mq_2 194 rfl rfl) (mq_1 2 rfl rfl) (mq_2 195 rfl rfl), rfl, rfl, by decide +kernel, h1, h2⟩
set_option maxRecDepth 100000 in
theorem uX6_79 (Rm : Room) (h1 : rmX5_passDays.frames + 1 ≤ Rm.frames) (h2 : 8 + (3 + 11) + rmX5_passDays.locals ≤ Rm.locals) : mm_V Rm rmX5_passDays RX6 RX5 79 yX5_passDays cX5_passDays 3 (some .int) 1 := ⟨mm_gV (mq_2 205 rfl rfl) (mq_2 206 rfl rfl) (mq_2 207 rfl rfl) (mq_1 2 rfl rfl) (mq_2 208 rfl rfl), rfl, rfl, by decide +kernel, h1, h2⟩
set_option maxRecDepth 100000 in
theorem uX6_82 (Rm : Room) (h1 : rmX2_keepPrepared.frames + 1 ≤ Rm.frames) (h2 : 8 + (1 + 11) + rmX2_keepPrepared.locals ≤ Rm.locals) : mm_V Rm rmX2_keepPrepared RX6 RX2 82 yX2_keepPrepared cX2_keepPrepared 1 none 0 := ⟨mm_gV (mq_2 74 rfl rfl) (mq_2 75 rfl rfl) (mq_2 76 rfl rfl) (mq_1 5 rfl rfl) (mq_2 77 rfl rfl), rfl, rfl, by decide +kernel, h1, h2⟩
set_option maxRecDepth 100000 in
theorem uX6_85 (Rm : Room) (h1 : rmX5_hasCart.frames + 1 ≤ Rm.frames) (h2 : 8 + (2 + 11) + rmX5_hasCart.locals ≤ Rm.locals) : mm_V Rm rmX5_hasCart RX6 RX5 85 yX5_hasCart cX5_hasCart 2 (some .boolean) 1 := ⟨mm_gV (mq_3 42 rfl rfl) (mq_2 140 rfl rfl) (mq_2 141 rfl rfl) (mq_1 2 rfl rfl) (mq_2 142 rfl rfl), rfl, rfl, by decide +kernel, h1, h2⟩
set_option maxRecDepth 100000 in
theorem uX6_93 (Rm : Room) (h1 : rmX6_aboutCart.frames + 1 ≤ Rm.frames) (h2 : 8 + (3 + 11) + rmX6_aboutCart.locals ≤ Rm.locals) : mm_V Rm rmX6_aboutCart RX6 RX6 93 yX6_aboutCart cX6_aboutCart 3 (some .int) 2 := ⟨mm_gV (mq_3 43 rfl rfl) (mq_3 45 rfl rfl) (mm_in 2 rfl rfl) (mq_1 1 rfl rfl) (mq_3 46 rfl rfl), rfl, rfl, by decide +kernel, h1, h2⟩
set_option maxRecDepth 100000 in
theorem uX6_97 (Rm : Room) (h1 : rmX6_aboutPastOfCart.frames + 1 ≤ Rm.frames) (h2 : 8 + (3 + 11) + rmX6_aboutPastOfCart.locals ≤ Rm.locals) : mm_V Rm rmX6_aboutPastOfCart RX6 RX6 97 yX6_aboutPastOfCart cX6_aboutPastOfCart 3 (some .int) 2 := ⟨mm_gV (mq_3 48 rfl rfl) (mq_3 50 rfl rfl) (mm_in 3 rfl rfl) (mq_1 1 rfl rfl) (mq_3 51 rfl rfl), rfl, rfl, by decide +kernel, h1, h2⟩
set_option maxRecDepth 100000 in
theorem uX7_102 (Rm : Room) (h1 : rmX7_trySwap.frames + 1 ≤ Rm.frames) (h2 : 8 + (4 + 11) + rmX7_trySwap.locals ≤ Rm.locals) : mm_V Rm rmX7_trySwap RX7 RX7 102 yX7_trySwap cX7_trySwap 4 (some .int) 3 := ⟨mm_gV (mq_4 102 rfl rfl) (mq_4 104 rfl rfl) (mm_in 20 rfl rfl) (mq_1 7 rfl rfl) (mq_4 105 rfl rfl), rfl, rfl, by decide +kernel, h1, h2⟩
set_option maxRecDepth 100000 in
theorem uX7_106 (Rm : Room) (h1 : rmX7_balance.frames + 1 ≤ Rm.frames) (h2 : 8 + (2 + 11) + rmX7_balance.locals ≤ Rm.locals) : mm_V Rm rmX7_balance RX7 RX7 106 yX7_balance cX7_balance 2 (some .int) 1 := ⟨mm_gV (mq_4 111 rfl rfl) (mq_4 113 rfl rfl) (mm_in 21 rfl rfl) (mq_1 7 rfl rfl) (mq_4 114 rfl rfl), rfl, rfl, by decide +kernel, h1, h2⟩
set_option maxRecDepth 100000 in
theorem uX7_109 (Rm : Room) (h1 : rmX7_nextToCheck.frames + 1 ≤ Rm.frames) (h2 : 8 + (4 + 11) + rmX7_nextToCheck.locals ≤ Rm.locals) : mm_V Rm rmX7_nextToCheck RX7 RX7 109 yX7_nextToCheck cX7_nextToCheck 4 (some .int) 0 := ⟨mm_gV (mq_4 131 rfl rfl) (mq_4 133 rfl rfl) (mm_in 25 rfl rfl) (mq_1 7 rfl rfl) (mq_4 134 rfl rfl), rfl, rfl, by decide +kernel, h1, h2⟩
set_option maxRecDepth 100000 in
theorem uX7_112 (Rm : Room) (h1 : rmX7_whyOut.frames + 1 ≤ Rm.frames) (h2 : 8 + (2 + 11) + rmX7_whyOut.locals ≤ Rm.locals) : mm_V Rm rmX7_whyOut RX7 RX7 112 yX7_whyOut cX7_whyOut 2 (some .int) 1 := ⟨mm_gV (mq_4 139 rfl rfl) (mq_4 141 rfl rfl) (mm_in 27 rfl rfl) (mq_1 7 rfl rfl) (mq_4 142 rfl rfl), rfl, rfl, by decide +kernel, h1, h2⟩
set_option maxRecDepth 100000 in
theorem uX7_115 (Rm : Room) (h1 : rmX7_isKindAt.frames + 1 ≤ Rm.frames) (h2 : 8 + (5 + 11) + rmX7_isKindAt.locals ≤ Rm.locals) : mm_V Rm rmX7_isKindAt RX7 RX7 115 yX7_isKindAt cX7_isKindAt 5 (some .boolean) 3 := ⟨mm_gV (mq_4 168 rfl rfl) (mq_4 170 rfl rfl) (mm_in 34 rfl rfl) (mq_1 7 rfl rfl) (mq_4 171 rfl rfl), rfl, rfl, by decide +kernel, h1, h2⟩
set_option maxRecDepth 100000 in
theorem uX7_118 (Rm : Room) (h1 : rmX7_isApart.frames + 1 ≤ Rm.frames) (h2 : 8 + (3 + 11) + rmX7_isApart.locals ≤ Rm.locals) : mm_V Rm rmX7_isApart RX7 RX7 118 yX7_isApart cX7_isApart 3 (some .boolean) 2 := ⟨mm_gV (mq_4 164 rfl rfl) (mq_4 166 rfl rfl) (mm_in 33 rfl rfl) (mq_1 7 rfl rfl) (mq_4 167 rfl rfl), rfl, rfl, by decide +kernel, h1, h2⟩
set_option maxRecDepth 100000 in
theorem uX7_122 (Rm : Room) (h1 : rmX7_put.frames + 1 ≤ Rm.frames) (h2 : 8 + (3 + 11) + rmX7_put.locals ≤ Rm.locals) : mm_V Rm rmX7_put RX7 RX7 122 yX7_put cX7_put 3 none 2 := ⟨mm_gV (mq_4 172 rfl rfl) (mq_4 174 rfl rfl) (mm_in 35 rfl rfl) (mq_1 7 rfl rfl) (mq_4 175 rfl rfl), rfl, rfl, by decide +kernel, h1, h2⟩
set_option maxRecDepth 100000 in
theorem uX7_126 (Rm : Room) (h1 : rmX7_isToDraw.frames + 1 ≤ Rm.frames) (h2 : 8 + (2 + 11) + rmX7_isToDraw.locals ≤ Rm.locals) : mm_V Rm rmX7_isToDraw RX7 RX7 126 yX7_isToDraw cX7_isToDraw 2 (some .boolean) 1 := ⟨mm_gV (mq_4 147 rfl rfl) (mq_4 149 rfl rfl) (mm_in 29 rfl rfl) (mq_1 7 rfl rfl) (mq_4 150 rfl rfl), rfl, rfl, by decide +kernel, h1, h2⟩
set_option maxRecDepth 100000 in
theorem uX7_129 (Rm : Room) (h1 : rmX7_ticketsOf.frames + 1 ≤ Rm.frames) (h2 : 8 + (3 + 11) + rmX7_ticketsOf.locals ≤ Rm.locals) : mm_V Rm rmX7_ticketsOf RX7 RX7 129 yX7_ticketsOf cX7_ticketsOf 3 (some .int) 1 := ⟨mm_gV (mq_4 151 rfl rfl) (mq_4 153 rfl rfl) (mm_in 30 rfl rfl) (mq_1 7 rfl rfl) (mq_4 154 rfl rfl), rfl, rfl, by decide +kernel, h1, h2⟩
set_option maxRecDepth 100000 in
theorem uX7_132 (Rm : Room) (h1 : rmX7_drawOne.frames + 1 ≤ Rm.frames) (h2 : 8 + (4 + 11) + rmX7_drawOne.locals ≤ Rm.locals) : mm_V Rm rmX7_drawOne RX7 RX7 132 yX7_drawOne cX7_drawOne 4 (some .int) 1 := ⟨mm_gV (mq_4 155 rfl rfl) (mq_4 157 rfl rfl) (mm_in 31 rfl rfl) (mq_1 7 rfl rfl) (mq_4 158 rfl rfl), rfl, rfl, by decide +kernel, h1, h2⟩
set_option maxRecDepth 100000 in
theorem uX7_135 (Rm : Room) (h1 : rmX7_choose.frames + 1 ≤ Rm.frames) (h2 : 8 + (4 + 11) + rmX7_choose.locals ≤ Rm.locals) : mm_V Rm rmX7_choose RX7 RX7 135 yX7_choose cX7_choose 4 none 1 := ⟨mm_gV (mq_4 160 rfl rfl) (mq_4 162 rfl rfl) (mm_in 32 rfl rfl) (mq_1 7 rfl rfl) (mq_4 163 rfl rfl), rfl, rfl, by decide +kernel, h1, h2⟩
set_option maxRecDepth 100000 in
theorem uX7_145 (Rm : Room) (h1 : rmX7_drawnAt.frames + 1 ≤ Rm.frames) (h2 : 8 + (3 + 11) + rmX7_drawnAt.locals ≤ Rm.locals) : mm_V Rm rmX7_drawnAt RX7 RX7 145 yX7_drawnAt cX7_drawnAt 3 (some .int) 1 := ⟨mm_gV (mq_4 180 rfl rfl) (mq_4 182 rfl rfl) (mm_in 37 rfl rfl) (mq_1 7 rfl rfl) (mq_4 183 rfl rfl), rfl, rfl, by decide +kernel, h1, h2⟩
set_option maxRecDepth 100000 in
theorem uX7_148 (Rm : Room) (h1 : rmX7_cook.frames + 1 ≤ Rm.frames) (h2 : 8 + (5 + 11) + rmX7_cook.locals ≤ Rm.locals) : mm_V Rm rmX7_cook RX7 RX7 148 yX7_cook cX7_cook 5 none 1 := ⟨mm_gV (mq_4 184 rfl rfl) (mq_4 186 rfl rfl) (mm_in 38 rfl rfl) (mq_1 7 rfl rfl) (mq_4 187 rfl rfl), rfl, rfl, by decide +kernel, h1, h2⟩
set_option maxRecDepth 100000 in
theorem uX7_151 (Rm : Room) (h1 : rmX7_checkAll.frames + 1 ≤ Rm.frames) (h2 : 8 + (3 + 11) + rmX7_checkAll.locals ≤ Rm.locals) : mm_V Rm rmX7_checkAll RX7 RX7 151 yX7_checkAll cX7_checkAll 3 none 0 := ⟨mm_gV (mq_4 127 rfl rfl) (mq_4 129 rfl rfl) (mm_in 24 rfl rfl) (mq_1 7 rfl rfl) (mq_4 130 rfl rfl), rfl, rfl, by decide +kernel, h1, h2⟩
set_option maxRecDepth 100000 in
theorem uX7_154 (Rm : Room) (h1 : rmX7_beginDay.frames + 1 ≤ Rm.frames) (h2 : 8 + (2 + 11) + rmX7_beginDay.locals ≤ Rm.locals) : mm_V Rm rmX7_beginDay RX7 RX7 154 yX7_beginDay cX7_beginDay 2 none 0 := ⟨mm_gV (mq_4 135 rfl rfl) (mq_4 137 rfl rfl) (mm_in 26 rfl rfl) (mq_1 7 rfl rfl) (mq_4 138 rfl rfl), rfl, rfl, by decide +kernel, h1, h2⟩
set_option maxRecDepth 100000 in
theorem uX7_157 (Rm : Room) (h1 : rmX7_drawAll.frames + 1 ≤ Rm.frames) (h2 : 8 + (5 + 11) + rmX7_drawAll.locals ≤ Rm.locals) : mm_V Rm rmX7_drawAll RX7 RX7 157 yX7_drawAll cX7_drawAll 5 none 0 := ⟨mm_gV (mq_4 143 rfl rfl) (mq_4 145 rfl rfl) (mm_in 28 rfl rfl) (mq_1 7 rfl rfl) (mq_4 146 rfl rfl), rfl, rfl, by decide +kernel, h1, h2⟩
set_option maxRecDepth 100000 in
theorem uX7_160 (Rm : Room) (h1 : rmX7_cookAll.frames + 1 ≤ Rm.frames) (h2 : 8 + (3 + 11) + rmX7_cookAll.locals ≤ Rm.locals) : mm_V Rm rmX7_cookAll RX7 RX7 160 yX7_cookAll cX7_cookAll 3 none 0 := ⟨mm_gV (mq_4 176 rfl rfl) (mq_4 178 rfl rfl) (mm_in 36 rfl rfl) (mq_1 7 rfl rfl) (mq_4 179 rfl rfl), rfl, rfl, by decide +kernel, h1, h2⟩
set_option maxRecDepth 100000 in
theorem uX7_163 (Rm : Room) (h1 : rmX7_swapAll.frames + 1 ≤ Rm.frames) (h2 : 8 + (7 + 11) + rmX7_swapAll.locals ≤ Rm.locals) : mm_V Rm rmX7_swapAll RX7 RX7 163 yX7_swapAll cX7_swapAll 7 none 0 := ⟨mm_gV (mq_4 188 rfl rfl) (mq_4 190 rfl rfl) (mm_in 39 rfl rfl) (mq_1 7 rfl rfl) (mq_4 191 rfl rfl), rfl, rfl, by decide +kernel, h1, h2⟩
set_option maxRecDepth 100000 in
theorem uX7_166 (Rm : Room) (h1 : rmX7_trade.frames + 1 ≤ Rm.frames) (h2 : 8 + (3 + 11) + rmX7_trade.locals ≤ Rm.locals) : mm_V Rm rmX7_trade RX7 RX7 166 yX7_trade cX7_trade 3 none 0 := ⟨mm_gV (mq_4 192 rfl rfl) (mq_4 194 rfl rfl) (mm_in 40 rfl rfl) (mq_1 7 rfl rfl) (mq_4 195 rfl rfl), rfl, rfl, by decide +kernel, h1, h2⟩
set_option maxRecDepth 100000 in
theorem uX7_169 (Rm : Room) (h1 : rmX7_passDay.frames + 1 ≤ Rm.frames) (h2 : 8 + (2 + 11) + rmX7_passDay.locals ≤ Rm.locals) : mm_V Rm rmX7_passDay RX7 RX7 169 yX7_passDay cX7_passDay 2 none 0 := ⟨mm_gV (mq_4 123 rfl rfl) (mq_4 125 rfl rfl) (mm_in 23 rfl rfl) (mq_1 7 rfl rfl) (mq_4 126 rfl rfl), rfl, rfl, by decide +kernel, h1, h2⟩
set_option maxRecDepth 100000 in
theorem uX7_172 (Rm : Room) (h1 : rmX7_tryDays.frames + 1 ≤ Rm.frames) (h2 : 8 + (4 + 11) + rmX7_tryDays.locals ≤ Rm.locals) : mm_V Rm rmX7_tryDays RX7 RX7 172 yX7_tryDays cX7_tryDays 4 (some .int) 2 := ⟨mm_gV (mq_4 119 rfl rfl) (mq_4 121 rfl rfl) (mm_in 22 rfl rfl) (mq_1 7 rfl rfl) (mq_4 122 rfl rfl), rfl, rfl, by decide +kernel, h1, h2⟩
set_option maxRecDepth 100000 in
theorem uX7_182 (Rm : Room) (h1 : rmX7_atPitches.frames + 1 ≤ Rm.frames) (h2 : 8 + (3 + 11) + rmX7_atPitches.locals ≤ Rm.locals) : mm_V Rm rmX7_atPitches RX7 RX7 182 yX7_atPitches cX7_atPitches 3 (some .int) 0 := ⟨mm_gV (mq_4 214 rfl rfl) (mq_4 216 rfl rfl) (mm_in 41 rfl rfl) (mq_1 7 rfl rfl) (mq_4 217 rfl rfl), rfl, rfl, by decide +kernel, h1, h2⟩
set_option maxRecDepth 100000 in
theorem uX7_185 (Rm : Room) (h1 : rmX7_layAside.frames + 1 ≤ Rm.frames) (h2 : 8 + (2 + 11) + rmX7_layAside.locals ≤ Rm.locals) : mm_V Rm rmX7_layAside RX7 RX7 185 yX7_layAside cX7_layAside 2 none 0 := ⟨mm_gV (mq_4 226 rfl rfl) (mq_4 228 rfl rfl) (mm_in 42 rfl rfl) (mq_1 7 rfl rfl) (mq_4 229 rfl rfl), rfl, rfl, by decide +kernel, h1, h2⟩
set_option maxRecDepth 100000 in
theorem uX7_188 (Rm : Room) (h1 : rmX7_layBack.frames + 1 ≤ Rm.frames) (h2 : 8 + (2 + 11) + rmX7_layBack.locals ≤ Rm.locals) : mm_V Rm rmX7_layBack RX7 RX7 188 yX7_layBack cX7_layBack 2 none 0 := ⟨mm_gV (mq_4 230 rfl rfl) (mq_4 232 rfl rfl) (mm_in 43 rfl rfl) (mq_1 7 rfl rfl) (mq_4 233 rfl rfl), rfl, rfl, by decide +kernel, h1, h2⟩
set_option maxRecDepth 100000 in
theorem uX7_200 (Rm : Room) (h1 : rmX7_next.frames + 1 ≤ Rm.frames) (h2 : 8 + (1 + 11) + rmX7_next.locals ≤ Rm.locals) : mm_V Rm rmX7_next RX7 RX7 200 yX7_next cX7_next 1 (some .int) 0 := ⟨mm_gV (mq_5 31 rfl rfl) (mq_5 33 rfl rfl) (mm_in 45 rfl rfl) (mq_1 7 rfl rfl) (mq_5 34 rfl rfl), rfl, rfl, by decide +kernel, h1, h2⟩
set_option maxRecDepth 100000 in
theorem uX7_206 (Rm : Room) (h1 : rmX7_takeOne.frames + 1 ≤ Rm.frames) (h2 : 8 + (4 + 11) + rmX7_takeOne.locals ≤ Rm.locals) : mm_V Rm rmX7_takeOne RX7 RX7 206 yX7_takeOne cX7_takeOne 4 none 3 := ⟨mm_gV (mq_5 39 rfl rfl) (mq_5 41 rfl rfl) (mm_in 47 rfl rfl) (mq_1 7 rfl rfl) (mq_5 42 rfl rfl), rfl, rfl, by decide +kernel, h1, h2⟩
set_option maxRecDepth 100000 in
theorem uX7_209 (Rm : Room) (h1 : rmX7_takeWishes.frames + 1 ≤ Rm.frames) (h2 : 8 + (2 + 11) + rmX7_takeWishes.locals ≤ Rm.locals) : mm_V Rm rmX7_takeWishes RX7 RX7 209 yX7_takeWishes cX7_takeWishes 2 none 0 := ⟨mm_gV (mq_5 35 rfl rfl) (mq_5 37 rfl rfl) (mm_in 46 rfl rfl) (mq_1 7 rfl rfl) (mq_5 38 rfl rfl), rfl, rfl, by decide +kernel, h1, h2⟩
set_option maxRecDepth 100000 in
theorem uX7_212 (Rm : Room) (h1 : rmX7_takeNumber.frames + 1 ≤ Rm.frames) (h2 : 8 + (2 + 11) + rmX7_takeNumber.locals ≤ Rm.locals) : mm_V Rm rmX7_takeNumber RX7 RX7 212 yX7_takeNumber cX7_takeNumber 2 none 0 := ⟨mm_gV (mq_5 43 rfl rfl) (mq_5 45 rfl rfl) (mm_in 48 rfl rfl) (mq_1 7 rfl rfl) (mq_5 46 rfl rfl), rfl, rfl, by decide +kernel, h1, h2⟩
set_option maxRecDepth 100000 in
theorem uX7_215 (Rm : Room) (h1 : rmX7_takeOrder.frames + 1 ≤ Rm.frames) (h2 : 8 + (2 + 11) + rmX7_takeOrder.locals ≤ Rm.locals) : mm_V Rm rmX7_takeOrder RX7 RX7 215 yX7_takeOrder cX7_takeOrder 2 none 0 := ⟨mm_gV (mq_5 27 rfl rfl) (mq_5 29 rfl rfl) (mm_in 44 rfl rfl) (mq_1 7 rfl rfl) (mq_5 30 rfl rfl), rfl, rfl, by decide +kernel, h1, h2⟩
set_option maxRecDepth 100000 in
theorem uX7_218 (Rm : Room) (h1 : rmX7_fault.frames + 1 ≤ Rm.frames) (h2 : 8 + (1 + 11) + rmX7_fault.locals ≤ Rm.locals) : mm_V Rm rmX7_fault RX7 RX7 218 yX7_fault cX7_fault 1 (some .int) 0 := ⟨mm_gV (mq_5 51 rfl rfl) (mq_5 24 rfl rfl) (mq_5 25 rfl rfl) (mq_1 7 rfl rfl) (mq_5 26 rfl rfl), rfl, rfl, by decide +kernel, h1, h2⟩
set_option maxRecDepth 100000 in
theorem uX7_221 (Rm : Room) (h1 : rmX7_carry.frames + 1 ≤ Rm.frames) (h2 : 8 + (3 + 11) + rmX7_carry.locals ≤ Rm.locals) : mm_V Rm rmX7_carry RX7 RX7 221 yX7_carry cX7_carry 3 (some .int) 1 := ⟨mm_gV (mq_5 52 rfl rfl) (mq_5 54 rfl rfl) (mm_in 49 rfl rfl) (mq_1 7 rfl rfl) (mq_5 55 rfl rfl), rfl, rfl, by decide +kernel, h1, h2⟩
set_option maxRecDepth 100000 in
theorem uX7_35 (Rm : Room) (h1 : rmX7_in.frames + 1 ≤ Rm.frames) (h2 : 8 + (3 + 11) + rmX7_in.locals ≤ Rm.locals) : mm_Sc Rm rmX7_in RX7 35 yX7_in cX7_in 3 (some .boolean) 3 := ⟨mm_gS (mq_4 4 rfl rfl) (mq_4 5 rfl rfl) (mq_1 7 rfl rfl) (mq_4 6 rfl rfl), rfl, rfl, by decide +kernel, h1, h2⟩
set_option maxRecDepth 100000 in
theorem uX7_43 (Rm : Room) (h1 : rmX7_keep.frames + 1 ≤ Rm.frames) (h2 : 8 + (2 + 11) + rmX7_keep.locals ≤ Rm.locals) : mm_V Rm rmX7_keep RX7 RX7 43 yX7_keep cX7_keep 2 none 0 := ⟨mm_gV (mq_4 13 rfl rfl) (mq_4 15 rfl rfl) (mm_in 6 rfl rfl) (mq_1 7 rfl rfl) (mq_4 16 rfl rfl), rfl, rfl, by decide +kernel, h1, h2⟩
set_option maxRecDepth 100000 in
theorem uX7_46 (Rm : Room) (h1 : rmX7_least.frames + 1 ≤ Rm.frames) (h2 : 8 + (1 + 11) + rmX7_least.locals ≤ Rm.locals) : mm_Sc Rm rmX7_least RX7 46 yX7_least cX7_least 1 (some .int) 1 := ⟨mm_gS (mq_4 7 rfl rfl) (mq_4 8 rfl rfl) (mq_1 7 rfl rfl) (mq_4 9 rfl rfl), rfl, rfl, by decide +kernel, h1, h2⟩
set_option maxRecDepth 100000 in
theorem uX7_50 (Rm : Room) (h1 : rmX7_greatest.frames + 1 ≤ Rm.frames) (h2 : 8 + (1 + 11) + rmX7_greatest.locals ≤ Rm.locals) : mm_Sc Rm rmX7_greatest RX7 50 yX7_greatest cX7_greatest 1 (some .int) 1 := ⟨mm_gS (mq_4 10 rfl rfl) (mq_4 11 rfl rfl) (mq_1 7 rfl rfl) (mq_4 12 rfl rfl), rfl, rfl, by decide +kernel, h1, h2⟩
set_option maxRecDepth 100000 in
theorem uX7_54 (Rm : Room) (h1 : rmX7_isPitch.frames + 1 ≤ Rm.frames) (h2 : 8 + (2 + 11) + rmX7_isPitch.locals ≤ Rm.locals) : mm_V Rm rmX7_isPitch RX7 RX7 54 yX7_isPitch cX7_isPitch 2 (some .boolean) 1 := ⟨mm_gV (mq_4 30 rfl rfl) (mq_4 32 rfl rfl) (mm_in 7 rfl rfl) (mq_1 7 rfl rfl) (mq_4 33 rfl rfl), rfl, rfl, by decide +kernel, h1, h2⟩
set_option maxRecDepth 100000 in
theorem uX7_58 (Rm : Room) (h1 : rmX7_ofP.frames + 1 ≤ Rm.frames) (h2 : 8 + (3 + 11) + rmX7_ofP.locals ≤ Rm.locals) : mm_V Rm rmX7_ofP RX7 RX7 58 yX7_ofP cX7_ofP 3 (some .int) 2 := ⟨mm_gV (mq_4 34 rfl rfl) (mq_4 36 rfl rfl) (mm_in 8 rfl rfl) (mq_1 7 rfl rfl) (mq_4 37 rfl rfl), rfl, rfl, by decide +kernel, h1, h2⟩
set_option maxRecDepth 100000 in
theorem uX7_62 (Rm : Room) (h1 : rmX7_lay.frames + 1 ≤ Rm.frames) (h2 : 8 + (4 + 11) + rmX7_lay.locals ≤ Rm.locals) : mm_V Rm rmX7_lay RX7 RX7 62 yX7_lay cX7_lay 4 none 3 := ⟨mm_gV (mq_4 42 rfl rfl) (mq_4 44 rfl rfl) (mm_in 9 rfl rfl) (mq_1 7 rfl rfl) (mq_4 45 rfl rfl), rfl, rfl, by decide +kernel, h1, h2⟩
set_option maxRecDepth 100000 in
theorem uX7_66 (Rm : Room) (h1 : rmX7_of.frames + 1 ≤ Rm.frames) (h2 : 8 + (3 + 11) + rmX7_of.locals ≤ Rm.locals) : mm_V Rm rmX7_of RX7 RX7 66 yX7_of cX7_of 3 (some .int) 2 := ⟨mm_gV (mq_4 78 rfl rfl) (mq_4 80 rfl rfl) (mm_in 16 rfl rfl) (mq_1 7 rfl rfl) (mq_4 81 rfl rfl), rfl, rfl, by decide +kernel, h1, h2⟩
set_option maxRecDepth 100000 in
theorem uX7_69 (Rm : Room) (h1 : rmX7_pointsAt.frames + 1 ≤ Rm.frames) (h2 : 8 + (7 + 11) + rmX7_pointsAt.locals ≤ Rm.locals) : mm_V Rm rmX7_pointsAt RX7 RX7 69 yX7_pointsAt cX7_pointsAt 7 (some .int) 2 := ⟨mm_gV (mq_4 82 rfl rfl) (mq_4 84 rfl rfl) (mm_in 17 rfl rfl) (mq_1 7 rfl rfl) (mq_4 85 rfl rfl), rfl, rfl, by decide +kernel, h1, h2⟩
set_option maxRecDepth 100000 in
theorem uX7_72 (Rm : Room) (h1 : rmX7_isCart.frames + 1 ≤ Rm.frames) (h2 : 8 + (2 + 11) + rmX7_isCart.locals ≤ Rm.locals) : mm_V Rm rmX7_isCart RX7 RX7 72 yX7_isCart cX7_isCart 2 (some .boolean) 1 := ⟨mm_gV (mq_4 54 rfl rfl) (mq_4 56 rfl rfl) (mm_in 11 rfl rfl) (mq_1 7 rfl rfl) (mq_4 57 rfl rfl), rfl, rfl, by decide +kernel, h1, h2⟩
set_option maxRecDepth 100000 in
theorem uX7_75 (Rm : Room) (h1 : rmX7_isNumber.frames + 1 ≤ Rm.frames) (h2 : 8 + (2 + 11) + rmX7_isNumber.locals ≤ Rm.locals) : mm_V Rm rmX7_isNumber RX7 RX7 75 yX7_isNumber cX7_isNumber 2 (some .boolean) 1 := ⟨mm_gV (mq_4 58 rfl rfl) (mq_4 60 rfl rfl) (mm_in 12 rfl rfl) (mq_1 7 rfl rfl) (mq_4 61 rfl rfl), rfl, rfl, by decide +kernel, h1, h2⟩
set_option maxRecDepth 100000 in
theorem uX7_78 (Rm : Room) (h1 : rmX7_keepIf.frames + 1 ≤ Rm.frames) (h2 : 8 + (2 + 11) + rmX7_keepIf.locals ≤ Rm.locals) : mm_V Rm rmX7_keepIf RX7 RX7 78 yX7_keepIf cX7_keepIf 2 none 1 := ⟨mm_gV (mq_4 62 rfl rfl) (mq_4 64 rfl rfl) (mm_in 13 rfl rfl) (mq_1 7 rfl rfl) (mq_4 65 rfl rfl), rfl, rfl, by decide +kernel, h1, h2⟩
set_option maxRecDepth 100000 in
theorem uX7_82 (Rm : Room) (h1 : rmX7_tryWish.frames + 1 ≤ Rm.frames) (h2 : 8 + (8 + 11) + rmX7_tryWish.locals ≤ Rm.locals) : mm_V Rm rmX7_tryWish RX7 RX7 82 yX7_tryWish cX7_tryWish 8 (some .int) 5 := ⟨mm_gV (mq_4 50 rfl rfl) (mq_4 52 rfl rfl) (mm_in 10 rfl rfl) (mq_1 7 rfl rfl) (mq_4 53 rfl rfl), rfl, rfl, by decide +kernel, h1, h2⟩
set_option maxRecDepth 100000 in
theorem uX7_86 (Rm : Room) (h1 : rmX7_give.frames + 1 ≤ Rm.frames) (h2 : 8 + (4 + 11) + rmX7_give.locals ≤ Rm.locals) : mm_V Rm rmX7_give RX7 RX7 86 yX7_give cX7_give 4 none 2 := ⟨mm_gV (mq_4 74 rfl rfl) (mq_4 76 rfl rfl) (mm_in 15 rfl rfl) (mq_1 7 rfl rfl) (mq_4 77 rfl rfl), rfl, rfl, by decide +kernel, h1, h2⟩
set_option maxRecDepth 100000 in
theorem uX7_90 (Rm : Room) (h1 : rmX7_tryFine.frames + 1 ≤ Rm.frames) (h2 : 8 + (4 + 11) + rmX7_tryFine.locals ≤ Rm.locals) : mm_V Rm rmX7_tryFine RX7 RX7 90 yX7_tryFine cX7_tryFine 4 (some .int) 3 := ⟨mm_gV (mq_4 70 rfl rfl) (mq_4 72 rfl rfl) (mm_in 14 rfl rfl) (mq_1 7 rfl rfl) (mq_4 73 rfl rfl), rfl, rfl, by decide +kernel, h1, h2⟩
set_option maxRecDepth 100000 in
theorem uX7_94 (Rm : Room) (h1 : rmX7_waiting.frames + 1 ≤ Rm.frames) (h2 : 8 + (3 + 11) + rmX7_waiting.locals ≤ Rm.locals) : mm_V Rm rmX7_waiting RX7 RX7 94 yX7_waiting cX7_waiting 3 (some .int) 0 := ⟨mm_gV (mq_4 94 rfl rfl) (mq_4 96 rfl rfl) (mm_in 19 rfl rfl) (mq_1 7 rfl rfl) (mq_4 97 rfl rfl), rfl, rfl, by decide +kernel, h1, h2⟩
set_option maxRecDepth 100000 in
theorem uX7_98 (Rm : Room) (h1 : rmX7_tryCheck.frames + 1 ≤ Rm.frames) (h2 : 8 + (3 + 11) + rmX7_tryCheck.locals ≤ Rm.locals) : mm_V Rm rmX7_tryCheck RX7 RX7 98 yX7_tryCheck cX7_tryCheck 3 (some .int) 2 := ⟨mm_gV (mq_4 90 rfl rfl) (mq_4 92 rfl rfl) (mm_in 18 rfl rfl) (mq_1 7 rfl rfl) (mq_4 93 rfl rfl), rfl, rfl, by decide +kernel, h1, h2⟩
end WDS
end
