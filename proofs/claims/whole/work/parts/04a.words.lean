theorem tb_0 {w : Cond} (i : Nat) (h : (k2_sels lw_privs)[i]? = some w) (hg : goodWord w = true) : w ∈ mTB := List.mem_filter.mpr ⟨List.mem_append_left _ (List.mem_of_getElem? h), hg⟩
theorem tb_t {w : Cond} (h : w ∈ tables_1) (hg : goodWord w = true) : w ∈ mTB := List.mem_filter.mpr ⟨List.mem_append_right _ h, hg⟩
theorem tb_1 {w : Cond} (i : Nat) (h : tables_1_1[i]? = some w) (hg : goodWord w = true) : w ∈ mTB := tb_t (List.mem_append_left _ (List.mem_of_getElem? h)) hg
theorem tb_2 {w : Cond} (i : Nat) (h : tables_1_2[i]? = some w) (hg : goodWord w = true) : w ∈ mTB := tb_t (List.mem_append_right _ (List.mem_append_left _ (List.mem_of_getElem? h))) hg
theorem tb_3 {w : Cond} (i : Nat) (h : tables_1_3[i]? = some w) (hg : goodWord w = true) : w ∈ mTB := tb_t (List.mem_append_right _ (List.mem_append_right _ (List.mem_append_left _ (List.mem_of_getElem? h)))) hg
theorem tb_4 {w : Cond} (i : Nat) (h : tables_1_4[i]? = some w) (hg : goodWord w = true) : w ∈ mTB := tb_t (List.mem_append_right _ (List.mem_append_right _ (List.mem_append_right _ (List.mem_append_left _ (List.mem_of_getElem? h))))) hg
theorem tb_5 {w : Cond} (i : Nat) (h : tables_1_5[i]? = some w) (hg : goodWord w = true) : w ∈ mTB := tb_t (List.mem_append_right _ (List.mem_append_right _ (List.mem_append_right _ (List.mem_append_right _ (List.mem_append_left _ (List.mem_of_getElem? h)))))) hg
theorem tb_6 {w : Cond} (i : Nat) (h : tables_1_6[i]? = some w) (hg : goodWord w = true) : w ∈ mTB := tb_t (List.mem_append_right _ (List.mem_append_right _ (List.mem_append_right _ (List.mem_append_right _ (List.mem_append_right _ (List.mem_of_getElem? h)))))) hg
theorem w_0 : (Jvm.Cond.selects "SharedNights$Form" ({ cls := "SharedNights$Form", name := "readToken", desc := "()V" } : Jvm.MethodName) ({ cls := "SharedNights$Form", name := "readToken", desc := "()V" } : Jvm.MethodName)) ∈ mTB := tb_0 0 (by decide +kernel) rfl
theorem w_1 : (Jvm.Cond.selects "SharedNights$Form" ({ cls := "SharedNights$Form", name := "readWord", desc := "()V" } : Jvm.MethodName) ({ cls := "SharedNights$Form", name := "readWord", desc := "()V" } : Jvm.MethodName)) ∈ mTB := tb_0 1 (by decide +kernel) rfl
theorem w_2 : (Jvm.Cond.selects "SharedNights$Form" ({ cls := "SharedNights$Form", name := "readNumber", desc := "()V" } : Jvm.MethodName) ({ cls := "SharedNights$Form", name := "readNumber", desc := "()V" } : Jvm.MethodName)) ∈ mTB := tb_0 2 (by decide +kernel) rfl
theorem w_3 : (Jvm.Cond.selects "SharedNights$Form" ({ cls := "SharedNights$Form", name := "takeToken", desc := "(I)Z" } : Jvm.MethodName) ({ cls := "SharedNights$Form", name := "takeToken", desc := "(I)Z" } : Jvm.MethodName)) ∈ mTB := tb_0 3 (by decide +kernel) rfl
theorem w_4 : (Jvm.Cond.selects "SharedNights$Form" ({ cls := "SharedNights$Form", name := "takeWord", desc := "()Z" } : Jvm.MethodName) ({ cls := "SharedNights$Form", name := "takeWord", desc := "()Z" } : Jvm.MethodName)) ∈ mTB := tb_0 4 (by decide +kernel) rfl
theorem w_5 : (Jvm.Cond.selects "SharedNights$Form" ({ cls := "SharedNights$Form", name := "tokenIs", desc := "(Ljava/lang/String;)Z" } : Jvm.MethodName) ({ cls := "SharedNights$Form", name := "tokenIs", desc := "(Ljava/lang/String;)Z" } : Jvm.MethodName)) ∈ mTB := tb_0 5 (by decide +kernel) rfl
theorem w_6 : (Jvm.Cond.selects "SharedNights$Form" ({ cls := "SharedNights$Form", name := "takeNumber", desc := "(I)Z" } : Jvm.MethodName) ({ cls := "SharedNights$Form", name := "takeNumber", desc := "(I)Z" } : Jvm.MethodName)) ∈ mTB := tb_0 6 (by decide +kernel) rfl
theorem w_7 : (Jvm.Cond.selects "SharedNights$Form" ({ cls := "SharedNights$Form", name := "leastNumber", desc := "()I" } : Jvm.MethodName) ({ cls := "SharedNights$Form", name := "leastNumber", desc := "()I" } : Jvm.MethodName)) ∈ mTB := tb_0 7 (by decide +kernel) rfl
theorem w_8 : (Jvm.Cond.selects "SharedNights$Form" ({ cls := "SharedNights$Form", name := "mostNumber", desc := "(I)I" } : Jvm.MethodName) ({ cls := "SharedNights$Form", name := "mostNumber", desc := "(I)I" } : Jvm.MethodName)) ∈ mTB := tb_0 8 (by decide +kernel) rfl
theorem w_9 : (Jvm.Cond.selects "SharedNights$Form" ({ cls := "SharedNights$Form", name := "keepNumber", desc := "()V" } : Jvm.MethodName) ({ cls := "SharedNights$Form", name := "keepNumber", desc := "()V" } : Jvm.MethodName)) ∈ mTB := tb_0 9 (by decide +kernel) rfl
theorem w_10 : (Jvm.Cond.selects "SharedNights$Form" ({ cls := "SharedNights$Form", name := "takeSign", desc := "()Z" } : Jvm.MethodName) ({ cls := "SharedNights$Form", name := "takeSign", desc := "()Z" } : Jvm.MethodName)) ∈ mTB := tb_0 10 (by decide +kernel) rfl
theorem w_11 : (Jvm.Cond.selects "SharedNights$Form" ({ cls := "SharedNights$Form", name := "whatCanStand", desc := "()I" } : Jvm.MethodName) ({ cls := "SharedNights$Form", name := "whatCanStand", desc := "()I" } : Jvm.MethodName)) ∈ mTB := tb_0 11 (by decide +kernel) rfl
theorem w_12 : (Jvm.Cond.selects "SharedNights$BestNight" ({ cls := "SharedNights$BestNight", name := "gatherPlacements", desc := "(I)V" } : Jvm.MethodName) ({ cls := "SharedNights$BestNight", name := "gatherPlacements", desc := "(I)V" } : Jvm.MethodName)) ∈ mTB := tb_0 12 (by decide +kernel) rfl
theorem w_13 : (Jvm.Cond.selects "SharedNights$BestNight" ({ cls := "SharedNights$BestNight", name := "gatherSteps", desc := "(IIIII)V" } : Jvm.MethodName) ({ cls := "SharedNights$BestNight", name := "gatherSteps", desc := "(IIIII)V" } : Jvm.MethodName)) ∈ mTB := tb_0 13 (by decide +kernel) rfl
theorem w_14 : (Jvm.Cond.selects "SharedNights$BestNight" ({ cls := "SharedNights$BestNight", name := "keepPlacement", desc := "(II)V" } : Jvm.MethodName) ({ cls := "SharedNights$BestNight", name := "keepPlacement", desc := "(II)V" } : Jvm.MethodName)) ∈ mTB := tb_0 14 (by decide +kernel) rfl
theorem w_15 : (Jvm.Cond.selects "SharedNights$BestNight" ({ cls := "SharedNights$BestNight", name := "weigh", desc := "(I)V" } : Jvm.MethodName) ({ cls := "SharedNights$BestNight", name := "weigh", desc := "(I)V" } : Jvm.MethodName)) ∈ mTB := tb_0 15 (by decide +kernel) rfl
theorem w_16 : (Jvm.Cond.selects "SharedNights$BestNight" ({ cls := "SharedNights$BestNight", name := "partsAreAble", desc := "(I)Z" } : Jvm.MethodName) ({ cls := "SharedNights$BestNight", name := "partsAreAble", desc := "(I)Z" } : Jvm.MethodName)) ∈ mTB := tb_0 16 (by decide +kernel) rfl
theorem w_17 : (Jvm.Cond.selects "SharedNights$BestNight" ({ cls := "SharedNights$BestNight", name := "settle", desc := "(IIJ)Z" } : Jvm.MethodName) ({ cls := "SharedNights$BestNight", name := "settle", desc := "(IIJ)Z" } : Jvm.MethodName)) ∈ mTB := tb_0 17 (by decide +kernel) rfl
theorem w_18 : (Jvm.Cond.selects "SharedNights$BestNight" ({ cls := "SharedNights$BestNight", name := "slotsLeft", desc := "(J)I" } : Jvm.MethodName) ({ cls := "SharedNights$BestNight", name := "slotsLeft", desc := "(J)I" } : Jvm.MethodName)) ∈ mTB := tb_0 18 (by decide +kernel) rfl
theorem w_19 : (Jvm.Cond.selects "SharedNights$BestNight" ({ cls := "SharedNights$BestNight", name := "isHopeless", desc := "(IJ)Z" } : Jvm.MethodName) ({ cls := "SharedNights$BestNight", name := "isHopeless", desc := "(IJ)Z" } : Jvm.MethodName)) ∈ mTB := tb_0 19 (by decide +kernel) rfl
theorem w_20 : (Jvm.Cond.selects "SharedNights$BestNight" ({ cls := "SharedNights$BestNight", name := "tryKey", desc := "(IJ)J" } : Jvm.MethodName) ({ cls := "SharedNights$BestNight", name := "tryKey", desc := "(IJ)J" } : Jvm.MethodName)) ∈ mTB := tb_0 20 (by decide +kernel) rfl
theorem w_21 : (Jvm.Cond.selects "SharedNights$BestNight" ({ cls := "SharedNights$BestNight", name := "keepHopeless", desc := "(IJ)V" } : Jvm.MethodName) ({ cls := "SharedNights$BestNight", name := "keepHopeless", desc := "(IJ)V" } : Jvm.MethodName)) ∈ mTB := tb_0 21 (by decide +kernel) rfl
theorem w_22 : (Jvm.Cond.selects "SharedNights$BestNight" ({ cls := "SharedNights$BestNight", name := "bestOf", desc := "(II)I" } : Jvm.MethodName) ({ cls := "SharedNights$BestNight", name := "bestOf", desc := "(II)I" } : Jvm.MethodName)) ∈ mTB := tb_0 22 (by decide +kernel) rfl
theorem w_23 : (Jvm.Cond.selects "SharedNights$BestNight" ({ cls := "SharedNights$BestNight", name := "isBetter", desc := "(IIII)Z" } : Jvm.MethodName) ({ cls := "SharedNights$BestNight", name := "isBetter", desc := "(IIII)Z" } : Jvm.MethodName)) ∈ mTB := tb_0 23 (by decide +kernel) rfl
theorem w_24 : (Jvm.Cond.selects "SharedNights$BestNight" ({ cls := "SharedNights$BestNight", name := "worthIf", desc := "(III)I" } : Jvm.MethodName) ({ cls := "SharedNights$BestNight", name := "worthIf", desc := "(III)I" } : Jvm.MethodName)) ∈ mTB := tb_0 24 (by decide +kernel) rfl
theorem w_25 : (Jvm.Cond.selects "SharedNights$BestNight" ({ cls := "SharedNights$BestNight", name := "bestMask", desc := "(I)I" } : Jvm.MethodName) ({ cls := "SharedNights$BestNight", name := "bestMask", desc := "(I)I" } : Jvm.MethodName)) ∈ mTB := tb_0 25 (by decide +kernel) rfl
theorem w_26 : (Jvm.Cond.selects "SharedNights$BestNight" ({ cls := "SharedNights$BestNight", name := "takenByBest", desc := "()J" } : Jvm.MethodName) ({ cls := "SharedNights$BestNight", name := "takenByBest", desc := "()J" } : Jvm.MethodName)) ∈ mTB := tb_0 26 (by decide +kernel) rfl
theorem w_27 : (Jvm.Cond.selects "SharedNights$Watch" ({ cls := "SharedNights$Watch", name := "breakLateChains", desc := "(I)V" } : Jvm.MethodName) ({ cls := "SharedNights$Watch", name := "breakLateChains", desc := "(I)V" } : Jvm.MethodName)) ∈ mTB := tb_0 27 (by decide +kernel) rfl
theorem w_28 : (Jvm.Cond.selects "SharedNights$Watch" ({ cls := "SharedNights$Watch", name := "isWaiting", desc := "(I)Z" } : Jvm.MethodName) ({ cls := "SharedNights$Watch", name := "isWaiting", desc := "(I)Z" } : Jvm.MethodName)) ∈ mTB := tb_0 28 (by decide +kernel) rfl
theorem w_29 : (Jvm.Cond.selects "SharedNights$Watch" ({ cls := "SharedNights$Watch", name := "stepOf", desc := "(I)LSharedNights$Step;" } : Jvm.MethodName) ({ cls := "SharedNights$Watch", name := "stepOf", desc := "(I)LSharedNights$Step;" } : Jvm.MethodName)) ∈ mTB := tb_0 29 (by decide +kernel) rfl
theorem w_30 : (Jvm.Cond.selects "SharedNights$Watch" ({ cls := "SharedNights$Watch", name := "breakChain", desc := "(I)V" } : Jvm.MethodName) ({ cls := "SharedNights$Watch", name := "breakChain", desc := "(I)V" } : Jvm.MethodName)) ∈ mTB := tb_0 30 (by decide +kernel) rfl
theorem w_31 : (Jvm.Cond.selects "SharedNights$Watch" ({ cls := "SharedNights$Watch", name := "choose", desc := "(III)I" } : Jvm.MethodName) ({ cls := "SharedNights$Watch", name := "choose", desc := "(III)I" } : Jvm.MethodName)) ∈ mTB := tb_0 31 (by decide +kernel) rfl
theorem w_32 : (Jvm.Cond.selects "SharedNights$Watch" ({ cls := "SharedNights$Watch", name := "mayBegin", desc := "(III)Z" } : Jvm.MethodName) ({ cls := "SharedNights$Watch", name := "mayBegin", desc := "(III)Z" } : Jvm.MethodName)) ∈ mTB := tb_0 32 (by decide +kernel) rfl
theorem w_33 : (Jvm.Cond.selects "SharedNights$Watch" ({ cls := "SharedNights$Watch", name := "targetOf", desc := "(I)LSharedNights$Target;" } : Jvm.MethodName) ({ cls := "SharedNights$Watch", name := "targetOf", desc := "(I)LSharedNights$Target;" } : Jvm.MethodName)) ∈ mTB := tb_0 33 (by decide +kernel) rfl
theorem w_34 : (Jvm.Cond.selects "SharedNights$Watch" ({ cls := "SharedNights$Watch", name := "rankOf", desc := "(III)I" } : Jvm.MethodName) ({ cls := "SharedNights$Watch", name := "rankOf", desc := "(III)I" } : Jvm.MethodName)) ∈ mTB := tb_0 34 (by decide +kernel) rfl
theorem w_35 : (Jvm.Cond.selects "SharedNights$Watch" ({ cls := "SharedNights$Watch", name := "beginIn", desc := "(III)I" } : Jvm.MethodName) ({ cls := "SharedNights$Watch", name := "beginIn", desc := "(III)I" } : Jvm.MethodName)) ∈ mTB := tb_0 35 (by decide +kernel) rfl
theorem w_36 : (Jvm.Cond.selects "SharedNights$Watch" ({ cls := "SharedNights$Watch", name := "exposeIn", desc := "(I)V" } : Jvm.MethodName) ({ cls := "SharedNights$Watch", name := "exposeIn", desc := "(I)V" } : Jvm.MethodName)) ∈ mTB := tb_0 36 (by decide +kernel) rfl
theorem w_37 : (Jvm.Cond.selects "SharedNights$Watch" ({ cls := "SharedNights$Watch", name := "goOnIn", desc := "(II)I" } : Jvm.MethodName) ({ cls := "SharedNights$Watch", name := "goOnIn", desc := "(II)I" } : Jvm.MethodName)) ∈ mTB := tb_0 37 (by decide +kernel) rfl
theorem w_38 : (Jvm.Cond.selects "SharedNights" ({ cls := "SharedNights", name := "weighedScore", desc := "(I)I" } : Jvm.MethodName) ({ cls := "SharedNights", name := "weighedScore", desc := "(I)I" } : Jvm.MethodName)) ∈ mTB := tb_0 38 (by decide +kernel) rfl
theorem w_39 : (Jvm.Cond.selects "SharedNights" ({ cls := "SharedNights", name := "readNeeds", desc := "(I)Z" } : Jvm.MethodName) ({ cls := "SharedNights", name := "readNeeds", desc := "(I)Z" } : Jvm.MethodName)) ∈ mTB := tb_0 39 (by decide +kernel) rfl
theorem w_40 : (Jvm.Cond.selects "SharedNights$BestNight" ({ cls := "SharedNights$BestNight", name := "mostBeside", desc := "(J)I" } : Jvm.MethodName) ({ cls := "SharedNights$BestNight", name := "mostBeside", desc := "(J)I" } : Jvm.MethodName)) ∈ mTB := tb_0 40 (by decide +kernel) rfl
theorem w_41 : (Jvm.Cond.selects "SharedNights" ({ cls := "SharedNights", name := "enterLog", desc := "()V" } : Jvm.MethodName) ({ cls := "SharedNights", name := "enterLog", desc := "()V" } : Jvm.MethodName)) ∈ mTB := tb_0 41 (by decide +kernel) rfl
theorem w_42 : (Jvm.Cond.selects "SharedNights" ({ cls := "SharedNights", name := "removeDonePlans", desc := "()V" } : Jvm.MethodName) ({ cls := "SharedNights", name := "removeDonePlans", desc := "()V" } : Jvm.MethodName)) ∈ mTB := tb_0 42 (by decide +kernel) rfl
theorem w_43 : (Jvm.Cond.selects "SharedNightsModel" ({ cls := "SharedNightsModel", name := "isTarget", desc := "(I)Z" } : Jvm.MethodName) ({ cls := "SharedNightsModel", name := "isTarget", desc := "(I)Z" } : Jvm.MethodName)) ∈ mTB := tb_0 43 (by decide +kernel) rfl
theorem w_44 : (Jvm.Cond.selects "SharedNightsModel" ({ cls := "SharedNightsModel", name := "isSlot", desc := "(I)Z" } : Jvm.MethodName) ({ cls := "SharedNightsModel", name := "isSlot", desc := "(I)Z" } : Jvm.MethodName)) ∈ mTB := tb_0 44 (by decide +kernel) rfl
theorem w_45 : (Jvm.Cond.selects "SharedNightsModel" ({ cls := "SharedNightsModel", name := "isVisible", desc := "(II)Z" } : Jvm.MethodName) ({ cls := "SharedNightsModel", name := "isVisible", desc := "(II)Z" } : Jvm.MethodName)) ∈ mTB := tb_0 45 (by decide +kernel) rfl
theorem w_46 : (Jvm.Cond.selects "SharedNightsModel" ({ cls := "SharedNightsModel", name := "airOf", desc := "(II)I" } : Jvm.MethodName) ({ cls := "SharedNightsModel", name := "airOf", desc := "(II)I" } : Jvm.MethodName)) ∈ mTB := tb_0 46 (by decide +kernel) rfl
theorem w_47 : (Jvm.Cond.selects "SharedNightsModel" ({ cls := "SharedNightsModel", name := "isSky", desc := "(I)Z" } : Jvm.MethodName) ({ cls := "SharedNightsModel", name := "isSky", desc := "(I)Z" } : Jvm.MethodName)) ∈ mTB := tb_0 47 (by decide +kernel) rfl
theorem w_48 : (Jvm.Cond.selects "SharedNightsModel" ({ cls := "SharedNightsModel", name := "isRead", desc := "()Z" } : Jvm.MethodName) ({ cls := "SharedNightsModel", name := "isRead", desc := "()Z" } : Jvm.MethodName)) ∈ mTB := tb_0 48 (by decide +kernel) rfl
theorem w_49 : (Jvm.Cond.selects "SharedNightsModel" ({ cls := "SharedNightsModel", name := "findTokens", desc := "()V" } : Jvm.MethodName) ({ cls := "SharedNightsModel", name := "findTokens", desc := "()V" } : Jvm.MethodName)) ∈ mTB := tb_0 49 (by decide +kernel) rfl
theorem w_50 : (Jvm.Cond.selects "SharedNightsModel" ({ cls := "SharedNightsModel", name := "isNumber", desc := "(III)Z" } : Jvm.MethodName) ({ cls := "SharedNightsModel", name := "isNumber", desc := "(III)Z" } : Jvm.MethodName)) ∈ mTB := tb_0 50 (by decide +kernel) rfl
theorem w_51 : (Jvm.Cond.selects "SharedNightsModel" ({ cls := "SharedNightsModel", name := "keep", desc := "(III)V" } : Jvm.MethodName) ({ cls := "SharedNightsModel", name := "keep", desc := "(III)V" } : Jvm.MethodName)) ∈ mTB := tb_0 51 (by decide +kernel) rfl
theorem w_52 : (Jvm.Cond.selects "SharedNightsModel" ({ cls := "SharedNightsModel", name := "isPlan", desc := "(I)Z" } : Jvm.MethodName) ({ cls := "SharedNightsModel", name := "isPlan", desc := "(I)Z" } : Jvm.MethodName)) ∈ mTB := tb_0 52 (by decide +kernel) rfl
theorem w_53 : (Jvm.Cond.selects "SharedNightsModel" ({ cls := "SharedNightsModel", name := "remove", desc := "(I)V" } : Jvm.MethodName) ({ cls := "SharedNightsModel", name := "remove", desc := "(I)V" } : Jvm.MethodName)) ∈ mTB := tb_0 53 (by decide +kernel) rfl
theorem w_54 : (Jvm.Cond.selects "SharedNightsModel" ({ cls := "SharedNightsModel", name := "findPlacements", desc := "(I)V" } : Jvm.MethodName) ({ cls := "SharedNightsModel", name := "findPlacements", desc := "(I)V" } : Jvm.MethodName)) ∈ mTB := tb_0 54 (by decide +kernel) rfl
theorem w_55 : (Jvm.Cond.selects "SharedNightsModel" ({ cls := "SharedNightsModel", name := "stepSlots", desc := "(III)I" } : Jvm.MethodName) ({ cls := "SharedNightsModel", name := "stepSlots", desc := "(III)I" } : Jvm.MethodName)) ∈ mTB := tb_0 55 (by decide +kernel) rfl
theorem w_56 : (Jvm.Cond.selects "SharedNightsModel" ({ cls := "SharedNightsModel", name := "ofStep", desc := "(III)I" } : Jvm.MethodName) ({ cls := "SharedNightsModel", name := "ofStep", desc := "(III)I" } : Jvm.MethodName)) ∈ mTB := tb_0 56 (by decide +kernel) rfl
theorem w_57 : (Jvm.Cond.selects "SharedNightsModel" ({ cls := "SharedNightsModel", name := "fitsStep", desc := "(IIII)Z" } : Jvm.MethodName) ({ cls := "SharedNightsModel", name := "fitsStep", desc := "(IIII)Z" } : Jvm.MethodName)) ∈ mTB := tb_0 57 (by decide +kernel) rfl
theorem w_58 : (Jvm.Cond.selects "SharedNightsModel" ({ cls := "SharedNightsModel", name := "fits", desc := "(IIIIII)Z" } : Jvm.MethodName) ({ cls := "SharedNightsModel", name := "fits", desc := "(IIIIII)Z" } : Jvm.MethodName)) ∈ mTB := tb_0 58 (by decide +kernel) rfl
theorem w_59 : (Jvm.Cond.selects "SharedNightsModel" ({ cls := "SharedNightsModel", name := "stepsOf", desc := "(I)I" } : Jvm.MethodName) ({ cls := "SharedNightsModel", name := "stepsOf", desc := "(I)I" } : Jvm.MethodName)) ∈ mTB := tb_0 59 (by decide +kernel) rfl
theorem w_60 : (Jvm.Cond.selects "SharedNightsModel" ({ cls := "SharedNightsModel", name := "addPlacement", desc := "(II)V" } : Jvm.MethodName) ({ cls := "SharedNightsModel", name := "addPlacement", desc := "(II)V" } : Jvm.MethodName)) ∈ mTB := tb_0 60 (by decide +kernel) rfl
theorem w_61 : (Jvm.Cond.selects "SharedNightsModel" ({ cls := "SharedNightsModel", name := "findAll", desc := "()V" } : Jvm.MethodName) ({ cls := "SharedNightsModel", name := "findAll", desc := "()V" } : Jvm.MethodName)) ∈ mTB := tb_0 61 (by decide +kernel) rfl
theorem w_62 : (Jvm.Cond.selects "SharedNightsModel" ({ cls := "SharedNightsModel", name := "findBest", desc := "()V" } : Jvm.MethodName) ({ cls := "SharedNightsModel", name := "findBest", desc := "()V" } : Jvm.MethodName)) ∈ mTB := tb_0 62 (by decide +kernel) rfl
theorem w_63 : (Jvm.Cond.selects "SharedNightsModel" ({ cls := "SharedNightsModel", name := "worthOf", desc := "(I)I" } : Jvm.MethodName) ({ cls := "SharedNightsModel", name := "worthOf", desc := "(I)I" } : Jvm.MethodName)) ∈ mTB := tb_0 63 (by decide +kernel) rfl
theorem w_64 : (Jvm.Cond.selects "SharedNightsModel" ({ cls := "SharedNightsModel", name := "slotsNeeded", desc := "(I)I" } : Jvm.MethodName) ({ cls := "SharedNightsModel", name := "slotsNeeded", desc := "(I)I" } : Jvm.MethodName)) ∈ mTB := tb_0 64 (by decide +kernel) rfl
theorem w_65 : (Jvm.Cond.selects "SharedNightsModel" ({ cls := "SharedNightsModel", name := "goWithAll", desc := "(II)Z" } : Jvm.MethodName) ({ cls := "SharedNightsModel", name := "goWithAll", desc := "(II)Z" } : Jvm.MethodName)) ∈ mTB := tb_0 65 (by decide +kernel) rfl
theorem w_66 : (Jvm.Cond.selects "SharedNightsModel" ({ cls := "SharedNightsModel", name := "goWith", desc := "(IIII)Z" } : Jvm.MethodName) ({ cls := "SharedNightsModel", name := "goWith", desc := "(IIII)Z" } : Jvm.MethodName)) ∈ mTB := tb_0 66 (by decide +kernel) rfl
theorem w_67 : (Jvm.Cond.selects "SharedNightsModel" ({ cls := "SharedNightsModel", name := "bestSet", desc := "()I" } : Jvm.MethodName) ({ cls := "SharedNightsModel", name := "bestSet", desc := "()I" } : Jvm.MethodName)) ∈ mTB := tb_0 67 (by decide +kernel) rfl
theorem w_68 : (Jvm.Cond.selects "SharedNightsModel" ({ cls := "SharedNightsModel", name := "isInAt", desc := "(II)Z" } : Jvm.MethodName) ({ cls := "SharedNightsModel", name := "isInAt", desc := "(II)Z" } : Jvm.MethodName)) ∈ mTB := tb_0 68 (by decide +kernel) rfl
theorem w_69 : (Jvm.Cond.selects "SharedNightsModel" ({ cls := "SharedNightsModel", name := "watchTo", desc := "(III)V" } : Jvm.MethodName) ({ cls := "SharedNightsModel", name := "watchTo", desc := "(III)V" } : Jvm.MethodName)) ∈ mTB := tb_0 69 (by decide +kernel) rfl
theorem w_70 : (Jvm.Cond.selects "SharedNightsModel" ({ cls := "SharedNightsModel", name := "breakChain", desc := "(I)V" } : Jvm.MethodName) ({ cls := "SharedNightsModel", name := "breakChain", desc := "(I)V" } : Jvm.MethodName)) ∈ mTB := tb_0 70 (by decide +kernel) rfl
theorem w_71 : (Jvm.Cond.selects "SharedNightsModel" ({ cls := "SharedNightsModel", name := "mayBegin", desc := "(III)Z" } : Jvm.MethodName) ({ cls := "SharedNightsModel", name := "mayBegin", desc := "(III)Z" } : Jvm.MethodName)) ∈ mTB := tb_0 71 (by decide +kernel) rfl
theorem w_72 : (Jvm.Cond.selects "SharedNightsModel" ({ cls := "SharedNightsModel", name := "isAhead", desc := "(IIII)Z" } : Jvm.MethodName) ({ cls := "SharedNightsModel", name := "isAhead", desc := "(IIII)Z" } : Jvm.MethodName)) ∈ mTB := tb_0 72 (by decide +kernel) rfl
theorem w_73 : (Jvm.Cond.selects "SharedNightsModel" ({ cls := "SharedNightsModel", name := "lastVisible", desc := "(I)I" } : Jvm.MethodName) ({ cls := "SharedNightsModel", name := "lastVisible", desc := "(I)I" } : Jvm.MethodName)) ∈ mTB := tb_0 73 (by decide +kernel) rfl
theorem w_74 : (Jvm.Cond.selects "SharedNightsModel" ({ cls := "SharedNightsModel", name := "findValue", desc := "(I)V" } : Jvm.MethodName) ({ cls := "SharedNightsModel", name := "findValue", desc := "(I)V" } : Jvm.MethodName)) ∈ mTB := tb_0 74 (by decide +kernel) rfl
theorem w_75 : (Jvm.Cond.selects "SharedNightsModel" ({ cls := "SharedNightsModel", name := "findAlert", desc := "(IIIII)V" } : Jvm.MethodName) ({ cls := "SharedNightsModel", name := "findAlert", desc := "(IIIII)V" } : Jvm.MethodName)) ∈ mTB := tb_0 75 (by decide +kernel) rfl
theorem w_76 : (Jvm.Cond.selects "SharedNightsModel" ({ cls := "SharedNightsModel", name := "debtOf", desc := "(I)I" } : Jvm.MethodName) ({ cls := "SharedNightsModel", name := "debtOf", desc := "(I)I" } : Jvm.MethodName)) ∈ mTB := tb_0 76 (by decide +kernel) rfl
theorem w_78 : (Jvm.Cond.initialized "SharedNights") ∈ mTB := tb_1 1 (by decide +kernel) rfl
theorem w_79 : (Jvm.Cond.initialized "SharedNights$Night") ∈ mTB := tb_1 2 (by decide +kernel) rfl
theorem w_80 : (Jvm.Cond.initialized "SharedNights$Target") ∈ mTB := tb_1 3 (by decide +kernel) rfl
theorem w_81 : (Jvm.Cond.initialized "SharedNights$Form") ∈ mTB := tb_1 4 (by decide +kernel) rfl
theorem w_82 : (Jvm.Cond.initialized "SharedNights$Plan") ∈ mTB := tb_1 5 (by decide +kernel) rfl
theorem w_83 : (Jvm.Cond.initialized "SharedNights$Step") ∈ mTB := tb_1 6 (by decide +kernel) rfl
theorem w_84 : (Jvm.Cond.initialized "SharedNights$Book") ∈ mTB := tb_1 7 (by decide +kernel) rfl
theorem w_85 : (Jvm.Cond.initialized "SharedNights$BestNight") ∈ mTB := tb_1 8 (by decide +kernel) rfl
theorem w_86 : (Jvm.Cond.initialized "SharedNights$Watch") ∈ mTB := tb_1 9 (by decide +kernel) rfl
theorem w_87 : (Jvm.Cond.initialized "SharedNights$Ledger") ∈ mTB := tb_1 10 (by decide +kernel) rfl
theorem w_88 : (Jvm.Cond.initialized "SharedNightsModel") ∈ mTB := tb_1 11 (by decide +kernel) rfl
theorem w_89 : (Jvm.Cond.initialized "java/lang/Math") ∈ mTB := tb_1 12 (by decide +kernel) rfl
theorem w_94 : (Jvm.Cond.initialized "java/lang/Long") ∈ mTB := tb_1 17 (by decide +kernel) rfl
theorem w_95 : (Jvm.Cond.initialized "java/lang/System") ∈ mTB := tb_1 18 (by decide +kernel) rfl
theorem w_96 : (Jvm.Cond.classLink "SharedNightsLaw" (7 : Nat) "SharedNights") ∈ mTB := tb_1 19 (by decide +kernel) rfl
theorem w_97 : (Jvm.Cond.instantiable "SharedNights" (7 : Nat)) ∈ mTB := tb_1 20 (by decide +kernel) rfl
theorem w_98 : (Jvm.Cond.methodLink "SharedNightsLaw" (9 : Nat) ({ cls := "SharedNights", name := "<init>", desc := "()V" } : Jvm.MethodName)) ∈ mTB := tb_1 21 (by decide +kernel) rfl
theorem w_99 : (Jvm.Cond.instanceMethod ({ cls := "SharedNights", name := "<init>", desc := "()V" } : Jvm.MethodName)) ∈ mTB := tb_1 22 (by decide +kernel) rfl
theorem w_100 : (Jvm.Cond.code ({ cls := "SharedNights", name := "<init>", desc := "()V" } : Jvm.MethodName) prog_1_method_1_code (1 : Nat) (Option.none : Option Jvm.ClassFile.FieldType)) ∈ mTB := tb_1 23 (by decide +kernel) rfl
theorem w_101 : (Jvm.Cond.methodLink "SharedNights" (1 : Nat) ({ cls := "java/lang/Object", name := "<init>", desc := "()V" } : Jvm.MethodName)) ∈ mTB := tb_1 24 (by decide +kernel) rfl
theorem w_102 : (Jvm.Cond.instanceMethod ({ cls := "java/lang/Object", name := "<init>", desc := "()V" } : Jvm.MethodName)) ∈ mTB := tb_1 25 (by decide +kernel) rfl
theorem w_103 : (Jvm.Cond.code ({ cls := "java/lang/Object", name := "<init>", desc := "()V" } : Jvm.MethodName) object_method_1_code (1 : Nat) (Option.none : Option Jvm.ClassFile.FieldType)) ∈ mTB := tb_1 26 (by decide +kernel) rfl
theorem w_104 : (Jvm.Cond.classLink "SharedNights" (7 : Nat) "SharedNights$Night") ∈ mTB := tb_1 27 (by decide +kernel) rfl
theorem w_105 : (Jvm.Cond.instantiable "SharedNights$Night" (10 : Nat)) ∈ mTB := tb_1 28 (by decide +kernel) rfl
theorem w_106 : (Jvm.Cond.methodLink "SharedNights" (9 : Nat) ({ cls := "SharedNights$Night", name := "<init>", desc := "()V" } : Jvm.MethodName)) ∈ mTB := tb_1 29 (by decide +kernel) rfl
theorem w_107 : (Jvm.Cond.instanceMethod ({ cls := "SharedNights$Night", name := "<init>", desc := "()V" } : Jvm.MethodName)) ∈ mTB := tb_1 30 (by decide +kernel) rfl
theorem w_108 : (Jvm.Cond.code ({ cls := "SharedNights$Night", name := "<init>", desc := "()V" } : Jvm.MethodName) prog_6_method_1_code (2 : Nat) (Option.none : Option Jvm.ClassFile.FieldType)) ∈ mTB := tb_1 31 (by decide +kernel) rfl
theorem w_109 : (Jvm.Cond.methodLink "SharedNights$Night" (3 : Nat) ({ cls := "java/lang/Object", name := "<init>", desc := "()V" } : Jvm.MethodName)) ∈ mTB := tb_1 32 (by decide +kernel) rfl
theorem w_110 : (Jvm.Cond.classLink "SharedNights$Night" (15 : Nat) "SharedNights$Target") ∈ mTB := tb_1 33 (by decide +kernel) rfl
theorem w_112 : (Jvm.Cond.classLink "SharedNights$Night" (21 : Nat) "[[I") ∈ mTB := tb_1 35 (by decide +kernel) rfl
theorem w_114 : (Jvm.Cond.instantiable "SharedNights$Target" (3 : Nat)) ∈ mTB := tb_1 37 (by decide +kernel) rfl
theorem w_116 : (Jvm.Cond.instanceMethod ({ cls := "SharedNights$Target", name := "<init>", desc := "()V" } : Jvm.MethodName)) ∈ mTB := tb_1 39 (by decide +kernel) rfl
theorem w_117 : (Jvm.Cond.code ({ cls := "SharedNights$Target", name := "<init>", desc := "()V" } : Jvm.MethodName) prog_9_method_1_code (1 : Nat) (Option.none : Option Jvm.ClassFile.FieldType)) ∈ mTB := tb_1 40 (by decide +kernel) rfl
theorem w_118 : (Jvm.Cond.methodLink "SharedNights$Target" (1 : Nat) ({ cls := "java/lang/Object", name := "<init>", desc := "()V" } : Jvm.MethodName)) ∈ mTB := tb_1 41 (by decide +kernel) rfl
theorem w_119 : (Jvm.Cond.fieldLink "SharedNights$Night" (43 : Nat) "SharedNights$Target" "meridian" "I") ∈ mTB := tb_1 42 (by decide +kernel) rfl
theorem w_120 : (Jvm.Cond.fieldLink "SharedNights$Night" (46 : Nat) "SharedNights$Target" "reach" "I") ∈ mTB := tb_1 43 (by decide +kernel) rfl
theorem w_121 : (Jvm.Cond.fieldLink "SharedNights$Night" (49 : Nat) "SharedNights$Target" "region" "I") ∈ mTB := tb_1 44 (by decide +kernel) rfl
theorem w_129 : (Jvm.Cond.arrayClass Jvm.ClassFile.FieldType.int) ∈ mTB := tb_1 52 (by decide +kernel) rfl
theorem w_130 : (Jvm.Cond.methodLink "SharedNights$Night" (31 : Nat) ({ cls := "SharedNights$Night", name := "clearSky", desc := "()V" } : Jvm.MethodName)) ∈ mTB := tb_1 53 (by decide +kernel) rfl
theorem w_131 : (Jvm.Cond.instanceMethod ({ cls := "SharedNights$Night", name := "clearSky", desc := "()V" } : Jvm.MethodName)) ∈ mTB := tb_1 54 (by decide +kernel) rfl
theorem w_132 : (Jvm.Cond.selects "SharedNights$Night" ({ cls := "SharedNights$Night", name := "clearSky", desc := "()V" } : Jvm.MethodName) ({ cls := "SharedNights$Night", name := "clearSky", desc := "()V" } : Jvm.MethodName)) ∈ mTB := tb_1 55 (by decide +kernel) rfl
theorem w_133 : (Jvm.Cond.code ({ cls := "SharedNights$Night", name := "clearSky", desc := "()V" } : Jvm.MethodName) prog_6_method_2_code (2 : Nat) (Option.none : Option Jvm.ClassFile.FieldType)) ∈ mTB := tb_1 56 (by decide +kernel) rfl
theorem w_134 : (Jvm.Cond.fieldLink "SharedNights$Night" (9 : Nat) "SharedNights$Night" "slotCount" "I") ∈ mTB := tb_1 57 (by decide +kernel) rfl
theorem w_135 : (Jvm.Cond.fieldLink "SharedNights" (60 : Nat) "SharedNights$Night" "slotCount" "I") ∈ mTB := tb_1 58 (by decide +kernel) rfl
theorem w_136 : (Jvm.Cond.fieldLink "SharedNights$Watch" (40 : Nat) "SharedNights$Night" "slotCount" "I") ∈ mTB := tb_1 59 (by decide +kernel) rfl
theorem w_137 : (Jvm.Cond.fieldLink "SharedNights$BestNight" (81 : Nat) "SharedNights$Night" "slotCount" "I") ∈ mTB := tb_1 60 (by decide +kernel) rfl
theorem w_138 : (Jvm.Cond.fieldLink "SharedNights$Night" (52 : Nat) "SharedNights$Night" "tonight" "I") ∈ mTB := tb_1 61 (by decide +kernel) rfl
theorem w_139 : (Jvm.Cond.fieldLink "SharedNights" (250 : Nat) "SharedNights$Night" "tonight" "I") ∈ mTB := tb_1 62 (by decide +kernel) rfl
theorem w_140 : (Jvm.Cond.fieldLink "SharedNights$Night" (17 : Nat) "SharedNights$Night" "targets" "[LSharedNights$Target;") ∈ mTB := tb_1 63 (by decide +kernel) rfl
theorem w_141 : (Jvm.Cond.fieldLink "SharedNights" (91 : Nat) "SharedNights$Night" "targets" "[LSharedNights$Target;") ∈ mTB := tb_1 64 (by decide +kernel) rfl
theorem w_142 : (Jvm.Cond.fieldLink "SharedNights$BestNight" (137 : Nat) "SharedNights$Night" "targets" "[LSharedNights$Target;") ∈ mTB := tb_1 65 (by decide +kernel) rfl
theorem w_143 : (Jvm.Cond.fieldLink "SharedNights$Watch" (124 : Nat) "SharedNights$Night" "targets" "[LSharedNights$Target;") ∈ mTB := tb_1 66 (by decide +kernel) rfl
theorem w_144 : (Jvm.Cond.fieldLink "SharedNights" (77 : Nat) "SharedNights$Night" "targetCount" "I") ∈ mTB := tb_1 67 (by decide +kernel) rfl
theorem w_145 : (Jvm.Cond.fieldLink "SharedNights$Night" (37 : Nat) "SharedNights$Night" "targetCount" "I") ∈ mTB := tb_1 68 (by decide +kernel) rfl
theorem w_146 : (Jvm.Cond.fieldLink "SharedNights$Night" (34 : Nat) "SharedNights$Night" "moonRegion" "I") ∈ mTB := tb_1 69 (by decide +kernel) rfl
theorem w_147 : (Jvm.Cond.fieldLink "SharedNights" (103 : Nat) "SharedNights$Night" "moonRegion" "I") ∈ mTB := tb_1 70 (by decide +kernel) rfl
theorem w_148 : (Jvm.Cond.fieldLink "SharedNights" (106 : Nat) "SharedNights$Night" "moonFrom" "I") ∈ mTB := tb_1 71 (by decide +kernel) rfl
theorem w_149 : (Jvm.Cond.fieldLink "SharedNights$Night" (69 : Nat) "SharedNights$Night" "moonFrom" "I") ∈ mTB := tb_1 72 (by decide +kernel) rfl
theorem w_150 : (Jvm.Cond.fieldLink "SharedNights" (109 : Nat) "SharedNights$Night" "moonTo" "I") ∈ mTB := tb_1 73 (by decide +kernel) rfl
theorem w_151 : (Jvm.Cond.fieldLink "SharedNights$Night" (72 : Nat) "SharedNights$Night" "moonTo" "I") ∈ mTB := tb_1 74 (by decide +kernel) rfl
theorem w_152 : (Jvm.Cond.fieldLink "SharedNights$Night" (23 : Nat) "SharedNights$Night" "skies" "[[I") ∈ mTB := tb_1 75 (by decide +kernel) rfl
theorem w_153 : (Jvm.Cond.fieldLink "SharedNights$Watch" (74 : Nat) "SharedNights$Night" "skies" "[[I") ∈ mTB := tb_1 76 (by decide +kernel) rfl
theorem w_154 : (Jvm.Cond.fieldLink "SharedNights" (115 : Nat) "SharedNights$Night" "skies" "[[I") ∈ mTB := tb_1 77 (by decide +kernel) rfl
theorem w_155 : (Jvm.Cond.fieldLink "SharedNights$Night" (26 : Nat) "SharedNights$Night" "weights" "[I") ∈ mTB := tb_1 78 (by decide +kernel) rfl
theorem w_156 : (Jvm.Cond.fieldLink "SharedNights" (274 : Nat) "SharedNights$Night" "weights" "[I") ∈ mTB := tb_1 79 (by decide +kernel) rfl
theorem w_157 : (Jvm.Cond.fieldLink "SharedNights" (67 : Nat) "SharedNights$Night" "worldCount" "I") ∈ mTB := tb_1 80 (by decide +kernel) rfl
theorem w_158 : (Jvm.Cond.fieldLink "SharedNights$Night" (40 : Nat) "SharedNights$Night" "worldCount" "I") ∈ mTB := tb_1 81 (by decide +kernel) rfl
theorem w_180 : (Jvm.Cond.classLink "SharedNights" (16 : Nat) "SharedNights$Form") ∈ mTB := tb_1 103 (by decide +kernel) rfl
theorem w_181 : (Jvm.Cond.instantiable "SharedNights$Form" (11 : Nat)) ∈ mTB := tb_1 104 (by decide +kernel) rfl
theorem w_183 : (Jvm.Cond.instanceMethod ({ cls := "SharedNights$Form", name := "<init>", desc := "()V" } : Jvm.MethodName)) ∈ mTB := tb_1 106 (by decide +kernel) rfl
theorem w_184 : (Jvm.Cond.code ({ cls := "SharedNights$Form", name := "<init>", desc := "()V" } : Jvm.MethodName) prog_4_method_1_code (1 : Nat) (Option.none : Option Jvm.ClassFile.FieldType)) ∈ mTB := tb_1 107 (by decide +kernel) rfl
theorem w_185 : (Jvm.Cond.methodLink "SharedNights$Form" (3 : Nat) ({ cls := "java/lang/Object", name := "<init>", desc := "()V" } : Jvm.MethodName)) ∈ mTB := tb_1 108 (by decide +kernel) rfl
theorem w_186 : (Jvm.Cond.classLink "SharedNights$Form" (15 : Nat) "SharedNights$Plan") ∈ mTB := tb_1 109 (by decide +kernel) rfl
theorem w_187 : (Jvm.Cond.instantiable "SharedNights$Plan" (6 : Nat)) ∈ mTB := tb_1 110 (by decide +kernel) rfl
theorem w_188 : (Jvm.Cond.methodLink "SharedNights$Form" (17 : Nat) ({ cls := "SharedNights$Plan", name := "<init>", desc := "()V" } : Jvm.MethodName)) ∈ mTB := tb_1 111 (by decide +kernel) rfl
theorem w_189 : (Jvm.Cond.instanceMethod ({ cls := "SharedNights$Plan", name := "<init>", desc := "()V" } : Jvm.MethodName)) ∈ mTB := tb_1 112 (by decide +kernel) rfl
theorem w_190 : (Jvm.Cond.code ({ cls := "SharedNights$Plan", name := "<init>", desc := "()V" } : Jvm.MethodName) prog_7_method_1_code (2 : Nat) (Option.none : Option Jvm.ClassFile.FieldType)) ∈ mTB := tb_1 113 (by decide +kernel) rfl
theorem w_191 : (Jvm.Cond.methodLink "SharedNights$Plan" (3 : Nat) ({ cls := "java/lang/Object", name := "<init>", desc := "()V" } : Jvm.MethodName)) ∈ mTB := tb_1 114 (by decide +kernel) rfl
theorem w_192 : (Jvm.Cond.classLink "SharedNights$Plan" (9 : Nat) "SharedNights$Step") ∈ mTB := tb_1 115 (by decide +kernel) rfl
theorem w_194 : (Jvm.Cond.instantiable "SharedNights$Step" (6 : Nat)) ∈ mTB := tb_1 117 (by decide +kernel) rfl
theorem w_196 : (Jvm.Cond.instanceMethod ({ cls := "SharedNights$Step", name := "<init>", desc := "()V" } : Jvm.MethodName)) ∈ mTB := tb_1 119 (by decide +kernel) rfl
theorem w_197 : (Jvm.Cond.code ({ cls := "SharedNights$Step", name := "<init>", desc := "()V" } : Jvm.MethodName) prog_8_method_1_code (1 : Nat) (Option.none : Option Jvm.ClassFile.FieldType)) ∈ mTB := tb_1 120 (by decide +kernel) rfl
theorem w_198 : (Jvm.Cond.methodLink "SharedNights$Step" (1 : Nat) ({ cls := "java/lang/Object", name := "<init>", desc := "()V" } : Jvm.MethodName)) ∈ mTB := tb_1 121 (by decide +kernel) rfl
theorem w_199 : (Jvm.Cond.fieldLink "SharedNights$Step" (7 : Nat) "SharedNights$Step" "slotsLong" "I") ∈ mTB := tb_1 122 (by decide +kernel) rfl
theorem w_200 : (Jvm.Cond.fieldLink "SharedNights$Plan" (34 : Nat) "SharedNights$Step" "slotsLong" "I") ∈ mTB := tb_1 123 (by decide +kernel) rfl
theorem w_201 : (Jvm.Cond.fieldLink "SharedNights$Watch" (85 : Nat) "SharedNights$Step" "slotsLong" "I") ∈ mTB := tb_1 124 (by decide +kernel) rfl
theorem w_202 : (Jvm.Cond.fieldLink "SharedNights$BestNight" (145 : Nat) "SharedNights$Step" "slotsLong" "I") ∈ mTB := tb_1 125 (by decide +kernel) rfl
theorem w_203 : (Jvm.Cond.fieldLink "SharedNights$Night" (95 : Nat) "SharedNights$Step" "slotsLong" "I") ∈ mTB := tb_1 126 (by decide +kernel) rfl
theorem w_204 : (Jvm.Cond.fieldLink "SharedNights$Form" (162 : Nat) "SharedNights$Step" "slotsLong" "I") ∈ mTB := tb_1 127 (by decide +kernel) rfl
theorem w_205 : (Jvm.Cond.fieldLink "SharedNights" (277 : Nat) "SharedNights$Step" "slotsLong" "I") ∈ mTB := tb_1 128 (by decide +kernel) rfl
theorem w_206 : (Jvm.Cond.fieldLink "SharedNights$Step" (13 : Nat) "SharedNights$Step" "seeingMost" "I") ∈ mTB := tb_1 129 (by decide +kernel) rfl
theorem w_207 : (Jvm.Cond.fieldLink "SharedNights$Night" (75 : Nat) "SharedNights$Step" "seeingMost" "I") ∈ mTB := tb_1 130 (by decide +kernel) rfl
theorem w_208 : (Jvm.Cond.fieldLink "SharedNights$Form" (165 : Nat) "SharedNights$Step" "seeingMost" "I") ∈ mTB := tb_1 131 (by decide +kernel) rfl
theorem w_209 : (Jvm.Cond.fieldLink "SharedNights" (280 : Nat) "SharedNights$Step" "seeingMost" "I") ∈ mTB := tb_1 132 (by decide +kernel) rfl
theorem w_210 : (Jvm.Cond.fieldLink "SharedNights$Step" (16 : Nat) "SharedNights$Step" "airMost" "I") ∈ mTB := tb_1 133 (by decide +kernel) rfl
theorem w_211 : (Jvm.Cond.fieldLink "SharedNights$Night" (80 : Nat) "SharedNights$Step" "airMost" "I") ∈ mTB := tb_1 134 (by decide +kernel) rfl
theorem w_212 : (Jvm.Cond.fieldLink "SharedNights$Form" (168 : Nat) "SharedNights$Step" "airMost" "I") ∈ mTB := tb_1 135 (by decide +kernel) rfl
theorem w_213 : (Jvm.Cond.fieldLink "SharedNights" (283 : Nat) "SharedNights$Step" "airMost" "I") ∈ mTB := tb_1 136 (by decide +kernel) rfl
theorem w_214 : (Jvm.Cond.fieldLink "SharedNights$Step" (19 : Nat) "SharedNights$Step" "dark" "Z") ∈ mTB := tb_1 137 (by decide +kernel) rfl
theorem w_215 : (Jvm.Cond.fieldLink "SharedNights$Form" (100 : Nat) "SharedNights$Step" "dark" "Z") ∈ mTB := tb_1 138 (by decide +kernel) rfl
theorem w_216 : (Jvm.Cond.fieldLink "SharedNights$Night" (83 : Nat) "SharedNights$Step" "dark" "Z") ∈ mTB := tb_1 139 (by decide +kernel) rfl
theorem w_217 : (Jvm.Cond.fieldLink "SharedNights" (286 : Nat) "SharedNights$Step" "dark" "Z") ∈ mTB := tb_1 140 (by decide +kernel) rfl
theorem w_218 : (Jvm.Cond.fieldLink "SharedNights$Step" (23 : Nat) "SharedNights$Step" "waitLeast" "I") ∈ mTB := tb_1 141 (by decide +kernel) rfl
theorem w_219 : (Jvm.Cond.fieldLink "SharedNights$Watch" (131 : Nat) "SharedNights$Step" "waitLeast" "I") ∈ mTB := tb_1 142 (by decide +kernel) rfl
theorem w_220 : (Jvm.Cond.fieldLink "SharedNights$BestNight" (182 : Nat) "SharedNights$Step" "waitLeast" "I") ∈ mTB := tb_1 143 (by decide +kernel) rfl
theorem w_221 : (Jvm.Cond.fieldLink "SharedNights$Form" (149 : Nat) "SharedNights$Step" "waitLeast" "I") ∈ mTB := tb_1 144 (by decide +kernel) rfl
theorem w_222 : (Jvm.Cond.fieldLink "SharedNights$Step" (26 : Nat) "SharedNights$Step" "waitMost" "I") ∈ mTB := tb_1 145 (by decide +kernel) rfl
theorem w_223 : (Jvm.Cond.fieldLink "SharedNights$Watch" (114 : Nat) "SharedNights$Step" "waitMost" "I") ∈ mTB := tb_1 146 (by decide +kernel) rfl
theorem w_224 : (Jvm.Cond.fieldLink "SharedNights$BestNight" (185 : Nat) "SharedNights$Step" "waitMost" "I") ∈ mTB := tb_1 147 (by decide +kernel) rfl
theorem w_225 : (Jvm.Cond.fieldLink "SharedNights$Form" (171 : Nat) "SharedNights$Step" "waitMost" "I") ∈ mTB := tb_1 148 (by decide +kernel) rfl
theorem w_239 : (Jvm.Cond.fieldLink "SharedNights$Plan" (18 : Nat) "SharedNights$Plan" "land" "I") ∈ mTB := tb_1 162 (by decide +kernel) rfl
theorem w_240 : (Jvm.Cond.fieldLink "SharedNights$Form" (152 : Nat) "SharedNights$Plan" "land" "I") ∈ mTB := tb_1 163 (by decide +kernel) rfl
theorem w_241 : (Jvm.Cond.fieldLink "SharedNights" (293 : Nat) "SharedNights$Plan" "land" "I") ∈ mTB := tb_1 164 (by decide +kernel) rfl
theorem w_242 : (Jvm.Cond.fieldLink "SharedNights$Plan" (22 : Nat) "SharedNights$Plan" "instrument" "I") ∈ mTB := tb_1 165 (by decide +kernel) rfl
theorem w_243 : (Jvm.Cond.fieldLink "SharedNights$Watch" (78 : Nat) "SharedNights$Plan" "instrument" "I") ∈ mTB := tb_1 166 (by decide +kernel) rfl
theorem w_244 : (Jvm.Cond.fieldLink "SharedNights$BestNight" (123 : Nat) "SharedNights$Plan" "instrument" "I") ∈ mTB := tb_1 167 (by decide +kernel) rfl
theorem w_245 : (Jvm.Cond.fieldLink "SharedNights$Form" (154 : Nat) "SharedNights$Plan" "instrument" "I") ∈ mTB := tb_1 168 (by decide +kernel) rfl
theorem w_246 : (Jvm.Cond.fieldLink "SharedNights$Plan" (25 : Nat) "SharedNights$Plan" "targetNumber" "I") ∈ mTB := tb_1 169 (by decide +kernel) rfl
theorem w_247 : (Jvm.Cond.fieldLink "SharedNights$Watch" (128 : Nat) "SharedNights$Plan" "targetNumber" "I") ∈ mTB := tb_1 170 (by decide +kernel) rfl
theorem w_248 : (Jvm.Cond.fieldLink "SharedNights$BestNight" (167 : Nat) "SharedNights$Plan" "targetNumber" "I") ∈ mTB := tb_1 171 (by decide +kernel) rfl
theorem w_249 : (Jvm.Cond.fieldLink "SharedNights$Form" (157 : Nat) "SharedNights$Plan" "targetNumber" "I") ∈ mTB := tb_1 172 (by decide +kernel) rfl
theorem w_250 : (Jvm.Cond.fieldLink "SharedNights$Plan" (28 : Nat) "SharedNights$Plan" "worth" "I") ∈ mTB := tb_1 173 (by decide +kernel) rfl
theorem w_251 : (Jvm.Cond.fieldLink "SharedNights$Watch" (69 : Nat) "SharedNights$Plan" "worth" "I") ∈ mTB := tb_1 174 (by decide +kernel) rfl
theorem w_252 : (Jvm.Cond.fieldLink "SharedNights" (176 : Nat) "SharedNights$Plan" "worth" "I") ∈ mTB := tb_1 175 (by decide +kernel) rfl
theorem w_253 : (Jvm.Cond.fieldLink "SharedNights$BestNight" (188 : Nat) "SharedNights$Plan" "worth" "I") ∈ mTB := tb_1 176 (by decide +kernel) rfl
theorem w_254 : (Jvm.Cond.fieldLink "SharedNights$Form" (160 : Nat) "SharedNights$Plan" "worth" "I") ∈ mTB := tb_1 177 (by decide +kernel) rfl
theorem w_255 : (Jvm.Cond.fieldLink "SharedNights$Plan" (31 : Nat) "SharedNights$Plan" "stepCount" "I") ∈ mTB := tb_1 178 (by decide +kernel) rfl
theorem w_256 : (Jvm.Cond.fieldLink "SharedNights$Form" (60 : Nat) "SharedNights$Plan" "stepCount" "I") ∈ mTB := tb_1 179 (by decide +kernel) rfl
theorem w_257 : (Jvm.Cond.fieldLink "SharedNights$Watch" (107 : Nat) "SharedNights$Plan" "stepCount" "I") ∈ mTB := tb_1 180 (by decide +kernel) rfl
theorem w_258 : (Jvm.Cond.fieldLink "SharedNights$BestNight" (164 : Nat) "SharedNights$Plan" "stepCount" "I") ∈ mTB := tb_1 181 (by decide +kernel) rfl
theorem w_259 : (Jvm.Cond.fieldLink "SharedNights" (166 : Nat) "SharedNights$Plan" "stepCount" "I") ∈ mTB := tb_1 182 (by decide +kernel) rfl
theorem w_260 : (Jvm.Cond.fieldLink "SharedNights$Plan" (11 : Nat) "SharedNights$Plan" "steps" "[LSharedNights$Step;") ∈ mTB := tb_1 183 (by decide +kernel) rfl
theorem w_261 : (Jvm.Cond.fieldLink "SharedNights$Form" (96 : Nat) "SharedNights$Plan" "steps" "[LSharedNights$Step;") ∈ mTB := tb_1 184 (by decide +kernel) rfl
theorem w_262 : (Jvm.Cond.fieldLink "SharedNights$Watch" (120 : Nat) "SharedNights$Plan" "steps" "[LSharedNights$Step;") ∈ mTB := tb_1 185 (by decide +kernel) rfl
theorem w_263 : (Jvm.Cond.fieldLink "SharedNights$BestNight" (170 : Nat) "SharedNights$Plan" "steps" "[LSharedNights$Step;") ∈ mTB := tb_1 186 (by decide +kernel) rfl
theorem w_264 : (Jvm.Cond.fieldLink "SharedNights" (169 : Nat) "SharedNights$Plan" "steps" "[LSharedNights$Step;") ∈ mTB := tb_1 187 (by decide +kernel) rfl
theorem w_278 : (Jvm.Cond.fieldLink "SharedNights$Form" (9 : Nat) "SharedNights$Form" "text" "[I") ∈ mTB := tb_1 201 (by decide +kernel) rfl
theorem w_279 : (Jvm.Cond.fieldLink "SharedNights$Form" (22 : Nat) "SharedNights$Form" "size" "I") ∈ mTB := tb_1 202 (by decide +kernel) rfl
theorem w_280 : (Jvm.Cond.fieldLink "SharedNights" (123 : Nat) "SharedNights$Form" "size" "I") ∈ mTB := tb_1 203 (by decide +kernel) rfl
theorem w_281 : (Jvm.Cond.fieldLink "SharedNights$Form" (18 : Nat) "SharedNights$Form" "draft" "LSharedNights$Plan;") ∈ mTB := tb_1 204 (by decide +kernel) rfl
theorem w_282 : (Jvm.Cond.fieldLink "SharedNights" (143 : Nat) "SharedNights$Form" "draft" "LSharedNights$Plan;") ∈ mTB := tb_1 205 (by decide +kernel) rfl
theorem w_283 : (Jvm.Cond.fieldLink "SharedNights$Form" (28 : Nat) "SharedNights$Form" "faultAt" "I") ∈ mTB := tb_1 206 (by decide +kernel) rfl
theorem w_284 : (Jvm.Cond.fieldLink "SharedNights" (134 : Nat) "SharedNights$Form" "faultAt" "I") ∈ mTB := tb_1 207 (by decide +kernel) rfl
theorem w_285 : (Jvm.Cond.fieldLink "SharedNights$Form" (31 : Nat) "SharedNights$Form" "canStand" "I") ∈ mTB := tb_1 208 (by decide +kernel) rfl
theorem w_286 : (Jvm.Cond.fieldLink "SharedNights" (137 : Nat) "SharedNights$Form" "canStand" "I") ∈ mTB := tb_1 209 (by decide +kernel) rfl
theorem w_287 : (Jvm.Cond.fieldLink "SharedNights$Form" (57 : Nat) "SharedNights$Form" "tokenKind" "I") ∈ mTB := tb_1 210 (by decide +kernel) rfl
theorem w_288 : (Jvm.Cond.fieldLink "SharedNights$Form" (50 : Nat) "SharedNights$Form" "tokenBegin" "I") ∈ mTB := tb_1 211 (by decide +kernel) rfl
theorem w_289 : (Jvm.Cond.fieldLink "SharedNights$Form" (34 : Nat) "SharedNights$Form" "tokenEnd" "I") ∈ mTB := tb_1 212 (by decide +kernel) rfl
theorem w_290 : (Jvm.Cond.fieldLink "SharedNights$Form" (75 : Nat) "SharedNights$Form" "number" "I") ∈ mTB := tb_1 213 (by decide +kernel) rfl
theorem w_291 : (Jvm.Cond.fieldLink "SharedNights$Form" (37 : Nat) "SharedNights$Form" "place" "I") ∈ mTB := tb_1 214 (by decide +kernel) rfl
theorem w_292 : (Jvm.Cond.fieldLink "SharedNights$Form" (40 : Nat) "SharedNights$Form" "step" "I") ∈ mTB := tb_1 215 (by decide +kernel) rfl
theorem w_316 : (Jvm.Cond.classLink "SharedNights" (23 : Nat) "SharedNights$Book") ∈ mTB := tb_1 239 (by decide +kernel) rfl
theorem w_317 : (Jvm.Cond.instantiable "SharedNights$Book" (2 : Nat)) ∈ mTB := tb_2 0 (by decide +kernel) rfl
theorem w_318 : (Jvm.Cond.methodLink "SharedNights" (25 : Nat) ({ cls := "SharedNights$Book", name := "<init>", desc := "()V" } : Jvm.MethodName)) ∈ mTB := tb_2 1 (by decide +kernel) rfl
theorem w_319 : (Jvm.Cond.instanceMethod ({ cls := "SharedNights$Book", name := "<init>", desc := "()V" } : Jvm.MethodName)) ∈ mTB := tb_2 2 (by decide +kernel) rfl
theorem w_320 : (Jvm.Cond.code ({ cls := "SharedNights$Book", name := "<init>", desc := "()V" } : Jvm.MethodName) prog_3_method_1_code (2 : Nat) (Option.none : Option Jvm.ClassFile.FieldType)) ∈ mTB := tb_2 3 (by decide +kernel) rfl
theorem w_321 : (Jvm.Cond.methodLink "SharedNights$Book" (3 : Nat) ({ cls := "java/lang/Object", name := "<init>", desc := "()V" } : Jvm.MethodName)) ∈ mTB := tb_2 4 (by decide +kernel) rfl
theorem w_322 : (Jvm.Cond.classLink "SharedNights$Book" (9 : Nat) "SharedNights$Plan") ∈ mTB := tb_2 5 (by decide +kernel) rfl
theorem w_324 : (Jvm.Cond.methodLink "SharedNights$Book" (17 : Nat) ({ cls := "SharedNights$Plan", name := "<init>", desc := "()V" } : Jvm.MethodName)) ∈ mTB := tb_2 7 (by decide +kernel) rfl
theorem w_325 : (Jvm.Cond.fieldLink "SharedNights$Book" (11 : Nat) "SharedNights$Book" "plans" "[LSharedNights$Plan;") ∈ mTB := tb_2 8 (by decide +kernel) rfl
theorem w_326 : (Jvm.Cond.fieldLink "SharedNights$Watch" (65 : Nat) "SharedNights$Book" "plans" "[LSharedNights$Plan;") ∈ mTB := tb_2 9 (by decide +kernel) rfl
theorem w_327 : (Jvm.Cond.fieldLink "SharedNights$BestNight" (119 : Nat) "SharedNights$Book" "plans" "[LSharedNights$Plan;") ∈ mTB := tb_2 10 (by decide +kernel) rfl
theorem w_328 : (Jvm.Cond.fieldLink "SharedNights" (157 : Nat) "SharedNights$Book" "plans" "[LSharedNights$Plan;") ∈ mTB := tb_2 11 (by decide +kernel) rfl
theorem w_329 : (Jvm.Cond.fieldLink "SharedNights$Book" (18 : Nat) "SharedNights$Book" "count" "I") ∈ mTB := tb_2 12 (by decide +kernel) rfl
theorem w_330 : (Jvm.Cond.fieldLink "SharedNights$Watch" (60 : Nat) "SharedNights$Book" "count" "I") ∈ mTB := tb_2 13 (by decide +kernel) rfl
theorem w_331 : (Jvm.Cond.fieldLink "SharedNights$BestNight" (65 : Nat) "SharedNights$Book" "count" "I") ∈ mTB := tb_2 14 (by decide +kernel) rfl
theorem w_332 : (Jvm.Cond.fieldLink "SharedNights" (140 : Nat) "SharedNights$Book" "count" "I") ∈ mTB := tb_2 15 (by decide +kernel) rfl
theorem w_338 : (Jvm.Cond.classLink "SharedNights" (30 : Nat) "SharedNights$BestNight") ∈ mTB := tb_2 21 (by decide +kernel) rfl
theorem w_339 : (Jvm.Cond.instantiable "SharedNights$BestNight" (18 : Nat)) ∈ mTB := tb_2 22 (by decide +kernel) rfl
theorem w_340 : (Jvm.Cond.methodLink "SharedNights" (32 : Nat) ({ cls := "SharedNights$BestNight", name := "<init>", desc := "(LSharedNights$Night;LSharedNights$Book;)V" } : Jvm.MethodName)) ∈ mTB := tb_2 23 (by decide +kernel) rfl
theorem w_341 : (Jvm.Cond.instanceMethod ({ cls := "SharedNights$BestNight", name := "<init>", desc := "(LSharedNights$Night;LSharedNights$Book;)V" } : Jvm.MethodName)) ∈ mTB := tb_2 24 (by decide +kernel) rfl
theorem w_342 : (Jvm.Cond.code ({ cls := "SharedNights$BestNight", name := "<init>", desc := "(LSharedNights$Night;LSharedNights$Book;)V" } : Jvm.MethodName) prog_2_method_1_code (3 : Nat) (Option.none : Option Jvm.ClassFile.FieldType)) ∈ mTB := tb_2 25 (by decide +kernel) rfl
theorem w_343 : (Jvm.Cond.methodLink "SharedNights$BestNight" (5 : Nat) ({ cls := "java/lang/Object", name := "<init>", desc := "()V" } : Jvm.MethodName)) ∈ mTB := tb_2 26 (by decide +kernel) rfl
theorem w_344 : (Jvm.Cond.classLink "SharedNights$BestNight" (11 : Nat) "[[I") ∈ mTB := tb_2 27 (by decide +kernel) rfl
theorem w_345 : (Jvm.Cond.fieldLink "SharedNights$BestNight" (13 : Nat) "SharedNights$BestNight" "masks" "[[I") ∈ mTB := tb_2 28 (by decide +kernel) rfl
theorem w_346 : (Jvm.Cond.fieldLink "SharedNights" (186 : Nat) "SharedNights$BestNight" "masks" "[[I") ∈ mTB := tb_2 29 (by decide +kernel) rfl
theorem w_347 : (Jvm.Cond.fieldLink "SharedNights$BestNight" (16 : Nat) "SharedNights$BestNight" "counts" "[I") ∈ mTB := tb_2 30 (by decide +kernel) rfl
theorem w_348 : (Jvm.Cond.fieldLink "SharedNights" (182 : Nat) "SharedNights$BestNight" "counts" "[I") ∈ mTB := tb_2 31 (by decide +kernel) rfl
theorem w_349 : (Jvm.Cond.fieldLink "SharedNights$BestNight" (131 : Nat) "SharedNights$BestNight" "foundBegin" "I") ∈ mTB := tb_2 32 (by decide +kernel) rfl
theorem w_350 : (Jvm.Cond.fieldLink "SharedNights" (241 : Nat) "SharedNights$BestNight" "foundBegin" "I") ∈ mTB := tb_2 33 (by decide +kernel) rfl
theorem w_351 : (Jvm.Cond.fieldLink "SharedNights$BestNight" (134 : Nat) "SharedNights$BestNight" "foundLoss" "I") ∈ mTB := tb_2 34 (by decide +kernel) rfl
theorem w_352 : (Jvm.Cond.fieldLink "SharedNights" (244 : Nat) "SharedNights$BestNight" "foundLoss" "I") ∈ mTB := tb_2 35 (by decide +kernel) rfl
theorem w_353 : (Jvm.Cond.fieldLink "SharedNights$BestNight" (49 : Nat) "SharedNights$BestNight" "night" "LSharedNights$Night;") ∈ mTB := tb_2 36 (by decide +kernel) rfl
theorem w_354 : (Jvm.Cond.fieldLink "SharedNights$BestNight" (53 : Nat) "SharedNights$BestNight" "book" "LSharedNights$Book;") ∈ mTB := tb_2 37 (by decide +kernel) rfl
theorem w_355 : (Jvm.Cond.fieldLink "SharedNights$BestNight" (20 : Nat) "SharedNights$BestNight" "begins" "[I") ∈ mTB := tb_2 38 (by decide +kernel) rfl
theorem w_356 : (Jvm.Cond.fieldLink "SharedNights$BestNight" (23 : Nat) "SharedNights$BestNight" "reached" "[I") ∈ mTB := tb_2 39 (by decide +kernel) rfl
theorem w_357 : (Jvm.Cond.fieldLink "SharedNights$BestNight" (26 : Nat) "SharedNights$BestNight" "chosen" "[I") ∈ mTB := tb_2 40 (by decide +kernel) rfl
theorem w_358 : (Jvm.Cond.fieldLink "SharedNights$BestNight" (29 : Nat) "SharedNights$BestNight" "able" "[Z") ∈ mTB := tb_2 41 (by decide +kernel) rfl
theorem w_359 : (Jvm.Cond.fieldLink "SharedNights$BestNight" (33 : Nat) "SharedNights$BestNight" "firsts" "[[I") ∈ mTB := tb_2 42 (by decide +kernel) rfl
theorem w_360 : (Jvm.Cond.fieldLink "SharedNights$BestNight" (36 : Nat) "SharedNights$BestNight" "worths" "[I") ∈ mTB := tb_2 43 (by decide +kernel) rfl
theorem w_361 : (Jvm.Cond.fieldLink "SharedNights$BestNight" (39 : Nat) "SharedNights$BestNight" "sizes" "[I") ∈ mTB := tb_2 44 (by decide +kernel) rfl
theorem w_362 : (Jvm.Cond.fieldLink "SharedNights$BestNight" (42 : Nat) "SharedNights$BestNight" "usable" "[J") ∈ mTB := tb_2 45 (by decide +kernel) rfl
theorem w_363 : (Jvm.Cond.fieldLink "SharedNights$BestNight" (46 : Nat) "SharedNights$BestNight" "hopeless" "[J") ∈ mTB := tb_2 46 (by decide +kernel) rfl
theorem w_364 : (Jvm.Cond.fieldLink "SharedNights$BestNight" (61 : Nat) "SharedNights$BestNight" "age" "I") ∈ mTB := tb_2 47 (by decide +kernel) rfl
theorem w_365 : (Jvm.Cond.fieldLink "SharedNights$BestNight" (100 : Nat) "SharedNights$BestNight" "bestSet" "I") ∈ mTB := tb_2 48 (by decide +kernel) rfl
theorem w_366 : (Jvm.Cond.fieldLink "SharedNights$BestNight" (57 : Nat) "SharedNights$BestNight" "fresh" "Z") ∈ mTB := tb_2 49 (by decide +kernel) rfl
theorem w_404 : (Jvm.Cond.arrayClass Jvm.ClassFile.FieldType.boolean) ∈ mTB := tb_2 87 (by decide +kernel) rfl
theorem w_405 : (Jvm.Cond.arrayClass Jvm.ClassFile.FieldType.long) ∈ mTB := tb_2 88 (by decide +kernel) rfl
theorem w_406 : (Jvm.Cond.classLink "SharedNights" (39 : Nat) "SharedNights$Watch") ∈ mTB := tb_2 89 (by decide +kernel) rfl
theorem w_407 : (Jvm.Cond.instantiable "SharedNights$Watch" (10 : Nat)) ∈ mTB := tb_2 90 (by decide +kernel) rfl
theorem w_408 : (Jvm.Cond.methodLink "SharedNights" (41 : Nat) ({ cls := "SharedNights$Watch", name := "<init>", desc := "(LSharedNights$Night;LSharedNights$Book;)V" } : Jvm.MethodName)) ∈ mTB := tb_2 91 (by decide +kernel) rfl
theorem w_409 : (Jvm.Cond.instanceMethod ({ cls := "SharedNights$Watch", name := "<init>", desc := "(LSharedNights$Night;LSharedNights$Book;)V" } : Jvm.MethodName)) ∈ mTB := tb_2 92 (by decide +kernel) rfl
theorem w_410 : (Jvm.Cond.code ({ cls := "SharedNights$Watch", name := "<init>", desc := "(LSharedNights$Night;LSharedNights$Book;)V" } : Jvm.MethodName) prog_10_method_1_code (3 : Nat) (Option.none : Option Jvm.ClassFile.FieldType)) ∈ mTB := tb_2 93 (by decide +kernel) rfl
theorem w_411 : (Jvm.Cond.methodLink "SharedNights$Watch" (3 : Nat) ({ cls := "java/lang/Object", name := "<init>", desc := "()V" } : Jvm.MethodName)) ∈ mTB := tb_2 94 (by decide +kernel) rfl
theorem w_412 : (Jvm.Cond.fieldLink "SharedNights$Watch" (117 : Nat) "SharedNights$Watch" "again" "I") ∈ mTB := tb_2 95 (by decide +kernel) rfl
theorem w_413 : (Jvm.Cond.fieldLink "SharedNights" (205 : Nat) "SharedNights$Watch" "again" "I") ∈ mTB := tb_2 96 (by decide +kernel) rfl
theorem w_414 : (Jvm.Cond.fieldLink "SharedNights$Watch" (9 : Nat) "SharedNights$Watch" "entries" "[I") ∈ mTB := tb_2 97 (by decide +kernel) rfl
theorem w_415 : (Jvm.Cond.fieldLink "SharedNights" (218 : Nat) "SharedNights$Watch" "entries" "[I") ∈ mTB := tb_2 98 (by decide +kernel) rfl
theorem w_416 : (Jvm.Cond.fieldLink "SharedNights$Watch" (15 : Nat) "SharedNights$Watch" "states" "[I") ∈ mTB := tb_2 99 (by decide +kernel) rfl
theorem w_417 : (Jvm.Cond.fieldLink "SharedNights" (221 : Nat) "SharedNights$Watch" "states" "[I") ∈ mTB := tb_2 100 (by decide +kernel) rfl
theorem w_418 : (Jvm.Cond.fieldLink "SharedNights$Watch" (25 : Nat) "SharedNights$Watch" "night" "LSharedNights$Night;") ∈ mTB := tb_2 101 (by decide +kernel) rfl
theorem w_419 : (Jvm.Cond.fieldLink "SharedNights$Watch" (29 : Nat) "SharedNights$Watch" "book" "LSharedNights$Book;") ∈ mTB := tb_2 102 (by decide +kernel) rfl
theorem w_420 : (Jvm.Cond.fieldLink "SharedNights$Watch" (18 : Nat) "SharedNights$Watch" "stepEnds" "[I") ∈ mTB := tb_2 103 (by decide +kernel) rfl
theorem w_421 : (Jvm.Cond.fieldLink "SharedNights$Watch" (21 : Nat) "SharedNights$Watch" "wasBroken" "[Z") ∈ mTB := tb_2 104 (by decide +kernel) rfl
theorem w_422 : (Jvm.Cond.fieldLink "SharedNights$Watch" (33 : Nat) "SharedNights$Watch" "instrumentIn" "I") ∈ mTB := tb_2 105 (by decide +kernel) rfl
theorem w_423 : (Jvm.Cond.fieldLink "SharedNights$Watch" (37 : Nat) "SharedNights$Watch" "going" "I") ∈ mTB := tb_2 106 (by decide +kernel) rfl
theorem w_424 : (Jvm.Cond.fieldLink "SharedNights$Watch" (90 : Nat) "SharedNights$Watch" "slotsLeft" "I") ∈ mTB := tb_2 107 (by decide +kernel) rfl
theorem w_446 : (Jvm.Cond.classLink "SharedNights" (46 : Nat) "SharedNights$Ledger") ∈ mTB := tb_2 129 (by decide +kernel) rfl
theorem w_447 : (Jvm.Cond.instantiable "SharedNights$Ledger" (3 : Nat)) ∈ mTB := tb_2 130 (by decide +kernel) rfl
theorem w_448 : (Jvm.Cond.methodLink "SharedNights" (48 : Nat) ({ cls := "SharedNights$Ledger", name := "<init>", desc := "()V" } : Jvm.MethodName)) ∈ mTB := tb_2 131 (by decide +kernel) rfl
theorem w_449 : (Jvm.Cond.instanceMethod ({ cls := "SharedNights$Ledger", name := "<init>", desc := "()V" } : Jvm.MethodName)) ∈ mTB := tb_2 132 (by decide +kernel) rfl
theorem w_450 : (Jvm.Cond.code ({ cls := "SharedNights$Ledger", name := "<init>", desc := "()V" } : Jvm.MethodName) prog_5_method_1_code (2 : Nat) (Option.none : Option Jvm.ClassFile.FieldType)) ∈ mTB := tb_2 133 (by decide +kernel) rfl
theorem w_451 : (Jvm.Cond.methodLink "SharedNights$Ledger" (3 : Nat) ({ cls := "java/lang/Object", name := "<init>", desc := "()V" } : Jvm.MethodName)) ∈ mTB := tb_2 134 (by decide +kernel) rfl
theorem w_452 : (Jvm.Cond.fieldLink "SharedNights$Ledger" (9 : Nat) "SharedNights$Ledger" "sums" "[I") ∈ mTB := tb_2 135 (by decide +kernel) rfl
theorem w_453 : (Jvm.Cond.fieldLink "SharedNights" (262 : Nat) "SharedNights$Ledger" "sums" "[I") ∈ mTB := tb_2 136 (by decide +kernel) rfl
theorem w_454 : (Jvm.Cond.fieldLink "SharedNights$Ledger" (15 : Nat) "SharedNights$Ledger" "shares" "[I") ∈ mTB := tb_2 137 (by decide +kernel) rfl
theorem w_455 : (Jvm.Cond.fieldLink "SharedNights" (247 : Nat) "SharedNights$Ledger" "shares" "[I") ∈ mTB := tb_2 138 (by decide +kernel) rfl
theorem w_456 : (Jvm.Cond.fieldLink "SharedNights" (253 : Nat) "SharedNights$Ledger" "doneWorth" "I") ∈ mTB := tb_2 139 (by decide +kernel) rfl
theorem w_464 : (Jvm.Cond.classLink "SharedNights" (53 : Nat) "SharedNights$Step") ∈ mTB := tb_2 147 (by decide +kernel) rfl
theorem w_466 : (Jvm.Cond.fieldLink "SharedNights" (10 : Nat) "SharedNights" "night" "LSharedNights$Night;") ∈ mTB := tb_2 149 (by decide +kernel) rfl
theorem w_467 : (Jvm.Cond.fieldLink "SharedNights" (19 : Nat) "SharedNights" "form" "LSharedNights$Form;") ∈ mTB := tb_2 150 (by decide +kernel) rfl
theorem w_468 : (Jvm.Cond.fieldLink "SharedNights" (26 : Nat) "SharedNights" "book" "LSharedNights$Book;") ∈ mTB := tb_2 151 (by decide +kernel) rfl
theorem w_469 : (Jvm.Cond.fieldLink "SharedNights" (35 : Nat) "SharedNights" "bestNight" "LSharedNights$BestNight;") ∈ mTB := tb_2 152 (by decide +kernel) rfl
theorem w_470 : (Jvm.Cond.fieldLink "SharedNights" (42 : Nat) "SharedNights" "watching" "LSharedNights$Watch;") ∈ mTB := tb_2 153 (by decide +kernel) rfl
theorem w_471 : (Jvm.Cond.fieldLink "SharedNights" (49 : Nat) "SharedNights" "ledger" "LSharedNights$Ledger;") ∈ mTB := tb_2 154 (by decide +kernel) rfl
theorem w_472 : (Jvm.Cond.fieldLink "SharedNights" (56 : Nat) "SharedNights" "alertStep" "LSharedNights$Step;") ∈ mTB := tb_2 155 (by decide +kernel) rfl
theorem w_488 : (Jvm.Cond.methodLink "SharedNightsLaw" (13 : Nat) ({ cls := "SharedNights", name := "slots", desc := "(I)I" } : Jvm.MethodName)) ∈ mTB := tb_2 171 (by decide +kernel) rfl
theorem w_489 : (Jvm.Cond.instanceMethod ({ cls := "SharedNights", name := "slots", desc := "(I)I" } : Jvm.MethodName)) ∈ mTB := tb_2 172 (by decide +kernel) rfl
theorem w_490 : (Jvm.Cond.selects "SharedNights" ({ cls := "SharedNights", name := "slots", desc := "(I)I" } : Jvm.MethodName) ({ cls := "SharedNights", name := "slots", desc := "(I)I" } : Jvm.MethodName)) ∈ mTB := tb_2 173 (by decide +kernel) rfl
theorem w_491 : (Jvm.Cond.code ({ cls := "SharedNights", name := "slots", desc := "(I)I" } : Jvm.MethodName) prog_1_method_2_code (3 : Nat) (Option.some Jvm.ClassFile.FieldType.int)) ∈ mTB := tb_2 174 (by decide +kernel) rfl
theorem w_492 : (Jvm.Cond.methodLink "SharedNights" (64 : Nat) ({ cls := "SharedNights$Night", name := "clearSky", desc := "()V" } : Jvm.MethodName)) ∈ mTB := tb_2 175 (by decide +kernel) rfl
theorem w_493 : (Jvm.Cond.methodLink "SharedNights" (70 : Nat) ({ cls := "SharedNights$BestNight", name := "forget", desc := "()V" } : Jvm.MethodName)) ∈ mTB := tb_2 176 (by decide +kernel) rfl
theorem w_494 : (Jvm.Cond.instanceMethod ({ cls := "SharedNights$BestNight", name := "forget", desc := "()V" } : Jvm.MethodName)) ∈ mTB := tb_2 177 (by decide +kernel) rfl
theorem w_495 : (Jvm.Cond.selects "SharedNights$BestNight" ({ cls := "SharedNights$BestNight", name := "forget", desc := "()V" } : Jvm.MethodName) ({ cls := "SharedNights$BestNight", name := "forget", desc := "()V" } : Jvm.MethodName)) ∈ mTB := tb_2 178 (by decide +kernel) rfl
theorem w_496 : (Jvm.Cond.code ({ cls := "SharedNights$BestNight", name := "forget", desc := "()V" } : Jvm.MethodName) prog_2_method_2_code (1 : Nat) (Option.none : Option Jvm.ClassFile.FieldType)) ∈ mTB := tb_2 179 (by decide +kernel) rfl
theorem w_497 : (Jvm.Cond.methodLink "SharedNightsLaw" (18 : Nat) ({ cls := "SharedNights", name := "target", desc := "(III)I" } : Jvm.MethodName)) ∈ mTB := tb_2 180 (by decide +kernel) rfl
theorem w_498 : (Jvm.Cond.instanceMethod ({ cls := "SharedNights", name := "target", desc := "(III)I" } : Jvm.MethodName)) ∈ mTB := tb_2 181 (by decide +kernel) rfl
theorem w_499 : (Jvm.Cond.selects "SharedNights" ({ cls := "SharedNights", name := "target", desc := "(III)I" } : Jvm.MethodName) ({ cls := "SharedNights", name := "target", desc := "(III)I" } : Jvm.MethodName)) ∈ mTB := tb_2 182 (by decide +kernel) rfl
theorem w_500 : (Jvm.Cond.code ({ cls := "SharedNights", name := "target", desc := "(III)I" } : Jvm.MethodName) prog_1_method_3_code (4 : Nat) (Option.some Jvm.ClassFile.FieldType.int)) ∈ mTB := tb_2 183 (by decide +kernel) rfl
theorem w_501 : (Jvm.Cond.methodLink "SharedNights" (73 : Nat) ({ cls := "SharedNights", name := "within", desc := "(III)Z" } : Jvm.MethodName)) ∈ mTB := tb_2 184 (by decide +kernel) rfl
theorem w_502 : (Jvm.Cond.static ({ cls := "SharedNights", name := "within", desc := "(III)Z" } : Jvm.MethodName)) ∈ mTB := tb_2 185 (by decide +kernel) rfl
theorem w_503 : (Jvm.Cond.code ({ cls := "SharedNights", name := "within", desc := "(III)Z" } : Jvm.MethodName) prog_1_method_37_code (3 : Nat) (Option.some Jvm.ClassFile.FieldType.boolean)) ∈ mTB := tb_2 186 (by decide +kernel) rfl
theorem w_504 : (Jvm.Cond.methodLink "SharedNights" (80 : Nat) ({ cls := "SharedNights$Night", name := "addTarget", desc := "(III)I" } : Jvm.MethodName)) ∈ mTB := tb_2 187 (by decide +kernel) rfl
theorem w_505 : (Jvm.Cond.instanceMethod ({ cls := "SharedNights$Night", name := "addTarget", desc := "(III)I" } : Jvm.MethodName)) ∈ mTB := tb_2 188 (by decide +kernel) rfl
theorem w_506 : (Jvm.Cond.selects "SharedNights$Night" ({ cls := "SharedNights$Night", name := "addTarget", desc := "(III)I" } : Jvm.MethodName) ({ cls := "SharedNights$Night", name := "addTarget", desc := "(III)I" } : Jvm.MethodName)) ∈ mTB := tb_2 189 (by decide +kernel) rfl
theorem w_507 : (Jvm.Cond.code ({ cls := "SharedNights$Night", name := "addTarget", desc := "(III)I" } : Jvm.MethodName) prog_6_method_6_code (5 : Nat) (Option.some Jvm.ClassFile.FieldType.int)) ∈ mTB := tb_2 190 (by decide +kernel) rfl
theorem w_508 : (Jvm.Cond.methodLink "SharedNightsLaw" (23 : Nat) ({ cls := "SharedNights", name := "air", desc := "(II)I" } : Jvm.MethodName)) ∈ mTB := tb_2 191 (by decide +kernel) rfl
theorem w_509 : (Jvm.Cond.instanceMethod ({ cls := "SharedNights", name := "air", desc := "(II)I" } : Jvm.MethodName)) ∈ mTB := tb_2 192 (by decide +kernel) rfl
theorem w_510 : (Jvm.Cond.selects "SharedNights" ({ cls := "SharedNights", name := "air", desc := "(II)I" } : Jvm.MethodName) ({ cls := "SharedNights", name := "air", desc := "(II)I" } : Jvm.MethodName)) ∈ mTB := tb_2 193 (by decide +kernel) rfl
theorem w_511 : (Jvm.Cond.code ({ cls := "SharedNights", name := "air", desc := "(II)I" } : Jvm.MethodName) prog_1_method_4_code (4 : Nat) (Option.some Jvm.ClassFile.FieldType.int)) ∈ mTB := tb_2 194 (by decide +kernel) rfl
theorem w_512 : (Jvm.Cond.methodLink "SharedNights" (84 : Nat) ({ cls := "SharedNights$Night", name := "hasTarget", desc := "(I)Z" } : Jvm.MethodName)) ∈ mTB := tb_2 195 (by decide +kernel) rfl
theorem w_513 : (Jvm.Cond.instanceMethod ({ cls := "SharedNights$Night", name := "hasTarget", desc := "(I)Z" } : Jvm.MethodName)) ∈ mTB := tb_2 196 (by decide +kernel) rfl
theorem w_514 : (Jvm.Cond.selects "SharedNights$Night" ({ cls := "SharedNights$Night", name := "hasTarget", desc := "(I)Z" } : Jvm.MethodName) ({ cls := "SharedNights$Night", name := "hasTarget", desc := "(I)Z" } : Jvm.MethodName)) ∈ mTB := tb_2 197 (by decide +kernel) rfl
theorem w_515 : (Jvm.Cond.code ({ cls := "SharedNights$Night", name := "hasTarget", desc := "(I)Z" } : Jvm.MethodName) prog_6_method_4_code (2 : Nat) (Option.some Jvm.ClassFile.FieldType.boolean)) ∈ mTB := tb_2 198 (by decide +kernel) rfl
theorem w_516 : (Jvm.Cond.methodLink "SharedNights" (88 : Nat) ({ cls := "SharedNights$Night", name := "hasSlot", desc := "(I)Z" } : Jvm.MethodName)) ∈ mTB := tb_2 199 (by decide +kernel) rfl
theorem w_517 : (Jvm.Cond.instanceMethod ({ cls := "SharedNights$Night", name := "hasSlot", desc := "(I)Z" } : Jvm.MethodName)) ∈ mTB := tb_2 200 (by decide +kernel) rfl
theorem w_518 : (Jvm.Cond.selects "SharedNights$Night" ({ cls := "SharedNights$Night", name := "hasSlot", desc := "(I)Z" } : Jvm.MethodName) ({ cls := "SharedNights$Night", name := "hasSlot", desc := "(I)Z" } : Jvm.MethodName)) ∈ mTB := tb_2 201 (by decide +kernel) rfl
theorem w_519 : (Jvm.Cond.code ({ cls := "SharedNights$Night", name := "hasSlot", desc := "(I)Z" } : Jvm.MethodName) prog_6_method_3_code (2 : Nat) (Option.some Jvm.ClassFile.FieldType.boolean)) ∈ mTB := tb_2 202 (by decide +kernel) rfl
theorem w_520 : (Jvm.Cond.methodLink "SharedNights" (95 : Nat) ({ cls := "SharedNights$Night", name := "isVisible", desc := "(LSharedNights$Target;I)Z" } : Jvm.MethodName)) ∈ mTB := tb_2 203 (by decide +kernel) rfl
theorem w_521 : (Jvm.Cond.instanceMethod ({ cls := "SharedNights$Night", name := "isVisible", desc := "(LSharedNights$Target;I)Z" } : Jvm.MethodName)) ∈ mTB := tb_2 204 (by decide +kernel) rfl
theorem w_522 : (Jvm.Cond.selects "SharedNights$Night" ({ cls := "SharedNights$Night", name := "isVisible", desc := "(LSharedNights$Target;I)Z" } : Jvm.MethodName) ({ cls := "SharedNights$Night", name := "isVisible", desc := "(LSharedNights$Target;I)Z" } : Jvm.MethodName)) ∈ mTB := tb_2 205 (by decide +kernel) rfl
theorem w_523 : (Jvm.Cond.code ({ cls := "SharedNights$Night", name := "isVisible", desc := "(LSharedNights$Target;I)Z" } : Jvm.MethodName) prog_6_method_10_code (3 : Nat) (Option.some Jvm.ClassFile.FieldType.boolean)) ∈ mTB := tb_2 206 (by decide +kernel) rfl
theorem w_524 : (Jvm.Cond.methodLink "SharedNights$Night" (61 : Nat) ({ cls := "SharedNights$Night", name := "airOf", desc := "(LSharedNights$Target;I)I" } : Jvm.MethodName)) ∈ mTB := tb_2 207 (by decide +kernel) rfl
theorem w_525 : (Jvm.Cond.instanceMethod ({ cls := "SharedNights$Night", name := "airOf", desc := "(LSharedNights$Target;I)I" } : Jvm.MethodName)) ∈ mTB := tb_2 208 (by decide +kernel) rfl
theorem w_526 : (Jvm.Cond.selects "SharedNights$Night" ({ cls := "SharedNights$Night", name := "airOf", desc := "(LSharedNights$Target;I)I" } : Jvm.MethodName) ({ cls := "SharedNights$Night", name := "airOf", desc := "(LSharedNights$Target;I)I" } : Jvm.MethodName)) ∈ mTB := tb_2 209 (by decide +kernel) rfl
theorem w_527 : (Jvm.Cond.code ({ cls := "SharedNights$Night", name := "airOf", desc := "(LSharedNights$Target;I)I" } : Jvm.MethodName) prog_6_method_9_code (3 : Nat) (Option.some Jvm.ClassFile.FieldType.int)) ∈ mTB := tb_2 210 (by decide +kernel) rfl
theorem w_528 : (Jvm.Cond.methodLink "SharedNights$Night" (55 : Nat) ({ cls := "java/lang/Math", name := "abs", desc := "(I)I" } : Jvm.MethodName)) ∈ mTB := tb_2 211 (by decide +kernel) rfl
theorem w_529 : (Jvm.Cond.static ({ cls := "java/lang/Math", name := "abs", desc := "(I)I" } : Jvm.MethodName)) ∈ mTB := tb_2 212 (by decide +kernel) rfl
theorem w_530 : (Jvm.Cond.code ({ cls := "java/lang/Math", name := "abs", desc := "(I)I" } : Jvm.MethodName) prog_14_method_59_code (1 : Nat) (Option.some Jvm.ClassFile.FieldType.int)) ∈ mTB := tb_2 213 (by decide +kernel) rfl
theorem w_531 : (Jvm.Cond.methodLink "SharedNights" (99 : Nat) ({ cls := "SharedNights$Night", name := "airOf", desc := "(LSharedNights$Target;I)I" } : Jvm.MethodName)) ∈ mTB := tb_2 214 (by decide +kernel) rfl
theorem w_532 : (Jvm.Cond.methodLink "SharedNightsLaw" (28 : Nat) ({ cls := "SharedNights", name := "moon", desc := "(III)I" } : Jvm.MethodName)) ∈ mTB := tb_2 215 (by decide +kernel) rfl
theorem w_533 : (Jvm.Cond.instanceMethod ({ cls := "SharedNights", name := "moon", desc := "(III)I" } : Jvm.MethodName)) ∈ mTB := tb_2 216 (by decide +kernel) rfl
theorem w_534 : (Jvm.Cond.selects "SharedNights" ({ cls := "SharedNights", name := "moon", desc := "(III)I" } : Jvm.MethodName) ({ cls := "SharedNights", name := "moon", desc := "(III)I" } : Jvm.MethodName)) ∈ mTB := tb_2 217 (by decide +kernel) rfl
theorem w_535 : (Jvm.Cond.code ({ cls := "SharedNights", name := "moon", desc := "(III)I" } : Jvm.MethodName) prog_1_method_5_code (4 : Nat) (Option.some Jvm.ClassFile.FieldType.int)) ∈ mTB := tb_2 218 (by decide +kernel) rfl
theorem w_536 : (Jvm.Cond.methodLink "SharedNightsLaw" (32 : Nat) ({ cls := "SharedNights", name := "seeing", desc := "(III)I" } : Jvm.MethodName)) ∈ mTB := tb_2 219 (by decide +kernel) rfl
theorem w_537 : (Jvm.Cond.instanceMethod ({ cls := "SharedNights", name := "seeing", desc := "(III)I" } : Jvm.MethodName)) ∈ mTB := tb_2 220 (by decide +kernel) rfl
theorem w_538 : (Jvm.Cond.selects "SharedNights" ({ cls := "SharedNights", name := "seeing", desc := "(III)I" } : Jvm.MethodName) ({ cls := "SharedNights", name := "seeing", desc := "(III)I" } : Jvm.MethodName)) ∈ mTB := tb_2 221 (by decide +kernel) rfl
theorem w_539 : (Jvm.Cond.code ({ cls := "SharedNights", name := "seeing", desc := "(III)I" } : Jvm.MethodName) prog_1_method_6_code (5 : Nat) (Option.some Jvm.ClassFile.FieldType.int)) ∈ mTB := tb_2 222 (by decide +kernel) rfl
theorem w_540 : (Jvm.Cond.methodLink "SharedNights" (112 : Nat) ({ cls := "SharedNights$Night", name := "hasSky", desc := "(I)Z" } : Jvm.MethodName)) ∈ mTB := tb_2 223 (by decide +kernel) rfl
theorem w_541 : (Jvm.Cond.instanceMethod ({ cls := "SharedNights$Night", name := "hasSky", desc := "(I)Z" } : Jvm.MethodName)) ∈ mTB := tb_2 224 (by decide +kernel) rfl
theorem w_542 : (Jvm.Cond.selects "SharedNights$Night" ({ cls := "SharedNights$Night", name := "hasSky", desc := "(I)Z" } : Jvm.MethodName) ({ cls := "SharedNights$Night", name := "hasSky", desc := "(I)Z" } : Jvm.MethodName)) ∈ mTB := tb_2 225 (by decide +kernel) rfl
theorem w_543 : (Jvm.Cond.code ({ cls := "SharedNights$Night", name := "hasSky", desc := "(I)Z" } : Jvm.MethodName) prog_6_method_5_code (2 : Nat) (Option.some Jvm.ClassFile.FieldType.boolean)) ∈ mTB := tb_2 226 (by decide +kernel) rfl
theorem w_544 : (Jvm.Cond.methodLink "SharedNightsLaw" (36 : Nat) ({ cls := "SharedNights", name := "world", desc := "(I)I" } : Jvm.MethodName)) ∈ mTB := tb_2 227 (by decide +kernel) rfl
theorem w_545 : (Jvm.Cond.instanceMethod ({ cls := "SharedNights", name := "world", desc := "(I)I" } : Jvm.MethodName)) ∈ mTB := tb_2 228 (by decide +kernel) rfl
theorem w_546 : (Jvm.Cond.selects "SharedNights" ({ cls := "SharedNights", name := "world", desc := "(I)I" } : Jvm.MethodName) ({ cls := "SharedNights", name := "world", desc := "(I)I" } : Jvm.MethodName)) ∈ mTB := tb_2 229 (by decide +kernel) rfl
theorem w_547 : (Jvm.Cond.code ({ cls := "SharedNights", name := "world", desc := "(I)I" } : Jvm.MethodName) prog_1_method_7_code (2 : Nat) (Option.some Jvm.ClassFile.FieldType.int)) ∈ mTB := tb_2 230 (by decide +kernel) rfl
theorem w_548 : (Jvm.Cond.methodLink "SharedNights" (119 : Nat) ({ cls := "SharedNights$Night", name := "addWorld", desc := "(I)I" } : Jvm.MethodName)) ∈ mTB := tb_2 231 (by decide +kernel) rfl
theorem w_549 : (Jvm.Cond.instanceMethod ({ cls := "SharedNights$Night", name := "addWorld", desc := "(I)I" } : Jvm.MethodName)) ∈ mTB := tb_2 232 (by decide +kernel) rfl
theorem w_550 : (Jvm.Cond.selects "SharedNights$Night" ({ cls := "SharedNights$Night", name := "addWorld", desc := "(I)I" } : Jvm.MethodName) ({ cls := "SharedNights$Night", name := "addWorld", desc := "(I)I" } : Jvm.MethodName)) ∈ mTB := tb_2 233 (by decide +kernel) rfl
theorem w_551 : (Jvm.Cond.code ({ cls := "SharedNights$Night", name := "addWorld", desc := "(I)I" } : Jvm.MethodName) prog_6_method_7_code (3 : Nat) (Option.some Jvm.ClassFile.FieldType.int)) ∈ mTB := tb_2 234 (by decide +kernel) rfl
theorem w_552 : (Jvm.Cond.methodLink "SharedNightsLaw" (40 : Nat) ({ cls := "SharedNights", name := "unworld", desc := "()I" } : Jvm.MethodName)) ∈ mTB := tb_2 235 (by decide +kernel) rfl
theorem w_553 : (Jvm.Cond.instanceMethod ({ cls := "SharedNights", name := "unworld", desc := "()I" } : Jvm.MethodName)) ∈ mTB := tb_2 236 (by decide +kernel) rfl
theorem w_554 : (Jvm.Cond.selects "SharedNights" ({ cls := "SharedNights", name := "unworld", desc := "()I" } : Jvm.MethodName) ({ cls := "SharedNights", name := "unworld", desc := "()I" } : Jvm.MethodName)) ∈ mTB := tb_2 237 (by decide +kernel) rfl
theorem w_555 : (Jvm.Cond.code ({ cls := "SharedNights", name := "unworld", desc := "()I" } : Jvm.MethodName) prog_1_method_8_code (2 : Nat) (Option.some Jvm.ClassFile.FieldType.int)) ∈ mTB := tb_2 238 (by decide +kernel) rfl
theorem w_556 : (Jvm.Cond.methodLink "SharedNightsLaw" (47 : Nat) ({ cls := "SharedNights", name := "write", desc := "(JI)I" } : Jvm.MethodName)) ∈ mTB := tb_2 239 (by decide +kernel) rfl
theorem w_557 : (Jvm.Cond.instanceMethod ({ cls := "SharedNights", name := "write", desc := "(JI)I" } : Jvm.MethodName)) ∈ mTB := tb_3 0 (by decide +kernel) rfl
theorem w_558 : (Jvm.Cond.selects "SharedNights" ({ cls := "SharedNights", name := "write", desc := "(JI)I" } : Jvm.MethodName) ({ cls := "SharedNights", name := "write", desc := "(JI)I" } : Jvm.MethodName)) ∈ mTB := tb_3 1 (by decide +kernel) rfl
theorem w_559 : (Jvm.Cond.code ({ cls := "SharedNights", name := "write", desc := "(JI)I" } : Jvm.MethodName) prog_1_method_9_code (4 : Nat) (Option.some Jvm.ClassFile.FieldType.int)) ∈ mTB := tb_3 2 (by decide +kernel) rfl
theorem w_560 : (Jvm.Cond.methodLink "SharedNights" (126 : Nat) ({ cls := "SharedNights$Form", name := "append", desc := "(JI)V" } : Jvm.MethodName)) ∈ mTB := tb_3 3 (by decide +kernel) rfl
theorem w_561 : (Jvm.Cond.instanceMethod ({ cls := "SharedNights$Form", name := "append", desc := "(JI)V" } : Jvm.MethodName)) ∈ mTB := tb_3 4 (by decide +kernel) rfl
theorem w_562 : (Jvm.Cond.selects "SharedNights$Form" ({ cls := "SharedNights$Form", name := "append", desc := "(JI)V" } : Jvm.MethodName) ({ cls := "SharedNights$Form", name := "append", desc := "(JI)V" } : Jvm.MethodName)) ∈ mTB := tb_3 5 (by decide +kernel) rfl
theorem w_563 : (Jvm.Cond.code ({ cls := "SharedNights$Form", name := "append", desc := "(JI)V" } : Jvm.MethodName) prog_4_method_2_code (5 : Nat) (Option.none : Option Jvm.ClassFile.FieldType)) ∈ mTB := tb_3 6 (by decide +kernel) rfl
theorem w_564 : (Jvm.Cond.constantLong "SharedNights$Form" (26 : Nat) (255 : Int64)) ∈ mTB := tb_3 7 (by decide +kernel) rfl
theorem w_565 : (Jvm.Cond.methodLink "SharedNightsLaw" (52 : Nat) ({ cls := "SharedNights", name := "erase", desc := "()I" } : Jvm.MethodName)) ∈ mTB := tb_3 8 (by decide +kernel) rfl
theorem w_566 : (Jvm.Cond.instanceMethod ({ cls := "SharedNights", name := "erase", desc := "()I" } : Jvm.MethodName)) ∈ mTB := tb_3 9 (by decide +kernel) rfl
theorem w_567 : (Jvm.Cond.selects "SharedNights" ({ cls := "SharedNights", name := "erase", desc := "()I" } : Jvm.MethodName) ({ cls := "SharedNights", name := "erase", desc := "()I" } : Jvm.MethodName)) ∈ mTB := tb_3 10 (by decide +kernel) rfl
theorem w_568 : (Jvm.Cond.code ({ cls := "SharedNights", name := "erase", desc := "()I" } : Jvm.MethodName) prog_1_method_10_code (2 : Nat) (Option.some Jvm.ClassFile.FieldType.int)) ∈ mTB := tb_3 11 (by decide +kernel) rfl
theorem w_569 : (Jvm.Cond.methodLink "SharedNightsLaw" (56 : Nat) ({ cls := "SharedNights", name := "fault", desc := "()I" } : Jvm.MethodName)) ∈ mTB := tb_3 12 (by decide +kernel) rfl
theorem w_570 : (Jvm.Cond.instanceMethod ({ cls := "SharedNights", name := "fault", desc := "()I" } : Jvm.MethodName)) ∈ mTB := tb_3 13 (by decide +kernel) rfl
theorem w_571 : (Jvm.Cond.selects "SharedNights" ({ cls := "SharedNights", name := "fault", desc := "()I" } : Jvm.MethodName) ({ cls := "SharedNights", name := "fault", desc := "()I" } : Jvm.MethodName)) ∈ mTB := tb_3 14 (by decide +kernel) rfl
theorem w_572 : (Jvm.Cond.code ({ cls := "SharedNights", name := "fault", desc := "()I" } : Jvm.MethodName) prog_1_method_11_code (1 : Nat) (Option.some Jvm.ClassFile.FieldType.int)) ∈ mTB := tb_3 15 (by decide +kernel) rfl
theorem w_573 : (Jvm.Cond.methodLink "SharedNights" (130 : Nat) ({ cls := "SharedNights$Form", name := "read", desc := "(I)V" } : Jvm.MethodName)) ∈ mTB := tb_3 16 (by decide +kernel) rfl
theorem w_574 : (Jvm.Cond.instanceMethod ({ cls := "SharedNights$Form", name := "read", desc := "(I)V" } : Jvm.MethodName)) ∈ mTB := tb_3 17 (by decide +kernel) rfl
theorem w_575 : (Jvm.Cond.selects "SharedNights$Form" ({ cls := "SharedNights$Form", name := "read", desc := "(I)V" } : Jvm.MethodName) ({ cls := "SharedNights$Form", name := "read", desc := "(I)V" } : Jvm.MethodName)) ∈ mTB := tb_3 18 (by decide +kernel) rfl
theorem w_576 : (Jvm.Cond.code ({ cls := "SharedNights$Form", name := "read", desc := "(I)V" } : Jvm.MethodName) prog_4_method_3_code (3 : Nat) (Option.none : Option Jvm.ClassFile.FieldType)) ∈ mTB := tb_3 19 (by decide +kernel) rfl
theorem w_577 : (Jvm.Cond.methodLink "SharedNights$Form" (43 : Nat) ({ cls := "SharedNights$Form", name := "readToken", desc := "()V" } : Jvm.MethodName)) ∈ mTB := tb_3 20 (by decide +kernel) rfl
theorem w_579 : (Jvm.Cond.instanceMethod ({ cls := "SharedNights$Form", name := "readToken", desc := "()V" } : Jvm.MethodName)) ∈ mTB := tb_3 22 (by decide +kernel) rfl
theorem w_580 : (Jvm.Cond.code ({ cls := "SharedNights$Form", name := "readToken", desc := "()V" } : Jvm.MethodName) prog_4_method_4_code (2 : Nat) (Option.none : Option Jvm.ClassFile.FieldType)) ∈ mTB := tb_3 23 (by decide +kernel) rfl
theorem w_581 : (Jvm.Cond.methodLink "SharedNights$Form" (63 : Nat) ({ cls := "SharedNights$Form", name := "isLetter", desc := "(I)Z" } : Jvm.MethodName)) ∈ mTB := tb_3 24 (by decide +kernel) rfl
theorem w_582 : (Jvm.Cond.static ({ cls := "SharedNights$Form", name := "isLetter", desc := "(I)Z" } : Jvm.MethodName)) ∈ mTB := tb_3 25 (by decide +kernel) rfl
theorem w_583 : (Jvm.Cond.code ({ cls := "SharedNights$Form", name := "isLetter", desc := "(I)Z" } : Jvm.MethodName) prog_4_method_7_code (1 : Nat) (Option.some Jvm.ClassFile.FieldType.boolean)) ∈ mTB := tb_3 26 (by decide +kernel) rfl
theorem w_584 : (Jvm.Cond.methodLink "SharedNights$Form" (66 : Nat) ({ cls := "SharedNights$Form", name := "readWord", desc := "()V" } : Jvm.MethodName)) ∈ mTB := tb_3 27 (by decide +kernel) rfl
theorem w_586 : (Jvm.Cond.instanceMethod ({ cls := "SharedNights$Form", name := "readWord", desc := "()V" } : Jvm.MethodName)) ∈ mTB := tb_3 29 (by decide +kernel) rfl
theorem w_587 : (Jvm.Cond.code ({ cls := "SharedNights$Form", name := "readWord", desc := "()V" } : Jvm.MethodName) prog_4_method_5_code (2 : Nat) (Option.none : Option Jvm.ClassFile.FieldType)) ∈ mTB := tb_3 30 (by decide +kernel) rfl
theorem w_588 : (Jvm.Cond.methodLink "SharedNights$Form" (69 : Nat) ({ cls := "SharedNights$Form", name := "isDigit", desc := "(I)Z" } : Jvm.MethodName)) ∈ mTB := tb_3 31 (by decide +kernel) rfl
theorem w_589 : (Jvm.Cond.static ({ cls := "SharedNights$Form", name := "isDigit", desc := "(I)Z" } : Jvm.MethodName)) ∈ mTB := tb_3 32 (by decide +kernel) rfl
theorem w_590 : (Jvm.Cond.code ({ cls := "SharedNights$Form", name := "isDigit", desc := "(I)Z" } : Jvm.MethodName) prog_4_method_8_code (1 : Nat) (Option.some Jvm.ClassFile.FieldType.boolean)) ∈ mTB := tb_3 33 (by decide +kernel) rfl
theorem w_591 : (Jvm.Cond.methodLink "SharedNights$Form" (72 : Nat) ({ cls := "SharedNights$Form", name := "readNumber", desc := "()V" } : Jvm.MethodName)) ∈ mTB := tb_3 34 (by decide +kernel) rfl
theorem w_593 : (Jvm.Cond.instanceMethod ({ cls := "SharedNights$Form", name := "readNumber", desc := "()V" } : Jvm.MethodName)) ∈ mTB := tb_3 36 (by decide +kernel) rfl
theorem w_594 : (Jvm.Cond.code ({ cls := "SharedNights$Form", name := "readNumber", desc := "()V" } : Jvm.MethodName) prog_4_method_6_code (2 : Nat) (Option.none : Option Jvm.ClassFile.FieldType)) ∈ mTB := tb_3 37 (by decide +kernel) rfl
theorem w_595 : (Jvm.Cond.methodLink "SharedNights$Form" (46 : Nat) ({ cls := "SharedNights$Form", name := "takeToken", desc := "(I)Z" } : Jvm.MethodName)) ∈ mTB := tb_3 38 (by decide +kernel) rfl
theorem w_597 : (Jvm.Cond.instanceMethod ({ cls := "SharedNights$Form", name := "takeToken", desc := "(I)Z" } : Jvm.MethodName)) ∈ mTB := tb_3 40 (by decide +kernel) rfl
theorem w_598 : (Jvm.Cond.code ({ cls := "SharedNights$Form", name := "takeToken", desc := "(I)Z" } : Jvm.MethodName) prog_4_method_9_code (2 : Nat) (Option.some Jvm.ClassFile.FieldType.boolean)) ∈ mTB := tb_3 41 (by decide +kernel) rfl
theorem w_599 : (Jvm.Cond.methodLink "SharedNights$Form" (78 : Nat) ({ cls := "SharedNights$Form", name := "takeWord", desc := "()Z" } : Jvm.MethodName)) ∈ mTB := tb_3 42 (by decide +kernel) rfl
theorem w_601 : (Jvm.Cond.instanceMethod ({ cls := "SharedNights$Form", name := "takeWord", desc := "()Z" } : Jvm.MethodName)) ∈ mTB := tb_3 44 (by decide +kernel) rfl
theorem w_602 : (Jvm.Cond.code ({ cls := "SharedNights$Form", name := "takeWord", desc := "()Z" } : Jvm.MethodName) prog_4_method_10_code (1 : Nat) (Option.some Jvm.ClassFile.FieldType.boolean)) ∈ mTB := tb_3 45 (by decide +kernel) rfl
theorem w_603 : (Jvm.Cond.methodLink "SharedNights$Form" (88 : Nat) ({ cls := "SharedNights$Form", name := "wordAt", desc := "(I)Ljava/lang/String;" } : Jvm.MethodName)) ∈ mTB := tb_3 46 (by decide +kernel) rfl
theorem w_604 : (Jvm.Cond.static ({ cls := "SharedNights$Form", name := "wordAt", desc := "(I)Ljava/lang/String;" } : Jvm.MethodName)) ∈ mTB := tb_3 47 (by decide +kernel) rfl
theorem w_605 : (Jvm.Cond.code ({ cls := "SharedNights$Form", name := "wordAt", desc := "(I)Ljava/lang/String;" } : Jvm.MethodName) prog_4_method_14_code (1 : Nat) (Option.some (Jvm.ClassFile.FieldType.object "java/lang/String"))) ∈ mTB := tb_3 48 (by decide +kernel) rfl
theorem w_617 : (Jvm.Cond.methodLink "SharedNights$Form" (92 : Nat) ({ cls := "SharedNights$Form", name := "tokenIs", desc := "(Ljava/lang/String;)Z" } : Jvm.MethodName)) ∈ mTB := tb_3 60 (by decide +kernel) rfl
theorem w_619 : (Jvm.Cond.instanceMethod ({ cls := "SharedNights$Form", name := "tokenIs", desc := "(Ljava/lang/String;)Z" } : Jvm.MethodName)) ∈ mTB := tb_3 62 (by decide +kernel) rfl
theorem w_620 : (Jvm.Cond.code ({ cls := "SharedNights$Form", name := "tokenIs", desc := "(Ljava/lang/String;)Z" } : Jvm.MethodName) prog_4_method_13_code (4 : Nat) (Option.some Jvm.ClassFile.FieldType.boolean)) ∈ mTB := tb_3 63 (by decide +kernel) rfl
theorem w_621 : (Jvm.Cond.methodLink "SharedNights$Form" (119 : Nat) ({ cls := "java/lang/String", name := "length", desc := "()I" } : Jvm.MethodName)) ∈ mTB := tb_3 64 (by decide +kernel) rfl
theorem w_631 : (Jvm.Cond.methodLink "SharedNights$Form" (124 : Nat) ({ cls := "java/lang/String", name := "charAt", desc := "(I)C" } : Jvm.MethodName)) ∈ mTB := tb_3 74 (by decide +kernel) rfl
theorem w_669 : (Jvm.Cond.methodLink "SharedNights$Form" (82 : Nat) ({ cls := "SharedNights$Form", name := "takeNumber", desc := "(I)Z" } : Jvm.MethodName)) ∈ mTB := tb_3 112 (by decide +kernel) rfl
theorem w_671 : (Jvm.Cond.instanceMethod ({ cls := "SharedNights$Form", name := "takeNumber", desc := "(I)Z" } : Jvm.MethodName)) ∈ mTB := tb_3 114 (by decide +kernel) rfl
theorem w_672 : (Jvm.Cond.code ({ cls := "SharedNights$Form", name := "takeNumber", desc := "(I)Z" } : Jvm.MethodName) prog_4_method_11_code (2 : Nat) (Option.some Jvm.ClassFile.FieldType.boolean)) ∈ mTB := tb_3 115 (by decide +kernel) rfl
theorem w_673 : (Jvm.Cond.methodLink "SharedNights$Form" (106 : Nat) ({ cls := "SharedNights$Form", name := "isNumberPlace", desc := "(I)Z" } : Jvm.MethodName)) ∈ mTB := tb_3 116 (by decide +kernel) rfl
theorem w_674 : (Jvm.Cond.static ({ cls := "SharedNights$Form", name := "isNumberPlace", desc := "(I)Z" } : Jvm.MethodName)) ∈ mTB := tb_3 117 (by decide +kernel) rfl
theorem w_675 : (Jvm.Cond.code ({ cls := "SharedNights$Form", name := "isNumberPlace", desc := "(I)Z" } : Jvm.MethodName) prog_4_method_15_code (1 : Nat) (Option.some Jvm.ClassFile.FieldType.boolean)) ∈ mTB := tb_3 118 (by decide +kernel) rfl
theorem w_676 : (Jvm.Cond.methodLink "SharedNights$Form" (109 : Nat) ({ cls := "SharedNights$Form", name := "leastNumber", desc := "()I" } : Jvm.MethodName)) ∈ mTB := tb_3 119 (by decide +kernel) rfl
theorem w_678 : (Jvm.Cond.instanceMethod ({ cls := "SharedNights$Form", name := "leastNumber", desc := "()I" } : Jvm.MethodName)) ∈ mTB := tb_3 121 (by decide +kernel) rfl
theorem w_679 : (Jvm.Cond.code ({ cls := "SharedNights$Form", name := "leastNumber", desc := "()I" } : Jvm.MethodName) prog_4_method_16_code (1 : Nat) (Option.some Jvm.ClassFile.FieldType.int)) ∈ mTB := tb_3 122 (by decide +kernel) rfl
theorem w_680 : (Jvm.Cond.methodLink "SharedNights$Form" (112 : Nat) ({ cls := "SharedNights$Form", name := "mostNumber", desc := "(I)I" } : Jvm.MethodName)) ∈ mTB := tb_3 123 (by decide +kernel) rfl
theorem w_682 : (Jvm.Cond.instanceMethod ({ cls := "SharedNights$Form", name := "mostNumber", desc := "(I)I" } : Jvm.MethodName)) ∈ mTB := tb_3 125 (by decide +kernel) rfl
theorem w_683 : (Jvm.Cond.code ({ cls := "SharedNights$Form", name := "mostNumber", desc := "(I)I" } : Jvm.MethodName) prog_4_method_17_code (2 : Nat) (Option.some Jvm.ClassFile.FieldType.int)) ∈ mTB := tb_3 126 (by decide +kernel) rfl
theorem w_684 : (Jvm.Cond.methodLink "SharedNights$Form" (116 : Nat) ({ cls := "SharedNights$Form", name := "keepNumber", desc := "()V" } : Jvm.MethodName)) ∈ mTB := tb_3 127 (by decide +kernel) rfl
theorem w_686 : (Jvm.Cond.instanceMethod ({ cls := "SharedNights$Form", name := "keepNumber", desc := "()V" } : Jvm.MethodName)) ∈ mTB := tb_3 129 (by decide +kernel) rfl
theorem w_687 : (Jvm.Cond.code ({ cls := "SharedNights$Form", name := "keepNumber", desc := "()V" } : Jvm.MethodName) prog_4_method_18_code (2 : Nat) (Option.none : Option Jvm.ClassFile.FieldType)) ∈ mTB := tb_3 130 (by decide +kernel) rfl
theorem w_688 : (Jvm.Cond.methodLink "SharedNights$Form" (85 : Nat) ({ cls := "SharedNights$Form", name := "takeSign", desc := "()Z" } : Jvm.MethodName)) ∈ mTB := tb_3 131 (by decide +kernel) rfl
theorem w_690 : (Jvm.Cond.instanceMethod ({ cls := "SharedNights$Form", name := "takeSign", desc := "()Z" } : Jvm.MethodName)) ∈ mTB := tb_3 133 (by decide +kernel) rfl
theorem w_691 : (Jvm.Cond.code ({ cls := "SharedNights$Form", name := "takeSign", desc := "()Z" } : Jvm.MethodName) prog_4_method_12_code (2 : Nat) (Option.some Jvm.ClassFile.FieldType.boolean)) ∈ mTB := tb_3 134 (by decide +kernel) rfl
theorem w_692 : (Jvm.Cond.methodLink "SharedNights$Form" (53 : Nat) ({ cls := "SharedNights$Form", name := "whatCanStand", desc := "()I" } : Jvm.MethodName)) ∈ mTB := tb_3 135 (by decide +kernel) rfl
theorem w_694 : (Jvm.Cond.instanceMethod ({ cls := "SharedNights$Form", name := "whatCanStand", desc := "()I" } : Jvm.MethodName)) ∈ mTB := tb_3 137 (by decide +kernel) rfl
theorem w_695 : (Jvm.Cond.code ({ cls := "SharedNights$Form", name := "whatCanStand", desc := "()I" } : Jvm.MethodName) prog_4_method_19_code (2 : Nat) (Option.some Jvm.ClassFile.FieldType.int)) ∈ mTB := tb_3 138 (by decide +kernel) rfl
theorem w_697 : (Jvm.Cond.methodLink "SharedNightsLaw" (60 : Nat) ({ cls := "SharedNights", name := "stands", desc := "()I" } : Jvm.MethodName)) ∈ mTB := tb_3 140 (by decide +kernel) rfl
theorem w_698 : (Jvm.Cond.instanceMethod ({ cls := "SharedNights", name := "stands", desc := "()I" } : Jvm.MethodName)) ∈ mTB := tb_3 141 (by decide +kernel) rfl
theorem w_699 : (Jvm.Cond.selects "SharedNights" ({ cls := "SharedNights", name := "stands", desc := "()I" } : Jvm.MethodName) ({ cls := "SharedNights", name := "stands", desc := "()I" } : Jvm.MethodName)) ∈ mTB := tb_3 142 (by decide +kernel) rfl
theorem w_700 : (Jvm.Cond.code ({ cls := "SharedNights", name := "stands", desc := "()I" } : Jvm.MethodName) prog_1_method_12_code (1 : Nat) (Option.some Jvm.ClassFile.FieldType.int)) ∈ mTB := tb_3 143 (by decide +kernel) rfl
theorem w_701 : (Jvm.Cond.methodLink "SharedNightsLaw" (64 : Nat) ({ cls := "SharedNights", name := "plan", desc := "()I" } : Jvm.MethodName)) ∈ mTB := tb_3 144 (by decide +kernel) rfl
theorem w_702 : (Jvm.Cond.instanceMethod ({ cls := "SharedNights", name := "plan", desc := "()I" } : Jvm.MethodName)) ∈ mTB := tb_3 145 (by decide +kernel) rfl
theorem w_703 : (Jvm.Cond.selects "SharedNights" ({ cls := "SharedNights", name := "plan", desc := "()I" } : Jvm.MethodName) ({ cls := "SharedNights", name := "plan", desc := "()I" } : Jvm.MethodName)) ∈ mTB := tb_3 146 (by decide +kernel) rfl
theorem w_704 : (Jvm.Cond.code ({ cls := "SharedNights", name := "plan", desc := "()I" } : Jvm.MethodName) prog_1_method_13_code (1 : Nat) (Option.some Jvm.ClassFile.FieldType.int)) ∈ mTB := tb_3 147 (by decide +kernel) rfl
theorem w_705 : (Jvm.Cond.methodLink "SharedNights" (147 : Nat) ({ cls := "SharedNights$Book", name := "add", desc := "(LSharedNights$Plan;)LSharedNights$Plan;" } : Jvm.MethodName)) ∈ mTB := tb_3 148 (by decide +kernel) rfl
theorem w_706 : (Jvm.Cond.instanceMethod ({ cls := "SharedNights$Book", name := "add", desc := "(LSharedNights$Plan;)LSharedNights$Plan;" } : Jvm.MethodName)) ∈ mTB := tb_3 149 (by decide +kernel) rfl
theorem w_707 : (Jvm.Cond.selects "SharedNights$Book" ({ cls := "SharedNights$Book", name := "add", desc := "(LSharedNights$Plan;)LSharedNights$Plan;" } : Jvm.MethodName) ({ cls := "SharedNights$Book", name := "add", desc := "(LSharedNights$Plan;)LSharedNights$Plan;" } : Jvm.MethodName)) ∈ mTB := tb_3 150 (by decide +kernel) rfl
theorem w_708 : (Jvm.Cond.code ({ cls := "SharedNights$Book", name := "add", desc := "(LSharedNights$Plan;)LSharedNights$Plan;" } : Jvm.MethodName) prog_3_method_3_code (3 : Nat) (Option.some (Jvm.ClassFile.FieldType.object "SharedNights$Plan"))) ∈ mTB := tb_3 151 (by decide +kernel) rfl
theorem w_709 : (Jvm.Cond.methodLink "SharedNightsLaw" (68 : Nat) ({ cls := "SharedNights", name := "drop", desc := "(I)I" } : Jvm.MethodName)) ∈ mTB := tb_3 152 (by decide +kernel) rfl
theorem w_710 : (Jvm.Cond.instanceMethod ({ cls := "SharedNights", name := "drop", desc := "(I)I" } : Jvm.MethodName)) ∈ mTB := tb_3 153 (by decide +kernel) rfl
theorem w_711 : (Jvm.Cond.selects "SharedNights" ({ cls := "SharedNights", name := "drop", desc := "(I)I" } : Jvm.MethodName) ({ cls := "SharedNights", name := "drop", desc := "(I)I" } : Jvm.MethodName)) ∈ mTB := tb_3 154 (by decide +kernel) rfl
theorem w_712 : (Jvm.Cond.code ({ cls := "SharedNights", name := "drop", desc := "(I)I" } : Jvm.MethodName) prog_1_method_14_code (2 : Nat) (Option.some Jvm.ClassFile.FieldType.int)) ∈ mTB := tb_3 155 (by decide +kernel) rfl
theorem w_713 : (Jvm.Cond.methodLink "SharedNights" (151 : Nat) ({ cls := "SharedNights$Book", name := "has", desc := "(I)Z" } : Jvm.MethodName)) ∈ mTB := tb_3 156 (by decide +kernel) rfl
theorem w_714 : (Jvm.Cond.instanceMethod ({ cls := "SharedNights$Book", name := "has", desc := "(I)Z" } : Jvm.MethodName)) ∈ mTB := tb_3 157 (by decide +kernel) rfl
theorem w_715 : (Jvm.Cond.selects "SharedNights$Book" ({ cls := "SharedNights$Book", name := "has", desc := "(I)Z" } : Jvm.MethodName) ({ cls := "SharedNights$Book", name := "has", desc := "(I)Z" } : Jvm.MethodName)) ∈ mTB := tb_3 158 (by decide +kernel) rfl
theorem w_716 : (Jvm.Cond.code ({ cls := "SharedNights$Book", name := "has", desc := "(I)Z" } : Jvm.MethodName) prog_3_method_2_code (2 : Nat) (Option.some Jvm.ClassFile.FieldType.boolean)) ∈ mTB := tb_3 159 (by decide +kernel) rfl
theorem w_717 : (Jvm.Cond.methodLink "SharedNights" (154 : Nat) ({ cls := "SharedNights$Book", name := "remove", desc := "(I)V" } : Jvm.MethodName)) ∈ mTB := tb_3 160 (by decide +kernel) rfl
theorem w_718 : (Jvm.Cond.instanceMethod ({ cls := "SharedNights$Book", name := "remove", desc := "(I)V" } : Jvm.MethodName)) ∈ mTB := tb_3 161 (by decide +kernel) rfl
theorem w_719 : (Jvm.Cond.selects "SharedNights$Book" ({ cls := "SharedNights$Book", name := "remove", desc := "(I)V" } : Jvm.MethodName) ({ cls := "SharedNights$Book", name := "remove", desc := "(I)V" } : Jvm.MethodName)) ∈ mTB := tb_3 162 (by decide +kernel) rfl
theorem w_720 : (Jvm.Cond.code ({ cls := "SharedNights$Book", name := "remove", desc := "(I)V" } : Jvm.MethodName) prog_3_method_4_code (4 : Nat) (Option.none : Option Jvm.ClassFile.FieldType)) ∈ mTB := tb_3 163 (by decide +kernel) rfl
theorem w_721 : (Jvm.Cond.methodLink "SharedNights$Book" (22 : Nat) ({ cls := "SharedNights$Book", name := "has", desc := "(I)Z" } : Jvm.MethodName)) ∈ mTB := tb_3 164 (by decide +kernel) rfl
theorem w_722 : (Jvm.Cond.methodLink "SharedNightsLaw" (72 : Nat) ({ cls := "SharedNights", name := "told", desc := "(II)I" } : Jvm.MethodName)) ∈ mTB := tb_3 165 (by decide +kernel) rfl
theorem w_723 : (Jvm.Cond.instanceMethod ({ cls := "SharedNights", name := "told", desc := "(II)I" } : Jvm.MethodName)) ∈ mTB := tb_3 166 (by decide +kernel) rfl
theorem w_724 : (Jvm.Cond.selects "SharedNights" ({ cls := "SharedNights", name := "told", desc := "(II)I" } : Jvm.MethodName) ({ cls := "SharedNights", name := "told", desc := "(II)I" } : Jvm.MethodName)) ∈ mTB := tb_3 167 (by decide +kernel) rfl
theorem w_725 : (Jvm.Cond.code ({ cls := "SharedNights", name := "told", desc := "(II)I" } : Jvm.MethodName) prog_1_method_15_code (6 : Nat) (Option.some Jvm.ClassFile.FieldType.int)) ∈ mTB := tb_3 168 (by decide +kernel) rfl
theorem w_726 : (Jvm.Cond.methodLink "SharedNights" (161 : Nat) ({ cls := "SharedNights$Plan", name := "headFact", desc := "(I)I" } : Jvm.MethodName)) ∈ mTB := tb_3 169 (by decide +kernel) rfl
theorem w_727 : (Jvm.Cond.instanceMethod ({ cls := "SharedNights$Plan", name := "headFact", desc := "(I)I" } : Jvm.MethodName)) ∈ mTB := tb_3 170 (by decide +kernel) rfl
theorem w_728 : (Jvm.Cond.selects "SharedNights$Plan" ({ cls := "SharedNights$Plan", name := "headFact", desc := "(I)I" } : Jvm.MethodName) ({ cls := "SharedNights$Plan", name := "headFact", desc := "(I)I" } : Jvm.MethodName)) ∈ mTB := tb_3 171 (by decide +kernel) rfl
theorem w_729 : (Jvm.Cond.code ({ cls := "SharedNights$Plan", name := "headFact", desc := "(I)I" } : Jvm.MethodName) prog_7_method_2_code (2 : Nat) (Option.some Jvm.ClassFile.FieldType.int)) ∈ mTB := tb_3 172 (by decide +kernel) rfl
theorem w_730 : (Jvm.Cond.methodLink "SharedNights" (173 : Nat) ({ cls := "SharedNights$Step", name := "fact", desc := "(I)I" } : Jvm.MethodName)) ∈ mTB := tb_3 173 (by decide +kernel) rfl
theorem w_731 : (Jvm.Cond.instanceMethod ({ cls := "SharedNights$Step", name := "fact", desc := "(I)I" } : Jvm.MethodName)) ∈ mTB := tb_3 174 (by decide +kernel) rfl
theorem w_732 : (Jvm.Cond.selects "SharedNights$Step" ({ cls := "SharedNights$Step", name := "fact", desc := "(I)I" } : Jvm.MethodName) ({ cls := "SharedNights$Step", name := "fact", desc := "(I)I" } : Jvm.MethodName)) ∈ mTB := tb_3 175 (by decide +kernel) rfl
theorem w_733 : (Jvm.Cond.code ({ cls := "SharedNights$Step", name := "fact", desc := "(I)I" } : Jvm.MethodName) prog_8_method_2_code (2 : Nat) (Option.some Jvm.ClassFile.FieldType.int)) ∈ mTB := tb_3 176 (by decide +kernel) rfl
theorem w_734 : (Jvm.Cond.methodLink "SharedNightsLaw" (76 : Nat) ({ cls := "SharedNights", name := "worth", desc := "(II)I" } : Jvm.MethodName)) ∈ mTB := tb_3 177 (by decide +kernel) rfl
theorem w_735 : (Jvm.Cond.instanceMethod ({ cls := "SharedNights", name := "worth", desc := "(II)I" } : Jvm.MethodName)) ∈ mTB := tb_3 178 (by decide +kernel) rfl
theorem w_736 : (Jvm.Cond.selects "SharedNights" ({ cls := "SharedNights", name := "worth", desc := "(II)I" } : Jvm.MethodName) ({ cls := "SharedNights", name := "worth", desc := "(II)I" } : Jvm.MethodName)) ∈ mTB := tb_3 179 (by decide +kernel) rfl
theorem w_737 : (Jvm.Cond.code ({ cls := "SharedNights", name := "worth", desc := "(II)I" } : Jvm.MethodName) prog_1_method_16_code (4 : Nat) (Option.some Jvm.ClassFile.FieldType.int)) ∈ mTB := tb_3 180 (by decide +kernel) rfl
theorem w_738 : (Jvm.Cond.methodLink "SharedNightsLaw" (80 : Nat) ({ cls := "SharedNights", name := "placements", desc := "(I)I" } : Jvm.MethodName)) ∈ mTB := tb_3 181 (by decide +kernel) rfl
theorem w_739 : (Jvm.Cond.instanceMethod ({ cls := "SharedNights", name := "placements", desc := "(I)I" } : Jvm.MethodName)) ∈ mTB := tb_3 182 (by decide +kernel) rfl
theorem w_740 : (Jvm.Cond.selects "SharedNights" ({ cls := "SharedNights", name := "placements", desc := "(I)I" } : Jvm.MethodName) ({ cls := "SharedNights", name := "placements", desc := "(I)I" } : Jvm.MethodName)) ∈ mTB := tb_3 183 (by decide +kernel) rfl
theorem w_741 : (Jvm.Cond.code ({ cls := "SharedNights", name := "placements", desc := "(I)I" } : Jvm.MethodName) prog_1_method_17_code (2 : Nat) (Option.some Jvm.ClassFile.FieldType.int)) ∈ mTB := tb_3 184 (by decide +kernel) rfl
theorem w_742 : (Jvm.Cond.methodLink "SharedNights" (179 : Nat) ({ cls := "SharedNights$BestNight", name := "refresh", desc := "()V" } : Jvm.MethodName)) ∈ mTB := tb_3 185 (by decide +kernel) rfl
theorem w_743 : (Jvm.Cond.instanceMethod ({ cls := "SharedNights$BestNight", name := "refresh", desc := "()V" } : Jvm.MethodName)) ∈ mTB := tb_3 186 (by decide +kernel) rfl
theorem w_744 : (Jvm.Cond.selects "SharedNights$BestNight" ({ cls := "SharedNights$BestNight", name := "refresh", desc := "()V" } : Jvm.MethodName) ({ cls := "SharedNights$BestNight", name := "refresh", desc := "()V" } : Jvm.MethodName)) ∈ mTB := tb_3 187 (by decide +kernel) rfl
theorem w_745 : (Jvm.Cond.code ({ cls := "SharedNights$BestNight", name := "refresh", desc := "()V" } : Jvm.MethodName) prog_2_method_3_code (2 : Nat) (Option.none : Option Jvm.ClassFile.FieldType)) ∈ mTB := tb_3 188 (by decide +kernel) rfl
theorem w_746 : (Jvm.Cond.methodLink "SharedNights$BestNight" (70 : Nat) ({ cls := "SharedNights$BestNight", name := "gatherPlacements", desc := "(I)V" } : Jvm.MethodName)) ∈ mTB := tb_3 189 (by decide +kernel) rfl
theorem w_748 : (Jvm.Cond.instanceMethod ({ cls := "SharedNights$BestNight", name := "gatherPlacements", desc := "(I)V" } : Jvm.MethodName)) ∈ mTB := tb_3 191 (by decide +kernel) rfl
theorem w_749 : (Jvm.Cond.code ({ cls := "SharedNights$BestNight", name := "gatherPlacements", desc := "(I)V" } : Jvm.MethodName) prog_2_method_13_code (4 : Nat) (Option.none : Option Jvm.ClassFile.FieldType)) ∈ mTB := tb_3 192 (by decide +kernel) rfl
theorem w_750 : (Jvm.Cond.methodLink "SharedNights$BestNight" (141 : Nat) ({ cls := "SharedNights$Night", name := "fittingBegins", desc := "(LSharedNights$Target;LSharedNights$Step;)I" } : Jvm.MethodName)) ∈ mTB := tb_3 193 (by decide +kernel) rfl
theorem w_751 : (Jvm.Cond.instanceMethod ({ cls := "SharedNights$Night", name := "fittingBegins", desc := "(LSharedNights$Target;LSharedNights$Step;)I" } : Jvm.MethodName)) ∈ mTB := tb_3 194 (by decide +kernel) rfl
theorem w_752 : (Jvm.Cond.selects "SharedNights$Night" ({ cls := "SharedNights$Night", name := "fittingBegins", desc := "(LSharedNights$Target;LSharedNights$Step;)I" } : Jvm.MethodName) ({ cls := "SharedNights$Night", name := "fittingBegins", desc := "(LSharedNights$Target;LSharedNights$Step;)I" } : Jvm.MethodName)) ∈ mTB := tb_3 195 (by decide +kernel) rfl
theorem w_753 : (Jvm.Cond.code ({ cls := "SharedNights$Night", name := "fittingBegins", desc := "(LSharedNights$Target;LSharedNights$Step;)I" } : Jvm.MethodName) prog_6_method_14_code (6 : Nat) (Option.some Jvm.ClassFile.FieldType.int)) ∈ mTB := tb_3 196 (by decide +kernel) rfl
theorem w_754 : (Jvm.Cond.methodLink "SharedNights$Night" (91 : Nat) ({ cls := "SharedNights$Night", name := "fitsAlone", desc := "(ILSharedNights$Target;LSharedNights$Step;I)Z" } : Jvm.MethodName)) ∈ mTB := tb_3 197 (by decide +kernel) rfl
theorem w_755 : (Jvm.Cond.instanceMethod ({ cls := "SharedNights$Night", name := "fitsAlone", desc := "(ILSharedNights$Target;LSharedNights$Step;I)Z" } : Jvm.MethodName)) ∈ mTB := tb_3 198 (by decide +kernel) rfl
theorem w_756 : (Jvm.Cond.selects "SharedNights$Night" ({ cls := "SharedNights$Night", name := "fitsAlone", desc := "(ILSharedNights$Target;LSharedNights$Step;I)Z" } : Jvm.MethodName) ({ cls := "SharedNights$Night", name := "fitsAlone", desc := "(ILSharedNights$Target;LSharedNights$Step;I)Z" } : Jvm.MethodName)) ∈ mTB := tb_3 199 (by decide +kernel) rfl
theorem w_757 : (Jvm.Cond.code ({ cls := "SharedNights$Night", name := "fitsAlone", desc := "(ILSharedNights$Target;LSharedNights$Step;I)Z" } : Jvm.MethodName) prog_6_method_13_code (7 : Nat) (Option.some Jvm.ClassFile.FieldType.boolean)) ∈ mTB := tb_3 200 (by decide +kernel) rfl
theorem w_758 : (Jvm.Cond.methodLink "SharedNights$Night" (87 : Nat) ({ cls := "SharedNights$Night", name := "isBright", desc := "(LSharedNights$Target;I)Z" } : Jvm.MethodName)) ∈ mTB := tb_3 201 (by decide +kernel) rfl
theorem w_759 : (Jvm.Cond.instanceMethod ({ cls := "SharedNights$Night", name := "isBright", desc := "(LSharedNights$Target;I)Z" } : Jvm.MethodName)) ∈ mTB := tb_3 202 (by decide +kernel) rfl
theorem w_760 : (Jvm.Cond.selects "SharedNights$Night" ({ cls := "SharedNights$Night", name := "isBright", desc := "(LSharedNights$Target;I)Z" } : Jvm.MethodName) ({ cls := "SharedNights$Night", name := "isBright", desc := "(LSharedNights$Target;I)Z" } : Jvm.MethodName)) ∈ mTB := tb_3 203 (by decide +kernel) rfl
theorem w_761 : (Jvm.Cond.code ({ cls := "SharedNights$Night", name := "isBright", desc := "(LSharedNights$Target;I)Z" } : Jvm.MethodName) prog_6_method_12_code (3 : Nat) (Option.some Jvm.ClassFile.FieldType.boolean)) ∈ mTB := tb_3 204 (by decide +kernel) rfl
theorem w_762 : (Jvm.Cond.methodLink "SharedNights$BestNight" (174 : Nat) ({ cls := "SharedNights$BestNight", name := "gatherSteps", desc := "(IIIII)V" } : Jvm.MethodName)) ∈ mTB := tb_3 205 (by decide +kernel) rfl
theorem w_764 : (Jvm.Cond.instanceMethod ({ cls := "SharedNights$BestNight", name := "gatherSteps", desc := "(IIIII)V" } : Jvm.MethodName)) ∈ mTB := tb_3 207 (by decide +kernel) rfl
theorem w_765 : (Jvm.Cond.code ({ cls := "SharedNights$BestNight", name := "gatherSteps", desc := "(IIIII)V" } : Jvm.MethodName) prog_2_method_14_code (13 : Nat) (Option.none : Option Jvm.ClassFile.FieldType)) ∈ mTB := tb_3 208 (by decide +kernel) rfl
theorem w_766 : (Jvm.Cond.methodLink "SharedNights$BestNight" (178 : Nat) ({ cls := "SharedNights$BestNight", name := "keepPlacement", desc := "(II)V" } : Jvm.MethodName)) ∈ mTB := tb_3 209 (by decide +kernel) rfl
theorem w_768 : (Jvm.Cond.instanceMethod ({ cls := "SharedNights$BestNight", name := "keepPlacement", desc := "(II)V" } : Jvm.MethodName)) ∈ mTB := tb_3 211 (by decide +kernel) rfl
theorem w_769 : (Jvm.Cond.code ({ cls := "SharedNights$BestNight", name := "keepPlacement", desc := "(II)V" } : Jvm.MethodName) prog_2_method_15_code (3 : Nat) (Option.none : Option Jvm.ClassFile.FieldType)) ∈ mTB := tb_3 212 (by decide +kernel) rfl
theorem w_771 : (Jvm.Cond.static ({ cls := "SharedNights", name := "hasBit", desc := "(II)Z" } : Jvm.MethodName)) ∈ mTB := tb_3 214 (by decide +kernel) rfl
theorem w_772 : (Jvm.Cond.code ({ cls := "SharedNights", name := "hasBit", desc := "(II)Z" } : Jvm.MethodName) prog_1_method_39_code (2 : Nat) (Option.some Jvm.ClassFile.FieldType.boolean)) ∈ mTB := tb_3 215 (by decide +kernel) rfl
theorem w_774 : (Jvm.Cond.static ({ cls := "SharedNights", name := "slotBits", desc := "(II)I" } : Jvm.MethodName)) ∈ mTB := tb_3 217 (by decide +kernel) rfl
theorem w_775 : (Jvm.Cond.code ({ cls := "SharedNights", name := "slotBits", desc := "(II)I" } : Jvm.MethodName) prog_1_method_40_code (2 : Nat) (Option.some Jvm.ClassFile.FieldType.int)) ∈ mTB := tb_3 218 (by decide +kernel) rfl
theorem w_776 : (Jvm.Cond.methodLink "SharedNights$BestNight" (74 : Nat) ({ cls := "SharedNights$BestNight", name := "weigh", desc := "(I)V" } : Jvm.MethodName)) ∈ mTB := tb_3 219 (by decide +kernel) rfl
theorem w_778 : (Jvm.Cond.instanceMethod ({ cls := "SharedNights$BestNight", name := "weigh", desc := "(I)V" } : Jvm.MethodName)) ∈ mTB := tb_3 221 (by decide +kernel) rfl
theorem w_779 : (Jvm.Cond.code ({ cls := "SharedNights$BestNight", name := "weigh", desc := "(I)V" } : Jvm.MethodName) prog_2_method_16_code (5 : Nat) (Option.none : Option Jvm.ClassFile.FieldType)) ∈ mTB := tb_3 222 (by decide +kernel) rfl
theorem w_780 : (Jvm.Cond.methodLink "SharedNights$BestNight" (191 : Nat) ({ cls := "SharedNights$Plan", name := "slotsInAll", desc := "()I" } : Jvm.MethodName)) ∈ mTB := tb_3 223 (by decide +kernel) rfl
theorem w_781 : (Jvm.Cond.instanceMethod ({ cls := "SharedNights$Plan", name := "slotsInAll", desc := "()I" } : Jvm.MethodName)) ∈ mTB := tb_3 224 (by decide +kernel) rfl
theorem w_782 : (Jvm.Cond.selects "SharedNights$Plan" ({ cls := "SharedNights$Plan", name := "slotsInAll", desc := "()I" } : Jvm.MethodName) ({ cls := "SharedNights$Plan", name := "slotsInAll", desc := "()I" } : Jvm.MethodName)) ∈ mTB := tb_3 225 (by decide +kernel) rfl
theorem w_783 : (Jvm.Cond.code ({ cls := "SharedNights$Plan", name := "slotsInAll", desc := "()I" } : Jvm.MethodName) prog_7_method_3_code (3 : Nat) (Option.some Jvm.ClassFile.FieldType.int)) ∈ mTB := tb_3 226 (by decide +kernel) rfl
theorem w_784 : (Jvm.Cond.methodLink "SharedNights$BestNight" (77 : Nat) ({ cls := "SharedNights$BestNight", name := "partsAreAble", desc := "(I)Z" } : Jvm.MethodName)) ∈ mTB := tb_3 227 (by decide +kernel) rfl
theorem w_786 : (Jvm.Cond.instanceMethod ({ cls := "SharedNights$BestNight", name := "partsAreAble", desc := "(I)Z" } : Jvm.MethodName)) ∈ mTB := tb_3 229 (by decide +kernel) rfl
theorem w_787 : (Jvm.Cond.code ({ cls := "SharedNights$BestNight", name := "partsAreAble", desc := "(I)Z" } : Jvm.MethodName) prog_2_method_17_code (3 : Nat) (Option.some Jvm.ClassFile.FieldType.boolean)) ∈ mTB := tb_3 230 (by decide +kernel) rfl
theorem w_788 : (Jvm.Cond.methodLink "SharedNights$BestNight" (86 : Nat) ({ cls := "SharedNights$BestNight", name := "settle", desc := "(IIJ)Z" } : Jvm.MethodName)) ∈ mTB := tb_3 231 (by decide +kernel) rfl
theorem w_790 : (Jvm.Cond.instanceMethod ({ cls := "SharedNights$BestNight", name := "settle", desc := "(IIJ)Z" } : Jvm.MethodName)) ∈ mTB := tb_3 233 (by decide +kernel) rfl
theorem w_791 : (Jvm.Cond.code ({ cls := "SharedNights$BestNight", name := "settle", desc := "(IIJ)Z" } : Jvm.MethodName) prog_2_method_18_code (9 : Nat) (Option.some Jvm.ClassFile.FieldType.boolean)) ∈ mTB := tb_3 234 (by decide +kernel) rfl
theorem w_792 : (Jvm.Cond.methodLink "SharedNights$BestNight" (194 : Nat) ({ cls := "SharedNights$BestNight", name := "slotsLeft", desc := "(J)I" } : Jvm.MethodName)) ∈ mTB := tb_3 235 (by decide +kernel) rfl
theorem w_794 : (Jvm.Cond.instanceMethod ({ cls := "SharedNights$BestNight", name := "slotsLeft", desc := "(J)I" } : Jvm.MethodName)) ∈ mTB := tb_3 237 (by decide +kernel) rfl
theorem w_795 : (Jvm.Cond.code ({ cls := "SharedNights$BestNight", name := "slotsLeft", desc := "(J)I" } : Jvm.MethodName) prog_2_method_19_code (3 : Nat) (Option.some Jvm.ClassFile.FieldType.int)) ∈ mTB := tb_3 238 (by decide +kernel) rfl
theorem w_796 : (Jvm.Cond.constantLong "SharedNights$BestNight" (205 : Nat) (65535 : Int64)) ∈ mTB := tb_3 239 (by decide +kernel) rfl
theorem w_797 : (Jvm.Cond.methodLink "SharedNights$BestNight" (207 : Nat) ({ cls := "java/lang/Long", name := "bitCount", desc := "(J)I" } : Jvm.MethodName)) ∈ mTB := tb_4 0 (by decide +kernel) rfl
theorem w_798 : (Jvm.Cond.static ({ cls := "java/lang/Long", name := "bitCount", desc := "(J)I" } : Jvm.MethodName)) ∈ mTB := tb_4 1 (by decide +kernel) rfl
theorem w_799 : (Jvm.Cond.code ({ cls := "java/lang/Long", name := "bitCount", desc := "(J)I" } : Jvm.MethodName) prog_13_method_50_code (2 : Nat) (Option.some Jvm.ClassFile.FieldType.int)) ∈ mTB := tb_4 2 (by decide +kernel) rfl
theorem w_800 : (Jvm.Cond.constantLong "java/lang/Long" (314 : Nat) (6148914691236517205 : Int64)) ∈ mTB := tb_4 3 (by decide +kernel) rfl
theorem w_801 : (Jvm.Cond.constantLong "java/lang/Long" (316 : Nat) (3689348814741910323 : Int64)) ∈ mTB := tb_4 4 (by decide +kernel) rfl
theorem w_802 : (Jvm.Cond.constantLong "java/lang/Long" (318 : Nat) (1085102592571150095 : Int64)) ∈ mTB := tb_4 5 (by decide +kernel) rfl
theorem w_803 : (Jvm.Cond.methodLink "SharedNights$BestNight" (197 : Nat) ({ cls := "SharedNights$BestNight", name := "isHopeless", desc := "(IJ)Z" } : Jvm.MethodName)) ∈ mTB := tb_4 6 (by decide +kernel) rfl
